/-! the tokens that are found: how many, over, position, last place, what they are -/
abbrev TS : Type := Nat × Bool × Int32 × Int32 × (Nat → Nat × Nat × Int32)
def putA (p e : Nat) (σ : TS) : TS := if σ.1 < 400 then (σ.1 + 1, σ.2.1, σ.2.2.1, σ.2.2.2.1, fun j => if j = σ.1 then (p, e, σ.2.2.1) else σ.2.2.2.2 j) else (σ.1, true, σ.2.2.1, σ.2.2.2.1, σ.2.2.2.2)
def incA (σ : TS) : TS := (σ.1, σ.2.1, σ.2.2.1 + 1, σ.2.2.2.1, σ.2.2.2.2)
def lastA (p : Nat) (σ : TS) : TS := (σ.1, σ.2.1, σ.2.2.1, nI p, σ.2.2.2.2)
def cutA (sh : Bool) (lim p e : Nat) : Nat → Nat → TS → TS
  | 0, _, σ => σ
  | d + 1, fr, σ => if e ≤ fr ∨ σ.2.1 = true then σ else cutA sh lim p e d (fr + lim) (putA fr (min e (fr + lim)) (if sh = false ∧ p < fr then incA σ else σ))
def addA (sh : Bool) (lim : Nat) (rule : Bool) (p e : Nat) (σ : TS) : TS :=
  if σ.2.1 = true then σ else
  let σ2 := lastA p (if sh = true ∧ nI p = σ.2.2.2.1 then σ else incA σ)
  if e - p ≤ lim then putA p e σ2 else if rule = false then cutA sh lim p e 301 p σ2 else σ2
def addsA (sh : Bool) (lim : Nat) (rule : Bool) : List (Nat × Nat) → TS → TS
  | [], σ => σ
  | q :: l, σ => addsA sh lim rule l (addA sh lim rule q.1 q.2 σ)
theorem addsA_over {sh : Bool} {lim : Nat} {rule : Bool} : ∀ (l : List (Nat × Nat)) (σ : TS), σ.2.1 = true → addsA sh lim rule l σ = σ := by
  intro l
  induction l with
  | nil => intro σ _; rfl
  | cons q l ih => intro σ h; rw [addsA, show addA sh lim rule q.1 q.2 σ = σ by (unfold addA; rw [if_pos h]), ih σ h]
theorem addsA_app {sh : Bool} {lim : Nat} {rule : Bool} : ∀ (l l1 : List (Nat × Nat)) (σ : TS), addsA sh lim rule (l ++ l1) σ = addsA sh lim rule l1 (addsA sh lim rule l σ) := by
  intro l
  induction l with
  | nil => intro l1 σ; rfl
  | cons q l ih => intro l1 σ; rw [List.cons_append, addsA, addsA, ih]
def SF : Nat → Nat → Bool := fun a k => (a == 5 && (k == 3 || k == 4 || k == 8 || k == 9)) || a == 6 || a == 7 || a == 8
def SG : Nat → Nat → Bool := fun a k => (a == 50 && (k == 12 || k == 13 || k == 43 || k == 44)) || a == 65 || a == 66 || a == 67
def RX (σ : TS) (M : Mem) : Prop := (σ.2.1 = true → gI M 5 4 = 1 ∧ gI M 5 3 = nI 400) ∧ (σ.2.1 = false → gI M 5 4 = 0 ∧ gI M 5 3 = nI σ.1 ∧ σ.1 ≤ 400 ∧ gI M 5 8 = σ.2.2.1 ∧ gI M 5 9 = σ.2.2.2.1 ∧ ∀ j, j < σ.1 → gI M 6 j = nI (σ.2.2.2.2 j).1 ∧ gI M 7 j = nI (σ.2.2.2.2 j).2.1 ∧ gI M 8 j = (σ.2.2.2.2 j).2.2)
def RY (σ : TS) (M : Mem) : Prop := (σ.2.1 = true → gI M 50 13 = 1 ∧ gI M 50 12 = nI 400) ∧ (σ.2.1 = false → gI M 50 13 = 0 ∧ gI M 50 12 = nI σ.1 ∧ σ.1 ≤ 400 ∧ gI M 50 43 = σ.2.2.1 ∧ gI M 50 44 = σ.2.2.2.1 ∧ ∀ j, j < σ.1 → gI M 65 j = nI (σ.2.2.2.2 j).1 ∧ gI M 66 j = nI (σ.2.2.2.2 j).2.1 ∧ gI M 67 j = (σ.2.2.2.2 j).2.2)
/-- the settings that an adding reads -/
def PX (sh : Bool) (lim : Nat) (rule : Bool) (M : Mem) : Prop := 1 ≤ lim ∧ lim ≤ 300 ∧ gI M 5 5 = nI lim ∧ gI M 5 6 = bz rule ∧ gI M 5 7 = bz sh
def PY (sh : Bool) (lim : Nat) (rule : Bool) (M : Mem) : Prop := 1 ≤ lim ∧ lim ≤ 300 ∧ gI M 50 10 = nI lim ∧ gI M 50 11 = bz rule ∧ (4 ≤ gI M 50 42 ∧ gI M 50 42 ≤ 6 ↔ sh = true)
theorem PX.move {sh : Bool} {lim : Nat} {rule : Bool} {M M1 : Mem} (h : PX sh lim rule M) (hs : SameBut SF M M1) : PX sh lim rule M1 := ⟨h.1, h.2.1, (hs.1 5 5 rfl).trans h.2.2.1, (hs.1 5 6 rfl).trans h.2.2.2.1, (hs.1 5 7 rfl).trans h.2.2.2.2⟩
theorem PY.move {sh : Bool} {lim : Nat} {rule : Bool} {M M1 : Mem} (h : PY sh lim rule M) (hs : SameBut SG M M1) : PY sh lim rule M1 := ⟨h.1, h.2.1, (hs.1 50 10 rfl).trans h.2.2.1, (hs.1 50 11 rfl).trans h.2.2.2.1, by rw [hs.1 50 42 rfl]; exact h.2.2.2.2⟩
theorem putX_over {M : Mem} (h : gI M 5 3 = nI 400) (x y : Int32) : fX2_put x y M = some (setI M 5 4 1) := by
  unfold fX2_put
  rw [h, if_neg (show ¬ nI 400 < 400 by decide), sz_1]
theorem putX {σ : TS} {M : Mem} {p e : Nat} (ho : σ.2.1 = false) (h : RX σ M) : ∃ M1, fX2_put (nI p) (nI e) M = some M1 ∧ RX (putA p e σ) M1 ∧ SameBut SF M M1 := by
  obtain ⟨h1, h2, h3, h4, h5, h6⟩ := h.2 ho
  unfold putA
  by_cases c : σ.1 < 400
  · rw [if_pos c]
    unfold fX2_put
    rw [h2, if_pos (show nI σ.1 < 400 from nI_lt (b := 400) c (by omega)), iast_n (show σ.1 < 400 from c) (by decide), gI_ne (by decide), h2, iast_n (show σ.1 < 400 from c) (by decide), gI_ne (by decide), gI_ne (by decide), h2, gI_ne (by decide), gI_ne (by decide), h4, iast_n (show σ.1 < 400 from c) (by decide), lt_eq, gI_ne (by decide), gI_ne (by decide), gI_ne (by decide), h2, show (1 : Int32) = nI 1 from rfl, nI_add]
    refine ⟨_, rfl, ⟨fun q => absurd q (by rw [ho]; decide), fun _ => ⟨?_, gI_eq, by show σ.1 + 1 ≤ 400; omega, ?_, ?_, fun j hj => ?_⟩⟩, (((SameBut.refl.setI rfl).setI rfl).setI rfl).setI rfl⟩
    · rw [gI_nk (by decide), gI_ne (by decide), gI_ne (by decide), gI_ne (by decide)]; exact h1
    · rw [gI_nk (by decide), gI_ne (by decide), gI_ne (by decide), gI_ne (by decide)]; exact h4
    · rw [gI_nk (by decide), gI_ne (by decide), gI_ne (by decide), gI_ne (by decide)]; exact h5
    · rw [gI_ne (by decide), gI_ne (by decide), gI_ne (by decide), gI_at, gI_ne (by decide), gI_ne (by decide), gI_at, gI_ne (by decide), gI_ne (by decide), gI_at, gI_ne (by decide), gI_ne (by decide)]
      have hj : j < σ.1 + 1 := hj
      by_cases d : j = σ.1
      · simp only [if_pos d]; exact ⟨trivial, trivial, trivial⟩
      · simp only [if_neg d]; exact h6 j (by omega)
  · rw [if_neg c]
    have e1 : σ.1 = 400 := by omega
    refine ⟨_, putX_over (by rw [h2, e1]) _ _, ⟨fun _ => ⟨gI_eq, by rw [gI_nk (by decide), h2, e1]⟩, fun q => absurd q (by show ¬ true = false; decide)⟩, SameBut.refl.setI rfl⟩
theorem putY_over {M : Mem} (h : gI M 50 12 = nI 400) (x y z : Int32) : fX7_lays x y z M = some (setI M 50 13 1) := by
  unfold fX7_lays
  rw [h, if_pos (show nI 400 = 400 from rfl), sz_1]
theorem putY {σ : TS} {M : Mem} {p e : Nat} (ho : σ.2.1 = false) (h : RY σ M) : ∃ M1, fX7_lays (nI p) (nI e) (gI M 50 43) M = some M1 ∧ RY (putA p e σ) M1 ∧ SameBut SG M M1 := by
  obtain ⟨h1, h2, h3, h4, h5, h6⟩ := h.2 ho
  unfold putA
  by_cases c : σ.1 < 400
  · rw [if_pos c]
    unfold fX7_lays
    rw [h2, if_neg (show ¬ nI σ.1 = 400 from fun z => absurd ((nI_eq (b := 400) (by omega) (by omega)).mp z) (by omega)), iast_n (show σ.1 < 400 from c) (by decide), gI_ne (by decide), h2, iast_n (show σ.1 < 400 from c) (by decide), gI_ne (by decide), gI_ne (by decide), h2, h4, iast_n (show σ.1 < 400 from c) (by decide), lt_eq, gI_ne (by decide), gI_ne (by decide), gI_ne (by decide), h2, show (1 : Int32) = nI 1 from rfl, nI_add]
    refine ⟨_, rfl, ⟨fun q => absurd q (by rw [ho]; decide), fun _ => ⟨?_, gI_eq, by show σ.1 + 1 ≤ 400; omega, ?_, ?_, fun j hj => ?_⟩⟩, (((SameBut.refl.setI rfl).setI rfl).setI rfl).setI rfl⟩
    · rw [gI_nk (by decide), gI_ne (by decide), gI_ne (by decide), gI_ne (by decide)]; exact h1
    · rw [gI_nk (by decide), gI_ne (by decide), gI_ne (by decide), gI_ne (by decide)]; exact h4
    · rw [gI_nk (by decide), gI_ne (by decide), gI_ne (by decide), gI_ne (by decide)]; exact h5
    · rw [gI_ne (by decide), gI_ne (by decide), gI_ne (by decide), gI_at, gI_ne (by decide), gI_ne (by decide), gI_at, gI_ne (by decide), gI_ne (by decide), gI_at, gI_ne (by decide), gI_ne (by decide)]
      have hj : j < σ.1 + 1 := hj
      by_cases d : j = σ.1
      · simp only [if_pos d]; exact ⟨trivial, trivial, trivial⟩
      · simp only [if_neg d]; exact h6 j (by omega)
  · rw [if_neg c]
    have e1 : σ.1 = 400 := by omega
    refine ⟨_, putY_over (by rw [h2, e1]) _ _ _, ⟨fun _ => ⟨gI_eq, by rw [gI_nk (by decide), h2, e1]⟩, fun q => absurd q (by show ¬ true = false; decide)⟩, SameBut.refl.setI rfl⟩
theorem incX {σ : TS} {M : Mem} (ho : σ.2.1 = false) (h : RX σ M) : RX (incA σ) (setI M 5 8 (gI M 5 8 + 1)) := by
  obtain ⟨h1, h2, h3, h4, h5, h6⟩ := h.2 ho
  refine ⟨fun q => absurd q (by show ¬ σ.2.1 = true; rw [ho]; decide), fun _ => ⟨by rw [gI_nk (by decide)]; exact h1, by rw [gI_nk (by decide)]; exact h2, h3, by rw [gI_eq, h4]; rfl, by rw [gI_nk (by decide)]; exact h5, fun j hj => ?_⟩⟩
  rw [gI_ne (by decide), gI_ne (by decide), gI_ne (by decide)]; exact h6 j hj
theorem lastX {σ : TS} {M : Mem} {p : Nat} (ho : σ.2.1 = false) (h : RX σ M) : RX (lastA p σ) (setI M 5 9 (nI p)) := by
  obtain ⟨h1, h2, h3, h4, h5, h6⟩ := h.2 ho
  refine ⟨fun q => absurd q (by show ¬ σ.2.1 = true; rw [ho]; decide), fun _ => ⟨by rw [gI_nk (by decide)]; exact h1, by rw [gI_nk (by decide)]; exact h2, h3, by rw [gI_nk (by decide)]; exact h4, gI_eq, fun j hj => ?_⟩⟩
  rw [gI_ne (by decide), gI_ne (by decide), gI_ne (by decide)]; exact h6 j hj
theorem incY {σ : TS} {M : Mem} (ho : σ.2.1 = false) (h : RY σ M) : RY (incA σ) (setI M 50 43 (gI M 50 43 + 1)) := by
  obtain ⟨h1, h2, h3, h4, h5, h6⟩ := h.2 ho
  refine ⟨fun q => absurd q (by show ¬ σ.2.1 = true; rw [ho]; decide), fun _ => ⟨by rw [gI_nk (by decide)]; exact h1, by rw [gI_nk (by decide)]; exact h2, h3, by rw [gI_eq, h4]; rfl, by rw [gI_nk (by decide)]; exact h5, fun j hj => ?_⟩⟩
  rw [gI_ne (by decide), gI_ne (by decide), gI_ne (by decide)]; exact h6 j hj
theorem lastY {σ : TS} {M : Mem} {p : Nat} (ho : σ.2.1 = false) (h : RY σ M) : RY (lastA p σ) (setI M 50 44 (nI p)) := by
  obtain ⟨h1, h2, h3, h4, h5, h6⟩ := h.2 ho
  refine ⟨fun q => absurd q (by show ¬ σ.2.1 = true; rw [ho]; decide), fun _ => ⟨by rw [gI_nk (by decide)]; exact h1, by rw [gI_nk (by decide)]; exact h2, h3, by rw [gI_nk (by decide)]; exact h4, gI_eq, fun j hj => ?_⟩⟩
  rw [gI_ne (by decide), gI_ne (by decide), gI_ne (by decide)]; exact h6 j hj
theorem overX {σ : TS} {M M1 : Mem} (ho : σ.2.1 = true) (h1 : gI M1 5 4 = 1) (h2 : gI M1 5 3 = nI 400) : RX σ M1 := ⟨fun _ => ⟨h1, h2⟩, fun q => absurd q (by rw [ho]; decide)⟩
theorem overY {σ : TS} {M M1 : Mem} (ho : σ.2.1 = true) (h1 : gI M1 50 13 = 1) (h2 : gI M1 50 12 = nI 400) : RY σ M1 := ⟨fun _ => ⟨h1, h2⟩, fun q => absurd q (by rw [ho]; decide)⟩
theorem cutX {sh : Bool} {lim : Nat} {rule : Bool} {p e : Nat} (he : e ≤ 300) : ∀ (f d fr : Nat) (σ : TS) (M : Mem), p ≤ fr → fr ≤ e + lim → e < fr + d → 0 < d → e < fr + f → 0 < f → PX sh lim rule M → RX σ M → ∃ M1, fX2_addCut_H2 f (nI p) (nI e) (nI fr) M = some M1 ∧ RX (cutA sh lim p e d fr σ) M1 ∧ SameBut SF M M1 := by
  intro f
  induction f with
  | zero => intro d fr σ M q1 q2 q3 q4 q5 q6; omega
  | succ f ih =>
    intro d fr σ M q1 q2 q3 q4 q5 q6 hP hR
    obtain ⟨d, rfl⟩ : ∃ d1, d = d1 + 1 := ⟨d - 1, by omega⟩
    obtain ⟨p1, p2, p3, p4, p5⟩ := id hP
    rw [fX2_addCut_H2, cutA]
    by_cases c : e ≤ fr
    · rw [if_pos (nI_le c (by omega)), if_pos (Or.inl c)]
      exact ⟨M, rfl, hR, SameBut.refl⟩
    · rw [if_neg (nI_ge (by omega) (by omega))]
      by_cases o : σ.2.1 = true
      · rw [(hR.1 o).1, if_neg n10, if_pos (Or.inr o)]
        exact ⟨M, rfl, hR, SameBut.refl⟩
      · have o : σ.2.1 = false := by simpa using o
        rw [(hR.2 o).1, if_pos z00, if_neg (show ¬ (e ≤ fr ∨ σ.2.1 = true) from fun q => q.elim c (fun z => absurd (o.symm.trans z) (by decide)))]
        have step : ∀ (σ1 : TS) (M0 : Mem), σ1.2.1 = false → PX sh lim rule M0 → RX σ1 M0 → SameBut SF M M0 → ∃ M1, fX2_addCut_L36 (fX2_addCut_H2 f) (nI p) (nI e) (nI fr) M0 = some M1 ∧ RX (cutA sh lim p e d (fr + lim) (putA fr (min e (fr + lim)) σ1)) M1 ∧ SameBut SF M M1 := by
          intro σ1 M0 o1 hP0 hR0 hs
          obtain ⟨w1, w2, w3, w4, w5⟩ := id hP0
          unfold fX2_addCut_L36
          rw [w3, nI_add, show mmin_ (nI e) (nI (fr + lim)) = nI (min e (fr + lim)) by
            unfold mmin_
            by_cases z : fr + lim < e
            · rw [if_pos (nI_lt z (by omega)), Nat.min_eq_right (by omega)]
            · rw [if_neg (nI_nlt (by omega) (by omega)), Nat.min_eq_left (by omega)]]
          obtain ⟨M1, r1, r2, r3⟩ := putX (p := fr) (e := min e (fr + lim)) o1 hR0
          rw [r1, bV_s, lt_eq, r3.1 5 5 rfl, w3, show mmax_ 1 (nI lim) = nI lim by
            unfold mmax_
            by_cases z : 1 < lim
            · rw [if_pos (show (1 : Int32) < nI lim from nI_lt (a := 1) z (by omega))]
            · rw [if_neg (show ¬ (1 : Int32) < nI lim from nI_nlt (a := 1) (by omega) (by omega)), show lim = 1 by omega]; rfl, nI_add]
          obtain ⟨M2, s1, s2, s3⟩ := ih d (fr + lim) _ M1 (by omega) (by omega) (by omega) (by omega) (by omega) (by omega) (hP0.move r3) r2
          exact ⟨M2, s1, s2, hs.trans (r3.trans s3)⟩
        rw [p5]
        cases sh with
        | true =>
          rw [if_neg (show ¬ bz true = 0 from n10), if_neg (fun z => absurd z.1 (by decide))]
          exact step σ M o hP hR SameBut.refl
        | false =>
          rw [if_pos (show bz false = 0 from rfl)]
          by_cases z : fr ≤ p
          · rw [if_pos (nI_le z (by omega)), if_neg (fun q => absurd q.2 (by omega))]
            exact step σ M o hP hR SameBut.refl
          · rw [if_neg (nI_ge (by omega) (by omega)), if_pos ⟨rfl, by omega⟩, lt_eq]
            have sm : SameBut SF M (setI M 5 8 (gI M 5 8 + 1)) := SameBut.refl.setI rfl
            exact step (incA σ) _ o (hP.move sm) (incX o hR) sm
theorem addX {sh : Bool} {lim : Nat} {rule : Bool} {p e : Nat} {σ : TS} {M : Mem} (hpe : p ≤ e) (he : e ≤ 300) (hP : PX sh lim rule M) (hR : RX σ M) : ∃ M1, fX2_add (nI p) (nI e) M = some M1 ∧ RX (addA sh lim rule p e σ) M1 ∧ SameBut SF M M1 := by
  obtain ⟨p1, p2, p3, p4, p5⟩ := id hP
  by_cases o : σ.2.1 = true
  · -- over already: what comes is not laid down
    have ea : addA sh lim rule p e σ = σ := by unfold addA; rw [if_pos o]
    rw [ea]
    have h25 : ∀ M0, SameBut SF M M0 → gI M0 5 4 = 1 → gI M0 5 3 = nI 400 → ∃ M1, fX2_add_L25 (nI p) (nI e) M0 = some M1 ∧ RX σ M1 ∧ SameBut SF M M1 := by
      intro M0 hs a1 a2
      unfold fX2_add_L25
      rw [lt_eq, gI_nk (by decide), gI_nk (by decide), hs.1 5 5 rfl, hs.1 5 6 rfl, p3, p4, pk_sub hpe]
      have b1 : gI (setI M0 5 9 (nI p)) 5 4 = 1 := by rw [gI_nk (by decide)]; exact a1
      have b2 : gI (setI M0 5 9 (nI p)) 5 3 = nI 400 := by rw [gI_nk (by decide)]; exact a2
      have hs1 : SameBut SF M (setI M0 5 9 (nI p)) := hs.setI rfl
      have hput := putX_over b2 (nI p) (nI e)
      have hcut : fX2_addCut (nI p) (nI e) (setI M0 5 9 (nI p)) = some (setI M0 5 9 (nI p)) := by
        show fX2_addCut_H2 (99999 + 1) _ _ _ _ = _
        rw [fX2_addCut_H2, b1, if_neg n10]
        split <;> rfl
      rw [hput, hcut, bV_s, bV_s]
      split
      · split
        · exact ⟨_, rfl, overX (M := M) o b1 b2, hs1⟩
        · exact ⟨_, rfl, overX (M := M) o b1 b2, hs1⟩
      · exact ⟨_, rfl, overX (M := M) o gI_eq (by rw [gI_nk (by decide)]; exact b2), hs1.setI rfl⟩
    have h15 : ∃ M1, fX2_add_L15 (nI p) (nI e) M = some M1 ∧ RX σ M1 ∧ SameBut SF M M1 := by
      unfold fX2_add_L15
      rw [lt_eq]
      exact h25 _ (SameBut.refl.setI rfl) (by rw [gI_nk (by decide)]; exact (hR.1 o).1) (by rw [gI_nk (by decide)]; exact (hR.1 o).2)
    unfold fX2_add
    split
    · exact h15
    · split
      · exact h25 M SameBut.refl (hR.1 o).1 (hR.1 o).2
      · exact h15
  · have o : σ.2.1 = false := by simpa using o
    have h25 : ∀ (σ1 : TS) (M0 : Mem), σ1.2.1 = false → RX σ1 M0 → SameBut SF M M0 → ∃ M1, fX2_add_L25 (nI p) (nI e) M0 = some M1 ∧ RX (if e - p ≤ lim then putA p e (lastA p σ1) else if rule = false then cutA sh lim p e 301 p (lastA p σ1) else lastA p σ1) M1 ∧ SameBut SF M M1 := by
      intro σ1 M0 o1 hR1 hs
      unfold fX2_add_L25
      rw [lt_eq, gI_nk (by decide), gI_nk (by decide), hs.1 5 5 rfl, hs.1 5 6 rfl, p3, p4, pk_sub hpe]
      have hs1 : SameBut SF M (setI M0 5 9 (nI p)) := hs.setI rfl
      have hR2 := lastX (p := p) o1 hR1
      by_cases c : e - p ≤ lim
      · rw [if_neg (nI_nlt c (by omega)), if_pos c]
        obtain ⟨M1, r1, r2, r3⟩ := putX (p := p) (e := e) (show (lastA p σ1).2.1 = false from o1) hR2
        rw [r1, bV_s]
        exact ⟨M1, rfl, r2, hs1.trans r3⟩
      · rw [if_pos (nI_lt (by omega) (by omega)), if_neg c]
        cases rule with
        | true => rw [if_neg (show ¬ bz true = 0 from n10), if_neg (by decide)]; exact ⟨_, rfl, hR2, hs1⟩
        | false =>
          rw [if_pos (show bz false = 0 from rfl), if_pos rfl]
          obtain ⟨M1, r1, r2, r3⟩ := cutX (sh := sh) (lim := lim) (rule := false) (p := p) he FU 301 p (lastA p σ1) _ (by omega) (by omega) (by omega) (by omega) (by unfold FU; omega) (by unfold FU; omega) (hP.move hs1) hR2
          unfold fX2_addCut
          rw [r1, bV_s]
          exact ⟨M1, rfl, r2, hs1.trans r3⟩
    have h15 : ∃ M1, fX2_add_L15 (nI p) (nI e) M = some M1 ∧ RX (if e - p ≤ lim then putA p e (lastA p (incA σ)) else if rule = false then cutA sh lim p e 301 p (lastA p (incA σ)) else lastA p (incA σ)) M1 ∧ SameBut SF M M1 := by
      unfold fX2_add_L15
      rw [lt_eq]
      exact h25 (incA σ) _ o (incX o hR) (SameBut.refl.setI rfl)
    unfold fX2_add addA
    rw [if_neg (show ¬ σ.2.1 = true from fun z => absurd (o.symm.trans z) (by decide)), p5, (hR.2 o).2.2.2.2.1]
    dsimp only
    cases sh with
    | false => rw [if_pos (show bz false = 0 from rfl), if_neg (show ¬ (false = true ∧ nI p = σ.2.2.2.1) from fun z => absurd z.1 (by decide))]; exact h15
    | true =>
      rw [if_neg (show ¬ bz true = 0 from n10)]
      by_cases z : nI p = σ.2.2.2.1
      · rw [if_pos z, if_pos (show true = true ∧ nI p = σ.2.2.2.1 from ⟨rfl, z⟩)]; exact h25 σ M o hR SameBut.refl
      · rw [if_neg z, if_neg (show ¬ (true = true ∧ nI p = σ.2.2.2.1) from fun q => z q.2)]; exact h15

theorem nopY {σ : TS} {M : Mem} (h : RY σ M) : RY σ (setI M 50 43 (gI M 50 43 + 0)) := by
  have e0 : ∀ a k, gI (setI M 50 43 (gI M 50 43 + 0)) a k = gI M a k := by
    intro a k
    rw [gI_setI]
    by_cases c : a = 50 ∧ k = 43
    · rw [if_pos c, c.1, c.2, Int32.add_zero]
    · rw [if_neg c]
  refine ⟨fun q => by rw [e0, e0]; exact h.1 q, fun q => ?_⟩
  simp only [e0]
  exact h.2 q
theorem cutY_over {sh : Bool} {lim : Nat} {rule : Bool} {p e : Nat} (he : e ≤ 300) : ∀ (f fr : Nat) (M : Mem), fr ≤ e + lim → e < fr + f → 0 < f → PY sh lim rule M → gI M 50 13 = 1 → gI M 50 12 = nI 400 → ∃ M1, fX7_tokenOf_H75 f (nI p) (nI e) (bz sh) (nI fr) M = some M1 ∧ gI M1 50 13 = 1 ∧ gI M1 50 12 = nI 400 ∧ SameBut SG M M1 := by
  intro f
  induction f with
  | zero => intro fr M q1 q2 q3; omega
  | succ f ih =>
    intro fr M q1 q2 q3 hP o1 o2
    have hl := hP.2.1
    rw [fX7_tokenOf_H75]
    by_cases c : e ≤ fr
    · rw [if_pos (nI_le c (by omega))]
      exact ⟨M, rfl, o1, o2, SameBut.refl⟩
    · rw [if_neg (nI_ge (by omega) (by omega))]
      have step : ∀ y0 : Int32, ∃ M1, fX7_tokenOf_L101 (fX7_tokenOf_H75 f) (nI p) (nI e) (bz sh) (nI fr) y0 (gI M 50 43) M = some M1 ∧ gI M1 50 13 = 1 ∧ gI M1 50 12 = nI 400 ∧ SameBut SG M M1 := by
        intro y0
        unfold fX7_tokenOf_L101
        rw [lt_eq]
        have hs0 : SameBut SG M (setI M 50 43 (gI M 50 43 + y0)) := SameBut.refl.setI rfl
        have w2 : gI (setI M 50 43 (gI M 50 43 + y0)) 50 12 = nI 400 := by rw [gI_nk (by decide)]; exact o2
        have hP0 := hP.move hs0
        have l130 : ∀ a b : Int32, ∃ M1, fX7_tokenOf_L130 (fX7_tokenOf_H75 f) (nI p) (nI e) (bz sh) (nI fr) a b (setI M 50 43 (gI M 50 43 + y0)) = some M1 ∧ gI M1 50 13 = 1 ∧ gI M1 50 12 = nI 400 ∧ SameBut SG M M1 := by
          intro a b
          unfold fX7_tokenOf_L130
          have hs1 : SameBut SG M (setI (setI M 50 43 (gI M 50 43 + y0)) 50 13 1) := hs0.setI rfl
          rw [putY_over w2, bV_s, lt_eq, hs1.1 50 10 rfl, hP.2.2.1, nI_add]
          obtain ⟨M1, r1, r2, r3, r4⟩ := ih (fr + lim) _ (by have := hP.1; omega) (by have := hP.1; omega) (by have := hP.1; omega) (hP.move hs1) gI_eq (by rw [gI_nk (by decide)]; exact w2)
          exact ⟨M1, r1, r2, r3, hs1.trans r4⟩
        split
        · exact l130 _ _
        · exact l130 _ _
      unfold fX7_tokenOf_L100
      split
      · exact step 0
      · split
        · exact step 1
        · exact step 0
theorem cutY {sh : Bool} {lim : Nat} {rule : Bool} {p e : Nat} (he : e ≤ 300) : ∀ (f d fr : Nat) (σ : TS) (M : Mem), p ≤ fr → fr ≤ e + lim → e < fr + d → 0 < d → e < fr + f → 0 < f → PY sh lim rule M → RY σ M → ∃ M1, fX7_tokenOf_H75 f (nI p) (nI e) (bz sh) (nI fr) M = some M1 ∧ RY (cutA sh lim p e d fr σ) M1 ∧ SameBut SG M M1 := by
  intro f
  induction f with
  | zero => intro d fr σ M q1 q2 q3 q4 q5 q6; omega
  | succ f ih =>
    intro d fr σ M q1 q2 q3 q4 q5 q6 hP hR
    obtain ⟨d, rfl⟩ : ∃ d1, d = d1 + 1 := ⟨d - 1, by omega⟩
    obtain ⟨p1, p2, p3, p4, p5⟩ := id hP
    rw [cutA]
    by_cases o : σ.2.1 = true
    · rw [if_pos (Or.inr o)]
      obtain ⟨M1, r1, r2, r3, r4⟩ := cutY_over (p := p) he (f + 1) fr M q2 q5 q6 hP (hR.1 o).1 (hR.1 o).2
      exact ⟨M1, r1, overY (M := M) o r2 r3, r4⟩
    · have o : σ.2.1 = false := by simpa using o
      rw [fX7_tokenOf_H75]
      by_cases c : e ≤ fr
      · rw [if_pos (nI_le c (by omega)), if_pos (Or.inl c)]
        exact ⟨M, rfl, hR, SameBut.refl⟩
      · rw [if_neg (nI_ge (by omega) (by omega)), if_neg (show ¬ (e ≤ fr ∨ σ.2.1 = true) from fun q => q.elim c (fun z => absurd (o.symm.trans z) (by decide)))]
        have step : ∀ (σ1 : TS) (y0 : Int32), σ1.2.1 = false → RY σ1 (setI M 50 43 (gI M 50 43 + y0)) → ∃ M1, fX7_tokenOf_L101 (fX7_tokenOf_H75 f) (nI p) (nI e) (bz sh) (nI fr) y0 (gI M 50 43) M = some M1 ∧ RY (cutA sh lim p e d (fr + lim) (putA fr (min e (fr + lim)) σ1)) M1 ∧ SameBut SG M M1 := by
          intro σ1 y0 o1 hR0
          unfold fX7_tokenOf_L101
          rw [lt_eq]
          have hs0 : SameBut SG M (setI M 50 43 (gI M 50 43 + y0)) := SameBut.refl.setI rfl
          have l130 : ∃ M1, fX7_tokenOf_L130 (fX7_tokenOf_H75 f) (nI p) (nI e) (bz sh) (nI fr) (nI (min e (fr + lim))) (nI fr) (setI M 50 43 (gI M 50 43 + y0)) = some M1 ∧ RY (cutA sh lim p e d (fr + lim) (putA fr (min e (fr + lim)) σ1)) M1 ∧ SameBut SG M M1 := by
            unfold fX7_tokenOf_L130
            obtain ⟨M1, r1, r2, r3⟩ := putY (p := fr) (e := min e (fr + lim)) o1 hR0
            rw [r1, bV_s, lt_eq, r3.1 50 10 rfl, hs0.1 50 10 rfl, p3, nI_add]
            obtain ⟨M2, s1, s2, s3⟩ := ih d (fr + lim) _ M1 (by omega) (by omega) (by omega) (by omega) (by omega) (by omega) (hP.move (hs0.trans r3)) r2
            exact ⟨M2, s1, s2, hs0.trans (r3.trans s3)⟩
          rw [hs0.1 50 10 rfl, p3, nI_add]
          by_cases z : e ≤ fr + lim
          · rw [if_pos (nI_le z (by omega))]
            rw [Nat.min_eq_left z] at l130 ⊢
            exact l130
          · rw [if_neg (nI_ge (by omega) (by omega))]
            rw [Nat.min_eq_right (by omega)] at l130 ⊢
            exact l130
        unfold fX7_tokenOf_L100
        by_cases z : fr ≤ p
        · rw [if_pos (nI_le z (by omega)), if_neg (show ¬ (sh = false ∧ p < fr) from fun q => absurd q.2 (by omega))]
          exact step σ 0 o (nopY hR)
        · rw [if_neg (nI_ge (by omega) (by omega))]
          cases sh with
          | true =>
            rw [if_neg (show ¬ bz true = 0 from n10), if_neg (show ¬ (true = false ∧ p < fr) from fun q => absurd q.1 (by decide))]
            exact step σ 0 o (nopY hR)
          | false =>
            rw [if_pos (show bz false = 0 from rfl), if_pos (show false = false ∧ p < fr from ⟨rfl, by omega⟩)]
            exact step (incA σ) 1 o (incY o hR)
theorem addY {sh : Bool} {lim : Nat} {rule : Bool} {p e : Nat} {σ : TS} {M : Mem} (hpe : p ≤ e) (he : e ≤ 300) (hP : PY sh lim rule M) (hR : RY σ M) : ∃ M1, fX7_tokenOf (nI p) (nI e) M = some M1 ∧ RY (addA sh lim rule p e σ) M1 ∧ SameBut SG M M1 := by
  obtain ⟨p1, p2, p3, p4, p5⟩ := id hP
  unfold fX7_tokenOf
  rw [isIn_ok, bI_s, show bz (decide (4 ≤ gI M 50 42 ∧ gI M 50 42 ≤ 6)) = bz sh by
    cases sh with
    | true => rw [decide_eq_true (p5.mpr rfl)]
    | false => rw [decide_eq_false (fun q => absurd (p5.mp q) (by decide))]]
  by_cases o : σ.2.1 = true
  · have ea : addA sh lim rule p e σ = σ := by unfold addA; rw [if_pos o]
    rw [ea]
    have h33 : ∀ y0 : Int32, ∃ M1, fX7_tokenOf_L33 (nI p) (nI e) (bz sh) y0 (gI M 50 43) M = some M1 ∧ RY σ M1 ∧ SameBut SG M M1 := by
      intro y0
      unfold fX7_tokenOf_L33
      rw [lt_eq, lt_eq]
      have hs1 : SameBut SG M (setI (setI M 50 43 (gI M 50 43 + y0)) 50 44 (nI p)) := (SameBut.refl.setI rfl).setI rfl
      have b1 : gI (setI (setI M 50 43 (gI M 50 43 + y0)) 50 44 (nI p)) 50 13 = 1 := by rw [gI_nk (by decide), gI_nk (by decide)]; exact (hR.1 o).1
      have b2 : gI (setI (setI M 50 43 (gI M 50 43 + y0)) 50 44 (nI p)) 50 12 = nI 400 := by rw [gI_nk (by decide), gI_nk (by decide)]; exact (hR.1 o).2
      rw [putY_over b2, bV_s]
      obtain ⟨M1, r1, r2, r3, r4⟩ := cutY_over (sh := sh) (lim := lim) (rule := rule) (p := p) he FU p _ (by omega) (by unfold FU; omega) (by unfold FU; omega) (hP.move hs1) b1 b2
      split
      · split
        · exact ⟨M1, r1, overY (M := M) o r2 r3, hs1.trans r4⟩
        · exact ⟨_, rfl, overY (M := M) o b1 b2, hs1⟩
      · exact ⟨_, rfl, overY (M := M) o gI_eq (by rw [gI_nk (by decide)]; exact b2), hs1.setI rfl⟩
    unfold fX7_tokenOf_L32
    split
    · exact h33 1
    · split
      · exact h33 0
      · exact h33 1
  · have o : σ.2.1 = false := by simpa using o
    have h33 : ∀ (σ1 : TS) (y0 : Int32), σ1.2.1 = false → RY σ1 (setI M 50 43 (gI M 50 43 + y0)) → ∃ M1, fX7_tokenOf_L33 (nI p) (nI e) (bz sh) y0 (gI M 50 43) M = some M1 ∧ RY (if e - p ≤ lim then putA p e (lastA p σ1) else if rule = false then cutA sh lim p e 301 p (lastA p σ1) else lastA p σ1) M1 ∧ SameBut SG M M1 := by
      intro σ1 y0 o1 hR1
      unfold fX7_tokenOf_L33
      rw [lt_eq, lt_eq]
      have hs1 : SameBut SG M (setI (setI M 50 43 (gI M 50 43 + y0)) 50 44 (nI p)) := (SameBut.refl.setI rfl).setI rfl
      have hR2 := lastY (p := p) o1 hR1
      rw [hs1.1 50 10 rfl, hs1.1 50 11 rfl, p3, p4, pk_sub hpe]
      by_cases c : e - p ≤ lim
      · rw [if_neg (nI_nlt c (by omega)), if_pos c]
        obtain ⟨M1, r1, r2, r3⟩ := putY (p := p) (e := e) (show (lastA p σ1).2.1 = false from o1) hR2
        rw [r1, bV_s]
        exact ⟨M1, rfl, r2, hs1.trans r3⟩
      · rw [if_pos (nI_lt (by omega) (by omega)), if_neg c]
        cases rule with
        | true => rw [if_neg (show ¬ bz true = 0 from n10), if_neg (by decide)]; exact ⟨_, rfl, hR2, hs1⟩
        | false =>
          rw [if_pos (show bz false = 0 from rfl), if_pos rfl]
          obtain ⟨M1, r1, r2, r3⟩ := cutY (sh := sh) (lim := lim) (rule := false) (p := p) he FU 301 p (lastA p σ1) _ (by omega) (by omega) (by omega) (by omega) (by unfold FU; omega) (by unfold FU; omega) (hP.move hs1) hR2
          exact ⟨M1, r1, r2, hs1.trans r3⟩
    unfold fX7_tokenOf_L32 addA
    rw [if_neg (show ¬ σ.2.1 = true from fun z => absurd (o.symm.trans z) (by decide)), (hR.2 o).2.2.2.2.1]
    dsimp only
    cases sh with
    | false => rw [if_pos (show bz false = 0 from rfl), if_neg (show ¬ (false = true ∧ nI p = σ.2.2.2.1) from fun z => absurd z.1 (by decide))]; exact h33 _ 1 o (incY o hR)
    | true =>
      rw [if_neg (show ¬ bz true = 0 from n10)]
      by_cases z : nI p = σ.2.2.2.1
      · rw [if_pos z, if_pos (show true = true ∧ nI p = σ.2.2.2.1 from ⟨rfl, z⟩)]; exact h33 σ 0 o (nopY hR)
      · rw [if_neg z, if_neg (show ¬ (true = true ∧ nI p = σ.2.2.2.1) from fun q => z q.2)]; exact h33 _ 1 o (incY o hR)
