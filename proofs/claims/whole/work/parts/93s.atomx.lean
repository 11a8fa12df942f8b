/-! what a sign, a range, a set, an atom is, and the class's reading of it -/
def sgA (n : Nat) (s : Nat → Nat) (p : Nat) : Sum Nat (Nat × Nat) := if p < n then (if s p = 92 then (if p + 1 < n then .inr (s (p + 1), p + 2) else .inl (p + 1)) else if s p = 93 ∨ s p = 94 ∨ s p = 45 then .inl p else .inr (s p, p + 1)) else .inl p
def rgA (n : Nat) (s : Nat → Nat) (p : Nat) : Sum Nat (Nat × Nat × Nat) := match sgA n s p with
  | .inl q => .inl q
  | .inr (lo, p1) => if p1 < n ∧ s p1 = 45 then (match sgA n s (p1 + 1) with
    | .inl q => .inl q
    | .inr (hi, p2) => if hi < lo then .inl (p1 + 1) else .inr (lo, hi, p2)) else .inr (lo, lo, p1)
def orR (g : Nat → Bool) (lo hi : Nat) : Nat → Bool := fun c => g c || decide (lo ≤ c ∧ c ≤ hi)
def stA (n : Nat) (s : Nat → Nat) : Nat → Nat → (Nat → Bool) → Sum Nat ((Nat → Bool) × Nat)
  | 0, p, _ => .inl p
  | d + 1, p, g => match rgA n s p with
    | .inl q => .inl q
    | .inr (lo, hi, q) => if q < n ∧ s q = 93 then .inr (orR g lo hi, q) else stA n s d q (orR g lo hi)
def ntA (n : Nat) (s : Nat → Nat) (p : Nat) : Bool := decide (p + 1 < n) && s (p + 1) == 94
def atA (n : Nat) (s : Nat → Nat) (p : Nat) : Sum Nat ((Nat → Bool) × Nat) :=
  if s p = 91 then (match stA n s (n + 1) (if ntA n s p = true then p + 2 else p + 1) (fun _ => false) with
    | .inl q => .inl q
    | .inr (g, q) => .inr (fun c => g c ^^ ntA n s p, q + 1))
  else if s p = 46 then .inr (fun c => !isBl c, p + 1)
  else if s p = 92 then (if p + 1 < n then .inr (fun c => c == s (p + 1), p + 2) else .inl (p + 1))
  else .inr (fun c => c == s p, p + 1)
def S67 : Nat → Nat → Bool := fun x k => x == 17 && (k == 6 || k == 7)
def SRa (a : Nat) : Nat → Nat → Bool := fun x k => (x == 17 && (k == 6 || k == 7)) || x == a + 1
theorem S67_R {a : Nat} {M M1 : Mem} (h : SameBut S67 M M1) : SameBut (SRa a) M M1 := h.mono (fun x k q => by unfold SRa at q; exact (Bool.or_eq_false_iff.mp q).1)
theorem onl_R {a : Nat} {M M1 : Mem} (h : SameBut (onl (a + 1)) M M1) : SameBut (SRa a) M M1 := h.mono (fun x k q => by unfold SRa at q; exact (Bool.or_eq_false_iff.mp q).2)
theorem SRa_A {a : Nat} {M M1 : Mem} (h : SameBut (SRa a) M M1) : SameBut (SPa a) M M1 := h.mono (fun x k q => by
  unfold SPa at q; unfold SRa
  simp only [Bool.or_eq_false_iff] at q
  obtain ⟨⟨⟨⟨q1, -⟩, -⟩, q2⟩, -⟩ := q
  rw [q2, Bool.or_false]
  revert q1
  cases x == 17
  · intro _; rfl
  · intro q1
    rw [Bool.true_and] at q1 ⊢
    simp only [Bool.or_eq_false_iff] at q1 ⊢
    exact ⟨q1.1.2, q1.2⟩)
theorem SRa_f {a x : Nat} (h1 : x ≠ 17) (h2 : x ≠ a + 1) (k : Nat) : SRa a x k = false := by unfold SRa; simp [h1, h2]
theorem nm1 {q : Nat} (h : q < 2 ^ 31) : ¬ nI q = -1 := fun z => absurd (show nI q < 0 by rw [z]; decide) (nI_pos h)
section
variable {a n : Nat} {s : Nat → Nat} {t : Nat} {fol : Nat → Int64} {fit : Nat → Nat → Bool} {dep : Nat} {ch rw : Nat → Pt} {p : Nat} {M : Mem} {g : Nat → Bool}
theorem B1.move67 {M1 : Mem} (h : B1 a n s M) (hs : SameBut S67 M M1) : B1 a n s M1 := by
  obtain ⟨h1, h2, h3, h4, h5⟩ := h
  exact ⟨h1, (hs.2.2 17 4 rfl).trans h2, h3, (hs.1 18 1 rfl).trans h4, fun j => by rw [bt_congr (o := 18) (fun k => hs.1 19 k rfl)]; exact h5 j⟩
theorem sign72 (hB : B1 a n s M) (h6 : gI M 17 6 = nI p) (h7 : gI M 17 7 = -1) : (∀ v, v < 256 → ∃ M1, fX4_readSign_L72 (nI v) M = some (nI v, M1) ∧ gI M1 17 6 = nI (p + 1) ∧ gI M1 17 7 = -1 ∧ SameBut S67 M M1) ∧ ∃ M1, fX4_readSign_L72 (-1) M = some (-1, M1) ∧ gI M1 17 7 = nI n ∧ SameBut S67 M M1 := by
  unfold fX4_readSign_L72 fX4_readSign_L88
  refine ⟨fun v hv => ?_, ?_⟩
  · rw [if_neg (nm1 (by omega)), lt_eq, h6, show nI p + 1 = nI (p + 1) from nI_add p 1]
    exact ⟨_, rfl, gI_eq, by rw [gI_nk (by decide)]; exact h7, SameBut.refl.setI rfl⟩
  · rw [if_pos rfl, fX5_size, bI_s, lt_eq, lt_eq, hB.2.2.2.1]
    exact ⟨_, rfl, by rw [gI_nk (by decide), gI_eq], (SameBut.refl.setI rfl).setI rfl⟩
theorem sign_in (hB : B1 a n s M) (hp : p ≤ n) (h6 : gI M 17 6 = nI p) (h7 : gI M 17 7 = -1) : match sgA n s p with
    | .inr (v, q) => ∃ M1, fX4_readSign 1 M = some (nI v, M1) ∧ gI M1 17 6 = nI q ∧ gI M1 17 7 = -1 ∧ SameBut S67 M M1 ∧ v < 256 ∧ p < q ∧ q ≤ n
    | .inl q => ∃ v M1, fX4_readSign 1 M = some (v, M1) ∧ gI M1 17 7 = nI q ∧ SameBut S67 M M1 ∧ q ≤ n := by
  have hn := hB.2.2.1
  unfold fX4_readSign fX4_readSign_L34 fX4_readSign_L44 sgA
  rw [h6, hB.at hp, bI_s, if_neg n10]
  by_cases c : p < n
  · rw [if_pos c, if_pos c]
    have hl := hB.lt p
    have e92 : nI (s p) = 92 ↔ s p = 92 := nI_eq (b := 92) (by omega) (by omega)
    have e93 : nI (s p) = 93 ↔ s p = 93 := nI_eq (b := 93) (by omega) (by omega)
    have e94 : nI (s p) = 94 ↔ s p = 94 := nI_eq (b := 94) (by omega) (by omega)
    have e45 : nI (s p) = 45 ↔ s p = 45 := nI_eq (b := 45) (by omega) (by omega)
    simp only [e92, e93, e94, e45]
    have fl : ∃ v M1, (lt_ (setI M 17 7 (nI p)) fun M_10 => some ((-1 : Int32), M_10)) = some (v, M1) ∧ gI M1 17 7 = nI p ∧ SameBut S67 M M1 ∧ p ≤ n := ⟨_, _, rfl, gI_eq, SameBut.refl.setI rfl, hp⟩
    rw [h6]
    by_cases c1 : s p = 93
    · rw [if_pos c1, if_neg (by omega), if_pos (Or.inl c1)]; exact fl
    · rw [if_neg c1]
      by_cases c2 : s p = 94
      · rw [if_pos c2, if_neg (by omega), if_pos (Or.inr (Or.inl c2))]; exact fl
      · rw [if_neg c2]
        by_cases c3 : s p = 45
        · rw [if_pos c3, if_neg (by omega), if_pos (Or.inr (Or.inr c3))]; exact fl
        · rw [if_neg c3]
          by_cases c4 : s p = 92
          · rw [if_pos c4, if_pos c4, lt_eq, gI_eq, show nI p + 1 = nI (p + 1) from nI_add p 1]
            have s0 : SameBut S67 M (setI M 17 6 (nI (p + 1))) := SameBut.refl.setI rfl
            have hB0 := hB.move67 s0
            rw [hB0.at (by omega), bI_s]
            obtain ⟨k1, k2⟩ := sign72 (p := p + 1) hB0 gI_eq (by rw [gI_nk (by decide)]; exact h7)
            by_cases c5 : p + 1 < n
            · rw [if_pos c5, if_pos c5]
              obtain ⟨M1, r1, r2, r3, r4⟩ := k1 (s (p + 1)) (hB.lt _)
              exact ⟨M1, r1, r2, r3, s0.trans r4, hB.lt _, by omega, by omega⟩
            · rw [if_neg c5, if_neg c5]
              obtain ⟨M1, r1, r2, r3⟩ := k2
              exact ⟨_, M1, r1, by rw [r2, show p + 1 = n by omega], s0.trans r3, by omega⟩
          · rw [if_neg c4, if_neg c4, if_neg (by omega)]
            obtain ⟨k1, k2⟩ := sign72 (p := p) hB h6 h7
            obtain ⟨M1, r1, r2, r3, r4⟩ := k1 (s p) hl
            exact ⟨M1, r1, r2, r3, r4, hl, by omega, by omega⟩
  · rw [if_neg c, if_neg c, if_neg (by decide), if_neg (by decide), if_neg (by decide), if_neg (by decide)]
    obtain ⟨k1, M1, r1, r2, r3⟩ := sign72 (p := p) hB h6 h7
    exact ⟨_, M1, r1, by rw [r2, show p = n by omega], r3, hp⟩
theorem B1.moveR {M1 : Mem} (h : B1 a n s M) (hs : SameBut (SRa a) M M1) : B1 a n s M1 := h.moveA (SRa_A hs)
theorem FT.move67 {M1 : Mem} (ha : a = 41 ∨ a = 44) (h : FT a fit M) (hs : SameBut S67 M M1) : FT a fit M1 := h.move hs (fun k => by unfold S67; simp <;> omega)
theorem range_in (hB : B1 a n s M) (hp : p ≤ n) (h6 : gI M 17 6 = nI p) (h7 : gI M 17 7 = -1) (ht : t < 60) (h2 : gI M a 2 = nI (t + 1)) (hF : FT a (updF fit t g) M) : match rgA n s p with
    | .inr (lo, hi, q) => ∃ M1, fX4_readRange M = some M1 ∧ gI M1 17 6 = nI q ∧ gI M1 17 7 = -1 ∧ SameBut (SRa a) M M1 ∧ FT a (updF fit t (orR g lo hi)) M1 ∧ p < q ∧ q ≤ n
    | .inl q => ∃ M1, fX4_readRange M = some M1 ∧ gI M1 17 7 = nI q ∧ SameBut (SRa a) M M1 ∧ q ≤ n := by
  have hn := hB.2.2.1
  have ha := hB.1
  have l71 : ∀ (lo hi q : Nat) (M0 : Mem), lo ≤ hi → hi < 256 → gI M0 17 6 = nI q → gI M0 17 7 = -1 → SameBut S67 M M0 → ∃ M1, fX4_readRange_L71 (nI lo) (nI hi) M0 = some M1 ∧ gI M1 17 6 = nI q ∧ gI M1 17 7 = -1 ∧ SameBut (SRa a) M M1 ∧ FT a (updF fit t (orR g lo hi)) M1 := by
    intro lo hi q M0 g1 g2 g3 g4 g5
    unfold fX4_readRange_L71
    have hB0 := hB.move67 g5
    rw [g4, if_pos rfl, hB0.2.1, ga_k (kd_a ha)]
    obtain ⟨M1, r1, r2, r3⟩ := allow_ok (o := a) (t := t) (lo := lo) (hi := hi) (M := M0) (kd_a ha) ht g1 g2 ((g5.1 a 2 (by unfold S67; simp <;> omega)).trans h2)
    rw [r1, bV_s]
    refine ⟨M1, rfl, (r3.1 17 6 (onl_f (by omega) 6)).trans g3, (r3.1 17 7 (onl_f (by omega) 7)).trans g4, (S67_R g5).trans (onl_R r3), fun c k hc => ?_⟩
    rw [r2 c k hc, (FT.move67 ha hF g5) c k hc]
    by_cases d : k = t
    · rw [d, updF_eq, updF_eq, decide_eq_true rfl, Bool.true_and]; rfl
    · rw [updF_ne d, updF_ne d, decide_eq_false d, Bool.false_and, Bool.or_false]
  have l71f : ∀ (x y : Int32) (q : Nat) (M0 : Mem), q ≤ n → gI M0 17 7 = nI q → fX4_readRange_L71 x y M0 = some M0 := by
    intro x y q M0 g1 g2
    unfold fX4_readRange_L71
    rw [g2, if_neg (nm1 (by omega))]
  have h := sign_in hB hp h6 h7
  unfold fX4_readRange rgA
  cases hs : sgA n s p with
  | inl q =>
    rw [hs] at h
    obtain ⟨v, M1, r1, r2, r3, r4⟩ := h
    rw [r1, bI_s, r2, if_neg (nm1 (by omega)), l71f _ _ q M1 r4 r2]
    exact ⟨M1, rfl, r2, S67_R r3, r4⟩
  | inr vq =>
    obtain ⟨lo, p1⟩ := vq
    rw [hs] at h
    obtain ⟨M1, r1, r2, r3, r4, r5, r6, r7⟩ := h
    have hB1 := hB.move67 r4
    rw [r1, bI_s, r3, if_pos rfl, r2, hB1.at r7, bI_s]
    dsimp only
    by_cases c : p1 < n ∧ s p1 = 45
    · rw [if_pos c, if_pos c.1, if_pos (show nI (s p1) = 45 by rw [c.2]; rfl), lt_eq, lt_eq, gI_eq, r2, show nI p1 + 1 = nI (p1 + 1) from nI_add p1 1]
      have s0 : SameBut S67 M (setI M1 17 6 (nI (p1 + 1))) := r4.setI rfl
      have h := sign_in (M := setI M1 17 6 (nI (p1 + 1))) (p := p1 + 1) (hB.move67 s0) (by omega) gI_eq (by rw [gI_nk (by decide)]; exact r3)
      cases hs2 : sgA n s (p1 + 1) with
      | inl q =>
        rw [hs2] at h
        obtain ⟨v, M2, w1, w2, w3, w4⟩ := h
        rw [w1, bI_s, w2, if_neg (nm1 (by omega)), l71f _ _ q M2 w4 w2]
        exact ⟨M2, rfl, w2, S67_R (s0.trans w3), w4⟩
      | inr vq2 =>
        obtain ⟨hi, p2⟩ := vq2
        rw [hs2] at h
        obtain ⟨M2, w1, w2, w3, w4, w5, w6, w7⟩ := h
        rw [w1, bI_s, w3, if_pos rfl]
        dsimp only
        by_cases d : hi < lo
        · rw [if_pos d, if_neg (nI_ge d (by omega)), lt_eq, l71f _ _ (p1 + 1) (setI M2 17 7 (nI (p1 + 1))) (by omega) gI_eq]
          exact ⟨_, rfl, gI_eq, S67_R ((s0.trans w4).setI rfl), by omega⟩
        · rw [if_neg d, if_pos (nI_le (by omega) (by omega))]
          obtain ⟨M3, z1, z2, z3, z4, z5⟩ := l71 lo hi p2 M2 (by omega) w5 w2 w3 (s0.trans w4)
          exact ⟨M3, z1, z2, z3, z4, z5, by omega, w7⟩
    · rw [if_neg c]
      have hne : ¬ (if p1 < n then nI (s p1) else -1) = 45 := by
        by_cases d : p1 < n
        · rw [if_pos d]
          exact fun z => c ⟨d, (nI_eq (b := 45) (by have := hB.lt p1; omega) (by omega)).mp z⟩
        · rw [if_neg d]; decide
      rw [if_neg hne]
      obtain ⟨M3, z1, z2, z3, z4, z5⟩ := l71 lo lo p1 M1 (Nat.le_refl lo) r5 r2 r3 r4
      exact ⟨M3, z1, z2, z3, z4, z5, r6, r7⟩
theorem set_in (ht : t < 60) : ∀ (d p : Nat) (g : Nat → Bool) (f turn : Nat) (x1 : Int32) (M : Mem), n < p + d → p ≤ n → turn < p → n < p + f → B1 a n s M → gI M 17 6 = nI p → gI M 17 7 = -1 → gI M a 2 = nI (t + 1) → FT a (updF fit t g) M → match stA n s d p g with
    | .inr (g1, q) => ∃ M1, (bV_ (fX4_readRange M) fun M4 => fX4_readSet_H52 f x1 (nI turn) M4) = fX4_readSet_L93 x1 M1 ∧ gI M1 17 6 = nI q ∧ gI M1 17 7 = -1 ∧ SameBut (SRa a) M M1 ∧ FT a (updF fit t g1) M1 ∧ p < q ∧ q < n
    | .inl q => ∃ M1, (bV_ (fX4_readRange M) fun M4 => fX4_readSet_H52 f x1 (nI turn) M4) = fX4_readSet_L93 x1 M1 ∧ gI M1 17 7 = nI q ∧ SameBut (SRa a) M M1 ∧ q ≤ n := by
  intro d
  induction d with
  | zero => intro p g f turn x1 M q1 q2; omega
  | succ d ih =>
    intro p g f turn x1 M q1 q2 q3 q4 hB h6 h7 h2 hF
    have hn := hB.2.2.1
    have ha := hB.1
    obtain ⟨f, rfl⟩ : ∃ f1, f = f1 + 1 := ⟨f - 1, by omega⟩
    have h := range_in hB q2 h6 h7 ht h2 hF
    rw [stA]
    cases hs : rgA n s p with
    | inl q =>
      rw [hs] at h
      obtain ⟨M1, r1, r2, r3, r4⟩ := h
      rw [r1, bV_s, fX4_readSet_H52, if_neg (show ¬ (300 : Int32) ≤ nI turn from nI_ge (b := 300) (by omega) (by omega)), r2, if_neg (nm1 (by omega))]
      exact ⟨M1, rfl, r2, r3, r4⟩
    | inr w =>
      obtain ⟨lo, hi, q⟩ := w
      rw [hs] at h
      obtain ⟨M1, r1, r2, r3, r4, r5, r6, r7⟩ := h
      have hB1 := hB.moveR r4
      rw [r1, bV_s, fX4_readSet_H52, if_neg (show ¬ (300 : Int32) ≤ nI turn from nI_ge (b := 300) (by omega) (by omega)), r3, if_pos rfl, r2, hB1.at r7, bI_s]
      dsimp only
      by_cases c : q < n ∧ s q = 93
      · rw [if_pos c, if_pos c.1, if_pos (show nI (s q) = 93 by rw [c.2]; rfl)]
        exact ⟨M1, rfl, r2, r3, r4, r5, r6, c.1⟩
      · have hne : ¬ (if q < n then nI (s q) else -1) = 93 := by
          by_cases e : q < n
          · rw [if_pos e]
            exact fun z => c ⟨e, (nI_eq (b := 93) (by have := hB.lt q; omega) (by omega)).mp z⟩
          · rw [if_neg e]; decide
        rw [if_neg c, if_neg hne]
        simp only [lt_eq, show nI turn + 1 = nI (turn + 1) from nI_add turn 1]
        have k := ih q (orR g lo hi) f (turn + 1) x1 M1 (by omega) r7 (by omega) (by omega) hB1 r2 r3 ((r4.1 a 2 (SRa_f (by omega) (by omega) 2)).trans h2) r5
        cases hk : stA n s d q (orR g lo hi) with
        | inl z =>
          rw [hk] at k
          obtain ⟨M2, w1, w2, w3, w4⟩ := k
          exact ⟨M2, w1, w2, r4.trans w3, w4⟩
        | inr z =>
          obtain ⟨g1, z⟩ := z
          rw [hk] at k
          obtain ⟨M2, w1, w2, w3, w4, w5, w6, w7⟩ := k
          exact ⟨M2, w1, w2, w3, r4.trans w4, w5, by omega, w7⟩
theorem L91_f {q : Nat} (hq : q ≤ 300) (h : gI M 17 7 = nI q) : fX4_readAtom_L91 M = some M := by
  unfold fX4_readAtom_L91
  rw [h, if_neg (nm1 (by omega))]
theorem L91_ok {M0 : Mem} {fit1 : Nat → Nat → Bool} (ht : t < 60) (hB : B1 a n s M0) (h2 : B2 dep p M0) (h3 : B3 a (t + 1) fol fit1 M0) (h4 : B4 dep ch rw M0) (hs : SameBut (SPa a) M M0) : ∃ M1, fX4_readAtom_L91 M0 = (bV_ (fX4_endPiece M1) fun M_19 => some M_19) ∧ QX a n s (t + 1) fol fit1 dep ch rw p M1 ∧ PR M1 40 (shl6 1 (nI t), shl6 1 (nI t), false) ∧ SameBut (SPa a) M M1 := by
  have ha := hB.1
  unfold fX4_readAtom_L91
  rw [h2.2.2.2, if_pos rfl, hB.2.1, ga_k (kd_a ha), new_ok h3.2.1 ht, bJ_s]
  obtain ⟨M1, r1, r2, r3⟩ := batom_ok 40 (shl6 1 (nI t)) M0
  have sa := up_a (a := a) r3 (fun k => SPa_au ha _ k (by omega))
  rw [r1, bV_s]
  exact ⟨M1, rfl, ⟨hB.moveA sa, h2.move r3 (fun k => onl_f (by omega) k), h3.move r3 (fun x k _ _ => onl_f (by omega) k), h4.move r3 (fun x k _ _ => onl_f (by omega) k) h2.1⟩, r2, hs.trans sa⟩
theorem atom_full (hQ : QX a n s 60 fol fit dep ch rw p M) : fX4_readAtom M = some (setI M 17 7 (nI p)) := by
  obtain ⟨h1, h2, h3, h4⟩ := hQ
  unfold fX4_readAtom
  rw [h1.2.1, ga_k (kd_a h1.1), fX0_atoms, bI_s, h3.2.1, if_neg (show ¬ nI 60 < 60 by decide), lt_eq, h2.2.2.1]
theorem atom_in (hQ : QX a n s t fol fit dep ch rw p M) (hp : p < n) (ht : t < 60) (hf : ∀ c, fit t c = false) : match atA n s p with
    | .inr (g, q) => ∃ M1, fX4_readAtom M = (bV_ (fX4_endPiece M1) fun M_19 => some M_19) ∧ QX a n s (t + 1) fol (updF fit t g) dep ch rw q M1 ∧ PR M1 40 (shl6 1 (nI t), shl6 1 (nI t), false) ∧ SameBut (SPa a) M M1 ∧ p < q ∧ q ≤ n
    | .inl q => ∃ M1, fX4_readAtom M = some M1 ∧ gI M1 17 7 = nI q ∧ gI M1 17 5 = nI dep ∧ SameBut (SPa a) M M1 ∧ q ≤ n := by
  obtain ⟨h1, h2, h3, h4⟩ := hQ
  have ha := h1.1
  have hn := h1.2.2.1
  have sI : SameBut (onl a) M (setI M a 2 (nI (t + 1))) := SameBut.refl.setI (onl_t a 2)
  have sA := up_a (a := a) sI (fun k => SPa_au ha _ k (by omega))
  have g1 := h1.moveA sA
  have g2 := h2.move sI (fun k => onl_f (by omega) k)
  have g4 := h4.move sI (fun x k _ _ => onl_f (by omega) k) h2.1
  have gF : FT a (updF fit t (fun _ => false)) (setI M a 2 (nI (t + 1))) := by
    have : updF fit t (fun _ => false) = fit := by
      funext k
      by_cases c : k = t
      · rw [c, updF_eq]; funext c; exact (hf c).symm
      · rw [updF_ne c]
    rw [this]
    exact h3.2.2.2
  have hf3 : ∀ k, k < 60 → gJ (setI M a 2 (nI (t + 1))) (a + 2) k = fol k := h3.2.2.1
  have hst : fX4_readAtom M = (bI_ (fX5_at 18 (nI p) (setI M a 2 (nI (t + 1)))) fun v_8 M_7 =>
      if v_8 = 91 then (bV_ (fX4_readSet M_7) fun M_24 => fX4_readAtom_L91 M_24)
      else (if v_8 = 46 then (lt_ (setI M_7 17 6 ((gI M_7 17 6) + 1)) fun M_21 => bV_ (fX4_allowSolid M_21) fun M_22 => fX4_readAtom_L91 M_22)
      else (bI_ (fX4_readSign 0 M_7) fun v_10 M_9 => ga_ (gR M_9 17 4) fun ra_11 => bV_ (fX0_allow ra_11 v_10 v_10 M_9) fun M_12 => fX4_readAtom_L91 M_12))) := by
    unfold fX4_readAtom
    rw [h1.2.1, ga_k (kd_a ha), fX0_atoms, bI_s, h3.2.1, if_pos (show nI t < 60 from nI_lt (b := 60) ht (by omega)), h1.2.1, ga_k (kd_a ha)]
    unfold fX0_addAtom
    rw [h3.2.1, if_neg (show ¬ (60 : Int32) ≤ nI t from nI_ge (b := 60) ht (by omega)), lt_eq, bV_s, show nI t + 1 = nI (t + 1) from nI_add t 1, g2.2.2.1]
  rw [hst, g1.at (by omega), bI_s, if_pos hp]
  generalize hM0 : setI M a 2 (nI (t + 1)) = M0 at sA g1 g2 g4 gF hf3 ⊢
  have gt : gI M0 a 2 = nI (t + 1) := by rw [← hM0]; exact gI_eq
  have hl := h1.lt p
  have e91 : nI (s p) = 91 ↔ s p = 91 := nI_eq (b := 91) (by omega) (by omega)
  have e46 : nI (s p) = 46 ↔ s p = 46 := nI_eq (b := 46) (by omega) (by omega)
  -- from a state of reading to the end of the atom
  have fin : ∀ (q : Nat) (g : Nat → Bool) (M1 : Mem), SameBut (SRa a) M0 M1 → gI M1 17 6 = nI q → gI M1 17 7 = -1 → FT a (updF fit t g) M1 → ∃ M2, fX4_readAtom_L91 M1 = (bV_ (fX4_endPiece M2) fun M_19 => some M_19) ∧ QX a n s (t + 1) fol (updF fit t g) dep ch rw q M2 ∧ PR M2 40 (shl6 1 (nI t), shl6 1 (nI t), false) ∧ SameBut (SPa a) M M2 := by
    intro q g M1 k1 k2 k3 k4
    exact L91_ok ht (g1.moveR k1) ⟨g2.1, (k1.1 17 5 (by unfold SRa; simp <;> omega)).trans g2.2.1, k2, k3⟩ ⟨by omega, (k1.1 a 2 (SRa_f (by omega) (by omega) 2)).trans gt, fun k hk => (k1.2.1 (a + 2) k (SRa_f (by omega) (by omega) k)).trans (hf3 k hk), k4⟩ (g4.move k1 (fun x k _ _ => SRa_f (by omega) (by omega) k) h2.1) (sA.trans (SRa_A k1))
  have flt : ∀ (q : Nat) (M1 : Mem), q ≤ n → SameBut (SRa a) M0 M1 → gI M1 17 7 = nI q → ∃ M2, fX4_readAtom_L91 M1 = some M2 ∧ gI M2 17 7 = nI q ∧ gI M2 17 5 = nI dep ∧ SameBut (SPa a) M M2 ∧ q ≤ n := by
    intro q M1 k0 k1 k2
    exact ⟨M1, L91_f (by omega) k2, k2, (k1.1 17 5 (by unfold SRa; simp <;> omega)).trans g2.2.1, sA.trans (SRa_A k1), k0⟩
  unfold atA
  by_cases c1 : s p = 91
  · rw [if_pos c1, if_pos (e91.mpr c1)]
    unfold fX4_readSet
    rw [lt_eq, g2.2.2.1, show nI p + 1 = nI (p + 1) from nI_add p 1, gI_eq]
    have s0 : SameBut S67 M0 (setI M0 17 6 (nI (p + 1))) := SameBut.refl.setI rfl
    rw [(g1.move67 s0).at (by omega), bI_s]
    -- the set, from its first range on
    have go : ∀ (nt : Bool) (p1 : Nat) (M1 : Mem), p + 1 ≤ p1 → p1 ≤ n → SameBut S67 M0 M1 → gI M1 17 6 = nI p1 → gI M1 17 7 = -1 → match (match stA n s (n + 1) p1 (fun _ => false) with
        | .inl q => (.inl q : Sum Nat ((Nat → Bool) × Nat))
        | .inr (g, q) => .inr (fun c => g c ^^ nt, q + 1)) with
        | .inr (g, q) => ∃ M2, (bV_ (fX4_readSet_L46 (bz nt) M1) fun M_24 => fX4_readAtom_L91 M_24) = (bV_ (fX4_endPiece M2) fun M_19 => some M_19) ∧ QX a n s (t + 1) fol (updF fit t g) dep ch rw q M2 ∧ PR M2 40 (shl6 1 (nI t), shl6 1 (nI t), false) ∧ SameBut (SPa a) M M2 ∧ p < q ∧ q ≤ n
        | .inl q => ∃ M2, (bV_ (fX4_readSet_L46 (bz nt) M1) fun M_24 => fX4_readAtom_L91 M_24) = some M2 ∧ gI M2 17 7 = nI q ∧ gI M2 17 5 = nI dep ∧ SameBut (SPa a) M M2 ∧ q ≤ n := by
      intro nt p1 M1 k1 k2 k3 k4 k5
      unfold fX4_readSet_L46
      have k := set_in (a := a) (n := n) (s := s) (t := t) (fit := fit) ht (n + 1) p1 (fun _ => false) FU 0 (bz nt) M1 (by omega) k2 (by omega) (by unfold FU; omega) (g1.move67 k3) k4 k5 ((k3.1 a 2 (by unfold S67; simp <;> omega)).trans gt) (FT.move67 ha gF k3)
      cases hk : stA n s (n + 1) p1 (fun _ => false) with
      | inl q =>
        rw [hk] at k
        obtain ⟨M2, w1, w2, w3, w4⟩ := k
        dsimp only
        rw [show (0 : Int32) = nI 0 from rfl, w1]
        unfold fX4_readSet_L93
        rw [lt_eq]
        have w5 : SameBut (SRa a) M0 (setI M2 17 6 (gI M2 17 6 + 1)) := ((S67_R k3).trans w3).setI (by unfold SRa; simp)
        cases nt with
        | false =>
          rw [if_pos (show bz false = 0 from rfl), bV_s]
          exact flt q _ w4 w5 (by rw [gI_nk (by decide)]; exact w2)
        | true =>
          rw [if_neg (show ¬ bz true = 0 from n10), (g1.moveR w5).2.1, ga_k (kd_a ha)]
          obtain ⟨M3, z1, z2, z3⟩ := turn_ok (o := a) (t := t) (M := setI M2 17 6 (gI M2 17 6 + 1)) (kd_a ha) ht ((w5.1 a 2 (SRa_f (by omega) (by omega) 2)).trans gt)
          rw [z1, bV_s, bV_s]
          exact flt q M3 w4 (w5.trans (onl_R z3)) (by rw [z3.1 17 7 (onl_f (by omega) 7), gI_nk (by decide)]; exact w2)
      | inr gq =>
        obtain ⟨g, q⟩ := gq
        rw [hk] at k
        obtain ⟨M2, w1, w2, w3, w4, w5, w6, w7⟩ := k
        dsimp only
        rw [show (0 : Int32) = nI 0 from rfl, w1]
        unfold fX4_readSet_L93
        rw [lt_eq, w2, show nI q + 1 = nI (q + 1) from nI_add q 1]
        have v5 : SameBut (SRa a) M0 (setI M2 17 6 (nI (q + 1))) := ((S67_R k3).trans w4).setI (by unfold SRa; simp)
        cases nt with
        | false =>
          rw [if_pos (show bz false = 0 from rfl), bV_s, show (fun c => g c ^^ false) = g by (funext c; simp)]
          obtain ⟨M3, y1, y2, y3, y4⟩ := fin (q + 1) g _ v5 gI_eq (by rw [gI_nk (by decide)]; exact w3) w5
          exact ⟨M3, y1, y2, y3, y4, by omega, by omega⟩
        | true =>
          rw [if_neg (show ¬ bz true = 0 from n10), (g1.moveR v5).2.1, ga_k (kd_a ha)]
          obtain ⟨M3, z1, z2, z3⟩ := turn_ok (o := a) (t := t) (M := setI M2 17 6 (nI (q + 1))) (kd_a ha) ht ((v5.1 a 2 (SRa_f (by omega) (by omega) 2)).trans gt)
          rw [z1, bV_s, bV_s]
          obtain ⟨M4, y1, y2, y3, y4⟩ := fin (q + 1) (fun c => g c ^^ true) M3 (v5.trans (onl_R z3)) (by rw [z3.1 17 6 (onl_f (by omega) 6), gI_eq]) (by rw [z3.1 17 7 (onl_f (by omega) 7), gI_nk (by decide)]; exact w3) (fun c k hc => by
            rw [z2 c k hc]
            have e := w5 c k hc
            by_cases d : k = t
            · rw [d, updF_eq] at e ⊢
              rw [decide_eq_true rfl]
              show (bit (gJ M2 (a + 1) c) t ^^ true) = _
              rw [e]
            · rw [updF_ne d] at e ⊢
              rw [decide_eq_false d]
              show (bit (gJ M2 (a + 1) c) k ^^ false) = _
              rw [e, Bool.xor_false])
          exact ⟨M4, y1, y2, y3, y4, by omega, by omega⟩
    unfold fX4_readSet_L31
    unfold ntA
    have e94 : nI (s (p + 1)) = 94 ↔ s (p + 1) = 94 := nI_eq (b := 94) (by have := h1.lt (p + 1); omega) (by omega)
    by_cases c2 : p + 1 < n ∧ s (p + 1) = 94
    · have hnt : (decide (p + 1 < n) && s (p + 1) == 94) = true := by simp [c2.1, c2.2]
      rw [if_pos c2.1, if_pos (e94.mpr c2.2), if_neg n10, lt_eq, gI_eq, show nI (p + 1) + 1 = nI (p + 2) from nI_add (p + 1) 1, hnt, if_pos rfl]
      exact go true (p + 2) _ (by omega) (by omega) (s0.setI rfl) gI_eq (by rw [gI_nk (by decide), gI_nk (by decide)]; exact g2.2.2.2)
    · have hne : ¬ (if p + 1 < n then nI (s (p + 1)) else -1) = 94 := by
        by_cases e : p + 1 < n
        · rw [if_pos e]; exact fun z => c2 ⟨e, e94.mp z⟩
        · rw [if_neg e]; decide
      have hnt : (decide (p + 1 < n) && s (p + 1) == 94) = false := by
        by_cases e : p + 1 < n
        · have : ¬ s (p + 1) = 94 := fun z => c2 ⟨e, z⟩
          simp [this]
        · simp [e]
      rw [if_neg hne, if_pos z00, hnt, if_neg (by decide)]
      exact go false (p + 1) _ (by omega) (by omega) s0 gI_eq (by rw [gI_nk (by decide)]; exact g2.2.2.2)
  · rw [if_neg c1, if_neg (fun z => c1 (e91.mp z))]
    by_cases c2 : s p = 46
    · rw [if_pos c2, if_pos (e46.mpr c2), lt_eq, g2.2.2.1, show nI p + 1 = nI (p + 1) from nI_add p 1]
      unfold fX4_allowSolid
      have s0 : SameBut (SRa a) M0 (setI M0 17 6 (nI (p + 1))) := SameBut.refl.setI (by unfold SRa; simp)
      rw [(g1.moveR s0).2.1, ga_k (kd_a ha)]
      obtain ⟨M1, r1, r2, r3⟩ := allow_ok (o := a) (t := t) (lo := 32) (hi := 32) (M := setI M0 17 6 (nI (p + 1))) (kd_a ha) ht (by omega) (by omega) ((s0.1 a 2 (SRa_f (by omega) (by omega) 2)).trans gt)
      have s1 := s0.trans (onl_R r3)
      rw [show fX0_allow a 32 32 (setI M0 17 6 (nI (p + 1))) = some M1 from r1, bV_s, (g1.moveR s1).2.1, ga_k (kd_a ha)]
      obtain ⟨M2, w1, w2, w3⟩ := allow_ok (o := a) (t := t) (lo := 9) (hi := 10) (M := M1) (kd_a ha) ht (by omega) (by omega) ((s1.1 a 2 (SRa_f (by omega) (by omega) 2)).trans gt)
      have s2 := s1.trans (onl_R w3)
      rw [show fX0_allow a 9 10 M1 = some M2 from w1, bV_s, (g1.moveR s2).2.1, ga_k (kd_a ha)]
      obtain ⟨M3, z1, z2, z3⟩ := turn_ok (o := a) (t := t) (M := M2) (kd_a ha) ht ((s2.1 a 2 (SRa_f (by omega) (by omega) 2)).trans gt)
      have s3 := s2.trans (onl_R z3)
      rw [z1, bV_s, bV_s]
      obtain ⟨M4, y1, y2, y3, y4⟩ := fin (p + 1) (fun c => !isBl c) M3 s3 (by rw [z3.1 17 6 (onl_f (by omega) 6), w3.1 17 6 (onl_f (by omega) 6), r3.1 17 6 (onl_f (by omega) 6), gI_eq]) (by rw [z3.1 17 7 (onl_f (by omega) 7), w3.1 17 7 (onl_f (by omega) 7), r3.1 17 7 (onl_f (by omega) 7), gI_nk (by decide)]; exact g2.2.2.2) (fun c k hc => by
        have e := gF c k hc
        rw [z2 c k hc, w2 c k hc, r2 c k hc]
        rw [show gJ (setI M0 17 6 (nI (p + 1))) (a + 1) c = gJ M0 (a + 1) c from rfl, e]
        by_cases d : k = t
        · rw [d, updF_eq, updF_eq, decide_eq_true rfl]
          by_cases b1 : c = 32
          · subst b1; rfl
          · by_cases b2 : c = 9
            · subst b2; rfl
            · by_cases b3 : c = 10
              · subst b3; rfl
              · rw [decide_eq_false (show ¬ (32 ≤ c ∧ c ≤ 32) by omega), decide_eq_false (show ¬ (9 ≤ c ∧ c ≤ 10) by omega)]
                simp [isBl, b1, b2, b3]
        · rw [updF_ne d, updF_ne d, decide_eq_false d]; simp)
      exact ⟨M4, y1, y2, y3, y4, by omega, by omega⟩
    · rw [if_neg c2, if_neg (fun z => c2 (e46.mp z))]
      -- one sign
      have one : ∀ (v q : Nat) (M1 : Mem), v < 256 → SameBut S67 M0 M1 → gI M1 17 6 = nI q → gI M1 17 7 = -1 → ∃ M2, (ga_ (gR M1 17 4) fun ra_11 => bV_ (fX0_allow ra_11 (nI v) (nI v) M1) fun M_12 => fX4_readAtom_L91 M_12) = (bV_ (fX4_endPiece M2) fun M_19 => some M_19) ∧ QX a n s (t + 1) fol (updF fit t (fun c => c == v)) dep ch rw q M2 ∧ PR M2 40 (shl6 1 (nI t), shl6 1 (nI t), false) ∧ SameBut (SPa a) M M2 := by
        intro v q M1 k1 k2 k3 k4
        rw [(g1.move67 k2).2.1, ga_k (kd_a ha)]
        obtain ⟨M2, r1, r2, r3⟩ := allow_ok (o := a) (t := t) (lo := v) (hi := v) (M := M1) (kd_a ha) ht (Nat.le_refl v) k1 ((k2.1 a 2 (by unfold S67; simp <;> omega)).trans gt)
        rw [r1, bV_s]
        refine fin q (fun c => c == v) M2 ((S67_R k2).trans (onl_R r3)) ((r3.1 17 6 (onl_f (by omega) 6)).trans k3) ((r3.1 17 7 (onl_f (by omega) 7)).trans k4) (fun c k hc => ?_)
        rw [r2 c k hc, (FT.move67 ha gF k2) c k hc]
        by_cases d : k = t
        · rw [d, updF_eq, updF_eq, decide_eq_true rfl]
          by_cases e : c = v
          · rw [e, decide_eq_true (show v ≤ v ∧ v ≤ v by omega)]; simp
          · rw [decide_eq_false (show ¬ (v ≤ c ∧ c ≤ v) by omega)]; simp [e]
        · rw [updF_ne d, updF_ne d, decide_eq_false d]; simp
      unfold fX4_readSign fX4_readSign_L44
      rw [g2.2.2.1, g1.at (by omega), bI_s, if_pos z00, if_pos hp]
      have e92 : nI (s p) = 92 ↔ s p = 92 := nI_eq (b := 92) (by omega) (by omega)
      by_cases c3 : s p = 92
      · rw [if_pos c3, if_pos (e92.mpr c3), lt_eq, gI_eq, g2.2.2.1, show nI p + 1 = nI (p + 1) from nI_add p 1]
        have s0 : SameBut S67 M0 (setI M0 17 6 (nI (p + 1))) := SameBut.refl.setI rfl
        have hB0 := g1.move67 s0
        rw [hB0.at (by omega), bI_s]
        obtain ⟨k1, k2⟩ := sign72 (p := p + 1) hB0 gI_eq (by rw [gI_nk (by decide)]; exact g2.2.2.2)
        by_cases c5 : p + 1 < n
        · rw [if_pos c5, if_pos c5]
          obtain ⟨M1, r1, r2, r3, r4⟩ := k1 (s (p + 1)) (h1.lt _)
          rw [r1, bI_s]
          obtain ⟨M2, y1, y2, y3, y4⟩ := one (s (p + 1)) (p + 2) M1 (h1.lt _) (s0.trans r4) r2 r3
          exact ⟨M2, y1, y2, y3, y4, by omega, by omega⟩
        · rw [if_neg c5, if_neg c5]
          obtain ⟨M1, r1, r2, r3⟩ := k2
          rw [r1, bI_s, (g1.move67 (s0.trans r3)).2.1, ga_k (kd_a ha), allow_no, bV_s]
          exact flt (p + 1) M1 (by omega) (S67_R (s0.trans r3)) (by rw [r2, show p + 1 = n by omega])
      · rw [if_neg c3, if_neg (fun z => c3 (e92.mp z))]
        obtain ⟨k1, k2⟩ := sign72 (p := p) g1 g2.2.2.1 g2.2.2.2
        obtain ⟨M1, r1, r2, r3, r4⟩ := k1 (s p) hl
        rw [r1, bI_s]
        obtain ⟨M2, y1, y2, y3, y4⟩ := one (s p) (p + 1) M1 hl r4 r2 r3
        exact ⟨M2, y1, y2, y3, y4, by omega, by omega⟩
end
