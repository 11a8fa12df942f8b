/-! the reference reads signs, ranges, sets, atoms -/
def S378 : Nat → Nat → Bool := fun x k => x == 50 && (k == 37 || k == 38)
def SRt (t : Nat) : Nat → Nat → Bool := fun x k => (x == 50 && (k == 37 || k == 38)) || (x == 74 && decide (4 * t ≤ k))
theorem S378_R {t : Nat} {M M1 : Mem} (h : SameBut S378 M M1) : SameBut (SRt t) M M1 := h.mono (fun x k q => by unfold SRt at q; exact (Bool.or_eq_false_iff.mp q).1)
theorem S74_R {t : Nat} {M M1 : Mem} (h : SameBut (S74 t) M M1) : SameBut (SRt t) M M1 := h.mono (fun x k q => by unfold SRt at q; exact (Bool.or_eq_false_iff.mp q).2)
theorem SRt_M {t : Nat} {M M1 : Mem} (h : SameBut (SRt t) M M1) : SameBut SM M M1 := h.mono (fun x k q => by unfold SM at q; unfold SRt; simp at q ⊢; omega)
section
variable {n : Nat} {s : Nat → Nat} {t : Nat} {fol : Nat → Int64} {fit : Nat → Nat → Bool} {dep : Nat} {ch rw : Nat → Pt} {p : Nat} {M : Mem} {Q : Pt} {g : Nat → Bool}
theorem C1.move378 {M1 : Mem} (h : C1 n s M) (hs : SameBut S378 M M1) : C1 n s M1 := h.move hs rfl (fun _ => rfl)
theorem C1.moveR {M1 : Mem} (h : C1 n s M) (hs : SameBut (SRt t) M M1) : C1 n s M1 := h.move hs rfl (fun _ => rfl)
theorem sign_inY (hC : C1 n s M) (hp : p ≤ n) (h6 : gI M 50 37 = nI p) : match sgA n s p with
    | .inr (v, q) => ∃ M1, fX7_signOfSet M = some (1, M1) ∧ gI M1 50 38 = nI v ∧ gI M1 50 37 = nI q ∧ SameBut S378 M M1 ∧ v < 256 ∧ p < q ∧ q ≤ n
    | .inl q => ∃ M1, fX7_signOfSet M = some (0, M1) ∧ gI M1 50 37 = nI q ∧ SameBut S378 M M1 ∧ q ≤ n := by
  have hn := hC.1
  unfold fX7_signOfSet sgA
  rw [hC.peek hp h6, bI_s]
  have z : nI p + 0 = nI p := Int32.add_zero _
  have l94 : ∀ v : Int32, ∃ M1, fX7_signOfSet_L94 (setI M 50 38 v) = some (0, M1) ∧ gI M1 50 37 = nI p ∧ SameBut S378 M M1 ∧ p ≤ n := by
    intro v
    unfold fX7_signOfSet_L94 fX7_signOfSet_L95 fX7_signOfSet_L110
    rw [if_pos z00, lt_eq, gI_nk (by decide), h6, z, zr_0]
    exact ⟨_, rfl, gI_eq, (SameBut.refl.setI rfl).setI rfl, hp⟩
  by_cases c : p < n
  · rw [if_pos c, if_pos c]
    have hl := hC.2.2.1 p
    have e92 : nI (s p) = 92 ↔ s p = 92 := nI_eq (b := 92) (by omega) (by omega)
    have e93 : nI (s p) = 93 ↔ s p = 93 := nI_eq (b := 93) (by omega) (by omega)
    have e94 : nI (s p) = 94 ↔ s p = 94 := nI_eq (b := 94) (by omega) (by omega)
    have e45 : nI (s p) = 45 ↔ s p = 45 := nI_eq (b := 45) (by omega) (by omega)
    simp only [e92, e93, e94, e45]
    by_cases c4 : s p = 92
    · rw [if_pos c4, if_pos c4, lt_eq, h6, show nI p + 1 = nI (p + 1) from nI_add p 1]
      have s0 : SameBut S378 M (setI M 50 37 (nI (p + 1))) := SameBut.refl.setI rfl
      rw [(hC.move378 s0).peek (p := p + 1) (by omega) gI_eq, bI_s, lt_eq, gI_eq, gI_nk (by decide), gI_eq]
      unfold fX7_signOfSet_L46
      rw [lt_eq, lt_eq, gI_nk (by decide), gI_eq, gI_nk (by decide), gI_eq]
      by_cases c5 : p + 1 < n
      · have hl2 := hC.2.2.1 (p + 1)
        rw [if_pos c5, if_pos c5, if_pos (nI_pos' (by omega)), if_neg (nI_pos (by omega)), show nI (p + 1) + 1 = nI (p + 2) from nI_add (p + 1) 1, zr_1]
        exact ⟨_, rfl, by rw [gI_nk (by decide), gI_eq], gI_eq, (s0.setI rfl).setI rfl, hl2, by omega, by omega⟩
      · rw [if_neg c5, if_neg c5, if_neg (by decide), if_pos (by decide), show nI (p + 1) + 0 = nI (p + 1) from Int32.add_zero _, zr_0]
        exact ⟨_, rfl, gI_eq, (s0.setI rfl).setI rfl, by omega⟩
    · rw [if_neg c4, if_neg c4, lt_eq, if_neg (nI_pos (by omega))]
      by_cases c1 : s p = 93
      · rw [if_pos c1, if_pos (Or.inl c1)]; exact l94 _
      · rw [if_neg c1]
        by_cases c2 : s p = 94
        · rw [if_pos c2, if_pos (Or.inr (Or.inl c2))]; exact l94 _
        · rw [if_neg c2]
          by_cases c3 : s p = 45
          · rw [if_pos c3, if_pos (Or.inr (Or.inr c3))]; exact l94 _
          · rw [if_neg c3, if_neg (by omega)]
            unfold fX7_signOfSet_L95 fX7_signOfSet_L110
            rw [if_neg n10, lt_eq, gI_nk (by decide), h6, show nI p + 1 = nI (p + 1) from nI_add p 1, zr_1]
            exact ⟨_, rfl, by rw [gI_nk (by decide), gI_eq], gI_eq, (SameBut.refl.setI rfl).setI rfl, hl, by omega, by omega⟩
  · rw [if_neg c, if_neg c, if_neg (by decide), lt_eq, if_pos (by decide)]
    exact l94 _
/-- what stands behind the signs of a range -/
def rt (k35 : Int32 → Int32 → Int32 → Mem → Option (Int32 × Mem)) (x1 x2 : Int32) (M : Mem) : Option (Int32 × Mem) := bI_ (fX7_peek M) fun v_14 M_13 => if v_14 = 93 then (fX7_set_L151 k35 x1 x2 0 M_13) else (fX7_set_L151 k35 x1 x2 1 M_13)
theorem rngY (k35 : Int32 → Int32 → Int32 → Mem → Option (Int32 × Mem)) {hi : Nat} {x2 : Int32} (ht : t < 60) (hh : hi < 256) : ∀ (f z : Nat) (g : Nat → Bool) (M : Mem), z ≤ hi + 1 → hi + 1 < z + f → GT t g M → ∃ M1, fX7_set_H117 k35 f (nI t) x2 (nI hi) (nI z) M = rt k35 (nI t) x2 M1 ∧ GT t (orR g z hi) M1 ∧ SameBut (S74 t) M M1 := by
  intro f
  induction f with
  | zero => intro z g M q1 q2; omega
  | succ f ih =>
    intro z g M q1 q2 h
    rw [fX7_set_H117]
    by_cases c : hi < z
    · rw [if_pos (nI_lt c (by omega))]
      refine ⟨M, rfl, fun c hc => ?_, SameBut.refl⟩
      unfold orR
      rw [decide_eq_false (show ¬ (z ≤ c ∧ c ≤ hi) by omega), Bool.or_false]
      exact h c hc
    · rw [if_neg (nI_nlt (by omega) (by omega))]
      obtain ⟨M1, r1, r2, r3⟩ := takes_ok (c0 := z) ht (by omega) h
      rw [r1, bV_s, lt_eq, show nI z + 1 = nI (z + 1) from nI_add z 1]
      obtain ⟨M2, w1, w2, w3⟩ := ih (z + 1) _ M1 (by omega) (by omega) r2
      refine ⟨M2, w1, fun c hc => ?_, r3.trans w3⟩
      rw [w2 c hc]
      unfold orR
      dsimp only
      by_cases d : c = z
      · rw [d, decide_eq_false (show ¬ (z + 1 ≤ z ∧ z ≤ hi) by omega), decide_eq_true (show z ≤ z ∧ z ≤ hi by omega)]; simp
      · rw [show (c == z) = false by simpa using d]
        by_cases e : z + 1 ≤ c ∧ c ≤ hi
        · rw [decide_eq_true e, decide_eq_true (show z ≤ c ∧ c ≤ hi by omega)]; simp
        · rw [decide_eq_false e, decide_eq_false (show ¬ (z ≤ c ∧ c ≤ hi) by omega)]; simp
theorem range_inY {f : Nat} {x2 : Int32} (hC : C1 n s M) (hp : p ≤ n) (h6 : gI M 50 37 = nI p) (ht : t < 60) (h : GT t g M) : match rgA n s p with
    | .inr (lo, hi, q) => ∃ M1, fX7_set_H35 (f + 1) (nI t) x2 1 M = rt (fX7_set_H35 f) (nI t) x2 M1 ∧ gI M1 50 37 = nI q ∧ SameBut (SRt t) M M1 ∧ GT t (orR g lo hi) M1 ∧ p < q ∧ q ≤ n
    | .inl q => ∃ M1, fX7_set_H35 (f + 1) (nI t) x2 1 M = some (0, M1) ∧ gI M1 50 37 = nI q ∧ SameBut (SRt t) M M1 ∧ q ≤ n := by
  have hn := hC.1
  have lay : ∀ (lo hi q : Nat) (M0 : Mem), lo ≤ hi → hi < 256 → gI M0 50 37 = nI q → SameBut S378 M M0 → ∃ M1, fX7_set_L113 (fX7_set_H35 f) (nI t) x2 (nI lo) (nI hi) M0 = rt (fX7_set_H35 f) (nI t) x2 M1 ∧ gI M1 50 37 = nI q ∧ SameBut (SRt t) M M1 ∧ GT t (orR g lo hi) M1 := by
    intro lo hi q M0 g1 g2 g3 g4
    unfold fX7_set_L113
    obtain ⟨M1, r1, r2, r3⟩ := rngY (fX7_set_H35 f) (x2 := x2) ht g2 FU lo g M0 (by omega) (by unfold FU; omega) (h.move g4 (fun _ _ => rfl))
    exact ⟨M1, r1, (r3.1 50 37 rfl).trans g3, (S378_R g4).trans (S74_R r3), r2⟩
  have k := sign_inY hC hp h6
  rw [fX7_set_H35, if_neg n10]
  unfold rgA
  cases hs : sgA n s p with
  | inl q =>
    rw [hs] at k
    obtain ⟨M1, r1, r2, r3, r4⟩ := k
    rw [r1, bI_s, if_pos z00, zr_0]
    exact ⟨M1, rfl, r2, S378_R r3, r4⟩
  | inr vq =>
    obtain ⟨lo, p1⟩ := vq
    rw [hs] at k
    obtain ⟨M1, r1, r2, r3, r4, r5, r6, r7⟩ := k
    rw [r1, bI_s, if_neg n10, lt_eq, r2, (hC.move378 r4).peek r7 r3, bI_s]
    dsimp only
    by_cases c : p1 < n ∧ s p1 = 45
    · rw [if_pos c, if_pos c.1, if_pos (show nI (s p1) = 45 by rw [c.2]; rfl), lt_eq, r3, show nI p1 + 1 = nI (p1 + 1) from nI_add p1 1, lt_eq, gI_eq]
      have s0 : SameBut S378 M (setI M1 50 37 (nI (p1 + 1))) := r4.setI rfl
      have k := sign_inY (M := setI M1 50 37 (nI (p1 + 1))) (p := p1 + 1) (hC.move378 s0) (by omega) gI_eq
      cases hs2 : sgA n s (p1 + 1) with
      | inl q =>
        rw [hs2] at k
        obtain ⟨M2, w1, w2, w3, w4⟩ := k
        rw [w1, bI_s, if_pos z00, zr_0]
        exact ⟨M2, rfl, w2, S378_R (s0.trans w3), w4⟩
      | inr vq2 =>
        obtain ⟨hi, p2⟩ := vq2
        rw [hs2] at k
        obtain ⟨M2, w1, w2, w3, w4, w5, w6, w7⟩ := k
        rw [w1, bI_s, if_neg n10, lt_eq, w2]
        dsimp only
        by_cases d : hi < lo
        · rw [if_pos d, if_neg (nI_ge d (by omega)), lt_eq, zr_0]
          exact ⟨_, rfl, gI_eq, S378_R ((s0.trans w4).setI rfl), by omega⟩
        · rw [if_neg d, if_pos (nI_le (by omega) (by omega))]
          obtain ⟨M3, z1, z2, z3, z4⟩ := lay lo hi p2 M2 (by omega) w5 w3 (s0.trans w4)
          exact ⟨M3, z1, z2, z3, z4, by omega, w7⟩
    · rw [if_neg c]
      have hne : ¬ (if p1 < n then nI (s p1) else -1) = 45 := by
        by_cases d : p1 < n
        · rw [if_pos d]
          exact fun z => c ⟨d, (nI_eq (b := 45) (by have := hC.2.2.1 p1; omega) (by omega)).mp z⟩
        · rw [if_neg d]; decide
      rw [if_neg hne]
      obtain ⟨M3, z1, z2, z3, z4⟩ := lay lo lo p1 M1 (Nat.le_refl lo) r5 r3 r4
      exact ⟨M3, z1, z2, z3, z4, r6, r7⟩
theorem set_inY {x2 : Int32} (ht : t < 60) : ∀ (d p : Nat) (g : Nat → Bool) (f : Nat) (M : Mem), n < p + d → p ≤ n → n + 1 < p + f → C1 n s M → gI M 50 37 = nI p → GT t g M → match stA n s d p g with
    | .inr (g1, q) => ∃ M1, fX7_set_H35 f (nI t) x2 1 M = fX7_set_H168 FU (nI t) x2 0 (setI M1 50 37 (nI (q + 1))) ∧ SameBut (SRt t) M M1 ∧ GT t g1 M1 ∧ p < q ∧ q < n
    | .inl q => ∃ M1, fX7_set_H35 f (nI t) x2 1 M = some (0, M1) ∧ gI M1 50 37 = nI q ∧ SameBut (SRt t) M M1 ∧ q ≤ n := by
  intro d
  induction d with
  | zero => intro p g f M q1 q2; omega
  | succ d ih =>
    intro p g f M q1 q2 q3 hC h6 h
    have hn := hC.1
    obtain ⟨f, rfl⟩ : ∃ f1, f = f1 + 1 := ⟨f - 1, by omega⟩
    have k := range_inY (f := f) (x2 := x2) hC q2 h6 ht h
    rw [stA]
    cases hs : rgA n s p with
    | inl q =>
      rw [hs] at k
      exact k
    | inr w =>
      obtain ⟨lo, hi, q⟩ := w
      rw [hs] at k
      obtain ⟨M1, r1, r2, r3, r4, r5, r6⟩ := k
      rw [r1]
      unfold rt fX7_set_L151
      rw [(hC.moveR r3).peek r6 r2, bI_s]
      dsimp only
      by_cases c : q < n ∧ s q = 93
      · rw [if_pos c, if_pos c.1, if_pos (show nI (s q) = 93 by rw [c.2]; rfl)]
        obtain ⟨f, rfl⟩ : ∃ f1, f = f1 + 1 := ⟨f - 1, by omega⟩
        rw [fX7_set_H35, if_pos z00, lt_eq, r2, show nI q + 1 = nI (q + 1) from nI_add q 1]
        exact ⟨M1, rfl, r3, r4, r5, c.1⟩
      · have hne : ¬ (if q < n then nI (s q) else -1) = 93 := by
          by_cases e : q < n
          · rw [if_pos e]
            exact fun z => c ⟨e, (nI_eq (b := 93) (by have := hC.2.2.1 q; omega) (by omega)).mp z⟩
          · rw [if_neg e]; decide
        rw [if_neg c, if_neg hne]
        have k := ih q (orR g lo hi) f M1 (by omega) r6 (by omega) (hC.moveR r3) r2 r4
        cases hk : stA n s d q (orR g lo hi) with
        | inl z =>
          rw [hk] at k
          obtain ⟨M2, w1, w2, w3, w4⟩ := k
          exact ⟨M2, w1, w2, r3.trans w3, w4⟩
        | inr z =>
          obtain ⟨g1, z⟩ := z
          rw [hk] at k
          obtain ⟨M2, w1, w2, w3, w4, w5⟩ := k
          exact ⟨M2, w1, r3.trans w2, w3, by omega, w5⟩
theorem notY (ht : t < 60) : ∀ (f i : Nat) (M : Mem), i ≤ 4 → 4 < i + f → ∃ M1, fX7_set_H168 f (nI t) 1 (nI i) M = some (1, M1) ∧ (∀ z, z < 4 → gJ M1 74 (4 * t + z) = if i ≤ z then gJ M 74 (4 * t + z) ^^^ (-1) else gJ M 74 (4 * t + z)) ∧ SameBut (S74 t) M M1 := by
  intro f
  induction f with
  | zero => intro i M q1 q2; omega
  | succ f ih =>
    intro i M q1 q2
    rw [fX7_set_H168]
    by_cases c : 4 ≤ i
    · rw [if_pos (show (4 : Int32) ≤ nI i from nI_le (a := 4) c (by omega)), zr_1]
      exact ⟨M, rfl, fun z hz => by rw [if_neg (by omega)], SameBut.refl⟩
    · rw [if_neg (show ¬ (4 : Int32) ≤ nI i from nI_ge (b := 4) (by omega) (by omega)), if_neg n10, show (4 : Int32) = nI 4 from rfl, pk_mul, nI_add, lald_n (show 4 * t + i < 240 by omega) (by decide), last_n (show 4 * t + i < 240 by omega) (by decide), lt_eq, show nI i + 1 = nI (i + 1) from nI_add i 1]
      obtain ⟨M1, r1, r2, r3⟩ := ih (i + 1) (setJ M 74 (4 * t + i) (gJ M 74 (4 * t + i) ^^^ (-1))) (by omega) (by omega)
      refine ⟨M1, r1, fun z hz => ?_, (SameBut.refl.setJ (by unfold S74; simp <;> omega)).trans r3⟩
      rw [r2 z hz, gJ_at]
      by_cases d : z = i
      · rw [if_neg (by omega), if_pos (by omega), if_pos (by omega), d]
      · rw [if_neg (show ¬ 4 * t + z = 4 * t + i by omega)]
        by_cases e : i + 1 ≤ z
        · rw [if_pos e, if_pos (by omega)]
        · rw [if_neg e, if_neg (by omega)]
theorem not_ok {nt : Bool} (ht : t < 60) (h : GT t g M) : ∃ M1, fX7_set_H168 FU (nI t) (bz nt) 0 M = some (1, M1) ∧ GT t (fun c => g c ^^ nt) M1 ∧ SameBut (S74 t) M M1 := by
  cases nt with
  | false =>
    refine ⟨M, ?_, fun c hc => by show _ = (g c ^^ false); rw [Bool.xor_false]; exact h c hc, SameBut.refl⟩
    show fX7_set_H168 (99999 + 1) _ _ _ _ = _
    rw [fX7_set_H168, if_neg (by decide), if_pos (show bz false = 0 from rfl), zr_1]
  | true =>
    obtain ⟨M1, r1, r2, r3⟩ := notY ht FU 0 M (by omega) (by unfold FU; omega)
    refine ⟨M1, r1, fun c hc => ?_, r3⟩
    show _ = (g c ^^ true)
    rw [r2 (c / 64) (by omega), if_pos (by omega), bit_not _ (by omega), h c hc, Bool.xor_true]
theorem solidY (ht : t < 60) : ∀ (f i : Nat) (g : Nat → Bool) (M : Mem), i ≤ 256 → 256 < i + f → GT t g M → ∃ M1, fX7_plain_H90 f (nI t) (nI i) M = fX7_plain_L162 (nI t) M1 ∧ GT t (fun c => g c || (decide (i ≤ c) && !isBl c)) M1 ∧ SameBut (S74 t) M M1 := by
  intro f
  induction f with
  | zero => intro i g M q1 q2; omega
  | succ f ih =>
    intro i g M q1 q2 h
    rw [fX7_plain_H90]
    by_cases c : 256 ≤ i
    · rw [if_pos (show (256 : Int32) ≤ nI i from nI_le (a := 256) c (by omega))]
      exact ⟨M, rfl, fun z hz => by show _ = (g z || (decide (i ≤ z) && !isBl z)); rw [decide_eq_false (show ¬ i ≤ z by omega), Bool.false_and, Bool.or_false]; exact h z hz, SameBut.refl⟩
    · rw [if_neg (show ¬ (256 : Int32) ≤ nI i from nI_ge (b := 256) (by omega) (by omega)), blY (by omega), bI_s]
      unfold fX7_plain_L110
      simp only [lt_eq, show nI i + 1 = nI (i + 1) from nI_add i 1]
      have fin : ∀ (g0 : Nat → Bool) (M0 : Mem), GT t g0 M0 → SameBut (S74 t) M M0 → (∀ c, c < 256 → (g0 c || (decide (i + 1 ≤ c) && !isBl c)) = (g c || (decide (i ≤ c) && !isBl c))) → ∃ M1, fX7_plain_H90 f (nI t) (nI (i + 1)) M0 = fX7_plain_L162 (nI t) M1 ∧ GT t (fun c => g c || (decide (i ≤ c) && !isBl c)) M1 ∧ SameBut (S74 t) M M1 := by
        intro g0 M0 k1 k2 k3
        obtain ⟨M1, r1, r2, r3⟩ := ih (i + 1) g0 M0 (by omega) (by omega) k1
        exact ⟨M1, r1, fun c hc => by rw [r2 c hc]; exact k3 c hc, k2.trans r3⟩
      cases hb : isBl i with
      | true =>
        rw [if_neg (show ¬ bz true = 0 from n10)]
        refine fin g M h SameBut.refl (fun c hc => ?_)
        by_cases d : c = i
        · rw [d, hb]; simp
        · by_cases e : i + 1 ≤ c
          · rw [decide_eq_true e, decide_eq_true (show i ≤ c by omega)]
          · rw [decide_eq_false e, decide_eq_false (show ¬ i ≤ c by omega)]
      | false =>
        rw [if_pos (show bz false = 0 from rfl)]
        obtain ⟨M1, r1, r2, r3⟩ := takes_ok (c0 := i) ht (by omega) h
        rw [r1, bV_s]
        refine fin _ M1 r2 r3 (fun c hc => ?_)
        by_cases d : c = i
        · rw [d, hb, decide_eq_true (Nat.le_refl i)]; simp
        · rw [show (c == i) = false by simpa using d]
          by_cases e : i + 1 ≤ c
          · rw [decide_eq_true e, decide_eq_true (show i ≤ c by omega)]; simp
          · rw [decide_eq_false e, decide_eq_false (show ¬ i ≤ c by omega)]; simp
/-- the reference's state when only the newest atom's signs and the place have changed -/
theorem QP.read {M1 : Mem} {q : Nat} (hQ : QP n s (t + 1) fol (updF fit t g) dep ch rw p M) {g1 : Nat → Bool} (hs : SameBut (SRt t) M M1) (h37 : gI M1 50 37 = nI q) (hg : GT t g1 M1) : QP n s (t + 1) fol (updF fit t g1) dep ch rw q M1 := by
  obtain ⟨h1, h2, h⟩ := hQ
  have c3 : ∀ fol0 : Nat → Int64, C3 (t + 1) fol0 (updF fit t g) M → C3 (t + 1) fol0 (updF fit t g1) M1 := by
    intro fol0 h
    refine ⟨h.1, (hs.1 50 22 rfl).trans h.2.1, fun k hk => (hs.2.1 75 k rfl).trans (h.2.2.1 k hk), fun k hk => ?_⟩
    by_cases c : k = t
    · rw [c, updF_eq]; exact hg
    · have e := h.2.2.2 k hk
      rw [updF_ne c] at e ⊢
      exact e.move hs (fun z hz => by unfold SRt; simp; omega)
  refine ⟨h1.moveR hs, ⟨h2.1, (hs.1 50 36 rfl).trans h2.2.1, h37⟩, ?_⟩
  rcases h with ⟨h, h3, h4⟩ | ⟨h, fol0, rw0, Q, h3, h4, h5, h6⟩
  · exact Or.inl ⟨(hs.1 50 32 rfl).trans h, c3 _ h3, h4.move hs (fun x k _ _ => by unfold SRt; simp; omega)⟩
  · exact Or.inr ⟨(hs.1 50 32 rfl).trans h, fol0, rw0, Q, c3 _ h3, h4.move hs (fun x k _ _ => by unfold SRt; simp; omega), h5.move hs rfl rfl rfl, h6⟩
theorem QP.gt (hQ : QP n s (t + 1) fol (updF fit t g) dep ch rw p M) : GT t g M := by
  obtain ⟨h1, h2, ⟨h, h3, h4⟩ | ⟨h, fol0, rw0, Q, h3, -⟩⟩ := hQ
  · have e := h3.2.2.2 t (by omega); rwa [updF_eq] at e
  · have e := h3.2.2.2 t (by omega); rwa [updF_eq] at e
theorem QP.t22 (hQ : QP n s t fol fit dep ch rw p M) : gI M 50 22 = nI t := by
  obtain ⟨-, -, h | ⟨-, fol0, rw0, Q, h, -⟩⟩ := hQ
  · exact h.2.1.2.1
  · exact h.2.1
theorem plain_in (hQ : QP n s t fol fit dep ch rw p M) (hp : p < n) (ht : t < 60) (hf : fol t = 0) (hx : s p ≠ 124 ∧ s p ≠ 42 ∧ s p ≠ 43 ∧ s p ≠ 63 ∧ s p ≠ 93 ∧ s p ≠ 41) : match atA n s p with
    | .inr (g, q) => ∃ M1, fX7_plain (nI (s p)) M = fX7_plain_L162 (nI t) M1 ∧ QP n s (t + 1) fol (updF fit t g) dep ch rw q M1 ∧ SameBut SM M M1
    | .inl q => ∃ M1, fX7_plain (nI (s p)) M = some (0, M1) ∧ gI M1 50 37 = nI q ∧ SameBut SM M M1 := by
  have h1 := hQ.1
  have hn := h1.1
  have hl := h1.2.2.1 p
  obtain ⟨N, r1, r2, r3⟩ := atom_ok hQ ht hf
  have e0 : ∀ v : Nat, v < 256 → s p ≠ v → ¬ nI (s p) = nI v := fun v hv hne z => hne ((nI_eq (by omega) (by omega)).mp z)
  have hst : fX7_plain (nI (s p)) M = (if nI (s p) = 91 then (bI_ (fX7_set (nI t) (setI N 50 37 (nI (p + 1)))) fun v_22 M_21 => if v_22 = 0 then (zr_ 0 M_21) else (fX7_plain_L162 (nI t) M_21))
      else (if nI (s p) = 46 then (fX7_plain_H90 FU (nI t) 0 (setI N 50 37 (nI (p + 1))))
      else (if nI (s p) = 92 then (bI_ (fX7_peek (setI N 50 37 (nI (p + 1)))) fun v_10 M_9 => if 0 ≤ v_10 then (bI_ (fX7_peek M_9) fun v_12 M_11 => bV_ (fX7_takes (nI t) v_12 M_11) fun M_13 => lt_ (setI M_13 50 37 ((gI M_13 50 37) + 1)) fun M_15 => fX7_plain_L162 (nI t) M_15) else (zr_ 0 M_9))
      else (bV_ (fX7_takes (nI t) (nI (s p)) (setI N 50 37 (nI (p + 1)))) fun M_5 => fX7_plain_L162 (nI t) M_5)))) := by
    unfold fX7_plain
    rw [hQ.t22, if_neg (show ¬ nI t = 60 from fun z => absurd ((nI_eq (b := 60) (by omega) (by omega)).mp z) (by omega)), if_neg (show ¬ nI (s p) = 124 from e0 124 (by omega) hx.1), if_neg (show ¬ nI (s p) = 42 from e0 42 (by omega) hx.2.1), if_neg (show ¬ nI (s p) = 43 from e0 43 (by omega) hx.2.2.1), if_neg (show ¬ nI (s p) = 63 from e0 63 (by omega) hx.2.2.2.1), if_neg (show ¬ nI (s p) = 93 from e0 93 (by omega) hx.2.2.2.2.1), if_neg (show ¬ nI (s p) = 41 from e0 41 (by omega) hx.2.2.2.2.2), lt_eq, r1, bV_s, lt_eq, r2.2.1.2.2, show nI p + 1 = nI (p + 1) from nI_add p 1]
  rw [hst]
  have s0 : SameBut S378 N (setI N 50 37 (nI (p + 1))) := SameBut.refl.setI rfl
  have q0 : QP n s (t + 1) fol (updF fit t (fun _ => false)) dep ch rw (p + 1) (setI N 50 37 (nI (p + 1))) := r2.read (S378_R s0) gI_eq (r2.gt.move s0 (fun _ _ => rfl))
  have sm0 : SameBut SM M (setI N 50 37 (nI (p + 1))) := r3.trans (SRt_M (t := t) (S378_R s0))
  generalize setI N 50 37 (nI (p + 1)) = N0 at q0 sm0 ⊢
  have g0 := q0.gt
  have c1 := q0.1
  have d37 : gI N0 50 37 = nI (p + 1) := q0.2.1.2.2
  have e91 : nI (s p) = 91 ↔ s p = 91 := nI_eq (b := 91) (by omega) (by omega)
  have e46 : nI (s p) = 46 ↔ s p = 46 := nI_eq (b := 46) (by omega) (by omega)
  have e92 : nI (s p) = 92 ↔ s p = 92 := nI_eq (b := 92) (by omega) (by omega)
  unfold atA
  by_cases a1 : s p = 91
  · rw [if_pos a1, if_pos (e91.mpr a1)]
    unfold fX7_set fX7_set_L14 fX7_set_L29
    rw [c1.peek (p := p + 1) (by omega) d37, bI_s]
    have go : ∀ (nt : Bool) (p1 : Nat) (N1 : Mem), p + 1 ≤ p1 → p1 ≤ n → SameBut S378 N0 N1 → gI N1 50 37 = nI p1 → match (match stA n s (n + 1) p1 (fun _ => false) with
        | .inl q => (.inl q : Sum Nat ((Nat → Bool) × Nat))
        | .inr (g, q) => .inr (fun c => g c ^^ nt, q + 1)) with
        | .inr (g, q) => ∃ M1, (bI_ (fX7_set_H35 FU (nI t) (bz nt) 1 N1) fun v_22 M_21 => if v_22 = 0 then (zr_ 0 M_21) else (fX7_plain_L162 (nI t) M_21)) = fX7_plain_L162 (nI t) M1 ∧ QP n s (t + 1) fol (updF fit t g) dep ch rw q M1 ∧ SameBut SM M M1
        | .inl q => ∃ M1, (bI_ (fX7_set_H35 FU (nI t) (bz nt) 1 N1) fun v_22 M_21 => if v_22 = 0 then (zr_ 0 M_21) else (fX7_plain_L162 (nI t) M_21)) = some (0, M1) ∧ gI M1 50 37 = nI q ∧ SameBut SM M M1 := by
      intro nt p1 N1 k1 k2 k3 k4
      have k := set_inY (n := n) (s := s) (t := t) (x2 := bz nt) ht (n + 1) p1 (fun _ => false) FU N1 (by omega) k2 (by unfold FU; omega) (c1.move378 k3) k4 (g0.move k3 (fun _ _ => rfl))
      cases hk : stA n s (n + 1) p1 (fun _ => false) with
      | inl q =>
        rw [hk] at k
        obtain ⟨M2, w1, w2, w3, w4⟩ := k
        dsimp only
        rw [w1, bI_s, if_pos z00, zr_0]
        exact ⟨M2, rfl, w2, sm0.trans (SRt_M ((S378_R k3).trans w3))⟩
      | inr gq =>
        obtain ⟨g, q⟩ := gq
        rw [hk] at k
        obtain ⟨M2, w1, w2, w3, w4, w5⟩ := k
        dsimp only
        have s1 : SameBut S378 M2 (setI M2 50 37 (nI (q + 1))) := SameBut.refl.setI rfl
        obtain ⟨M3, y1, y2, y3⟩ := not_ok (nt := nt) ht (w3.move s1 (fun _ _ => rfl))
        rw [w1, y1, bI_s, if_neg n10]
        have s2 : SameBut (SRt t) N0 M3 := (((S378_R k3).trans w2).trans (S378_R s1)).trans (S74_R y3)
        exact ⟨M3, rfl, q0.read s2 (by rw [y3.1 50 37 rfl, gI_eq]) y2, sm0.trans (SRt_M s2)⟩
    unfold ntA
    have e94 : nI (s (p + 1)) = 94 ↔ s (p + 1) = 94 := nI_eq (b := 94) (by have := h1.2.2.1 (p + 1); omega) (by omega)
    by_cases c2 : p + 1 < n ∧ s (p + 1) = 94
    · have hnt : (decide (p + 1 < n) && s (p + 1) == 94) = true := by simp [c2.1, c2.2]
      rw [if_pos c2.1, if_pos (e94.mpr c2.2), if_neg n10, lt_eq, d37, show nI (p + 1) + 1 = nI (p + 2) from nI_add (p + 1) 1, hnt, if_pos rfl]
      exact go true (p + 2) _ (by omega) (by omega) (SameBut.refl.setI rfl) gI_eq
    · have hne : ¬ (if p + 1 < n then nI (s (p + 1)) else -1) = 94 := by
        by_cases e : p + 1 < n
        · rw [if_pos e]; exact fun z => c2 ⟨e, e94.mp z⟩
        · rw [if_neg e]; decide
      have hnt : (decide (p + 1 < n) && s (p + 1) == 94) = false := by
        by_cases e : p + 1 < n
        · have : ¬ s (p + 1) = 94 := fun z => c2 ⟨e, z⟩
          simp [this]
        · simp [e]
      rw [if_neg hne, if_pos z00, hnt, if_neg (by decide), lt_eq, d37, show nI (p + 1) + 0 = nI (p + 1) from Int32.add_zero _]
      exact go false (p + 1) _ (by omega) (by omega) (SameBut.refl.setI rfl) gI_eq
  · rw [if_neg a1, if_neg (fun z => a1 (e91.mp z))]
    by_cases a2 : s p = 46
    · rw [if_pos a2, if_pos (e46.mpr a2)]
      obtain ⟨M2, y1, y2, y3⟩ := solidY ht FU 0 (fun _ => false) N0 (by omega) (by unfold FU; omega) g0
      exact ⟨M2, y1, q0.read (S74_R y3) ((y3.1 50 37 rfl).trans d37) (fun c hc => by rw [y2 c hc]; simp), sm0.trans (SRt_M (S74_R y3))⟩
    · rw [if_neg a2, if_neg (fun z => a2 (e46.mp z))]
      by_cases a3 : s p = 92
      · rw [if_pos a3, if_pos (e92.mpr a3), c1.peek (p := p + 1) (by omega) d37, bI_s]
        by_cases c5 : p + 1 < n
        · have hl2 := h1.2.2.1 (p + 1)
          rw [if_pos c5, if_pos c5, if_pos (nI_pos' (by omega)), c1.peek (p := p + 1) (by omega) d37, bI_s, if_pos c5]
          obtain ⟨M2, y1, y2, y3⟩ := takes_ok (c0 := s (p + 1)) ht hl2 g0
          rw [y1, bV_s, lt_eq, y3.1 50 37 rfl, d37, show nI (p + 1) + 1 = nI (p + 2) from nI_add (p + 1) 1]
          have s1 : SameBut S378 M2 (setI M2 50 37 (nI (p + 2))) := SameBut.refl.setI rfl
          have s2 := (S74_R y3).trans (S378_R s1)
          exact ⟨_, rfl, q0.read s2 gI_eq (fun c hc => by rw [(y2.move s1 (fun _ _ => rfl)) c hc]; simp), sm0.trans (SRt_M s2)⟩
        · rw [if_neg c5, if_neg c5, if_neg (by decide), zr_0]
          exact ⟨N0, rfl, d37, sm0⟩
      · rw [if_neg a3, if_neg (fun z => a3 (e92.mp z))]
        obtain ⟨M2, y1, y2, y3⟩ := takes_ok (c0 := s p) ht hl g0
        rw [y1, bV_s]
        exact ⟨M2, rfl, q0.read (S74_R y3) ((y3.1 50 37 rfl).trans d37) (fun c hc => by rw [y2 c hc]; simp), sm0.trans (SRt_M (S74_R y3))⟩
end
