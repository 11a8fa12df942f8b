/-! the class's pattern reader: parts, followers, fitting -/
abbrev Pt : Type := Int64 × Int64 × Bool
def onl (o : Nat) : Nat → Nat → Bool := fun x _ => x == o
def PR (M : Mem) (o : Nat) (P : Pt) : Prop := gJ M o 0 = P.1 ∧ gJ M o 1 = P.2.1 ∧ gI M o 2 = bz P.2.2
theorem PR.move {M M1 : Mem} {o : Nat} {P : Pt} {S : Nat → Nat → Bool} (h : PR M o P) (hs : SameBut S M M1) (h0 : ∀ k, S o k = false) : PR M1 o P := ⟨(hs.2.1 o 0 (h0 0)).trans h.1, (hs.2.1 o 1 (h0 1)).trans h.2.1, (hs.1 o 2 (h0 2)).trans h.2.2⟩
def chA (c r : Pt) : Pt := (c.1 ||| r.1, c.2.1 ||| r.2.1, c.2.2 || r.2.2)
def behA (r p : Pt) : Pt := (if r.2.2 then r.1 ||| p.1 else r.1, if p.2.2 then r.2.1 ||| p.2.1 else p.2.1, r.2.2 && p.2.2)
def conA (t : Nat) (x y : Int64) (fol : Nat → Int64) : Nat → Int64 := fun k => if k < t ∧ bit x k = true then fol k ||| y else fol k
def updF {α : Type} (f : Nat → α) (d : Nat) (v : α) : Nat → α := fun j => if j = d then v else f j
theorem onl_t (o k : Nat) : onl o o k = true := by unfold onl; simp
theorem onl_f {o x : Nat} (h : x ≠ o) (k : Nat) : onl o x k = false := by unfold onl; simpa using h
theorem become_ok (o : Nat) (x : Int64) (e : Bool) (M : Mem) : ∃ M1, fX3_become o x (bz e) M = some M1 ∧ PR M1 o (x, x, e) ∧ SameBut (onl o) M M1 := by
  unfold fX3_become
  rw [lt_eq, lt_eq, sz_b]
  refine ⟨_, rfl, ⟨?_, ?_, gI_eq⟩, ((SameBut.refl.setJ (onl_t o 0)).setJ (onl_t o 1)).setI (onl_t o 2)⟩
  · rw [gJ_setI, gJ_nk (by decide), gJ_eq]
  · rw [gJ_setI, gJ_eq]
theorem nothing_ok (o : Nat) (M : Mem) : ∃ M1, fX3_becomeNothing o M = some M1 ∧ PR M1 o (0, 0, false) ∧ SameBut (onl o) M M1 := by
  obtain ⟨M1, h1, h2, h3⟩ := become_ok o 0 false M
  exact ⟨M1, by unfold fX3_becomeNothing; rw [show (0 : Int32) = bz false from rfl, h1, bV_s], h2, h3⟩
theorem empty_ok (o : Nat) (M : Mem) : ∃ M1, fX3_becomeEmptyRow o M = some M1 ∧ PR M1 o (0, 0, true) ∧ SameBut (onl o) M M1 := by
  obtain ⟨M1, h1, h2, h3⟩ := become_ok o 0 true M
  exact ⟨M1, by unfold fX3_becomeEmptyRow; rw [show (1 : Int32) = bz true from rfl, h1, bV_s], h2, h3⟩
theorem batom_ok (o : Nat) (x : Int64) (M : Mem) : ∃ M1, fX3_becomeAtom o x M = some M1 ∧ PR M1 o (x, x, false) ∧ SameBut (onl o) M M1 := by
  obtain ⟨M1, h1, h2, h3⟩ := become_ok o x false M
  exact ⟨M1, by unfold fX3_becomeAtom; rw [show (0 : Int32) = bz false from rfl, h1, bV_s], h2, h3⟩
theorem copy_ok {o a : Nat} {Q : Pt} {M : Mem} (hne : o ≠ a) (h : PR M a Q) : ∃ M1, fX3_becomeCopyOf o a M = some M1 ∧ PR M1 o Q ∧ SameBut (onl o) M M1 := by
  unfold fX3_becomeCopyOf
  rw [lt_eq, lt_eq]
  simp only [gI_setJ]
  rw [h.2.2, sz_b]
  refine ⟨_, rfl, ⟨?_, ?_, gI_eq⟩, ((SameBut.refl.setJ (onl_t o 0)).setJ (onl_t o 1)).setI (onl_t o 2)⟩
  · rw [gJ_setI, gJ_nk (by decide), gJ_eq]; exact h.1
  · rw [gJ_setI, gJ_eq, gJ_ne (Ne.symm hne)]; exact h.2.1
theorem choice_any {o a : Nat} (M : Mem) : ∃ M1, fX3_addChoice o a M = some M1 ∧ SameBut (onl o) M M1 := by
  unfold fX3_addChoice fX3_addChoice_L41 fX3_addChoice_L46
  rw [lt_eq, lt_eq, sz_0, sz_1]
  have hs : SameBut (onl o) M (setJ (setJ M o 0 (gJ M o 0 ||| gJ M a 0)) o 1 (gJ (setJ M o 0 (gJ M o 0 ||| gJ M a 0)) o 1 ||| gJ (setJ M o 0 (gJ M o 0 ||| gJ M a 0)) a 1)) := (SameBut.refl.setJ (onl_t o 0)).setJ (onl_t o 1)
  split
  · split
    · exact ⟨_, rfl, hs.setI (onl_t o 2)⟩
    · exact ⟨_, rfl, hs.setI (onl_t o 2)⟩
  · exact ⟨_, rfl, hs.setI (onl_t o 2)⟩
theorem choice_ok {o a : Nat} {P Q : Pt} {M : Mem} (hne : o ≠ a) (h : PR M o P) (g : PR M a Q) : ∃ M1, fX3_addChoice o a M = some M1 ∧ PR M1 o (chA P Q) ∧ SameBut (onl o) M M1 := by
  have key : fX3_addChoice o a M = some (setI (setJ (setJ M o 0 (P.1 ||| Q.1)) o 1 (P.2.1 ||| Q.2.1)) o 2 (bz (P.2.2 || Q.2.2))) := by
    unfold fX3_addChoice fX3_addChoice_L41 fX3_addChoice_L46
    rw [lt_eq, lt_eq, gJ_nk (by decide), gJ_ne (Ne.symm hne), h.1, g.1, h.2.1, g.2.1]
    rw [show gI (setJ (setJ M o 0 (P.1 ||| Q.1)) o 1 (P.2.1 ||| Q.2.1)) o 2 = bz P.2.2 from h.2.2, show gI (setJ (setJ M o 0 (P.1 ||| Q.1)) o 1 (P.2.1 ||| Q.2.1)) a 2 = bz Q.2.2 from g.2.2, sz_0, sz_1]
    cases P.2.2 <;> cases Q.2.2 <;> rfl
  refine ⟨_, key, ⟨?_, ?_, gI_eq⟩, ((SameBut.refl.setJ (onl_t o 0)).setJ (onl_t o 1)).setI (onl_t o 2)⟩
  · rw [gJ_setI, gJ_nk (by decide), gJ_eq]; rfl
  · rw [gJ_setI, gJ_eq]; rfl
theorem behind_ok {o a : Nat} {P Q : Pt} {M : Mem} (hne : o ≠ a) (h : PR M o P) (g : PR M a Q) : ∃ M1, fX3_addBehind o a M = some M1 ∧ PR M1 o (behA P Q) ∧ SameBut (onl o) M M1 := by
  have l20 : ∀ (M0 : Mem) (f : Int64), PR M0 o (f, P.2.1, P.2.2) → PR M0 a Q → SameBut (onl o) M M0 → ∃ M1, fX3_addBehind_L20 o a M0 = some M1 ∧ PR M1 o (f, (behA P Q).2.1, (behA P Q).2.2) ∧ SameBut (onl o) M M1 := by
    intro M0 f h0 g0 hs
    have l44 : ∀ y : Int64, fX3_addBehind_L44 o a y M0 = some (setI (setJ M0 o 1 y) o 2 (bz (P.2.2 && Q.2.2))) := by
      intro y
      unfold fX3_addBehind_L44 fX3_addBehind_L66 fX3_addBehind_L67
      rw [lt_eq]
      rw [show gI (setJ M0 o 1 y) o 2 = bz P.2.2 from h0.2.2, show gI (setJ M0 o 1 y) a 2 = bz Q.2.2 from g0.2.2, sz_0, sz_1]
      cases P.2.2 <;> cases Q.2.2 <;> rfl
    unfold fX3_addBehind_L20
    rw [l44, l44, h0.2.1, g0.2.1, g0.2.2]
    have fin : ∀ y : Int64, PR (setI (setJ M0 o 1 y) o 2 (bz (P.2.2 && Q.2.2))) o (f, y, P.2.2 && Q.2.2) ∧ SameBut (onl o) M (setI (setJ M0 o 1 y) o 2 (bz (P.2.2 && Q.2.2))) := by
      intro y
      refine ⟨⟨?_, ?_, gI_eq⟩, (hs.setJ (onl_t o 1)).setI (onl_t o 2)⟩
      · rw [gJ_setI, gJ_nk (by decide)]; exact h0.1
      · rw [gJ_setI, gJ_eq]
    unfold behA
    dsimp only
    cases hq : Q.2.2 with
    | false =>
      rw [if_pos (show bz false = 0 from rfl), if_neg (by decide)]
      have := fin Q.2.1
      rw [hq] at this
      exact ⟨_, rfl, this⟩
    | true =>
      rw [if_neg (show ¬ bz true = 0 from n10), if_pos rfl]
      have := fin (P.2.1 ||| Q.2.1)
      rw [hq] at this
      exact ⟨_, rfl, this⟩
  unfold fX3_addBehind
  rw [h.2.2]
  cases hp : P.2.2 with
  | false =>
    rw [if_pos (show bz false = 0 from rfl)]
    obtain ⟨M1, r1, r2, r3⟩ := l20 M P.1 h g SameBut.refl
    refine ⟨M1, r1, ?_, r3⟩
    have e : (behA P Q).1 = P.1 := by unfold behA; rw [hp]; rfl
    rw [← e] at r2
    exact r2
  | true =>
    rw [if_neg (show ¬ bz true = 0 from n10), lt_eq, h.1, g.1]
    obtain ⟨M1, r1, r2, r3⟩ := l20 (setJ M o 0 (P.1 ||| Q.1)) (P.1 ||| Q.1) ⟨gJ_eq, by rw [gJ_nk (by decide)]; exact h.2.1, h.2.2⟩ ⟨by rw [gJ_ne (Ne.symm hne)]; exact g.1, by rw [gJ_ne (Ne.symm hne)]; exact g.2.1, g.2.2⟩ (SameBut.refl.setJ (onl_t o 0))
    refine ⟨M1, r1, ?_, r3⟩
    have e : (behA P Q).1 = P.1 ||| Q.1 := by unfold behA; rw [hp]; rfl
    rw [← e] at r2
    exact r2
/-! followers -/
theorem conX {o t : Nat} (ho : kd o = 0) (ht : t ≤ 60) (x y : Int64) : ∀ (f i : Nat) (M : Mem), i ≤ t → t < i + f → gI M o 2 = nI t → ∃ M1, fX0_connect_H3 o f x y (nI i) M = some M1 ∧ (∀ k, gJ M1 (o + 2) k = if i ≤ k ∧ k < t ∧ bit x k = true then gJ M (o + 2) k ||| y else gJ M (o + 2) k) ∧ SameBut (onl (o + 2)) M M1 := by
  intro f
  induction f with
  | zero => intro i M q1 q2; omega
  | succ f ih =>
    intro i M q1 q2 h
    rw [fX0_connect_H3, h]
    by_cases c : t ≤ i
    · rw [if_pos (nI_le c (by omega))]
      exact ⟨M, rfl, fun k => by rw [if_neg (by omega)], SameBut.refl⟩
    · rw [if_neg (nI_ge (by omega) (by omega))]
      unfold fX0_connect_L34
      rw [lt_eq, show (1 : Int32) = nI 1 from rfl, nI_add]
      cases hb : bit x i with
      | false =>
        rw [if_pos ((tst_u x (by omega)).mpr hb)]
        obtain ⟨M1, r1, r2, r3⟩ := ih (i + 1) M (by omega) (by omega) h
        refine ⟨M1, r1, fun k => ?_, r3⟩
        rw [r2 k]
        by_cases d : k = i
        · rw [if_neg (by omega), if_neg (by rw [d, hb]; simp)]
        · by_cases e : i + 1 ≤ k ∧ k < t ∧ bit x k = true
          · rw [if_pos e, if_pos ⟨by omega, e.2⟩]
          · rw [if_neg e, if_neg (fun z => e ⟨by omega, z.2⟩)]
      | true =>
        rw [if_neg (fun z => by rw [(tst_u x (by omega)).mp z] at hb; cases hb), lald_n (by rw [nb0 ho]; omega) (by rw [nb0 ho]; omega), last_n (by rw [nb0 ho]; omega) (by rw [nb0 ho]; omega), lt_eq]
        obtain ⟨M1, r1, r2, r3⟩ := ih (i + 1) (setJ M (o + 2) i (gJ M (o + 2) i ||| y)) (by omega) (by omega) h
        refine ⟨M1, r1, fun k => ?_, (SameBut.refl.setJ (onl_t (o + 2) i)).trans r3⟩
        rw [r2 k, gJ_at]
        by_cases d : k = i
        · rw [if_neg (by omega), if_pos d, d, if_pos ⟨by omega, by omega, hb⟩]
        · rw [if_neg d]
          by_cases e : i + 1 ≤ k ∧ k < t ∧ bit x k = true
          · rw [if_pos e, if_pos ⟨by omega, e.2⟩]
          · rw [if_neg e, if_neg (fun z => e ⟨by omega, z.2⟩)]
theorem con_ok {o t : Nat} {fol : Nat → Int64} {M : Mem} (ho : kd o = 0) (ht : t ≤ 60) (x y : Int64) (h : gI M o 2 = nI t) (hf : ∀ k, k < 60 → gJ M (o + 2) k = fol k) : ∃ M1, fX0_connect o x y M = some M1 ∧ (∀ k, k < 60 → gJ M1 (o + 2) k = conA t x y fol k) ∧ SameBut (onl (o + 2)) M M1 := by
  obtain ⟨M1, r1, r2, r3⟩ := conX ho ht x y FU 0 M (by omega) (by unfold FU; omega) h
  refine ⟨M1, r1, fun k hk => ?_, r3⟩
  rw [r2 k, hf k hk]
  unfold conA
  by_cases c : k < t ∧ bit x k = true
  · rw [if_pos c, if_pos ⟨by omega, c⟩]
  · rw [if_neg c, if_neg (fun z => c z.2)]
/-! fitting -/
theorem new_ok {o t : Nat} {M : Mem} (h : gI M o 2 = nI (t + 1)) (ht : t < 60) : fX0_newest o M = some (shl6 1 (nI t), M) := by
  unfold fX0_newest
  rw [h, if_neg (nI_nle (by omega) (by omega)), pred_nI]
theorem bit_or1 {x : Int64} {t : Nat} (ht : t < 64) (k : Nat) : bit (x ||| shl6 1 (nI t)) k = (bit x k || decide (k = t)) := by
  rw [bit_or]
  by_cases hk : k < 64
  · rw [bit_shl1 ht hk]
  · rw [bit_big x (k := k) (by omega), bit_big (shl6 1 (nI t)) (k := k) (by omega), decide_eq_false (by omega)]
theorem bit_xor1 {x : Int64} {t : Nat} (ht : t < 64) (k : Nat) : bit (x ^^^ shl6 1 (nI t)) k = (bit x k ^^ decide (k = t)) := by
  rw [bit_xor]
  by_cases hk : k < 64
  · rw [bit_shl1 ht hk]
  · rw [bit_big x (k := k) (by omega), bit_big (shl6 1 (nI t)) (k := k) (by omega), decide_eq_false (by omega)]
theorem allowX {o t hi : Nat} (ho : kd o = 0) (ht : t < 60) (hh : hi < 256) : ∀ (f i : Nat) (M : Mem), i ≤ hi + 1 → hi + 1 < i + f → gI M o 2 = nI (t + 1) → ∃ M1, fX0_allow_H15 o f (nI hi) (nI i) M = some M1 ∧ (∀ c k, c < 256 → bit (gJ M1 (o + 1) c) k = (bit (gJ M (o + 1) c) k || (decide (k = t) && decide (i ≤ c ∧ c ≤ hi)))) ∧ SameBut (onl (o + 1)) M M1 := by
  intro f
  induction f with
  | zero => intro i M q1 q2; omega
  | succ f ih =>
    intro i M q1 q2 h
    rw [fX0_allow_H15]
    by_cases c : hi < i
    · rw [if_pos (nI_lt c (by omega))]
      exact ⟨M, rfl, fun c k _ => by rw [decide_eq_false (show ¬ (i ≤ c ∧ c ≤ hi) by omega)]; simp, SameBut.refl⟩
    · rw [if_neg (nI_nlt (by omega) (by omega)), lald_n (by rw [na0 ho]; omega) (by rw [na0 ho]; omega), new_ok h ht, bJ_s, last_n (by rw [na0 ho]; omega) (by rw [na0 ho]; omega), lt_eq, show (1 : Int32) = nI 1 from rfl, nI_add]
      obtain ⟨M1, r1, r2, r3⟩ := ih (i + 1) (setJ M (o + 1) i (gJ M (o + 1) i ||| shl6 1 (nI t))) (by omega) (by omega) h
      refine ⟨M1, r1, fun c k hc => ?_, (SameBut.refl.setJ (onl_t (o + 1) i)).trans r3⟩
      rw [r2 c k hc, gJ_at]
      by_cases d : c = i
      · rw [if_pos d, bit_or1 (by omega), d, decide_eq_false (show ¬ (i + 1 ≤ i ∧ i ≤ hi) by omega), decide_eq_true (show i ≤ i ∧ i ≤ hi by omega)]
        cases bit (gJ M (o + 1) i) k <;> cases decide (k = t) <;> rfl
      · rw [if_neg d]
        by_cases e : i + 1 ≤ c ∧ c ≤ hi
        · rw [decide_eq_true e, decide_eq_true (show i ≤ c ∧ c ≤ hi by omega)]
        · rw [decide_eq_false e, decide_eq_false (show ¬ (i ≤ c ∧ c ≤ hi) by omega)]
theorem allow_ok {o t lo hi : Nat} {M : Mem} (ho : kd o = 0) (ht : t < 60) (hl : lo ≤ hi) (hh : hi < 256) (h : gI M o 2 = nI (t + 1)) : ∃ M1, fX0_allow o (nI lo) (nI hi) M = some M1 ∧ (∀ c k, c < 256 → bit (gJ M1 (o + 1) c) k = (bit (gJ M (o + 1) c) k || (decide (k = t) && decide (lo ≤ c ∧ c ≤ hi)))) ∧ SameBut (onl (o + 1)) M M1 := by
  unfold fX0_allow
  rw [lt_eq, lt_eq, show (255 : Int32) = nI 255 from rfl, show (0 : Int32) = nI 0 from rfl, min_ok (by omega) (by omega), max_ok (by omega) (by omega), Nat.min_eq_left (by omega), Nat.max_eq_left (by omega)]
  exact allowX ho ht hh FU lo M (by omega) (by unfold FU; omega) h
theorem allow_no {o : Nat} (M : Mem) : fX0_allow o (-1) (-1) M = some M := by
  unfold fX0_allow
  rw [lt_eq, lt_eq, show mmin_ (-1) 255 = -1 by decide, show mmax_ (-1) 0 = 0 by decide]
  show fX0_allow_H15 o (99999 + 1) _ _ _ = _
  rw [fX0_allow_H15, if_pos (by decide)]
theorem turnX {o t : Nat} (ho : kd o = 0) (ht : t < 60) : ∀ (f i : Nat) (M : Mem), i ≤ 256 → 256 < i + f → gI M o 2 = nI (t + 1) → ∃ M1, fX0_turnRound_H2 o f (nI i) M = some M1 ∧ (∀ c k, c < 256 → bit (gJ M1 (o + 1) c) k = (bit (gJ M (o + 1) c) k ^^ (decide (k = t) && decide (i ≤ c)))) ∧ SameBut (onl (o + 1)) M M1 := by
  intro f
  induction f with
  | zero => intro i M q1 q2; omega
  | succ f ih =>
    intro i M q1 q2 h
    rw [fX0_turnRound_H2]
    by_cases c : 256 ≤ i
    · rw [if_pos (show (256 : Int32) ≤ nI i from nI_le (a := 256) c (by omega))]
      exact ⟨M, rfl, fun c k hc => by rw [decide_eq_false (show ¬ i ≤ c by omega)]; simp, SameBut.refl⟩
    · rw [if_neg (show ¬ (256 : Int32) ≤ nI i from nI_ge (b := 256) (by omega) (by omega)), lald_n (by rw [na0 ho]; omega) (by rw [na0 ho]; omega), new_ok h ht, bJ_s, last_n (by rw [na0 ho]; omega) (by rw [na0 ho]; omega), lt_eq, show (1 : Int32) = nI 1 from rfl, nI_add]
      obtain ⟨M1, r1, r2, r3⟩ := ih (i + 1) (setJ M (o + 1) i (gJ M (o + 1) i ^^^ shl6 1 (nI t))) (by omega) (by omega) h
      refine ⟨M1, r1, fun c k hc => ?_, (SameBut.refl.setJ (onl_t (o + 1) i)).trans r3⟩
      rw [r2 c k hc, gJ_at]
      by_cases d : c = i
      · rw [if_pos d, bit_xor1 (by omega), d, decide_eq_false (show ¬ i + 1 ≤ i by omega), decide_eq_true (Nat.le_refl i)]
        cases bit (gJ M (o + 1) i) k <;> cases decide (k = t) <;> rfl
      · rw [if_neg d]
        by_cases e : i + 1 ≤ c
        · rw [decide_eq_true e, decide_eq_true (show i ≤ c by omega)]
        · rw [decide_eq_false e, decide_eq_false (show ¬ i ≤ c by omega)]
theorem turn_ok {o t : Nat} {M : Mem} (ho : kd o = 0) (ht : t < 60) (h : gI M o 2 = nI (t + 1)) : ∃ M1, fX0_turnRound o M = some M1 ∧ (∀ c k, c < 256 → bit (gJ M1 (o + 1) c) k = (bit (gJ M (o + 1) c) k ^^ decide (k = t))) ∧ SameBut (onl (o + 1)) M M1 := by
  obtain ⟨M1, r1, r2, r3⟩ := turnX ho ht FU 0 M (by omega) (by unfold FU; omega) h
  refine ⟨M1, r1, fun c k hc => ?_, r3⟩
  rw [r2 c k hc, decide_eq_true (Nat.zero_le c), Bool.and_true]
