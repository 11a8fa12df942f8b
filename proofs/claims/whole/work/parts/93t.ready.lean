/-! the reference's pattern reader: its state and steps -/
def C1 (n : Nat) (s : Nat → Nat) (M : Mem) : Prop := n ≤ 300 ∧ gI M 50 1 = nI n ∧ (∀ j, s j < 256) ∧ ∀ j, j < n → gI M 51 j = nI (s j)
def C2 (dep p : Nat) (M : Mem) : Prop := dep ≤ 8 ∧ gI M 50 36 = nI dep ∧ gI M 50 37 = nI p
def GT (t : Nat) (g : Nat → Bool) (M : Mem) : Prop := ∀ c, c < 256 → bit (gJ M 74 (4 * t + c / 64)) (c % 64) = g c
def C3 (t : Nat) (fol : Nat → Int64) (fit : Nat → Nat → Bool) (M : Mem) : Prop := t ≤ 60 ∧ gI M 50 22 = nI t ∧ (∀ k, k < t → gJ M 75 k = fol k) ∧ ∀ k, k < t → GT k (fit k) M
def C4 (dep : Nat) (ch rw : Nat → Pt) (M : Mem) : Prop := ∀ d, d ≤ dep → (gJ M 78 d = (ch d).1 ∧ gJ M 79 d = (ch d).2.1 ∧ gI M 76 d = bz (ch d).2.2) ∧ gJ M 81 d = (rw d).1 ∧ gJ M 82 d = (rw d).2.1 ∧ gI M 80 d = bz (rw d).2.2
def C5 (Q : Pt) (M : Mem) : Prop := gI M 50 33 = bz Q.2.2 ∧ gJ M 50 34 = Q.1 ∧ gJ M 50 35 = Q.2.1
def SM : Nat → Nat → Bool := fun x k => (x == 50 && (k == 22 || (decide (32 ≤ k) && decide (k ≤ 38)))) || (decide (74 ≤ x) && decide (x ≤ 82))
theorem C1.move {n : Nat} {s : Nat → Nat} {S : Nat → Nat → Bool} {M M1 : Mem} (h : C1 n s M) (hs : SameBut S M M1) (h0 : S 50 1 = false) (h1 : ∀ k, S 51 k = false) : C1 n s M1 := ⟨h.1, (hs.1 50 1 h0).trans h.2.1, h.2.2.1, fun j hj => (hs.1 51 j (h1 j)).trans (h.2.2.2 j hj)⟩
theorem C2.move {dep p : Nat} {S : Nat → Nat → Bool} {M M1 : Mem} (h : C2 dep p M) (hs : SameBut S M M1) (h0 : S 50 36 = false) (h1 : S 50 37 = false) : C2 dep p M1 := ⟨h.1, (hs.1 50 36 h0).trans h.2.1, (hs.1 50 37 h1).trans h.2.2⟩
theorem GT.move {t : Nat} {g : Nat → Bool} {S : Nat → Nat → Bool} {M M1 : Mem} (h : GT t g M) (hs : SameBut S M M1) (h0 : ∀ c, c < 256 → S 74 (4 * t + c / 64) = false) : GT t g M1 := fun c hc => by rw [hs.2.1 74 _ (h0 c hc)]; exact h c hc
theorem C3.move {t : Nat} {fol : Nat → Int64} {fit : Nat → Nat → Bool} {S : Nat → Nat → Bool} {M M1 : Mem} (h : C3 t fol fit M) (hs : SameBut S M M1) (h0 : S 50 22 = false) (h1 : ∀ k, S 75 k = false) (h2 : ∀ k, k < 4 * t → S 74 k = false) : C3 t fol fit M1 := ⟨h.1, (hs.1 50 22 h0).trans h.2.1, fun k hk => (hs.2.1 75 k (h1 k)).trans (h.2.2.1 k hk), fun k hk => (h.2.2.2 k hk).move hs (fun c hc => h2 _ (by omega))⟩
theorem C4.move {dep : Nat} {ch rw : Nat → Pt} {S : Nat → Nat → Bool} {M M1 : Mem} (h : C4 dep ch rw M) (hs : SameBut S M M1) (h0 : ∀ x k, 76 ≤ x → x ≤ 82 → S x k = false) : C4 dep ch rw M1 := fun d hd => by
  obtain ⟨⟨q1, q2, q3⟩, q4, q5, q6⟩ := h d hd
  exact ⟨⟨(hs.2.1 78 d (h0 _ d (by omega) (by omega))).trans q1, (hs.2.1 79 d (h0 _ d (by omega) (by omega))).trans q2, (hs.1 76 d (h0 _ d (by omega) (by omega))).trans q3⟩, (hs.2.1 81 d (h0 _ d (by omega) (by omega))).trans q4, (hs.2.1 82 d (h0 _ d (by omega) (by omega))).trans q5, (hs.1 80 d (h0 _ d (by omega) (by omega))).trans q6⟩
theorem C5.move {Q : Pt} {S : Nat → Nat → Bool} {M M1 : Mem} (h : C5 Q M) (hs : SameBut S M M1) (h0 : S 50 33 = false) (h1 : S 50 34 = false) (h2 : S 50 35 = false) : C5 Q M1 := ⟨(hs.1 50 33 h0).trans h.1, (hs.2.1 50 34 h1).trans h.2.1, (hs.2.1 50 35 h2).trans h.2.2⟩
theorem nar_bz (b : Bool) : vp_nar .boolean (bz b) = bz b := by cases b <;> decide
theorem or_0 (x : Int64) : x ||| 0 = x := bit_ext (fun k _ => by rw [bit_or, bit_0, Bool.or_false])
theorem bz_or (a b : Bool) : bz a ||| bz b = bz (a || b) := by cases a <;> cases b <;> decide
theorem bz_and (a b : Bool) : bz a &&& bz b = bz (a && b) := by cases a <;> cases b <;> decide
section
variable {n : Nat} {s : Nat → Nat} {t : Nat} {fol : Nat → Int64} {fit : Nat → Nat → Bool} {dep : Nat} {ch rw : Nat → Pt} {p : Nat} {M : Mem} {Q : Pt} {g : Nat → Bool}
theorem C1.peek (h : C1 n s M) (hp : p ≤ n) (h6 : gI M 50 37 = nI p) : fX7_peek M = some (if p < n then nI (s p) else -1, M) := by
  obtain ⟨h1, h2, h3, h4⟩ := h
  unfold fX7_peek
  rw [h2, h6]
  by_cases c : p < n
  · rw [if_neg (nI_ge c (by omega)), iald_n (show p < 300 by omega) (by decide), h4 p c, if_pos c]
  · rw [if_pos (nI_le (by omega) (by omega)), if_neg c]
theorem begins_ok (hd : dep ≤ 8) (h5 : gI M 50 36 = nI dep) (h4 : ∀ d, d ≤ dep → (gJ M 78 d = (ch d).1 ∧ gJ M 79 d = (ch d).2.1 ∧ gI M 76 d = bz (ch d).2.2)) (h4r : ∀ d, d < dep → gJ M 81 d = (rw d).1 ∧ gJ M 82 d = (rw d).2.1 ∧ gI M 80 d = bz (rw d).2.2) : ∃ M1, fX7_begins M = some M1 ∧ gI M1 50 32 = 0 ∧ C4 dep ch (updF rw dep (0, 0, true)) M1 ∧ SameBut (fun x k => x == 80 || x == 81 || x == 82 || (x == 50 && k == 32)) M M1 := by
  unfold fX7_begins
  rw [h5, zast_n (show dep < 9 by omega) (by decide), gI_ne (by decide), h5, last_n (show dep < 9 by omega) (by decide), gI_setJ, gI_ne (by decide), h5, last_n (show dep < 9 by omega) (by decide), sz_0, nar1]
  refine ⟨_, rfl, gI_eq, fun d hd2 => ?_, (((SameBut.refl.setI rfl).setJ rfl).setJ rfl).setI rfl⟩
  refine ⟨h4 d hd2, ?_⟩
  rw [gJ_setI, gJ_ne (by decide), gJ_at, gJ_setI, gJ_setI, gJ_at, gJ_ne (by decide), gJ_setI, gI_ne (by decide), gI_setJ, gI_setJ, gI_at]
  by_cases c : d = dep
  · rw [if_pos c, if_pos c, if_pos c, c, updF_eq]; exact ⟨rfl, rfl, rfl⟩
  · rw [if_neg c, if_neg c, if_neg c, updF_ne c]; exact h4r d (by omega)
theorem opens_ok (hd : dep ≤ 8) (h5 : gI M 50 36 = nI dep) (h4 : ∀ d, d < dep → (gJ M 78 d = (ch d).1 ∧ gJ M 79 d = (ch d).2.1 ∧ gI M 76 d = bz (ch d).2.2) ∧ gJ M 81 d = (rw d).1 ∧ gJ M 82 d = (rw d).2.1 ∧ gI M 80 d = bz (rw d).2.2) : ∃ M1, fX7_opens M = some M1 ∧ gI M1 50 32 = 0 ∧ C4 dep (updF ch dep (0, 0, false)) (updF rw dep (0, 0, true)) M1 ∧ SameBut (fun x k => (decide (76 ≤ x) && decide (x ≤ 82)) || (x == 50 && k == 32)) M M1 := by
  unfold fX7_opens
  rw [h5, zast_n (show dep < 9 by omega) (by decide), gI_ne (by decide), h5, zast_n (show dep < 9 by omega) (by decide), gI_ne (by decide), gI_ne (by decide), h5, last_n (show dep < 9 by omega) (by decide), gI_setJ, gI_ne (by decide), gI_ne (by decide), h5, last_n (show dep < 9 by omega) (by decide), nar0]
  have s0 : SameBut (fun x k => (decide (76 ≤ x) && decide (x ≤ 82)) || (x == 50 && k == 32)) M (setJ (setJ (setI (setI M 77 dep 0) 76 dep 0) 78 dep 0) 79 dep 0) := (((SameBut.refl.setI rfl).setI rfl).setJ rfl).setJ rfl
  obtain ⟨M1, r1, r2, r3, r4⟩ := begins_ok (ch := updF ch dep (0, 0, false)) (rw := rw) (M := setJ (setJ (setI (setI M 77 dep 0) 76 dep 0) 78 dep 0) 79 dep 0) hd (by rw [gI_setJ, gI_setJ, gI_ne (by decide), gI_ne (by decide)]; exact h5) (fun d hd2 => by
    rw [gJ_ne (by decide), gJ_at, gJ_setI, gJ_setI, gJ_at, gJ_ne (by decide), gJ_setI, gJ_setI, gI_setJ, gI_setJ, gI_at, gI_ne (by decide)]
    by_cases c : d = dep
    · rw [if_pos c, if_pos c, if_pos c, c, updF_eq]; exact ⟨rfl, rfl, rfl⟩
    · rw [if_neg c, if_neg c, if_neg c, updF_ne c]; exact (h4 d (by omega)).1) (fun d hd2 => by
    rw [gJ_ne (by decide), gJ_ne (by decide), gJ_setI, gJ_setI, gJ_ne (by decide), gJ_ne (by decide), gJ_setI, gJ_setI, gI_setJ, gI_setJ, gI_ne (by decide), gI_ne (by decide)]
    exact (h4 d hd2).2)
  rw [r1, bV_s]
  refine ⟨M1, rfl, r2, r3, s0.trans (r4.mono (fun x k q => ?_))⟩
  simp at q ⊢
  omega
/-! followers -/
def jt (M : Mem) : Option Mem := lald_ M 81 (gI M 50 36) fun v_1 => zald_ M 80 (gI M 50 36) fun v_2 => if v_2 = 0 then (fX7_joins_L89 0 v_1 (gI M 50 36) M) else (fX7_joins_L89 (gJ M 50 34) v_1 (gI M 50 36) M)
theorem jnY {x y : Int64} (hd : dep ≤ 8) (ht : t ≤ 60) : ∀ (f i : Nat) (M : Mem), i ≤ t → t < i + f → gI M 50 22 = nI t → gI M 50 36 = nI dep → gJ M 82 dep = x → gJ M 50 34 = y → ∃ M1, fX7_joins_H10 f (nI i) M = jt M1 ∧ (∀ k, gJ M1 75 k = if i ≤ k ∧ k < t ∧ bit x k = true then gJ M 75 k ||| y else gJ M 75 k) ∧ SameBut (onl 75) M M1 := by
  intro f
  induction f with
  | zero => intro i M q1 q2; omega
  | succ f ih =>
    intro i M q1 q2 h1 h2 h3 h4
    rw [fX7_joins_H10, h1]
    by_cases c : t ≤ i
    · rw [if_pos (nI_le c (by omega))]
      exact ⟨M, rfl, fun k => by rw [if_neg (by omega)], SameBut.refl⟩
    · rw [if_neg (nI_ge (by omega) (by omega)), lald_n (show i < 60 by omega) (by decide), h2, lald_n (show dep < 9 by omega) (by decide), h3, h4]
      unfold fX7_joins_L51
      rw [last_n (show i < 60 by omega) (by decide), last_n (show i < 60 by omega) (by decide), lt_eq, lt_eq, show nI i + 1 = nI (i + 1) from nI_add i 1]
      have go : ∀ v : Int64, ∃ M1, fX7_joins_H10 f (nI (i + 1)) (setJ M 75 i v) = jt M1 ∧ (∀ k, gJ M1 75 k = if i + 1 ≤ k ∧ k < t ∧ bit x k = true then gJ (setJ M 75 i v) 75 k ||| y else gJ (setJ M 75 i v) 75 k) ∧ SameBut (onl 75) M M1 := fun v => by
        obtain ⟨M1, r1, r2, r3⟩ := ih (i + 1) (setJ M 75 i v) (by omega) (by omega) h1 h2 (by rw [gJ_ne (by decide)]; exact h3) (by rw [gJ_ne (by decide)]; exact h4)
        exact ⟨M1, r1, r2, (SameBut.refl.setJ (onl_t 75 i)).trans r3⟩
      cases hb : bit x i with
      | false =>
        rw [if_neg (fun z => by rw [(tst_s x (by omega)).mp z] at hb; cases hb), or_0]
        obtain ⟨M1, r1, r2, r3⟩ := go (gJ M 75 i)
        refine ⟨M1, r1, fun k => ?_, r3⟩
        rw [r2 k, gJ_at]
        by_cases d : k = i
        · rw [if_neg (by omega), if_pos d, d, if_neg (by rw [hb]; simp)]
        · rw [if_neg d]
          by_cases e : i + 1 ≤ k ∧ k < t ∧ bit x k = true
          · rw [if_pos e, if_pos ⟨by omega, e.2⟩]
          · rw [if_neg e, if_neg (fun z => e ⟨by omega, z.2⟩)]
      | true =>
        rw [if_pos ((tst_s x (by omega)).mpr hb)]
        obtain ⟨M1, r1, r2, r3⟩ := go (gJ M 75 i ||| y)
        refine ⟨M1, r1, fun k => ?_, r3⟩
        rw [r2 k, gJ_at]
        by_cases d : k = i
        · rw [if_neg (by omega), if_pos d, d, if_pos ⟨by omega, by omega, hb⟩]
        · rw [if_neg d]
          by_cases e : i + 1 ≤ k ∧ k < t ∧ bit x k = true
          · rw [if_pos e, if_pos ⟨by omega, e.2⟩]
          · rw [if_neg e, if_neg (fun z => e ⟨by omega, z.2⟩)]
def SJ : Nat → Nat → Bool := fun x k => x == 75 || x == 80 || x == 81 || x == 82 || (x == 50 && k == 32)
theorem joins_p (h2 : C2 dep p M) (h32 : gI M 50 32 = 1) (h3 : C3 t fol fit M) (h4 : C4 dep ch rw M) (h5 : C5 Q M) : ∃ M1, fX7_joins M = some M1 ∧ gI M1 50 32 = 0 ∧ C3 t (conA t (rw dep).2.1 Q.1 fol) fit M1 ∧ C4 dep ch (updF rw dep (behA (rw dep) Q)) M1 ∧ SameBut SJ M M1 := by
  have hd := h2.1
  obtain ⟨-, e81, e82, e80⟩ := h4 dep (Nat.le_refl dep)
  unfold fX7_joins
  rw [h32, if_neg n10]
  obtain ⟨N, r1, r2, r3⟩ := jnY (x := (rw dep).2.1) (y := Q.1) hd h3.1 FU 0 M (by omega) (by unfold FU; have := h3.1; omega) h3.2.1 h2.2.1 e82 h5.2.1
  rw [show (0 : Int32) = nI 0 from rfl, r1]
  have d36 : gI N 50 36 = nI dep := (r3.1 50 36 (onl_f (by omega) 36)).trans h2.2.1
  have d33 : gI N 50 33 = bz Q.2.2 := (r3.1 50 33 (onl_f (by omega) 33)).trans h5.1
  have d34 : gJ N 50 34 = Q.1 := (r3.2.1 50 34 (onl_f (by omega) 34)).trans h5.2.1
  have d35 : gJ N 50 35 = Q.2.1 := (r3.2.1 50 35 (onl_f (by omega) 35)).trans h5.2.2
  have d81 : gJ N 81 dep = (rw dep).1 := (r3.2.1 81 dep (onl_f (by omega) dep)).trans e81
  have d82 : gJ N 82 dep = (rw dep).2.1 := (r3.2.1 82 dep (onl_f (by omega) dep)).trans e82
  have d80 : gI N 80 dep = bz (rw dep).2.2 := (r3.1 80 dep (onl_f (by omega) dep)).trans e80
  have key : jt N = some (setI (setI (setJ (setJ N 81 dep (behA (rw dep) Q).1) 82 dep (behA (rw dep) Q).2.1) 80 dep (bz (behA (rw dep) Q).2.2)) 50 32 0) := by
    unfold jt
    rw [d36, lald_n (show dep < 9 by omega) (by decide), zald_n (show dep < 9 by omega) (by decide), d80, d81, d34]
    have l89 : ∀ y0 : Int64, fX7_joins_L89 y0 (rw dep).1 (nI dep) N = some (setI (setI (setJ (setJ N 81 dep ((rw dep).1 ||| y0)) 82 dep (behA (rw dep) Q).2.1) 80 dep (bz (behA (rw dep) Q).2.2)) 50 32 0) := by
      intro y0
      unfold fX7_joins_L89
      rw [last_n (show dep < 9 by omega) (by decide)]
      have l127 : ∀ z : Int64, fX7_joins_L127 z (nI dep) (setJ N 81 dep ((rw dep).1 ||| y0)) = some (setI (setI (setJ (setJ N 81 dep ((rw dep).1 ||| y0)) 82 dep z) 80 dep (bz ((rw dep).2.2 && Q.2.2))) 50 32 0) := by
        intro z
        unfold fX7_joins_L127
        rw [last_n (show dep < 9 by omega) (by decide)]
        rw [show gI (setJ (setJ N 81 dep ((rw dep).1 ||| y0)) 82 dep z) 50 36 = nI dep from d36, zald_n (show dep < 9 by omega) (by decide), zast_n (show dep < 9 by omega) (by decide), show gI (setJ (setJ N 81 dep ((rw dep).1 ||| y0)) 82 dep z) 80 dep = bz (rw dep).2.2 from d80, show gI (setJ (setJ N 81 dep ((rw dep).1 ||| y0)) 82 dep z) 50 33 = bz Q.2.2 from d33, bz_and, nar_bz, sz_0]
      rw [show gI (setJ N 81 dep ((rw dep).1 ||| y0)) 50 33 = bz Q.2.2 from d33, show gI (setJ N 81 dep ((rw dep).1 ||| y0)) 50 36 = nI dep from d36, lald_n (show dep < 9 by omega) (by decide), l127, l127, gJ_ne (by decide), d35, gJ_ne (by decide), d82]
      unfold behA
      cases Q.2.2 <;> rfl
    rw [l89, l89]
    unfold behA
    cases (rw dep).2.2
    · rw [if_pos (show bz false = 0 from rfl), or_0]; rfl
    · rfl
  rw [key]
  have sj : SameBut SJ M (setI (setI (setJ (setJ N 81 dep (behA (rw dep) Q).1) 82 dep (behA (rw dep) Q).2.1) 80 dep (bz (behA (rw dep) Q).2.2)) 50 32 0) := (((((r3.mono (fun x k q => by unfold SJ at q; unfold onl; simp at q ⊢; omega)) : SameBut SJ M N).setJ rfl).setJ rfl).setI rfl).setI rfl
  refine ⟨_, rfl, gI_eq, ⟨h3.1, (sj.1 50 22 rfl).trans h3.2.1, fun k hk => ?_, fun k hk => (h3.2.2.2 k hk).move sj (fun c _ => rfl)⟩, fun d hd2 => ?_, sj⟩
  · rw [gJ_setI, gJ_setI, gJ_ne (by decide), gJ_ne (by decide), r2 k, h3.2.2.1 k hk]
    unfold conA
    by_cases c : k < t ∧ bit (rw dep).2.1 k = true
    · rw [if_pos c, if_pos ⟨by omega, c⟩]
    · rw [if_neg c, if_neg (fun z => c z.2)]
  · obtain ⟨⟨q1, q2, q3⟩, q4, q5, q6⟩ := h4 d hd2
    refine ⟨⟨(sj.2.1 78 d rfl).trans q1, (sj.2.1 79 d rfl).trans q2, (sj.1 76 d rfl).trans q3⟩, ?_⟩
    rw [gJ_setI, gJ_setI, gJ_ne (by decide), gJ_at, gJ_setI, gJ_setI, gJ_at, gJ_ne (by decide), gI_ne (by decide), gI_at]
    by_cases c : d = dep
    · rw [if_pos c, if_pos c, if_pos c, c, updF_eq]; exact ⟨rfl, rfl, rfl⟩
    · rw [if_neg c, if_neg c, if_neg c, updF_ne c, r3.2.1 81 d (onl_f (by omega) d), r3.2.1 82 d (onl_f (by omega) d)]
      refine ⟨q4, q5, ?_⟩
      show gI N 80 d = _
      rw [r3.1 80 d (onl_f (by omega) d)]
      exact q6
/-- the reference's state: a piece may wait to be joined -/
def QP (n : Nat) (s : Nat → Nat) (t : Nat) (fol : Nat → Int64) (fit : Nat → Nat → Bool) (dep : Nat) (ch rw : Nat → Pt) (p : Nat) (M : Mem) : Prop := C1 n s M ∧ C2 dep p M ∧ ((gI M 50 32 = 0 ∧ C3 t fol fit M ∧ C4 dep ch rw M) ∨ (gI M 50 32 = 1 ∧ ∃ (fol0 : Nat → Int64) (rw0 : Nat → Pt) (Q : Pt), C3 t fol0 fit M ∧ C4 dep ch rw0 M ∧ C5 Q M ∧ (∀ k, k < t → fol k = conA t (rw0 dep).2.1 Q.1 fol0 k) ∧ rw = updF rw0 dep (behA (rw0 dep) Q) ∧ ∀ k, t ≤ k → bit (rw0 dep).2.1 k = false))
theorem SJ_M {M1 : Mem} (h : SameBut SJ M M1) : SameBut SM M M1 := h.mono (fun x k q => by unfold SM at q; unfold SJ; simp at q ⊢; omega)
theorem C3.congr {fol1 : Nat → Int64} (h : C3 t fol fit M) (e : ∀ k, k < t → fol1 k = fol k) : C3 t fol1 fit M := ⟨h.1, h.2.1, fun k hk => (h.2.2.1 k hk).trans (e k hk).symm, h.2.2.2⟩
theorem joins_ok (hQ : QP n s t fol fit dep ch rw p M) : ∃ M1, fX7_joins M = some M1 ∧ gI M1 50 32 = 0 ∧ C1 n s M1 ∧ C2 dep p M1 ∧ C3 t fol fit M1 ∧ C4 dep ch rw M1 ∧ SameBut SM M M1 := by
  obtain ⟨h1, h2, h | ⟨h, fol0, rw0, Q, h3, h4, h5, h6, rfl, -⟩⟩ := hQ
  · refine ⟨M, ?_, h.1, h1, h2, h.2.1, h.2.2, SameBut.refl⟩
    unfold fX7_joins
    rw [h.1, if_pos z00]
  · obtain ⟨M1, r1, r2, r3, r4, r5⟩ := joins_p h2 h h3 h4 h5
    exact ⟨M1, r1, r2, h1.move r5 rfl (fun k => rfl), h2.move r5 rfl rfl, r3.congr h6, r4, SJ_M r5⟩
theorem closes_ok (hQ : QP n s t fol fit dep ch rw p M) : ∃ M1, fX7_closes M = some M1 ∧ gI M1 50 32 = 0 ∧ C1 n s M1 ∧ C2 dep p M1 ∧ C3 t fol fit M1 ∧ C4 dep (updF ch dep (chA (ch dep) (rw dep))) rw M1 ∧ SameBut SM M M1 := by
  obtain ⟨N, r1, r2, r3, r4, r5, r6, r7⟩ := joins_ok hQ
  have hd := r4.1
  obtain ⟨⟨e78, e79, e76⟩, e81, e82, e80⟩ := r6 dep (Nat.le_refl dep)
  unfold fX7_closes
  rw [r1, bV_s, r4.2.1, zald_n (show dep < 9 by omega) (by decide), zald_n (show dep < 9 by omega) (by decide), zast_n (show dep < 9 by omega) (by decide), e76, e80, bz_or, nar_bz, gI_ne (by decide), r4.2.1, lald_n (show dep < 9 by omega) (by decide), lald_n (show dep < 9 by omega) (by decide), last_n (show dep < 9 by omega) (by decide), gJ_setI, gJ_setI, e78, e81, gI_setJ, gI_ne (by decide), r4.2.1, lald_n (show dep < 9 by omega) (by decide), lald_n (show dep < 9 by omega) (by decide), last_n (show dep < 9 by omega) (by decide), gJ_ne (by decide), gJ_setI, gJ_ne (by decide), gJ_setI, e79, e82]
  have sj : SameBut (fun x _ => x == 76 || x == 78 || x == 79) N (setJ (setJ (setI N 76 dep (bz ((ch dep).2.2 || (rw dep).2.2))) 78 dep ((ch dep).1 ||| (rw dep).1)) 79 dep ((ch dep).2.1 ||| (rw dep).2.1)) := ((SameBut.refl.setI rfl).setJ rfl).setJ rfl
  refine ⟨_, rfl, (sj.1 50 32 rfl).trans r2, r3.move sj rfl (fun k => rfl), r4.move sj rfl rfl, r5.move sj rfl (fun k => rfl) (fun k _ => rfl), fun d hd2 => ?_, r7.trans (sj.mono (fun x k q => by unfold SM at q; simp at q ⊢; omega))⟩
  obtain ⟨⟨q1, q2, q3⟩, q4, q5, q6⟩ := r6 d hd2
  refine ⟨?_, (sj.2.1 81 d rfl).trans q4, (sj.2.1 82 d rfl).trans q5, (sj.1 80 d rfl).trans q6⟩
  rw [gJ_ne (by decide), gJ_at, gJ_setI, gJ_at, gJ_ne (by decide), gJ_setI, gI_setJ, gI_setJ, gI_at]
  by_cases c : d = dep
  · rw [if_pos c, if_pos c, if_pos c, c, updF_eq]; exact ⟨rfl, rfl, rfl⟩
  · rw [if_neg c, if_neg c, if_neg c, updF_ne c]; exact ⟨q1, q2, q3⟩
/-! atoms -/
theorem atomY (ht : t < 60) : ∀ (f i : Nat) (M : Mem), i ≤ 4 → 4 < i + f → gI M 50 22 = nI t → ∃ M1, fX7_atom_H2 f (nI i) M = some M1 ∧ gI M1 50 22 = nI (t + 1) ∧ gJ M1 75 t = 0 ∧ (∀ z, i ≤ z → z < 4 → gJ M1 74 (4 * t + z) = 0) ∧ SameBut (fun x k => (x == 50 && k == 22) || (x == 75 && k == t) || (x == 74 && (decide (4 * t + i ≤ k) && decide (k < 4 * t + 4)))) M M1 := by
  intro f
  induction f with
  | zero => intro i M q1 q2; omega
  | succ f ih =>
    intro i M q1 q2 h
    rw [fX7_atom_H2, h]
    by_cases c : 4 ≤ i
    · rw [if_pos (show (4 : Int32) ≤ nI i from nI_le (a := 4) c (by omega)), last_n (show t < 60 by omega) (by decide), lt_eq, gI_setJ, h, show nI t + 1 = nI (t + 1) from nI_add t 1]
      exact ⟨_, rfl, gI_eq, by rw [gJ_setI, gJ_eq], fun z h1 h2 => by omega, (SameBut.refl.setJ (by simp)).setI (by simp)⟩
    · rw [if_neg (show ¬ (4 : Int32) ≤ nI i from nI_ge (b := 4) (by omega) (by omega)), show (4 : Int32) = nI 4 from rfl, pk_mul, nI_add, last_n (show 4 * t + i < 240 by omega) (by decide), lt_eq, show nI i + 1 = nI (i + 1) from nI_add i 1]
      obtain ⟨M1, r1, r2, r3, r4, r5⟩ := ih (i + 1) (setJ M 74 (4 * t + i) 0) (by omega) (by omega) h
      refine ⟨M1, r1, r2, r3, fun z h1 h2 => ?_, (SameBut.refl.setJ (by simp; omega)).trans (r5.mono (fun x k q => by simp at q ⊢; omega))⟩
      by_cases d : z = i
      · rw [r5.2.1 74 (4 * t + z) (by simp; omega), d, gJ_eq]
      · exact r4 z (by omega) h2
theorem atom_ok (hQ : QP n s t fol fit dep ch rw p M) (ht : t < 60) (hf : fol t = 0) : ∃ M1, fX7_atom M = some M1 ∧ QP n s (t + 1) fol (updF fit t (fun _ => false)) dep ch rw p M1 ∧ SameBut SM M M1 := by
  have h22 : gI M 50 22 = nI t := by
    obtain ⟨-, -, h | ⟨-, fol0, rw0, Q, h, -⟩⟩ := hQ
    · exact h.2.1.2.1
    · exact h.2.1
  obtain ⟨M1, r1, r2, r3, r4, r5⟩ := atomY ht FU 0 M (by omega) (by unfold FU; omega) h22
  have sm : SameBut SM M M1 := r5.mono (fun x k q => by unfold SM at q; simp at q ⊢; omega)
  -- the automaton as it grows
  have grow : ∀ fol0 : Nat → Int64, C3 t fol0 fit M → C3 (t + 1) (updF fol0 t 0) (updF fit t (fun _ => false)) M1 := by
    intro fol0 h
    refine ⟨by omega, r2, fun k hk => ?_, fun k hk => ?_⟩
    · by_cases c : k = t
      · rw [c, updF_eq]; exact r3
      · rw [updF_ne c, r5.2.1 75 k (by simp; omega)]; exact h.2.2.1 k (by omega)
    · by_cases c : k = t
      · rw [c, updF_eq]
        intro z hz
        rw [r4 (z / 64) (by omega) (by omega), bit_0]
      · rw [updF_ne c]
        exact (h.2.2.2 k (by omega)).move r5 (fun z hz => by simp; omega)
  obtain ⟨h1, h2, h⟩ := hQ
  refine ⟨M1, r1, ⟨h1.move r5 rfl (fun k => rfl), h2.move r5 rfl rfl, ?_⟩, sm⟩
  rcases h with ⟨h, h3, h4⟩ | ⟨h, fol0, rw0, Q, h3, h4, h5, h6, h7, h8⟩
  · refine Or.inl ⟨(r5.1 50 32 rfl).trans h, (grow fol h3).congr (fun k hk => ?_), h4.move r5 (fun x k g1 g2 => by simp; omega)⟩
    by_cases c : k = t
    · rw [c, updF_eq]; exact hf
    · rw [updF_ne c]
  · refine Or.inr ⟨(r5.1 50 32 rfl).trans h, updF fol0 t 0, rw0, Q, grow fol0 h3, h4.move r5 (fun x k g1 g2 => by simp; omega), h5.move r5 rfl rfl rfl, fun k hk => ?_, h7, fun k hk => h8 k (by omega)⟩
    unfold conA
    by_cases c : k = t
    · rw [c, if_neg (by rw [h8 t (Nat.le_refl t)]; simp), updF_eq]; exact hf
    · have e := h6 k (by omega)
      unfold conA at e
      rw [updF_ne c]
      by_cases d : bit (rw0 dep).2.1 k = true
      · rw [if_pos ⟨by omega, d⟩]
        rw [if_pos ⟨by omega, d⟩] at e
        exact e
      · rw [if_neg (fun z => d z.2)]
        rw [if_neg (fun z => d z.2)] at e
        exact e
def S74 (t : Nat) : Nat → Nat → Bool := fun x k => x == 74 && decide (4 * t ≤ k)
theorem takes_ok {c0 : Nat} (ht : t < 60) (hc : c0 < 256) (h : GT t g M) : ∃ M1, fX7_takes (nI t) (nI c0) M = some M1 ∧ GT t (fun c => g c || c == c0) M1 ∧ SameBut (S74 t) M M1 := by
  unfold fX7_takes
  rw [show (4 : Int32) = nI 4 from rfl, show (64 : Int32) = nI 64 from rfl, pk_rem (by omega) (by omega) (by omega), pk_mul, pk_div (by omega) (by omega) (by omega), nI_add, lald_n (show 4 * t + c0 / 64 < 240 by omega) (by decide), last_n (show 4 * t + c0 / 64 < 240 by omega) (by decide)]
  refine ⟨_, rfl, fun c hc2 => ?_, SameBut.refl.setJ (by unfold S74; simp <;> omega)⟩
  show bit _ _ = (g c || c == c0)
  rw [gJ_at]
  have e := h c hc2
  by_cases d : c / 64 = c0 / 64
  · rw [if_pos (by omega), bit_or1 (by omega), ← d, e]
    by_cases f : c = c0
    · rw [f, decide_eq_true rfl]; simp
    · rw [decide_eq_false (by omega), show (c == c0) = false by simpa using f]
  · rw [if_neg (by omega), e, show (c == c0) = false by (have : ¬ c = c0 := fun z => d (by rw [z]); simpa using this), Bool.or_false]
end
