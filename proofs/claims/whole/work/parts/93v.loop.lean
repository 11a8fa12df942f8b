/-! the two readers go side by side -/
def PD (n : Nat) (s : Nat → Nat) (t : Nat) (fol : Nat → Int64) (fit : Nat → Nat → Bool) (dep : Nat) (ch rw : Nat → Pt) (Q : Pt) (p : Nat) (M : Mem) : Prop := C1 n s M ∧ C2 dep p M ∧ gI M 50 32 = 1 ∧ C3 t fol fit M ∧ C4 dep ch rw M ∧ C5 Q M
def Bd (t : Nat) (fol : Nat → Int64) (fit : Nat → Nat → Bool) (dep : Nat) (ch rw : Nat → Pt) : Prop := (∀ k, t ≤ k → fol k = 0) ∧ (∀ k c, t ≤ k → fit k c = false) ∧ ∀ d k, d ≤ dep → t ≤ k → bit (ch d).2.1 k = false ∧ bit (rw d).2.1 k = false
theorem conA_hi {t k : Nat} {x y : Int64} {fol : Nat → Int64} (h : t ≤ k) : conA t x y fol k = fol k := by unfold conA; rw [if_neg (by omega)]
theorem behA_bd {P Q : Pt} {k : Nat} (h : bit P.2.1 k = false) (g : bit Q.2.1 k = false) : bit (behA P Q).2.1 k = false := by
  unfold behA
  cases Q.2.2
  · exact g
  · show bit (P.2.1 ||| Q.2.1) k = false
    rw [bit_or, h, g]; rfl
theorem chA_bd {P Q : Pt} {k : Nat} (h : bit P.2.1 k = false) (g : bit Q.2.1 k = false) : bit (chA P Q).2.1 k = false := by
  unfold chA
  show bit (P.2.1 ||| Q.2.1) k = false
  rw [bit_or, h, g]; rfl
section
variable {a n : Nat} {s : Nat → Nat} {t : Nat} {fol : Nat → Int64} {fit : Nat → Nat → Bool} {dep : Nat} {ch rw : Nat → Pt} {p : Nat} {M : Mem} {Q : Pt} {g : Nat → Bool}
theorem L162_ok {t0 : Nat} (hQ : QP n s t fol fit dep ch rw p M) : ∃ M1, fX7_plain_L162 (nI t0) M = some (1, M1) ∧ PD n s t fol fit dep ch rw (shl6 1 (nI t0), shl6 1 (nI t0), false) p M1 ∧ SameBut SM M M1 := by
  obtain ⟨N, r1, r2, r3, r4, r5, r6, r7⟩ := joins_ok hQ
  unfold fX7_plain_L162 fX7_piece
  rw [r1, bV_s, sz_1, sz_0, lt_eq, lt_eq, bV_s, zr_1]
  have sj : SameBut (fun x k => x == 50 && (k == 32 || k == 33 || k == 34 || k == 35)) N (setJ (setJ (setI (setI N 50 32 1) 50 33 0) 50 34 (shl6 1 (nI t0))) 50 35 (shl6 1 (nI t0))) := (((SameBut.refl.setI rfl).setI rfl).setJ rfl).setJ rfl
  refine ⟨_, rfl, ⟨r3.move sj rfl (fun _ => rfl), r4.move sj rfl rfl, ?_, r5.move sj rfl (fun _ => rfl) (fun _ _ => rfl), r6.move sj (fun x k _ _ => by simp; omega), ?_, ?_, ?_⟩, r7.trans (sj.mono (fun x k q => by unfold SM at q; simp at q ⊢; omega))⟩
  · rw [gI_setJ, gI_setJ, gI_nk (by decide), gI_eq]
  · rw [gI_setJ, gI_setJ, gI_eq]; rfl
  · rw [gJ_nk (by decide), gJ_eq]
  · rw [gJ_eq]
theorem starY (k19 : Mem → Option (Int32 × Mem)) {c : Nat} {x y : Int64} (hc : c < 256) (h63 : c ≠ 63) (ht : t ≤ 60) : ∀ (f i : Nat) (M : Mem), i ≤ t → t < i + f → gI M 50 22 = nI t → gJ M 50 35 = x → gJ M 50 34 = y → ∃ M1, fX7_reads_H62 k19 f (nI c) (nI i) M = fX7_reads_L112 k19 (nI c) M1 ∧ (∀ k, gJ M1 75 k = if i ≤ k ∧ k < t ∧ bit x k = true then gJ M 75 k ||| y else gJ M 75 k) ∧ SameBut (onl 75) M M1 := by
  intro f
  induction f with
  | zero => intro i M q1 q2; omega
  | succ f ih =>
    intro i M q1 q2 h1 h3 h4
    rw [fX7_reads_H62, h1]
    by_cases d : t ≤ i
    · rw [if_pos (nI_le d (by omega))]
      exact ⟨M, rfl, fun k => by rw [if_neg (by omega)], SameBut.refl⟩
    · rw [if_neg (nI_ge (by omega) (by omega)), if_neg (show ¬ nI c = 63 from fun z => h63 ((nI_eq (b := 63) (by omega) (by omega)).mp z)), lald_n (show i < 60 by omega) (by decide), h3, h4]
      unfold fX7_reads_L104
      rw [last_n (show i < 60 by omega) (by decide), last_n (show i < 60 by omega) (by decide), lt_eq, lt_eq, show nI i + 1 = nI (i + 1) from nI_add i 1]
      have go : ∀ v : Int64, ∃ M1, fX7_reads_H62 k19 f (nI c) (nI (i + 1)) (setJ M 75 i v) = fX7_reads_L112 k19 (nI c) M1 ∧ (∀ k, gJ M1 75 k = if i + 1 ≤ k ∧ k < t ∧ bit x k = true then gJ (setJ M 75 i v) 75 k ||| y else gJ (setJ M 75 i v) 75 k) ∧ SameBut (onl 75) M M1 := fun v => by
        obtain ⟨M1, r1, r2, r3⟩ := ih (i + 1) (setJ M 75 i v) (by omega) (by omega) h1 (by rw [gJ_ne (by decide)]; exact h3) (by rw [gJ_ne (by decide)]; exact h4)
        exact ⟨M1, r1, r2, (SameBut.refl.setJ (onl_t 75 i)).trans r3⟩
      cases hb : bit x i with
      | false =>
        rw [if_neg (fun z => by rw [(tst_s x (by omega)).mp z] at hb; cases hb), or_0]
        obtain ⟨M1, r1, r2, r3⟩ := go (gJ M 75 i)
        refine ⟨M1, r1, fun k => ?_, r3⟩
        rw [r2 k, gJ_at]
        by_cases d : k = i
        · rw [if_neg (by omega), if_pos d, d, if_neg (by rw [hb]; simp)]
        · rw [if_neg d]
          by_cases e : i + 1 ≤ k ∧ k < t ∧ bit x k = true
          · rw [if_pos e, if_pos ⟨by omega, e.2⟩]
          · rw [if_neg e, if_neg (fun z => e ⟨by omega, z.2⟩)]
      | true =>
        rw [if_pos ((tst_s x (by omega)).mpr hb)]
        obtain ⟨M1, r1, r2, r3⟩ := go (gJ M 75 i ||| y)
        refine ⟨M1, r1, fun k => ?_, r3⟩
        rw [r2 k, gJ_at]
        by_cases d : k = i
        · rw [if_neg (by omega), if_pos d, d, if_pos ⟨by omega, by omega, hb⟩]
        · rw [if_neg d]
          by_cases e : i + 1 ≤ k ∧ k < t ∧ bit x k = true
          · rw [if_pos e, if_pos ⟨by omega, e.2⟩]
          · rw [if_neg e, if_neg (fun z => e ⟨by omega, z.2⟩)]
theorem L112_ok (k19 : Mem → Option (Int32 × Mem)) {c : Nat} (hc : c < 256) (hP : PD n s t fol fit dep ch rw Q p M) : ∃ M1, fX7_reads_L112 k19 (nI c) M = k19 M1 ∧ gI M1 50 32 = 0 ∧ C1 n s M1 ∧ C2 dep (p + 1) M1 ∧ C3 t (conA t (rw dep).2.1 Q.1 fol) fit M1 ∧ C4 dep ch (updF rw dep (behA (rw dep) (Q.1, Q.2.1, Q.2.2 || decide (c ≠ 43)))) M1 ∧ SameBut SM M M1 := by
  obtain ⟨h1, h2, h32, h3, h4, h5⟩ := hP
  have l128 : ∀ e : Bool, ∃ M1, fX7_reads_L128 k19 (bz e) (bz Q.2.2) M = k19 M1 ∧ gI M1 50 32 = 0 ∧ C1 n s M1 ∧ C2 dep (p + 1) M1 ∧ C3 t (conA t (rw dep).2.1 Q.1 fol) fit M1 ∧ C4 dep ch (updF rw dep (behA (rw dep) (Q.1, Q.2.1, Q.2.2 || e))) M1 ∧ SameBut SM M M1 := by
    intro e
    unfold fX7_reads_L128 fX7_reads_L324
    rw [bz_or, sz_b]
    have s0 : SameBut (fun x k => x == 50 && k == 33) M (setI M 50 33 (bz (Q.2.2 || e))) := SameBut.refl.setI rfl
    obtain ⟨M1, r1, r2, r3, r4, r5⟩ := joins_p (M := setI M 50 33 (bz (Q.2.2 || e))) (Q := (Q.1, Q.2.1, Q.2.2 || e)) (h2.move s0 rfl rfl) ((s0.1 50 32 rfl).trans h32) (h3.move s0 rfl (fun _ => rfl) (fun _ _ => rfl)) (h4.move s0 (fun x k _ _ => by simp; omega)) ⟨gI_eq, h5.2.1, h5.2.2⟩
    rw [r1, bV_s, lt_eq, r5.1 50 37 rfl, s0.1 50 37 rfl, h2.2.2, show nI p + 1 = nI (p + 1) from nI_add p 1]
    have s1 : SameBut (fun x k => x == 50 && k == 37) M1 (setI M1 50 37 (nI (p + 1))) := SameBut.refl.setI rfl
    have sm : SameBut SM M (setI M1 50 37 (nI (p + 1))) := (((s0.mono (fun x k q => by unfold SM at q; simp at q ⊢; omega)) : SameBut SM M _).trans (SJ_M r5)).trans (s1.mono (fun x k q => by unfold SM at q; simp at q ⊢; omega))
    exact ⟨_, rfl, (s1.1 50 32 rfl).trans r2, h1.move sm rfl (fun _ => rfl), ⟨h2.1, by rw [gI_nk (by decide), r5.1 50 36 rfl, s0.1 50 36 rfl]; exact h2.2.1, gI_eq⟩, r3.move s1 rfl (fun _ => rfl) (fun _ _ => rfl), r4.move s1 (fun x k _ _ => by simp; omega), sm⟩
  unfold fX7_reads_L112
  rw [h5.1]
  by_cases d : c = 43
  · rw [if_pos (show nI c = 43 by rw [d]; rfl), decide_eq_false (by omega)]
    exact l128 false
  · rw [if_neg (show ¬ nI c = 43 from fun z => d ((nI_eq (b := 43) (by omega) (by omega)).mp z)), decide_eq_true d]
    exact l128 true
theorem star_ok (k19 : Mem → Option (Int32 × Mem)) {c : Nat} (hc : c = 42 ∨ c = 43 ∨ c = 63) (hP : PD n s t fol fit dep ch rw Q p M) : ∃ M1, fX7_reads_L53 k19 (nI c) M = k19 M1 ∧ gI M1 50 32 = 0 ∧ C1 n s M1 ∧ C2 dep (p + 1) M1 ∧ C3 t (conA t (rw dep).2.1 Q.1 (if c ≠ 63 then conA t Q.2.1 Q.1 fol else fol)) fit M1 ∧ C4 dep ch (updF rw dep (behA (rw dep) (Q.1, Q.2.1, Q.2.2 || decide (c ≠ 43)))) M1 ∧ SameBut SM M M1 := by
  obtain ⟨h1, h2, h32, h3, h4, h5⟩ := id hP
  unfold fX7_reads_L53
  rw [h32, if_neg n10]
  by_cases d : c = 63
  · rw [if_neg (by omega)]
    have e : fX7_reads_H62 k19 FU (nI c) 0 M = fX7_reads_L112 k19 (nI c) M := by
      show fX7_reads_H62 k19 (99999 + 1) (nI c) 0 M = _
      rw [fX7_reads_H62]
      split
      · rfl
      · rw [if_pos (show nI c = 63 by rw [d]; rfl)]
    rw [e]
    exact L112_ok k19 (by omega) hP
  · rw [if_pos d]
    obtain ⟨N, r1, r2, r3⟩ := starY k19 (c := c) (x := Q.2.1) (y := Q.1) (by omega) d h3.1 FU 0 M (by omega) (by unfold FU; have := h3.1; omega) h3.2.1 h5.2.2 h5.2.1
    rw [show (0 : Int32) = nI 0 from rfl, r1]
    have f0 : ∀ x k, x ≠ 75 → onl 75 x k = false := fun x k h => onl_f h k
    obtain ⟨M1, w⟩ := L112_ok k19 (c := c) (fol := conA t Q.2.1 Q.1 fol) (n := n) (s := s) (t := t) (fit := fit) (dep := dep) (ch := ch) (rw := rw) (p := p) (Q := Q) (M := N) (by omega) ⟨h1.move r3 (f0 _ _ (by omega)) (fun k => f0 _ k (by omega)), h2.move r3 (f0 _ _ (by omega)) (f0 _ _ (by omega)), (r3.1 50 32 (f0 _ _ (by omega))).trans h32, ⟨h3.1, (r3.1 50 22 (f0 _ _ (by omega))).trans h3.2.1, fun k hk => by
      rw [r2 k, h3.2.2.1 k hk]
      unfold conA
      by_cases e : k < t ∧ bit Q.2.1 k = true
      · rw [if_pos e, if_pos ⟨by omega, e⟩]
      · rw [if_neg e, if_neg (fun z => e z.2)], fun k hk => (h3.2.2.2 k hk).move r3 (fun z _ => f0 _ _ (by omega))⟩, h4.move r3 (fun x k _ _ => f0 x k (by omega)), h5.move r3 (f0 _ _ (by omega)) (f0 _ _ (by omega)) (f0 _ _ (by omega))⟩
    obtain ⟨w1, w2, w3, w4, w5, w6, w7⟩ := w
    exact ⟨M1, w1, w2, w3, w4, w5, w6, ((r3.mono (fun x k q => by unfold SM at q; unfold onl; simp at q ⊢; omega)) : SameBut SM M N).trans w7⟩
/-- a piece is there; what stands behind it is read with it -/
theorem after_ok {f : Nat} (hP : PD n s t fol fit dep ch rw Q p M) (hp : p ≤ n) (hf : n < p + f) (hb : ∀ k, t ≤ k → bit (rw dep).2.1 k = false) : ∃ M1 f1, fX7_reads_H19 f M = fX7_reads_H19 f1 M1 ∧ QP n s t (conA t (rw dep).2.1 Q.1 (if agA n s p = true then conA t Q.2.1 Q.1 fol else fol)) fit dep ch (updF rw dep (behA (rw dep) (Q.1, Q.2.1, Q.2.2 || nvA n s p))) (if (agA n s p || nvA n s p) = true then p + 1 else p) M1 ∧ n < (if (agA n s p || nvA n s p) = true then p + 1 else p) + f1 ∧ (if (agA n s p || nvA n s p) = true then p + 1 else p) ≤ n ∧ SameBut SM M M1 ∧ (gI M1 50 32 = 1 → (if (agA n s p || nvA n s p) = true then p + 1 else p) < n → s (if (agA n s p || nvA n s p) = true then p + 1 else p) ≠ 42 ∧ s (if (agA n s p || nvA n s p) = true then p + 1 else p) ≠ 43 ∧ s (if (agA n s p || nvA n s p) = true then p + 1 else p) ≠ 63) := by
  have h1 := hP.1
  have hn := h1.1
  by_cases c : p < n ∧ (s p = 42 ∨ s p = 43 ∨ s p = 63)
  · obtain ⟨c1, c2⟩ := c
    have hl := h1.2.2.1 p
    have ea : agA n s p = decide (s p ≠ 63) := by
      unfold agA
      rw [decide_eq_true c1, Bool.true_and]
      rcases c2 with e | e | e <;> rw [e] <;> rfl
    have en : nvA n s p = decide (s p ≠ 43) := by
      unfold nvA
      rw [decide_eq_true c1, Bool.true_and]
      rcases c2 with e | e | e <;> rw [e] <;> rfl
    have eo : (agA n s p || nvA n s p) = true := by
      rw [ea, en]
      rcases c2 with e | e | e <;> rw [e] <;> rfl
    rw [eo, if_pos rfl]
    obtain ⟨f, rfl⟩ : ∃ f1, f = f1 + 1 := ⟨f - 1, by omega⟩
    obtain ⟨M1, w1, w2, w3, w4, w5, w6, w7⟩ := star_ok (fX7_reads_H19 f) c2 hP
    refine ⟨M1, f, ?_, ⟨w3, w4, Or.inl ⟨w2, ?_, ?_⟩⟩, by omega, by omega, w7, fun q => absurd (w2.symm.trans q) (by decide)⟩
    · rw [fX7_reads_H19, h1.2.1, hP.2.1.2.2, if_neg (nI_ge c1 (by omega)), h1.peek hp hP.2.1.2.2, bI_s, if_pos c1]
      rcases c2 with e | e | e
      · rw [if_pos (show nI (s p) = 42 by rw [e]; rfl)]; exact w1
      · rw [if_neg (show ¬ nI (s p) = 42 by rw [e]; decide), if_pos (show nI (s p) = 43 by rw [e]; rfl)]; exact w1
      · rw [if_neg (show ¬ nI (s p) = 42 by rw [e]; decide), if_neg (show ¬ nI (s p) = 43 by rw [e]; decide), if_pos (show nI (s p) = 63 by rw [e]; rfl)]; exact w1
    · rw [ea]
      simp only [decide_eq_true_eq]
      exact w5
    · rw [en]; exact w6
  · have ea : agA n s p = false := by
      unfold agA
      by_cases d : p < n
      · have : ¬ s p = 42 ∧ ¬ s p = 43 := by constructor <;> (intro e; exact c ⟨d, by simp [e]⟩)
        simp [this.1, this.2]
      · simp [d]
    have en : nvA n s p = false := by
      unfold nvA
      by_cases d : p < n
      · have : ¬ s p = 42 ∧ ¬ s p = 63 := by constructor <;> (intro e; exact c ⟨d, by simp [e]⟩)
        simp [this.1, this.2]
      · simp [d]
    rw [ea, en, if_neg (by decide), if_neg (by decide), Bool.or_false]
    obtain ⟨-, h2, h32, h3, h4, h5⟩ := id hP
    exact ⟨M, f, rfl, ⟨h1, h2, Or.inr ⟨h32, fol, rw, Q, h3, h4, h5, fun k hk => rfl, rfl, hb⟩⟩, hf, hp, SameBut.refl, fun _ q => ⟨fun e => c ⟨q, Or.inl e⟩, fun e => c ⟨q, Or.inr (Or.inl e)⟩, fun e => c ⟨q, Or.inr (Or.inr e)⟩⟩⟩
theorem plain_no {c : Nat} (hc : c < 256) (hQ : QP n s t fol fit dep ch rw p M) (h : t = 60 ∨ c = 124 ∨ c = 42 ∨ c = 43 ∨ c = 63 ∨ c = 93 ∨ c = 41) : fX7_plain (nI c) M = some (0, M) := by
  unfold fX7_plain
  rw [hQ.t22]
  by_cases d : t = 60
  · rw [if_pos (show nI t = 60 by rw [d]; rfl), zr_0]
  · have ht : t ≤ 60 := by
      obtain ⟨-, -, h | ⟨-, fol0, rw0, Q, h, -⟩⟩ := hQ
      · exact h.2.1.1
      · exact h.1
    rw [if_neg (show ¬ nI t = 60 from fun z => d ((nI_eq (b := 60) (by omega) (by omega)).mp z))]
    rcases h with h | h | h | h | h | h | h
    · exact absurd h d
    all_goals (rw [h]; rfl)
/-! the class at its end -/
theorem end_any {q : Nat} (ha : a = 41 ∨ a = 44) (hr : gR M 17 4 = a) (hd : dep ≤ 8) (h5 : gI M 17 5 = nI dep) (h7 : gI M 17 7 = nI q) : ∃ M1, fX4_end_L26 M = some M1 ∧ gI M1 17 7 = nI q ∧ SameBut (SPa a) M M1 := by
  unfold fX4_end_L26
  obtain ⟨M1, r1, r2⟩ := endRow_any (dep := dep) hd h5
  rw [r1, bV_s, r2.2.2 17 4 rfl, hr, ga_k (kd_a ha), show (0 : Int32) = nI 0 from rfl, al20 (by omega), al20 (by omega)]
  unfold fX0_setEdges
  rw [lt_eq, lt_eq, bV_s]
  have e : ∀ k, SPa a a k = true := fun k => SPa_au ha a k (by omega)
  refine ⟨_, rfl, ?_, ((up_pt r2).setJ (e 3)).setJ (e 4)⟩
  show gI M1 17 7 = _
  rw [r2.1 17 7 rfl]; exact h7
theorem L164_f {q : Nat} (ha : a = 41 ∨ a = 44) (hr : gR M 17 4 = a) (hd : dep ≤ 8) (h5 : gI M 17 5 = nI dep) (h7 : gI M 17 7 = nI q) (hq : q < 2 ^ 31) : ∃ M1, fX4_readFrom_L164 1 M = some (nI q, M1) ∧ SameBut (SPa a) M M1 := by
  obtain ⟨M1, r1, r2, r3⟩ := end_any ha hr hd h5 h7
  unfold fX4_readFrom_L164 fX4_end
  rw [h7, if_neg (nm1 hq), r1, bV_s, r2]
  exact ⟨M1, rfl, r3⟩
theorem H7_f {q f : Nat} {x2 : Int32} (h7 : gI M 17 7 = nI q) (hq : q < 2 ^ 31) : fX4_readFrom_H7 1 (f + 1) x2 M = fX4_readFrom_L164 1 M := by
  rw [fX4_readFrom_H7, fX5_size, bI_s, h7, if_neg (nm1 hq)]
  split
  · rfl
  · split <;> rfl
theorem L164_ok (hQ : QX a n s t fol fit 0 ch rw p M) : ∃ M1, fX4_readFrom_L164 1 M = some (-1, M1) ∧ B3 a t fol fit M1 ∧ gJ M1 a 3 = (chA (ch 0) (rw 0)).1 ∧ gJ M1 a 4 = (chA (ch 0) (rw 0)).2.1 ∧ SameBut (SPa a) M M1 := by
  obtain ⟨h1, h2, h3, h4⟩ := hQ
  have ha := h1.1
  unfold fX4_readFrom_L164 fX4_end
  rw [h2.2.2.2, if_pos rfl, h2.2.1, if_pos (show nI 0 ≤ 0 by decide)]
  unfold fX4_end_L26
  obtain ⟨M1, r1, r2, r3⟩ := endRow_ok h2 h4
  rw [r1, bV_s, r3.2.2 17 4 rfl, h1.2.1, ga_k (kd_a ha), show (0 : Int32) = nI 0 from rfl, al20 (by omega), al20 (by omega)]
  have e0 := (r2 0 (Nat.le_refl 0)).1
  rw [updF_eq] at e0
  unfold fX0_setEdges
  rw [lt_eq, lt_eq, bV_s, bV_s]
  have e : ∀ k, SPa a a k = true := fun k => SPa_au ha a k (by omega)
  have b3 := h3.move r3 (fun x k _ _ => SPt_f (by omega) k)
  refine ⟨setJ (setJ M1 a 3 (gJ M1 (21 + 0) 0)) a 4 (gJ M1 (21 + 0) 1), ?_, ⟨b3.1, b3.2.1, fun k hk => ?_, fun c k hc => ?_⟩, ?_, ?_, ((up_pt r3).setJ (e 3)).setJ (e 4)⟩
  · rw [show gI (setJ (setJ M1 a 3 (gJ M1 (21 + 0) 0)) a 4 (gJ M1 (21 + 0) 1)) 17 7 = gI M1 17 7 from rfl, r3.1 17 7 rfl, h2.2.2.2]
  · rw [gJ_ne (by omega), gJ_ne (by omega)]; exact b3.2.2.1 k hk
  · rw [gJ_ne (by omega), gJ_ne (by omega)]; exact b3.2.2.2 c k hc
  · rw [gJ_nk (by decide), gJ_eq]; exact e0.1
  · rw [gJ_eq]; exact e0.2.1
end
