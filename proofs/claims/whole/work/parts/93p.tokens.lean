/-! matches one after the other, and tokens -/
theorem mrun_le {pl n t : Nat} {b : Nat → Nat} {ft B : Nat → Int64} {en : Int64} : ∀ (d at_ best : Nat) (op : Int64), pl ≤ at_ → at_ + d = n → best ≤ n - pl → mrun pl b t ft B en d at_ best op ≤ n - pl := by
  intro d
  induction d with
  | zero => intro at_ best op _ _ hb; exact hb
  | succ d ih =>
    intro at_ best op w1 w2 w3
    rw [mrun]
    by_cases c : op = 0
    · rw [if_pos c]; exact w3
    · rw [if_neg c]
      refine ih _ _ _ (by omega) (by omega) ?_
      split <;> omega
def mvE (n : Nat) (b : Nat → Nat) (t : Nat) (ft B : Nat → Int64) (en fi : Int64) (i : Nat) : Nat := mrun i b t ft B en (n - i) i 0 fi
theorem mvE_le {n : Nat} {b : Nat → Nat} {t : Nat} {ft B : Nat → Int64} {en fi : Int64} {i : Nat} (hi : i ≤ n) : mvE n b t ft B en fi i ≤ n - i := mrun_le _ _ _ _ (Nat.le_refl i) (by omega) (by omega)
def AX (a t : Nat) (ft B : Nat → Int64) (en fi : Int64) (M : Mem) : Prop := (a = 41 ∨ a = 44) ∧ t ≤ 60 ∧ gR M 0 5 = a ∧ gI M a 2 = nI t ∧ gJ M (a + 1) = ft ∧ gJ M (a + 2) = B ∧ gJ M a 4 = en ∧ gJ M a 3 = fi
def AY (t : Nat) (ft B : Nat → Int64) (en fi : Int64) (M : Mem) : Prop := t ≤ 60 ∧ gI M 50 17 = nI t ∧ (∀ k, k < t → B k = gJ M 70 k) ∧ gJ M 50 21 = en ∧ gJ M 50 20 = fi ∧ ∀ c k, c < 256 → bit (ft c) k = (decide (k < t) && bit (gJ M 69 (4 * k + c / 64)) (c % 64))
theorem AX.move {a t : Nat} {ft B : Nat → Int64} {en fi : Int64} {M M1 : Mem} {S : Nat → Nat → Bool} (h : AX a t ft B en fi M) (hs : SameBut S M M1) (h0 : S 0 5 = false) (h1 : ∀ a k, 41 ≤ a → a ≤ 46 → S a k = false) : AX a t ft B en fi M1 := by
  obtain ⟨q1, q2, q3, q4, q5, q6, q7, q8⟩ := h
  have r : 41 ≤ a ∧ a + 2 ≤ 46 := by omega
  exact ⟨q1, q2, (hs.2.2 0 5 h0).trans q3, (hs.1 a 2 (h1 a 2 (by omega) (by omega))).trans q4, (funext fun k => hs.2.1 (a + 1) k (h1 _ k (by omega) (by omega))).trans q5, (funext fun k => hs.2.1 (a + 2) k (h1 _ k (by omega) (by omega))).trans q6, (hs.2.1 a 4 (h1 a 4 (by omega) (by omega))).trans q7, (hs.2.1 a 3 (h1 a 3 (by omega) (by omega))).trans q8⟩
theorem AY.move {t : Nat} {ft B : Nat → Int64} {en fi : Int64} {M M1 : Mem} {S : Nat → Nat → Bool} (h : AY t ft B en fi M) (hs : SameBut S M M1) (h0 : S 50 17 = false ∧ S 50 20 = false ∧ S 50 21 = false) (h1 : ∀ k, S 69 k = false ∧ S 70 k = false) : AY t ft B en fi M1 := by
  obtain ⟨q1, q2, q3, q4, q5, q6⟩ := h
  exact ⟨q1, (hs.1 50 17 h0.1).trans q2, fun k hk => (q3 k hk).trans (hs.2.1 70 k (h1 k).2).symm, (hs.2.1 50 21 h0.2.2).trans q4, (hs.2.1 50 20 h0.2.1).trans q5, fun c k hc => by rw [hs.2.1 69 _ (h1 _).1]; exact q6 c k hc⟩
theorem SF_au (a k : Nat) (h1 : 41 ≤ a) (h2 : a ≤ 46) : SF a k = false := by unfold SF; simp; omega
theorem mX {a t n i : Nat} {b : Nat → Nat} {ft B : Nat → Int64} {en fi : Int64} {M : Mem} (hA : AX a t ft B en fi M) (hT : TX n b M) (hi : i ≤ n) : fX0_longestFrom a 3 (nI i) M = some (nI (mvE n b t ft B en fi i), M) := by
  obtain ⟨q1, q2, q3, q4, q5, q6, q7, q8⟩ := hA
  have hn := hT.1
  have hk : kd a = 0 := by rcases q1 with rfl | rfl <;> rfl
  unfold fX0_longestFrom mvE
  rw [lt_eq, show (0 : Int32) = nI 0 from rfl, longX hk q2 hn q4 hT.2.1 FU i 0 _ (by omega) hi (by unfold FU; omega), hT.eqf, q5, q6, q7, q8]
theorem mY {t n i : Nat} {b : Nat → Nat} {ft B : Nat → Int64} {en fi : Int64} {M : Mem} (hA : AY t ft B en fi M) (hT : TY n b M) (hi : i ≤ n) : fX7_matches (nI i) M = some (nI (mvE n b t ft B en fi i), M) := by
  obtain ⟨q1, q2, q3, q4, q5, q6⟩ := hA
  obtain ⟨t1, t2, t3, t4⟩ := hT
  unfold fX7_matches mvE
  rw [lt_eq, show (0 : Int32) = nI 0 from rfl, longY (ft := ft) (b := b) q1 t1 t3 q2 t2 t4 q6 FU i 0 _ (by omega) hi (by unfold FU; omega), mrun_congr (fun k hk => (q3 k hk).symm), q4, q5]
def mtE (n : Nat) (v : Nat → Nat) (i : Nat) : List (Nat × Nat) :=
  if h : i < n then (if h2 : 0 < v i then (i, i + v i) :: mtE n v (i + v i) else mtE n v (i + 1)) else []
termination_by n - i
theorem mtE_end {n : Nat} {v : Nat → Nat} {i : Nat} (h : n ≤ i) : mtE n v i = [] := by rw [mtE, dif_neg (by omega)]
theorem mtE_t {n : Nat} {v : Nat → Nat} {i : Nat} (h : i < n) (h2 : 0 < v i) : mtE n v i = [(i, i + v i)] ++ mtE n v (i + v i) := by rw [mtE, dif_pos h, dif_pos h2]; rfl
theorem mtE_f {n : Nat} {v : Nat → Nat} {i : Nat} (h : i < n) (h2 : ¬ 0 < v i) : mtE n v i = mtE n v (i + 1) := by rw [mtE, dif_pos h, dif_neg h2]
section
variable {sh : Bool} {lim : Nat} {rule : Bool} {n w st : Nat} {len cst : Nat → Nat} {L : Nat → Nat → Nat} {b : Nat → Nat} {lk : Bool}
theorem mtX {a t : Nat} {ft B : Nat → Int64} {en fi : Int64} : ∀ (f i : Nat) (σ : TS) (M : Mem), i ≤ n → n < i + f → PX sh lim rule M → TX n b M → AX a t ft B en fi M → RX σ M → OX sh lim rule SF (mtE n (mvE n b t ft B en fi) i) σ M (fX6_cutMatches_H2 f (nI i) M) := by
  intro f
  induction f with
  | zero => intro i σ M q1 q2; omega
  | succ f ih =>
    intro i σ M q1 q2 hP hT hA hR
    have hn := hT.1
    rw [fX6_cutMatches_H2, fX5_size, bI_s, hT.2.1]
    by_cases c : n ≤ i
    · rw [if_pos (nI_le c (by omega)), mtE_end c]
      exact OX.nil hR
    · have hk : kd a = 0 := by rcases hA.1 with rfl | rfl <;> rfl
      have hv := mvE_le (n := n) (b := b) (t := t) (ft := ft) (B := B) (en := en) (fi := fi) (i := i) (by omega)
      rw [if_neg (nI_ge (by omega) (by omega)), hA.2.2.1, ga_k hk, mX hA hT (by omega), bI_s]
      unfold fX6_cutMatches_L41
      by_cases d : 0 < mvE n b t ft B en fi i
      · rw [mtE_t (by omega) d]
        generalize mvE n b t ft B en fi i = v at d hv ⊢
        simp only [lt_eq]
        rw [if_neg (nI_nle d (by omega)), nI_add, show mmax_ 1 (nI v) = nI v by (rw [show (1 : Int32) = nI 1 from rfl, max_ok (by omega) (by omega), Nat.max_eq_right (by omega)]), nI_add]
        exact (OX.one (p := i) (e := i + v) (by omega) (by omega) hP hR).bind (fun M1 r1 s1 => ih (i + v) _ M1 (by omega) (by omega) (hP.move s1) (hT.move s1) (hA.move s1 rfl SF_au) r1)
      · rw [mtE_f (by omega) d, show mvE n b t ft B en fi i = 0 by omega, if_pos (show nI 0 ≤ 0 by decide), lt_eq, show mmax_ 1 (nI 0) = nI 1 by decide, nI_add]
        exact ih (i + 1) σ M (by omega) (by omega) hP hT hA hR
theorem RW3 {a m pl en : Nat} : RW lk n w st len cst L b a m 3 pl en = [(pl, en)] := by unfold RW rowE; simp
theorem SY_au : SY 50 17 = false ∧ SY 50 20 = false ∧ SY 50 21 = false := ⟨rfl, rfl, rfl⟩
theorem mtY {t : Nat} {x2 x3 : Int32} {ft B : Nat → Int64} {en fi : Int64} : ∀ (f i : Nat) (σ : TS) (M : Mem), i ≤ n → n < i + f → PY sh lim rule M → DY n w st len cst L b M → gI M 50 9 = bz lk → gI M 50 42 = nI 3 → AY t ft B en fi M → RY σ M → OZ n sh lim rule (mtE n (mvE n b t ft B en fi) i) σ M (fX7_tokens_H73 f (nI 3) x2 x3 (nI i) M) := by
  intro f
  induction f with
  | zero => intro i σ M q1 q2; omega
  | succ f ih =>
    intro i σ M q1 q2 hP hD hL hW hA hR
    have hT := hD.ty
    have hn := hT.1
    rw [fX7_tokens_H73, hT.2.1]
    by_cases c : n ≤ i
    · rw [if_pos (nI_le c (by omega)), mtE_end c]
      exact ⟨M, rfl, hR, SameBut.refl, fun q hq => absurd hq (by simp)⟩
    · have hv := mvE_le (n := n) (b := b) (t := t) (ft := ft) (B := B) (en := en) (fi := fi) (i := i) (by omega)
      rw [if_neg (nI_ge (by omega) (by omega)), if_pos (show nI 3 = 3 from rfl), mY hA hT (by omega), bI_s, lt_eq, nI_add]
      unfold fX7_tokens_L129 fX7_tokens_L146 fX7_tokens_L162
      by_cases d : 0 < mvE n b t ft B en fi i
      · rw [mtE_t (by omega) d]
        generalize mvE n b t ft B en fi i = v at d hv ⊢
        simp only [if_neg (nI_ge (show i < i + v by omega) (show i + v < 2 ^ 31 by omega))]
        have h := rwY (lk := lk) (sh := sh) (lim := lim) (rule := rule) (a := 0) (m := 0) (way := 3) (pl := i) (en := i + v) (x4 := x2) (x5 := x3) (by omega) (by omega) (by omega) hL hW (fun q => by omega) hP hD hR
        rw [RW3] at h
        exact OZ.bind h (fun M1 r1 s1 => ih (i + v) _ M1 (by omega) (by omega) (hP.moveY s1) (hD.moveY s1) ((s1.1 50 9 rfl).trans hL) ((s1.1 50 42 rfl).trans hW) (hA.move s1 SY_au (fun k => ⟨rfl, rfl⟩)) r1)
      · rw [mtE_f (by omega) d, show i + mvE n b t ft B en fi i = i by omega, if_pos (nI_le (Nat.le_refl i) (by omega)), if_pos (nI_le (Nat.le_refl i) (by omega)), show nI i + 1 = nI (i + 1) from nI_add i 1]
        exact ih (i + 1) σ M (by omega) (by omega) hP hD hL hW hA hR
end
/-! what is laid down lies in the text -/
def WFt (n : Nat) (σ : TS) : Prop := ∀ j, j < σ.1 → (σ.2.2.2.2 j).1 ≤ (σ.2.2.2.2 j).2.1 ∧ (σ.2.2.2.2 j).2.1 ≤ n
theorem putA_wf {n p e : Nat} {σ : TS} (hp : p ≤ e) (he : e ≤ n) (h : WFt n σ) : WFt n (putA p e σ) := by
  unfold putA
  by_cases c : σ.1 < 400
  · rw [if_pos c]
    intro j hj
    have hj : j < σ.1 + 1 := hj
    show ((if j = σ.1 then (p, e, σ.2.2.1) else σ.2.2.2.2 j).1 ≤ (if j = σ.1 then (p, e, σ.2.2.1) else σ.2.2.2.2 j).2.1) ∧ (if j = σ.1 then (p, e, σ.2.2.1) else σ.2.2.2.2 j).2.1 ≤ n
    by_cases d : j = σ.1
    · rw [if_pos d]; exact ⟨hp, he⟩
    · rw [if_neg d]; exact h j (by omega)
  · rw [if_neg c]; exact h
theorem incA_wf {n : Nat} {σ : TS} (h : WFt n σ) : WFt n (incA σ) := h
theorem lastA_wf {n p : Nat} {σ : TS} (h : WFt n σ) : WFt n (lastA p σ) := h
theorem cutA_wf {n : Nat} {sh : Bool} {lim p e : Nat} (he : e ≤ n) : ∀ (d fr : Nat) (σ : TS), WFt n σ → WFt n (cutA sh lim p e d fr σ) := by
  intro d
  induction d with
  | zero => intro fr σ h; exact h
  | succ d ih =>
    intro fr σ h
    rw [cutA]
    by_cases c : e ≤ fr ∨ σ.2.1 = true
    · rw [if_pos c]; exact h
    · rw [if_neg c]
      refine ih _ _ (putA_wf (by omega) (by omega) ?_)
      split
      · exact incA_wf h
      · exact h
theorem addA_wf {n : Nat} {sh : Bool} {lim : Nat} {rule : Bool} {p e : Nat} {σ : TS} (hp : p ≤ e) (he : e ≤ n) (h : WFt n σ) : WFt n (addA sh lim rule p e σ) := by
  unfold addA
  by_cases c : σ.2.1 = true
  · rw [if_pos c]; exact h
  · rw [if_neg c]
    dsimp only
    have h2 : WFt n (lastA p (if sh = true ∧ nI p = σ.2.2.2.1 then σ else incA σ)) := by
      apply lastA_wf
      split
      · exact h
      · exact incA_wf h
    split
    · exact putA_wf hp he h2
    · split
      · exact cutA_wf he _ _ _ h2
      · exact h2
theorem addsA_wf {n : Nat} {sh : Bool} {lim : Nat} {rule : Bool} : ∀ (E : List (Nat × Nat)) (σ : TS), (∀ q ∈ E, q.1 ≤ q.2 ∧ q.2 ≤ n) → WFt n σ → WFt n (addsA sh lim rule E σ) := by
  intro E
  induction E with
  | nil => intro σ _ h; exact h
  | cons q E ih =>
    intro σ hE h
    rw [addsA]
    exact ih _ (fun z hz => hE z (List.mem_cons_of_mem q hz)) (addA_wf (hE q List.mem_cons_self).1 (hE q List.mem_cons_self).2 h)
def SX1 : Nat → Nat → Bool := fun a k => SX a k || (a == 5 && k == 7)
def SY1 : Nat → Nat → Bool := fun a k => SY a k || (a == 50 && k == 42)
theorem SX1_SX {a k : Nat} (h : SX1 a k = false) : SX a k = false := by unfold SX1 at h; exact (Bool.or_eq_false_iff.mp h).1
theorem SY1_SY {a k : Nat} (h : SY1 a k = false) : SY a k = false := by unfold SY1 at h; exact (Bool.or_eq_false_iff.mp h).1
theorem SX1_au (a k : Nat) (h1 : 41 ≤ a) (h2 : a ≤ 46) : SX1 a k = false := by unfold SX1 SX SF SD; simp; omega
theorem Rel.keepTok {Mx My Mx1 My1 : Mem} (h : Rel Mx My) (ht : RTx Mx1 My1) (hx : SameBut SX1 Mx Mx1) (hy : SameBut SY1 My My1) : Rel Mx1 My1 := by
  obtain ⟨h1, -, h3, h4, h5⟩ := h
  refine ⟨h1.move (hx.1 1 1 rfl) (fun k => hx.1 2 k rfl) (hy.1 50 1 rfl) (fun k => hy.1 51 k rfl), ht, h3.move (hx.1 9 3 rfl) (fun k => hx.1 10 k rfl) (fun k => hx.1 11 k rfl) (fun k => hx.1 12 k rfl) (hy.1 50 4 rfl) (fun k => hy.1 56 k rfl) (fun k => hy.1 57 k rfl) (fun k => hy.1 58 k rfl), h4.move (hx.1 9 4 rfl) (hx.1 0 6 rfl) (hx.1 5 5 rfl) (hx.1 5 6 rfl) (hy.1 50 8 rfl) (hy.1 50 9 rfl) (hy.1 50 10 rfl) (hy.1 50 11 rfl), ?_⟩
  obtain ⟨a, a2, q1, q2, q3, -⟩ := id h5
  refine h5.move (hx.2.2 0 5 rfl) (hx.2.2 17 4 rfl) (fun k => hx.1 _ k ?_) (fun a k q4 q5 _ _ _ => hx.2.1 a k (SX1_au a k q4 q5)) (hy.1 50 17 rfl) (hy.2.1 50 20 rfl) (hy.2.1 50 21 rfl) (fun k => hy.2.1 69 k rfl) (fun k => hy.2.1 70 k rfl)
  rw [q2]; rcases q1 with ⟨rfl, -⟩ | ⟨rfl, -⟩ <;> rfl
theorem tok_end {Mx My M1 M2 : Mem} {n : Nat} {σ : TS} (hR : Rel Mx My) (hn : gI Mx 3 1 = nI n) (hn2 : n ≤ 300) (r1 : RX σ M1) (r2 : RY σ M2) (s1 : SameBut SX1 Mx M1) (s2 : SameBut SY1 My M2) (hw : WFt n σ) : ∃ v Mx1 My1, fX6_tokens_L102 M1 = some (v, Mx1) ∧ finY M2 = some (v, My1) ∧ Rel Mx1 My1 := by
  obtain ⟨n1, t1, t2, t3, t4, -⟩ := id hR.2.1
  have e : n1 = n := (nI_eq (by omega) (by omega)).mp (t2.symm.trans hn)
  subst e
  unfold fX6_tokens_L102 finY
  rw [over_ok r1, bI_s]
  cases o : σ.2.1 with
  | true =>
    obtain ⟨a1, a2⟩ := r1.1 o
    obtain ⟨b1, b2⟩ := r2.1 o
    rw [if_neg (show ¬ bz true = 0 from n10), show fX2_clear M1 = some (setI (setI M1 5 3 0) 5 4 0) from rfl, bV_s, b1, if_neg n10]
    unfold fX7_tokens_L183
    rw [lt_eq, gI_nk (by decide), b1, if_neg n10]
    have x1 : SameBut SX1 Mx (setI (setI M1 5 3 0) 5 4 0) := (s1.setI rfl).setI rfl
    have y1 : SameBut SY1 My (setI M2 50 12 0) := s2.setI rfl
    refine ⟨_, _, _, rfl, rfl, hR.keepTok ⟨n1, t1, (x1.1 3 1 rfl).trans t2, (y1.1 50 3 rfl).trans t3, fun j hj => ?_, 0, by omega, ?_, ?_, fun j hj => absurd hj (by omega)⟩ x1 y1⟩
    · rw [y1.1 53 j rfl, t4 j hj, bt_congr (o := 3) (fun k => x1.1 4 k rfl)]
    · rw [gI_nk (by decide), gI_eq]; rfl
    · rw [gI_eq]; rfl
  | false =>
    obtain ⟨a1, a2, a3, a4, a5, a6⟩ := r1.2 o
    obtain ⟨b1, b2, b3, b4, b5, b6⟩ := r2.2 o
    rw [if_pos (show bz false = 0 from rfl), fX2_size, bI_s, a2, b1, if_pos z00, b2]
    unfold fX7_tokens_L183
    rw [lt_eq, gI_nk (by decide), b1, if_pos z00, gI_eq]
    have y1 : SameBut SY1 My (setI M2 50 12 (nI σ.1)) := s2.setI rfl
    refine ⟨_, _, _, rfl, rfl, hR.keepTok ⟨n1, t1, (s1.1 3 1 rfl).trans t2, (y1.1 50 3 rfl).trans t3, fun j hj => ?_, σ.1, a3, a2, gI_eq, fun j hj => ?_⟩ s1 y1⟩
    · rw [y1.1 53 j rfl, t4 j hj, bt_congr (o := 3) (fun k => s1.1 4 k rfl)]
    · obtain ⟨w1, w2⟩ := hw j hj
      obtain ⟨c1, c2, c3⟩ := a6 j hj
      obtain ⟨d1, d2, d3⟩ := b6 j hj
      refine ⟨_, _, w1, w2, c1, ?_, c2, ?_, ?_⟩
      · rw [gI_ne (by decide)]; exact d1
      · rw [gI_ne (by decide)]; exact d2
      · rw [gI_ne (by decide)]; exact d3.trans c3.symm
theorem DX.move1 {n w st : Nat} {len cst : Nat → Nat} {L : Nat → Nat → Nat} {b : Nat → Nat} {M M1 : Mem} (h : DX n w st len cst L b M) (hs : SameBut SX1 M M1) : DX n w st len cst L b M1 := by
  obtain ⟨h1, h2, h3, h4, h5, h6, h7, h8, h9, h10⟩ := h
  refine ⟨h1, (hs.1 3 1 rfl).trans h2, h3, (hs.1 9 3 rfl).trans h4, h5, h6, (hs.1 9 4 rfl).trans h7, fun k hk => ?_, fun k j => ?_, fun j => ?_⟩
  · obtain ⟨q1, q2, q3, q4, q5, q6⟩ := h8 k hk
    exact ⟨q1, q2, (hs.1 11 k rfl).trans q3, q4, q5, (hs.1 12 k rfl).trans q6⟩
  · rw [bt_congr (o := 9) (fun k => hs.1 10 k rfl)]; exact h9 k j
  · rw [bt_congr (o := 3) (fun k => hs.1 4 k rfl)]; exact h10 j
theorem DY.move1 {n w st : Nat} {len cst : Nat → Nat} {L : Nat → Nat → Nat} {b : Nat → Nat} {M M1 : Mem} (h : DY n w st len cst L b M) (hs : SameBut SY1 M M1) : DY n w st len cst L b M1 := by
  obtain ⟨h1, h2, h3, h4, h5, h6, h7, h8, h9, h10, h11⟩ := h
  refine ⟨h1, (hs.1 50 3 rfl).trans h2, h3, (hs.1 50 4 rfl).trans h4, h5, h6, (hs.1 50 8 rfl).trans h7, fun k hk => ?_, fun k j hk hj => (hs.1 56 _ rfl).trans (h9 k j hk hj), fun j hj => (hs.1 53 j rfl).trans (h10 j hj), h11⟩
  obtain ⟨q1, q2, q3, q4, q5, q6⟩ := h8 k hk
  exact ⟨q1, q2, (hs.1 57 k rfl).trans q3, q4, q5, (hs.1 58 k rfl).trans q6⟩
theorem cl_way {lk : Bool} {n w st : Nat} {len cst : Nat → Nat} {L : Nat → Nat → Nat} {b : Nat → Nat} {a m way : Nat} : clE n (KC lk n b way) (rowE n w st len cst L b a m way) 0 = scE n (KM lk n b way) (RW lk n w st len cst L b a m way) 0 := by
  unfold KM RW
  by_cases c : way = 2 ∧ lk = true
  · obtain ⟨rfl, rfl⟩ := id c
    rw [if_pos c, if_pos c, show rowE n w st len cst L b a m 2 = oneE by (funext p e; unfold rowE oneE; simp)]
    exact (cl_links n).1 0 (by omega) (Or.inl rfl)
  · rw [if_neg c, if_neg c, show KC lk n b way = fun _ => KK n b way by (funext i; unfold KC; rw [if_neg (fun q => c ⟨q.1, q.2.1⟩)])]
    exact cl_sc n 0 (by omega)
def beX (sh : Bool) (M : Mem) : Mem := setI (setI (setI (setI (setI M 5 3 0) 5 4 0) 5 7 (bz sh)) 5 8 (-1)) 5 9 (-1)
def beY (way : Nat) (M : Mem) : Mem := setI (setI (setI (setI (setI M 50 42 (nI way)) 50 12 0) 50 13 0) 50 43 (-1)) 50 44 (-1)
def sg0 : TS := (0, false, -1, -1, fun _ => (0, 0, 0))
theorem beX_s (sh : Bool) (M : Mem) : SameBut SX1 M (beX sh M) := ((((SameBut.refl.setI rfl).setI rfl).setI rfl).setI rfl).setI rfl
theorem beY_s (way : Nat) (M : Mem) : SameBut SY1 M (beY way M) := ((((SameBut.refl.setI rfl).setI rfl).setI rfl).setI rfl).setI rfl
theorem beX_r (sh : Bool) (M : Mem) : RX sg0 (beX sh M) := by
  refine ⟨fun q => absurd q (by decide), fun _ => ⟨?_, ?_, by decide, ?_, gI_eq, fun j hj => absurd hj (Nat.not_lt_zero j)⟩⟩
  · unfold beX; rw [gI_nk (by decide), gI_nk (by decide), gI_nk (by decide), gI_eq]
  · unfold beX; rw [gI_nk (by decide), gI_nk (by decide), gI_nk (by decide), gI_nk (by decide), gI_eq]; rfl
  · unfold beX; rw [gI_nk (by decide), gI_eq]; rfl
theorem beY_r (way : Nat) (M : Mem) : RY sg0 (beY way M) := by
  refine ⟨fun q => absurd q (by decide), fun _ => ⟨?_, ?_, by decide, ?_, gI_eq, fun j hj => absurd hj (Nat.not_lt_zero j)⟩⟩
  · unfold beY; rw [gI_nk (by decide), gI_nk (by decide), gI_eq]
  · unfold beY; rw [gI_nk (by decide), gI_nk (by decide), gI_nk (by decide), gI_eq]; rfl
  · unfold beY; rw [gI_nk (by decide), gI_eq]; rfl
theorem tok_core {Mx My : Mem} (hR : Rel Mx My) {x2 x3 : Int32} {way a m : Nat} (hw : way ≤ 8) (hx : way = 5 ∨ way = 6 → x2 = nI a ∧ x3 = nI m ∧ a ≤ m ∧ m ≤ 300) : ∃ v Mx1 My1, fX6_tokens_L80 (nI way) x2 x3 (bz (decide (4 ≤ way ∧ way ≤ 6))) Mx = some (v, Mx1) ∧ fX7_tokens_L45 (nI way) x2 x3 My = some (v, My1) ∧ Rel Mx1 My1 := by
  obtain ⟨n, w, st, len, cst, hDX, hDY⟩ := hR.dict
  obtain ⟨-, ⟨lk, l1, l2⟩, ⟨lim, m1, m2, m3, m4⟩, ⟨rule, u1, u2⟩⟩ := id hR.2.2.2.1
  generalize hsh : decide (4 ≤ way ∧ way ≤ 6) = sh
  have sx := beX_s sh Mx
  have sy := beY_s way My
  have rx := beX_r sh Mx
  have ry := beY_r way My
  have px : PX sh lim rule (beX sh Mx) := ⟨m1, m2, (sx.1 5 5 rfl).trans m3, (sx.1 5 6 rfl).trans u1, by unfold beX; rw [gI_nk (by decide), gI_nk (by decide), gI_eq]⟩
  have yw : gI (beY way My) 50 42 = nI way := by unfold beY; rw [gI_nk (by decide), gI_nk (by decide), gI_nk (by decide), gI_nk (by decide), gI_eq]
  have py : PY sh lim rule (beY way My) := by
    refine ⟨m1, m2, (sy.1 50 10 rfl).trans m4, (sy.1 50 11 rfl).trans u2, ?_⟩
    rw [yw, ← hsh, decide_eq_true_iff]
    have h4 : (4 : Int32) ≤ nI way ↔ 4 ≤ way := nI_leI (a := 4) (by omega) (by omega)
    have h6 : nI way ≤ (6 : Int32) ↔ way ≤ 6 := nI_leI (b := 6) (by omega) (by omega)
    rw [h4, h6]
  have dx := hDX.move1 sx
  have dy := hDY.move1 sy
  have lx := (sx.1 0 6 rfl).trans l1
  have ly := (sy.1 50 9 rfl).trans l2
  have hn := hDX.1
  have hn1 := hDX.2.1
  have w0 : WFt n sg0 := fun j hj => absurd hj (Nat.not_lt_zero j)
  unfold fX6_tokens_L80 fX7_tokens_L45 fX2_begin
  rw [show fX2_clear Mx = some (setI (setI Mx 5 3 0) 5 4 0) from rfl, bV_s, sz_b, lt_eq, lt_eq, bV_s, lt_eq, lt_eq, sz_0, lt_eq, lt_eq]
  show ∃ v Mx1 My1, (if nI way = 3 then (bV_ (fX6_cutMatches (beX sh Mx)) fun M_11 => fX6_tokens_L102 M_11) else (bV_ (fX6_cutRows (nI way) x2 x3 (beX sh Mx)) fun M_3 => fX6_tokens_L102 M_3)) = some (v, Mx1) ∧ fX7_tokens_H73 FU (nI way) x2 x3 0 (beY way My) = some (v, My1) ∧ Rel Mx1 My1
  have e3 : nI way = 3 ↔ way = 3 := nI_eq (b := 3) (by omega) (by omega)
  by_cases c3 : way = 3
  · subst c3
    rw [if_pos (show nI 3 = 3 from rfl)]
    obtain ⟨A, A2, h1, h2, h3, t, h4, h5, h6, h7, h8, h9, h10⟩ := id hR.2.2.2.2
    have ax : AX A t (gJ Mx (A + 1)) (gJ Mx (A + 2)) (gJ Mx A 4) (gJ Mx A 3) (beX sh Mx) := AX.move (M := Mx) ⟨by omega, h4, h2, h5, rfl, rfl, rfl, rfl⟩ sx rfl SX1_au
    have ay : AY t (gJ Mx (A + 1)) (gJ Mx (A + 2)) (gJ Mx A 4) (gJ Mx A 3) (beY 3 My) := AY.move (M := My) ⟨h4, h6, h9, h8.symm, h7.symm, h10⟩ sy ⟨rfl, rfl, rfl⟩ (fun k => ⟨rfl, rfl⟩)
    obtain ⟨N1, p1, p2, p3⟩ := mtX (sh := sh) (lim := lim) (rule := rule) FU 0 sg0 _ (by omega) (by unfold FU; omega) px dx.tx ax rx
    obtain ⟨N2, q1, q2, q3, q4⟩ := mtY (sh := sh) (lim := lim) (rule := rule) (x2 := x2) (x3 := x3) FU 0 sg0 _ (by omega) (by unfold FU; omega) py dy ly yw ay ry
    obtain ⟨v, N3, N4, z1, z2, z3⟩ := tok_end hR hn1 hn p2 q2 (sx.trans ((sSF p3).mono (fun _ _ q => SX1_SX q))) (sy.trans (q3.mono (fun _ _ q => SY1_SY q))) (addsA_wf _ _ q4 w0)
    refine ⟨v, N3, N4, ?_, ?_, z3⟩
    · unfold fX6_cutMatches
      rw [show (0 : Int32) = nI 0 from rfl, p1, bV_s, z1]
    · rw [show (0 : Int32) = nI 0 from rfl, q1, z2]
  · rw [if_neg (fun z => c3 (e3.mp z))]
    obtain ⟨N1, p1, p2, p3⟩ := clX (sh := sh) (lim := lim) (rule := rule) (lk := lk) hw hx FU 0 sg0 _ (by omega) (by unfold FU; omega) (by unfold FU; omega) px dx lx rx
    rw [cl_way] at p2
    obtain ⟨N2, q1, q2, q3, q4⟩ := scY (sh := sh) (lim := lim) (rule := rule) (lk := lk) hw c3 hx FU 0 sg0 _ (by omega) (by unfold FU; omega) py dy ly yw ry
    obtain ⟨v, N3, N4, z1, z2, z3⟩ := tok_end hR hn1 hn p2 q2 (sx.trans (p3.mono (fun _ _ q => SX1_SX q))) (sy.trans (q3.mono (fun _ _ q => SY1_SY q))) (addsA_wf _ _ q4 w0)
    refine ⟨v, N3, N4, ?_, ?_, z3⟩
    · unfold fX6_cutRows
      rw [show (0 : Int32) = nI 0 from rfl, p1, bV_s, z1]
    · rw [show (0 : Int32) = nI 0 from rfl, q1, z2]
theorem sim_tokens : Sim_tokens Rel := by
  intro Mx My x1 x2 x3 hR
  unfold fX6_tokens fX7_tokens
  rw [isIn_ok, bI_s]
  by_cases c1 : x1 < 0
  · rw [if_pos c1, decide_eq_false (fun q => absurd c1 (Int32.not_lt.mpr q.1)), bz_f, if_pos rfl]
    exact ⟨_, _, _, rfl, rfl, hR⟩
  · rw [if_neg c1]
    by_cases c2 : x1 ≤ 8
    · rw [if_pos c2, decide_eq_true ⟨Int32.not_lt.mp c1, c2⟩, bz_t, if_neg n10]
      obtain ⟨way, h1, h2, rfl⟩ := rng (lo := 0) (hi := 8) (Int32.not_lt.mp c1) c2 (by omega) (by omega)
      have e5 : nI way = 5 ↔ way = 5 := nI_eq (b := 5) (by omega) (by omega)
      have e6 : nI way = 6 ↔ way = 6 := nI_eq (b := 6) (by omega) (by omega)
      have e4 : nI way = 4 ↔ way = 4 := nI_eq (b := 4) (by omega) (by omega)
      have sized : way = 5 ∨ way = 6 → ∃ v Mx1 My1, fX6_tokens_L23 (nI way) x2 x3 Mx = some (v, Mx1) ∧ fX7_tokens_L21 (nI way) x2 x3 My = some (v, My1) ∧ Rel Mx1 My1 := by
        intro hs
        unfold fX6_tokens_L23 fX6_tokens_L28 fX6_tokens_L61 fX6_tokens_L75 fX7_tokens_L21
        rw [if_neg n10, if_neg n10, isIn_ok, bI_s, isIn_ok, bI_s]
        by_cases d1 : x2 < 1
        · rw [if_pos d1, decide_eq_false (fun q => absurd d1 (Int32.not_lt.mpr q.1)), bz_f, if_pos rfl]
          exact ⟨_, _, _, rfl, rfl, hR⟩
        · rw [if_neg d1]
          by_cases d2 : 300 < x2
          · rw [if_pos d2, decide_eq_false (fun q => absurd d2 (Int32.not_lt.mpr q.2)), bz_f, if_pos rfl]
            exact ⟨_, _, _, rfl, rfl, hR⟩
          · rw [if_neg d2, decide_eq_true ⟨Int32.not_lt.mp d1, Int32.not_lt.mp d2⟩, bz_t, if_neg n10]
            by_cases d3 : x3 < x2
            · rw [if_pos d3, decide_eq_false (fun q => absurd d3 (Int32.not_lt.mpr q.1)), bz_f, if_pos rfl]
              exact ⟨_, _, _, rfl, rfl, hR⟩
            · rw [if_neg d3]
              by_cases d4 : x3 ≤ 300
              · rw [if_pos d4, decide_eq_true ⟨Int32.not_lt.mp d3, d4⟩, bz_t, if_neg n10]
                obtain ⟨a, g1, g2, rfl⟩ := rng (lo := 1) (hi := 300) (Int32.not_lt.mp d1) (Int32.not_lt.mp d2) (by omega) (by omega)
                obtain ⟨m, g3, g4, rfl⟩ := rng (lo := a) (hi := 300) (Int32.not_lt.mp d3) d4 (by omega) (by omega)
                have h := tok_core hR (x2 := nI a) (x3 := nI m) (a := a) (m := m) h2 (fun _ => ⟨rfl, rfl, g3, g4⟩)
                rw [decide_eq_true (show 4 ≤ way ∧ way ≤ 6 by omega), bz_t] at h
                exact h
              · rw [if_neg d4, decide_eq_false (fun q => d4 q.2), bz_f, if_pos rfl]
                exact ⟨_, _, _, rfl, rfl, hR⟩
      by_cases c5 : way = 5
      · rw [if_pos (e5.mpr c5), if_pos (e5.mpr c5)]
        exact sized (Or.inl c5)
      · rw [if_neg (fun z => c5 (e5.mp z)), if_neg (fun z => c5 (e5.mp z))]
        by_cases c6 : way = 6
        · rw [if_pos (e6.mpr c6), if_pos (e6.mpr c6)]
          exact sized (Or.inr c6)
        · rw [if_neg (fun z => c6 (e6.mp z)), if_neg (fun z => c6 (e6.mp z))]
          have h := tok_core hR (x2 := x2) (x3 := x3) (a := 0) (m := 0) h2 (fun q => by omega)
          unfold fX6_tokens_L28 fX6_tokens_L61 fX6_tokens_L75
          rw [if_pos z00, if_pos z00]
          by_cases c4 : way = 4
          · rw [if_pos (e4.mpr c4)]
            rw [decide_eq_true (show 4 ≤ way ∧ way ≤ 6 by omega), bz_t] at h
            exact h
          · rw [if_neg (fun z => c4 (e4.mp z))]
            rw [decide_eq_false (show ¬ (4 ≤ way ∧ way ≤ 6) by omega), bz_f] at h
            exact h
    · rw [if_neg c2, decide_eq_false (fun q => c2 q.2), bz_f, if_pos rfl]
      exact ⟨_, _, _, rfl, rfl, hR⟩
