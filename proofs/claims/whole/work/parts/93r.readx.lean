/-! the class's pattern reader: its state, and what each step does to it -/
def SPa (a : Nat) : Nat → Nat → Bool := fun x k => (x == 17 && (k == 5 || k == 6 || k == 7)) || (decide (20 ≤ x) && decide (x ≤ 40)) || x == a || x == a + 1 || x == a + 2
def S17 : Nat → Nat → Bool := fun x k => x == 17 && (k == 5 || k == 6 || k == 7)
def SPt : Nat → Nat → Bool := fun x _ => decide (20 ≤ x) && decide (x ≤ 40)
def Sor (S T : Nat → Nat → Bool) : Nat → Nat → Bool := fun x k => S x k || T x k
theorem up_a {a o : Nat} {M M1 : Mem} (h : SameBut (onl o) M M1) (ho : ∀ k, SPa a o k = true) : SameBut (SPa a) M M1 := h.mono (fun x k q => by
  by_cases c : x = o
  · rw [c, ho k] at q; cases q
  · exact onl_f c k)
theorem up_17 {a : Nat} {M M1 : Mem} (h : SameBut S17 M M1) : SameBut (SPa a) M M1 := h.mono (fun x k q => by
  unfold SPa at q; unfold S17
  simp only [Bool.or_eq_false_iff] at q
  exact q.1.1.1.1)
theorem up_pt {a : Nat} {M M1 : Mem} (h : SameBut SPt M M1) : SameBut (SPa a) M M1 := h.mono (fun x k q => by
  unfold SPa at q; unfold SPt
  simp only [Bool.or_eq_false_iff] at q
  exact q.1.1.1.2)
theorem up_P {o : Nat} {M M1 : Mem} (h : SameBut (onl o) M M1) (h1 : 20 ≤ o) (h2 : o ≤ 40) : SameBut SPt M M1 := h.mono (fun x k q => by
  by_cases c : x = o
  · unfold SPt at q; rw [c, decide_eq_true h1, decide_eq_true h2] at q; cases q
  · exact onl_f c k)
def B1 (a n : Nat) (s : Nat → Nat) (M : Mem) : Prop := (a = 41 ∨ a = 44) ∧ gR M 17 4 = a ∧ n ≤ 300 ∧ gI M 18 1 = nI n ∧ ∀ j, bt M 18 j = s j
def B2 (dep p : Nat) (M : Mem) : Prop := dep ≤ 8 ∧ gI M 17 5 = nI dep ∧ gI M 17 6 = nI p ∧ gI M 17 7 = -1
def FT (a : Nat) (fit : Nat → Nat → Bool) (M : Mem) : Prop := ∀ c k, c < 256 → bit (gJ M (a + 1) c) k = fit k c
def B3 (a t : Nat) (fol : Nat → Int64) (fit : Nat → Nat → Bool) (M : Mem) : Prop := t ≤ 60 ∧ gI M a 2 = nI t ∧ (∀ k, k < 60 → gJ M (a + 2) k = fol k) ∧ FT a fit M
def B4 (dep : Nat) (ch rw : Nat → Pt) (M : Mem) : Prop := ∀ d, d ≤ dep → PR M (21 + d) (ch d) ∧ PR M (31 + d) (rw d)
theorem SPa_au {a : Nat} (ha : a = 41 ∨ a = 44) (x k : Nat) (hx : 21 ≤ x ∧ x ≤ 40 ∨ x = a ∨ x = a + 1 ∨ x = a + 2) : SPa a x k = true := by unfold SPa; simp; omega
theorem B1.moveA {a n : Nat} {s : Nat → Nat} {M M1 : Mem} (h : B1 a n s M) (hs : SameBut (SPa a) M M1) : B1 a n s M1 := by
  obtain ⟨h1, h2, h3, h4, h5⟩ := h
  have e : ∀ k, SPa a 19 k = false ∧ SPa a 18 k = false := fun k => by rcases h1 with rfl | rfl <;> exact ⟨rfl, rfl⟩
  have e2 : SPa a 17 4 = false := by rcases h1 with rfl | rfl <;> rfl
  exact ⟨h1, (hs.2.2 17 4 e2).trans h2, h3, (hs.1 18 1 (e 1).2).trans h4, fun j => by rw [bt_congr (o := 18) (fun k => hs.1 19 k (e k).1)]; exact h5 j⟩
theorem B2.move {dep p : Nat} {S : Nat → Nat → Bool} {M M1 : Mem} (h : B2 dep p M) (hs : SameBut S M M1) (h0 : ∀ k, S 17 k = false) : B2 dep p M1 := ⟨h.1, (hs.1 17 5 (h0 5)).trans h.2.1, (hs.1 17 6 (h0 6)).trans h.2.2.1, (hs.1 17 7 (h0 7)).trans h.2.2.2⟩
theorem FT.move {a : Nat} {fit : Nat → Nat → Bool} {S : Nat → Nat → Bool} {M M1 : Mem} (h : FT a fit M) (hs : SameBut S M M1) (h0 : ∀ k, S (a + 1) k = false) : FT a fit M1 := fun c k hc => by rw [hs.2.1 (a + 1) c (h0 c)]; exact h c k hc
theorem B3.move {a t : Nat} {fol : Nat → Int64} {fit : Nat → Nat → Bool} {S : Nat → Nat → Bool} {M M1 : Mem} (h : B3 a t fol fit M) (hs : SameBut S M M1) (h0 : ∀ x k, a ≤ x → x ≤ a + 2 → S x k = false) : B3 a t fol fit M1 := ⟨h.1, (hs.1 a 2 (h0 a 2 (by omega) (by omega))).trans h.2.1, fun k hk => (hs.2.1 (a + 2) k (h0 _ k (by omega) (by omega))).trans (h.2.2.1 k hk), h.2.2.2.move hs (fun k => h0 _ k (by omega) (by omega))⟩
theorem B4.move {dep : Nat} {ch rw : Nat → Pt} {S : Nat → Nat → Bool} {M M1 : Mem} (h : B4 dep ch rw M) (hs : SameBut S M M1) (h0 : ∀ x k, 21 ≤ x → x ≤ 39 → S x k = false) (hd : dep ≤ 8) : B4 dep ch rw M1 := fun d q => ⟨(h d q).1.move hs (fun k => h0 _ k (by omega) (by omega)), (h d q).2.move hs (fun k => h0 _ k (by omega) (by omega))⟩
theorem S17_f {x : Nat} (h : x ≠ 17) (k : Nat) : S17 x k = false := by unfold S17; simp [h]
theorem SPt_f {x : Nat} (h : x < 20 ∨ 40 < x) (k : Nat) : SPt x k = false := by unfold SPt; simp; omega
def QX (a n : Nat) (s : Nat → Nat) (t : Nat) (fol : Nat → Int64) (fit : Nat → Nat → Bool) (dep : Nat) (ch rw : Nat → Pt) (p : Nat) (M : Mem) : Prop := B1 a n s M ∧ B2 dep p M ∧ B3 a t fol fit M ∧ B4 dep ch rw M
theorem al20 {β : Type} {d : Nat} {k : Nat → Option β} (hd : d ≤ 8) : aald_ 20 (nI d) k = k (21 + d) := aald_n (show d < 9 by omega) (by decide)
theorem al30 {β : Type} {d : Nat} {k : Nat → Option β} (hd : d ≤ 8) : aald_ 30 (nI d) k = k (31 + d) := aald_n (show d < 9 by omega) (by decide)
theorem kd_a {a : Nat} (h : a = 41 ∨ a = 44) : kd a = 0 := by rcases h with rfl | rfl <;> rfl
theorem updF_eq {α : Type} {f : Nat → α} {d : Nat} {v : α} : updF f d v d = v := by unfold updF; rw [if_pos rfl]
theorem updF_ne {α : Type} {f : Nat → α} {d j : Nat} {v : α} (h : j ≠ d) : updF f d v j = f j := by unfold updF; rw [if_neg h]
section
variable {a n : Nat} {s : Nat → Nat} {t : Nat} {fol : Nat → Int64} {fit : Nat → Nat → Bool} {dep : Nat} {ch rw : Nat → Pt} {p : Nat} {M : Mem}
theorem endRow_any (hd : dep ≤ 8) (h : gI M 17 5 = nI dep) : ∃ M1, fX4_endRow M = some M1 ∧ SameBut SPt M M1 := by
  unfold fX4_endRow
  rw [h, al20 hd, al30 hd]
  obtain ⟨M1, r1, r2⟩ := choice_any (o := 21 + dep) (a := 31 + dep) M
  have s1 := up_P r2 (by omega) (by omega)
  rw [r1, bV_s, s1.1 17 5 rfl, h, al30 hd]
  obtain ⟨M2, q1, q2, q3⟩ := empty_ok (31 + dep) M1
  rw [q1, bV_s]
  exact ⟨M2, rfl, s1.trans (up_P q3 (by omega) (by omega))⟩
theorem endRow_ok (h2 : B2 dep p M) (h4 : B4 dep ch rw M) : ∃ M1, fX4_endRow M = some M1 ∧ B4 dep (updF ch dep (chA (ch dep) (rw dep))) (updF rw dep (0, 0, true)) M1 ∧ SameBut SPt M M1 := by
  have hd := h2.1
  unfold fX4_endRow
  rw [h2.2.1, al20 hd, al30 hd]
  obtain ⟨M1, r1, r2, r3⟩ := choice_ok (o := 21 + dep) (a := 31 + dep) (by omega) (h4 dep (Nat.le_refl dep)).1 (h4 dep (Nat.le_refl dep)).2
  have s1 := up_P r3 (by omega) (by omega)
  rw [r1, bV_s, s1.1 17 5 rfl, h2.2.1, al30 hd]
  obtain ⟨M2, q1, q2, q3⟩ := empty_ok (31 + dep) M1
  rw [q1, bV_s]
  refine ⟨M2, rfl, fun d hd2 => ?_, s1.trans (up_P q3 (by omega) (by omega))⟩
  by_cases c : d = dep
  · subst c
    rw [updF_eq, updF_eq]
    exact ⟨r2.move q3 (fun k => onl_f (by omega) k), q2⟩
  · rw [updF_ne c, updF_ne c]
    exact ⟨((h4 d hd2).1.move r3 (fun k => onl_f (by omega) k)).move q3 (fun k => onl_f (by omega) k), ((h4 d hd2).2.move r3 (fun k => onl_f (by omega) k)).move q3 (fun k => onl_f (by omega) k)⟩
theorem begC_ok (hd : dep ≤ 8) (h5 : gI M 17 5 = nI dep) (h4 : ∀ d, d < dep → PR M (21 + d) (ch d) ∧ PR M (31 + d) (rw d)) : ∃ M1, fX4_beginChoices M = some M1 ∧ B4 dep (updF ch dep (0, 0, false)) (updF rw dep (0, 0, true)) M1 ∧ SameBut SPt M M1 := by
  unfold fX4_beginChoices
  rw [h5, al20 hd]
  obtain ⟨M1, r1, r2, r3⟩ := nothing_ok (21 + dep) M
  have s1 := up_P r3 (by omega) (by omega)
  rw [r1, bV_s, s1.1 17 5 rfl, h5, al30 hd]
  obtain ⟨M2, q1, q2, q3⟩ := empty_ok (31 + dep) M1
  rw [q1, bV_s]
  refine ⟨M2, rfl, fun d hd2 => ?_, s1.trans (up_P q3 (by omega) (by omega))⟩
  by_cases c : d = dep
  · subst c
    rw [updF_eq, updF_eq]
    exact ⟨r2.move q3 (fun k => onl_f (by omega) k), q2⟩
  · rw [updF_ne c, updF_ne c]
    have h4 := h4 d (by omega)
    exact ⟨(h4.1.move r3 (fun k => onl_f (by omega) k)).move q3 (fun k => onl_f (by omega) k), (h4.2.move r3 (fun k => onl_f (by omega) k)).move q3 (fun k => onl_f (by omega) k)⟩
theorem open_ok (hQ : QX a n s t fol fit dep ch rw p M) (hd : dep < 8) : ∃ M1, fX4_open M = some M1 ∧ QX a n s t fol fit (dep + 1) (updF ch (dep + 1) (0, 0, false)) (updF rw (dep + 1) (0, 0, true)) (p + 1) M1 ∧ SameBut (SPa a) M M1 := by
  obtain ⟨h1, h2, h3, h4⟩ := hQ
  have ha := h1.1
  unfold fX4_open
  rw [h2.2.1, if_pos (show nI dep < 8 from nI_lt (b := 8) hd (by omega)), lt_eq, lt_eq, gI_nk (by decide), h2.2.2.1, show (1 : Int32) = nI 1 from rfl, nI_add, nI_add]
  have s0 : SameBut S17 M (setI (setI M 17 5 (nI (dep + 1))) 17 6 (nI (p + 1))) := (SameBut.refl.setI rfl).setI rfl
  obtain ⟨M1, r1, r2, r3⟩ := begC_ok (dep := dep + 1) (ch := ch) (rw := rw) (M := setI (setI M 17 5 (nI (dep + 1))) 17 6 (nI (p + 1))) (by omega) (by rw [gI_nk (by decide), gI_eq]) (fun d hd2 => ⟨(h4 d (by omega)).1.move s0 (fun k => S17_f (by omega) k), (h4 d (by omega)).2.move s0 (fun k => S17_f (by omega) k)⟩)
  rw [r1, bV_s]
  have sa := (up_17 (a := a) s0).trans (up_pt r3)
  refine ⟨M1, rfl, ⟨h1.moveA sa, ⟨by omega, ?_, ?_, ?_⟩, (h3.move s0 (fun x k _ _ => S17_f (by omega) k)).move r3 (fun x k _ _ => SPt_f (by omega) k), r2⟩, sa⟩
  · rw [r3.1 17 5 rfl, gI_nk (by decide), gI_eq]
  · rw [r3.1 17 6 rfl, gI_eq]
  · rw [r3.1 17 7 rfl, gI_nk (by decide), gI_nk (by decide)]; exact h2.2.2.2
theorem bar_ok (hQ : QX a n s t fol fit dep ch rw p M) : ∃ M1, fX4_endRow M = some M1 ∧ gI M1 17 6 = nI p ∧ QX a n s t fol fit dep (updF ch dep (chA (ch dep) (rw dep))) (updF rw dep (0, 0, true)) (p + 1) (setI M1 17 6 (nI (p + 1))) ∧ SameBut (SPa a) M (setI M1 17 6 (nI (p + 1))) := by
  obtain ⟨h1, h2, h3, h4⟩ := hQ
  obtain ⟨M1, r1, r2, r3⟩ := endRow_ok h2 h4
  have s0 : SameBut S17 M1 (setI M1 17 6 (nI (p + 1))) := SameBut.refl.setI rfl
  have sa := (up_pt (a := a) r3).trans (up_17 s0)
  have b2 := h2.move r3 (fun k => SPt_f (by omega) k)
  have ha := h1.1
  exact ⟨M1, r1, b2.2.2.1, ⟨h1.moveA sa, ⟨h2.1, by rw [gI_nk (by decide)]; exact b2.2.1, gI_eq, by rw [gI_nk (by decide)]; exact b2.2.2.2⟩, (h3.move r3 (fun x k _ _ => SPt_f (by omega) k)).move s0 (fun x k _ _ => S17_f (by omega) k), r2.move s0 (fun x k _ _ => S17_f (by omega) k) h2.1⟩, sa⟩
/-! the end of a piece -/
theorem L103_ok {Q : Pt} (hQ : QX a n s t fol fit dep ch rw p M) (h40 : PR M 40 Q) : ∃ M1, fX4_endPiece_L103 M = some M1 ∧ QX a n s t (conA t (rw dep).2.1 Q.1 fol) fit dep ch (updF rw dep (behA (rw dep) Q)) p M1 ∧ SameBut (SPa a) M M1 := by
  obtain ⟨h1, h2, h3, h4⟩ := hQ
  have ha := h1.1
  have hd := h2.1
  have hr := (h4 dep (Nat.le_refl dep)).2
  unfold fX4_endPiece_L103
  rw [h1.2.1, ga_k (kd_a ha), h2.2.1, al30 hd, hr.2.1, h40.1]
  obtain ⟨M1, r1, r2, r3⟩ := con_ok (kd_a ha) h3.1 (rw dep).2.1 Q.1 h3.2.1 h3.2.2.1
  rw [r1, bV_s, r3.1 17 5 (onl_f (by omega) 5), h2.2.1, al30 hd]
  obtain ⟨M2, q1, q2, q3⟩ := behind_ok (o := 31 + dep) (a := 40) (by omega) (hr.move r3 (fun k => onl_f (by omega) k)) (h40.move r3 (fun k => onl_f (by omega) k))
  rw [q1, bV_s]
  have sa : SameBut (SPa a) M M2 := (up_a r3 (fun k => SPa_au ha _ k (by omega))).trans (up_a q3 (fun k => SPa_au ha _ k (by omega)))
  refine ⟨M2, rfl, ⟨h1.moveA sa, (h2.move r3 (fun k => onl_f (by omega) k)).move q3 (fun k => onl_f (by omega) k), ⟨h3.1, ?_, fun k hk => ?_, ?_⟩, fun d hd2 => ?_⟩, sa⟩
  · rw [q3.1 a 2 (onl_f (by omega) 2), r3.1 a 2 (onl_f (by omega) 2)]; exact h3.2.1
  · rw [q3.2.1 (a + 2) k (onl_f (by omega) k)]; exact r2 k hk
  · exact (h3.2.2.2.move r3 (fun k => onl_f (by omega) k)).move q3 (fun k => onl_f (by omega) k)
  · have h5 := h4 d hd2
    refine ⟨(h5.1.move r3 (fun k => onl_f (by omega) k)).move q3 (fun k => onl_f (by omega) k), ?_⟩
    by_cases c : d = dep
    · subst c
      rw [updF_eq]; exact q2
    · rw [updF_ne c]
      exact (h5.2.move r3 (fun k => onl_f (by omega) k)).move q3 (fun k => onl_f (by omega) k)
theorem L47_ok {Q : Pt} {ag nv : Bool} (hQ : QX a n s t fol fit dep ch rw p M) (h40 : PR M 40 Q) : ∃ M1, fX4_endPiece_L47 (bz ag) (bz nv) M = some M1 ∧ QX a n s t (conA t (rw dep).2.1 Q.1 (if ag = true then conA t Q.2.1 Q.1 fol else fol)) fit dep ch (updF rw dep (behA (rw dep) (Q.1, Q.2.1, Q.2.2 || nv))) (if (ag || nv) = true then p + 1 else p) M1 ∧ SameBut (SPa a) M M1 := by
  have l85 : ∀ (fol1 : Nat → Int64) (Q1 : Pt) (M0 : Mem), QX a n s t fol1 fit dep ch rw p M0 → PR M0 40 Q1 → SameBut (SPa a) M M0 → ∃ M1, fX4_endPiece_L85 (bz ag) (bz nv) M0 = some M1 ∧ QX a n s t (conA t (rw dep).2.1 Q1.1 fol1) fit dep ch (updF rw dep (behA (rw dep) Q1)) (if (ag || nv) = true then p + 1 else p) M1 ∧ SameBut (SPa a) M M1 := by
    intro fol1 Q1 M0 g1 g2 sa
    have l93 : ∃ M1, fX4_endPiece_L93 M0 = some M1 ∧ QX a n s t (conA t (rw dep).2.1 Q1.1 fol1) fit dep ch (updF rw dep (behA (rw dep) Q1)) (p + 1) M1 ∧ SameBut (SPa a) M M1 := by
      unfold fX4_endPiece_L93
      obtain ⟨w1, w2, w3, w4⟩ := g1
      have ha := w1.1
      rw [lt_eq, w2.2.2.1, show nI p + 1 = nI (p + 1) from nI_add p 1]
      have s0 : SameBut S17 M0 (setI M0 17 6 (nI (p + 1))) := SameBut.refl.setI rfl
      obtain ⟨M1, r1, r2, r3⟩ := L103_ok (M := setI M0 17 6 (nI (p + 1))) (p := p + 1) ⟨w1.moveA (up_17 s0), ⟨w2.1, by rw [gI_nk (by decide)]; exact w2.2.1, gI_eq, by rw [gI_nk (by decide)]; exact w2.2.2.2⟩, w3.move s0 (fun x k _ _ => S17_f (by omega) k), w4.move s0 (fun x k _ _ => S17_f (by omega) k) w2.1⟩ (g2.move s0 (fun k => S17_f (by omega) k))
      exact ⟨M1, r1, r2, (sa.trans (up_17 s0)).trans r3⟩
    unfold fX4_endPiece_L85
    cases ag
    · cases nv
      · obtain ⟨M1, r1, r2, r3⟩ := L103_ok g1 g2
        exact ⟨M1, r1, r2, sa.trans r3⟩
      · exact l93
    · exact l93
  have l73 : ∀ (fol1 : Nat → Int64) (M0 : Mem), QX a n s t fol1 fit dep ch rw p M0 → PR M0 40 Q → SameBut (SPa a) M M0 → ∃ M1, fX4_endPiece_L73 (bz ag) (bz nv) M0 = some M1 ∧ QX a n s t (conA t (rw dep).2.1 Q.1 fol1) fit dep ch (updF rw dep (behA (rw dep) (Q.1, Q.2.1, Q.2.2 || nv))) (if (ag || nv) = true then p + 1 else p) M1 ∧ SameBut (SPa a) M M1 := by
    intro fol1 M0 g1 g2 sa
    unfold fX4_endPiece_L73
    cases nv
    · rw [if_pos (show bz false = 0 from rfl)]
      have h := l85 fol1 Q M0 g1 g2 sa
      rw [show (Q.1, Q.2.1, Q.2.2 || false) = Q by rw [Bool.or_false]]
      exact h
    · rw [if_neg (show ¬ bz true = 0 from n10), sz_1]
      obtain ⟨w1, w2, w3, w4⟩ := g1
      have ha := w1.1
      have s0 : SameBut (onl 40) M0 (setI M0 40 2 1) := SameBut.refl.setI (onl_t 40 2)
      have sb := up_a (a := a) s0 (fun k => SPa_au ha _ k (by omega))
      have h := l85 fol1 (Q.1, Q.2.1, true) (setI M0 40 2 1) ⟨w1.moveA sb, w2.move s0 (fun k => onl_f (by omega) k), w3.move s0 (fun x k _ _ => onl_f (by omega) k), w4.move s0 (fun x k _ _ => onl_f (by omega) k) w2.1⟩ ⟨g2.1, g2.2.1, gI_eq⟩ (sa.trans sb)
      rw [Bool.or_true]
      exact h
  unfold fX4_endPiece_L47
  cases ag
  · exact l73 fol M hQ h40 SameBut.refl
  · rw [if_neg (show ¬ bz true = 0 from n10), if_pos rfl]
    obtain ⟨h1, h2, h3, h4⟩ := hQ
    have ha := h1.1
    rw [h1.2.1, ga_k (kd_a ha), h40.1, h40.2.1]
    obtain ⟨M1, r1, r2, r3⟩ := con_ok (kd_a ha) h3.1 Q.2.1 Q.1 h3.2.1 h3.2.2.1
    rw [r1, bV_s]
    have sa := up_a (a := a) r3 (fun k => SPa_au ha _ k (by omega))
    exact l73 _ M1 ⟨h1.moveA sa, h2.move r3 (fun k => onl_f (by omega) k), ⟨h3.1, (r3.1 a 2 (onl_f (by omega) 2)).trans h3.2.1, r2, h3.2.2.2.move r3 (fun k => onl_f (by omega) k)⟩, h4.move r3 (fun x k _ _ => onl_f (by omega) k) h2.1⟩ (h40.move r3 (fun k => onl_f (by omega) k)) sa
def agA (n : Nat) (s : Nat → Nat) (p : Nat) : Bool := decide (p < n) && (s p == 42 || s p == 43)
def nvA (n : Nat) (s : Nat → Nat) (p : Nat) : Bool := decide (p < n) && (s p == 42 || s p == 63)
theorem B1.at (h : B1 a n s M) (hp : p ≤ n) : fX5_at 18 (nI p) M = some (if p < n then nI (s p) else -1, M) := by
  obtain ⟨h1, h2, h3, h4, h5⟩ := h
  rw [at_ok rfl h4 h3]
  by_cases c : p < n
  · rw [atv_in c h3, if_pos c, h5]
  · rw [atv_out (by omega) (by omega), if_neg c]
theorem B1.lt (h : B1 a n s M) (j : Nat) : s j < 256 := by rw [← h.2.2.2.2 j]; exact bt_lt M 18 j
theorem endPiece_ok {Q : Pt} (hQ : QX a n s t fol fit dep ch rw p M) (hp : p ≤ n) (h40 : PR M 40 Q) : ∃ M1, fX4_endPiece M = some M1 ∧ QX a n s t (conA t (rw dep).2.1 Q.1 (if agA n s p = true then conA t Q.2.1 Q.1 fol else fol)) fit dep ch (updF rw dep (behA (rw dep) (Q.1, Q.2.1, Q.2.2 || nvA n s p))) (if (agA n s p || nvA n s p) = true then p + 1 else p) M1 ∧ SameBut (SPa a) M M1 := by
  have h := fun ag nv => L47_ok (ag := ag) (nv := nv) hQ h40
  have key : fX4_endPiece M = fX4_endPiece_L47 (bz (agA n s p)) (bz (nvA n s p)) M := by
    obtain ⟨h1, h2, h3, h4⟩ := hQ
    unfold fX4_endPiece fX4_endPiece_L24 fX4_endPiece_L29 fX4_endPiece_L42
    rw [h2.2.2.1, h1.at hp, bI_s]
    unfold agA nvA
    by_cases c : p < n
    · rw [if_pos c, decide_eq_true c]
      have hl := h1.lt p
      have e42 : nI (s p) = 42 ↔ s p = 42 := nI_eq (b := 42) (by omega) (by omega)
      have e43 : nI (s p) = 43 ↔ s p = 43 := nI_eq (b := 43) (by omega) (by omega)
      have e63 : nI (s p) = 63 ↔ s p = 63 := nI_eq (b := 63) (by omega) (by omega)
      simp only [e42, e43, e63]
      by_cases c1 : s p = 42
      · rw [if_pos c1, if_pos c1, c1]; rfl
      · rw [if_neg c1]
        by_cases c2 : s p = 43
        · rw [if_pos c2, if_neg c1, c2, if_neg (by decide)]; rfl
        · rw [if_neg c2, if_neg c1, show (s p == 42) = false by simpa using c1, show (s p == 43) = false by simpa using c2]
          by_cases c3 : s p = 63
          · rw [if_pos c3, c3]; rfl
          · rw [if_neg c3, show (s p == 63) = false by simpa using c3]; rfl
    · rw [if_neg c, decide_eq_false c, if_neg (by decide), if_neg (by decide), if_neg (by decide), if_neg (by decide)]; rfl
  rw [key]
  exact h _ _
theorem close_ok (hQ : QX a n s t fol fit (dep + 1) ch rw p M) (hp : p < n) : ∃ M1, fX4_close M = some M1 ∧ QX a n s t (conA t (rw dep).2.1 (chA (ch (dep + 1)) (rw (dep + 1))).1 (if agA n s (p + 1) = true then conA t (chA (ch (dep + 1)) (rw (dep + 1))).2.1 (chA (ch (dep + 1)) (rw (dep + 1))).1 fol else fol)) fit dep ch (updF rw dep (behA (rw dep) ((chA (ch (dep + 1)) (rw (dep + 1))).1, (chA (ch (dep + 1)) (rw (dep + 1))).2.1, (chA (ch (dep + 1)) (rw (dep + 1))).2.2 || nvA n s (p + 1)))) (if (agA n s (p + 1) || nvA n s (p + 1)) = true then p + 2 else p + 1) M1 ∧ SameBut (SPa a) M M1 := by
  obtain ⟨h1, h2, h3, h4⟩ := hQ
  have ha := h1.1
  have hd := h2.1
  unfold fX4_close
  rw [h2.2.1, if_pos (show (0 : Int32) < nI (dep + 1) from nI_lt (a := 0) (by omega) (by omega))]
  obtain ⟨M1, r1, r2, r3⟩ := endRow_ok h2 h4
  have b2 := h2.move r3 (fun k => SPt_f (by omega) k)
  rw [r1, bV_s, b2.2.1, al20 hd]
  have hc := (r2 (dep + 1) (Nat.le_refl _)).1
  rw [updF_eq] at hc
  obtain ⟨M2, q1, q2, q3⟩ := copy_ok (o := 40) (a := 21 + (dep + 1)) (by omega) hc
  have c2 := b2.move q3 (fun k => onl_f (by omega) k)
  rw [q1, bV_s, lt_eq, lt_eq, c2.2.1, gI_nk (by decide), c2.2.2.1, pred_nI, show nI p + 1 = nI (p + 1) from nI_add p 1]
  have s0 : SameBut S17 M2 (setI (setI M2 17 5 (nI dep)) 17 6 (nI (p + 1))) := (SameBut.refl.setI rfl).setI rfl
  have sa : SameBut (SPa a) M (setI (setI M2 17 5 (nI dep)) 17 6 (nI (p + 1))) := ((up_pt r3).trans (up_a q3 (fun k => SPa_au ha _ k (by omega)))).trans (up_17 s0)
  obtain ⟨M3, w1, w2, w3⟩ := endPiece_ok (a := a) (n := n) (s := s) (t := t) (fol := fol) (fit := fit) (dep := dep) (ch := ch) (rw := rw) (p := p + 1) (M := setI (setI M2 17 5 (nI dep)) 17 6 (nI (p + 1))) ⟨h1.moveA sa, ⟨by omega, by rw [gI_nk (by decide), gI_eq], gI_eq, by rw [gI_nk (by decide), gI_nk (by decide)]; exact c2.2.2.2⟩, ((h3.move r3 (fun x k _ _ => SPt_f (by omega) k)).move q3 (fun x k _ _ => onl_f (by omega) k)).move s0 (fun x k _ _ => S17_f (by omega) k), fun d hd2 => by
    have g := r2 d (by omega)
    rw [updF_ne (by omega), updF_ne (by omega)] at g
    exact ⟨(g.1.move q3 (fun k => onl_f (by omega) k)).move s0 (fun k => S17_f (by omega) k), (g.2.move q3 (fun k => onl_f (by omega) k)).move s0 (fun k => S17_f (by omega) k)⟩⟩ (by omega) (q2.move s0 (fun k => S17_f (by omega) k))
  rw [w1, bV_s]
  exact ⟨M3, rfl, w2, sa.trans w3⟩
end
