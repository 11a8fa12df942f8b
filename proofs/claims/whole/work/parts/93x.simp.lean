/-! pattern: from the tape to the automaton -/
theorem fillX {o : Nat} (hl : ln o < 2 ^ 31) : ∀ (f i : Nat) (M : Mem), i ≤ ln o → ln o < i + f → ∃ M1, fJ7_fill_d0a16_H6 o f 0 (nI i) (nI (ln o)) M = some M1 ∧ (∀ k, k < ln o → gJ M1 o k = if i ≤ k then 0 else gJ M o k) ∧ SameBut (onl o) M M1 := by
  intro f
  induction f with
  | zero => intro i M q1 q2; omega
  | succ f ih =>
    intro i M q1 q2
    rw [fJ7_fill_d0a16_H6]
    by_cases c : ln o ≤ i
    · rw [if_pos (nI_le c (by omega))]
      exact ⟨M, rfl, fun k hk => by rw [if_neg (by omega)], SameBut.refl⟩
    · rw [if_neg (nI_ge (by omega) (by omega)), last_n (by omega) hl, lt_eq, show nI i + 1 = nI (i + 1) from nI_add i 1]
      obtain ⟨M1, r1, r2, r3⟩ := ih (i + 1) (setJ M o i 0) (by omega) (by omega)
      refine ⟨M1, r1, fun k hk => ?_, (SameBut.refl.setJ (onl_t o i)).trans r3⟩
      rw [r2 k hk, gJ_at]
      by_cases d : k = i
      · rw [if_neg (by omega), if_pos d, if_pos (by omega)]
      · rw [if_neg d]
        by_cases e : i + 1 ≤ k
        · rw [if_pos e, if_pos (by omega)]
        · rw [if_neg e, if_neg (by omega)]
theorem fill_ok {o : Nat} (hl : ln o < 99999) (M : Mem) : ∃ M1, fJ7_fill_d0a16 o 0 M = some M1 ∧ (∀ k, k < ln o → gJ M1 o k = 0) ∧ SameBut (onl o) M M1 := by
  unfold fJ7_fill_d0a16
  rw [lt_eq]
  obtain ⟨M1, r1, r2, r3⟩ := fillX (o := o) (by omega) FU 0 M (by omega) (by unfold FU; omega)
  exact ⟨M1, r1, fun k hk => by rw [r2 k hk, if_pos (by omega)], r3⟩
theorem clear_ok {a : Nat} (ha : a = 41 ∨ a = 44) (M : Mem) : ∃ M1, fX0_clear a M = some M1 ∧ B3 a 0 (fun _ => 0) (fun _ _ => false) M1 ∧ SameBut (SPa a) M M1 := by
  have hk := kd_a ha
  have l1 : ln (a + 1) = 256 := na0 hk
  have l2 : ln (a + 2) = 60 := nb0 hk
  obtain ⟨M1, r1, r2, r3⟩ := fill_ok (o := a + 1) (by omega) M
  obtain ⟨M2, w1, w2, w3⟩ := fill_ok (o := a + 2) (by omega) M1
  unfold fX0_clear
  rw [r1, bV_s, w1, bV_s, lt_eq, lt_eq, lt_eq]
  have e : ∀ x k, x = a ∨ x = a + 1 ∨ x = a + 2 → SPa a x k = true := fun x k h => SPa_au ha x k (by omega)
  refine ⟨_, rfl, ⟨by omega, ?_, fun k hk => ?_, fun c k hc => ?_⟩, (((((up_a r3 (fun k => e _ k (by omega))).trans (up_a w3 (fun k => e _ k (by omega)))).setI (e a 2 (by omega))).setJ (e a 3 (by omega))).setJ (e a 4 (by omega)))⟩
  · show gI (setI M2 a 2 0) a 2 = _
    rw [gI_eq]; rfl
  · rw [gJ_ne (by omega), gJ_ne (by omega), gJ_setI]; exact w2 k (by omega)
  · rw [gJ_ne (by omega), gJ_ne (by omega), gJ_setI, w3.2.1 (a + 1) c (onl_f (by omega) c), r2 c (by omega), bit_0]
def SB (a : Nat) : Nat → Nat → Bool := fun x k => SPa a x k || x == 18 || x == 19 || (x == 1 && k == 1)
theorem SB_A {a : Nat} {M M1 : Mem} (h : SameBut (SPa a) M M1) : SameBut (SB a) M M1 := h.mono (fun x k q => by unfold SB at q; simp only [Bool.or_eq_false_iff] at q; exact q.1.1.1)
theorem begin_ok {a n : Nat} {M : Mem} (ha : a = 41 ∨ a = 44) (hr : gR M 17 4 = a) (hn : n ≤ 300) (h : gI M 1 1 = nI n) : ∃ M1 s, fX4_begin 1 M = some M1 ∧ QX a n s 0 (fun _ => 0) (fun _ _ => false) 0 (updF (fun _ => (0, 0, false)) 0 (0, 0, false)) (updF (fun _ => (0, 0, true)) 0 (0, 0, true)) 0 M1 ∧ (∀ j, j < n → s j = bt M 1 j) ∧ gI M1 1 1 = 0 ∧ SameBut (SB a) M M1 := by
  obtain ⟨M1, q1, q2, q3, q4, q5⟩ := take_ok (o := 18) (q := 1) rfl rfl (by decide) hn h
  unfold fX4_begin
  have er : gR M1 17 4 = a := (q4.2.2 17 4 rfl).trans hr
  obtain ⟨M2, w1, w2, w3⟩ := clear_ok ha M1
  rw [q1, bV_s, er, ga_k (kd_a ha), w1, bV_s, lt_eq, lt_eq, lt_eq]
  have s0 : SameBut S17 M2 (setI (setI (setI M2 17 6 0) 17 7 (-1)) 17 5 0) := ((SameBut.refl.setI rfl).setI rfl).setI rfl
  obtain ⟨M3, z1, z2, z3⟩ := begC_ok (dep := 0) (ch := fun _ => (0, 0, false)) (rw := fun _ => (0, 0, true)) (M := setI (setI (setI M2 17 6 0) 17 7 (-1)) 17 5 0) (by omega) (by rw [gI_eq]; rfl) (fun d hd => absurd hd (by omega))
  rw [z1, bV_s]
  have sa : SameBut (SPa a) M1 M3 := (w3.trans (up_17 s0)).trans (up_pt z3)
  have b1 : B1 a n (bt M1 18) M1 := ⟨ha, er, hn, q2, fun _ => rfl⟩
  refine ⟨M3, bt M1 18, rfl, ⟨b1.moveA sa, ⟨by omega, ?_, ?_, ?_⟩, (w2.move s0 (fun x k _ _ => S17_f (by omega) k)).move z3 (fun x k _ _ => SPt_f (by omega) k), z2⟩, q5, ?_, (q4.mono (fun x k q => ?_)).trans (SB_A sa)⟩
  · rw [z3.1 17 5 rfl, gI_eq]; rfl
  · rw [z3.1 17 6 rfl, gI_nk (by decide), gI_nk (by decide), gI_eq]; rfl
  · rw [z3.1 17 7 rfl, gI_nk (by decide), gI_eq]
  · rw [sa.1 1 1 (by rcases ha with rfl | rfl <;> rfl)]; exact q3
  · unfold SB at q
    simp only [Bool.or_eq_false_iff] at q ⊢
    exact ⟨⟨q.1.1.2, q.1.2⟩, q.2⟩
theorem cp32 : ∀ (f i : Nat) (M : Mem), i ≤ 240 → 240 < i + f → ∃ M1, fX7_pattern_H32 f (nI i) M = fX7_pattern_H59 FU 0 M1 ∧ (∀ k, k < 240 → gJ M1 69 k = if i ≤ k then gJ M 74 k else gJ M 69 k) ∧ SameBut (onl 69) M M1 := by
  intro f
  induction f with
  | zero => intro i M q1 q2; omega
  | succ f ih =>
    intro i M q1 q2
    rw [fX7_pattern_H32]
    by_cases c : 240 ≤ i
    · rw [if_pos (show (240 : Int32) ≤ nI i from nI_le (a := 240) c (by omega))]
      exact ⟨M, rfl, fun k hk => by rw [if_neg (by omega)], SameBut.refl⟩
    · rw [if_neg (show ¬ (240 : Int32) ≤ nI i from nI_ge (b := 240) (by omega) (by omega)), lald_n (show i < 240 by omega) (by decide), last_n (show i < 240 by omega) (by decide), lt_eq, show nI i + 1 = nI (i + 1) from nI_add i 1]
      obtain ⟨M1, r1, r2, r3⟩ := ih (i + 1) (setJ M 69 i (gJ M 74 i)) (by omega) (by omega)
      refine ⟨M1, r1, fun k hk => ?_, (SameBut.refl.setJ (onl_t 69 i)).trans r3⟩
      rw [r2 k hk, gJ_at, gJ_ne (by decide)]
      by_cases d : k = i
      · rw [if_neg (by omega), if_pos d, if_pos (by omega), d]
      · rw [if_neg d]
        by_cases e : i + 1 ≤ k
        · rw [if_pos e, if_pos (by omega)]
        · rw [if_neg e, if_neg (by omega)]
theorem cp59 : ∀ (f i : Nat) (M : Mem), i ≤ 60 → 60 < i + f → ∃ M1, fX7_pattern_H59 f (nI i) M = some (gI M 50 17, setJ (setJ M1 50 20 (gJ M 78 0)) 50 21 (gJ M 79 0)) ∧ (∀ k, k < 60 → gJ M1 70 k = if i ≤ k then gJ M 75 k else gJ M 70 k) ∧ SameBut (onl 70) M M1 := by
  intro f
  induction f with
  | zero => intro i M q1 q2; omega
  | succ f ih =>
    intro i M q1 q2
    rw [fX7_pattern_H59]
    by_cases c : 60 ≤ i
    · rw [if_pos (show (60 : Int32) ≤ nI i from nI_le (a := 60) c (by omega)), show (0 : Int32) = nI 0 from rfl, lald_n (show 0 < 9 by omega) (by decide), lt_eq, lald_n (show 0 < 9 by omega) (by decide), lt_eq, gJ_ne (by decide)]
      exact ⟨M, rfl, fun k hk => by rw [if_neg (by omega)], SameBut.refl⟩
    · rw [if_neg (show ¬ (60 : Int32) ≤ nI i from nI_ge (b := 60) (by omega) (by omega)), lald_n (show i < 60 by omega) (by decide), last_n (show i < 60 by omega) (by decide), lt_eq, show nI i + 1 = nI (i + 1) from nI_add i 1]
      obtain ⟨M1, r1, r2, r3⟩ := ih (i + 1) (setJ M 70 i (gJ M 75 i)) (by omega) (by omega)
      rw [gJ_ne (by decide), gJ_ne (by decide)] at r1
      refine ⟨M1, r1, fun k hk => ?_, (SameBut.refl.setJ (onl_t 70 i)).trans r3⟩
      rw [r2 k hk, gJ_at, gJ_ne (by decide)]
      by_cases d : k = i
      · rw [if_neg (by omega), if_pos d, if_pos (by omega), d]
      · rw [if_neg d]
        by_cases e : i + 1 ≤ k
        · rw [if_pos e, if_pos (by omega)]
        · rw [if_neg e, if_neg (by omega)]
def SN : Nat → Nat → Bool := fun x k => SM x k || (x == 50 && (k == 1 || k == 17 || k == 20 || k == 21)) || x == 69 || x == 70
theorem SN_M {M M1 : Mem} (h : SameBut SM M M1) : SameBut SN M M1 := h.mono (fun x k q => by unfold SN at q; simp only [Bool.or_eq_false_iff] at q; exact q.1.1.1)
theorem SB_f {a x k : Nat} (ha : a = 41 ∨ a = 44) (h : x < 17 ∧ (x ≠ 1 ∨ k ≠ 1)) : SB a x k = false := by unfold SB SPa; simp; omega
theorem Rel.keepPat {a : Nat} {Mx My Mx1 My1 : Mem} (h : Rel Mx My) (ha : a = 41 ∨ a = 44) (hx : ∀ x k, SB a x k = false → gI Mx1 x k = gI Mx x k) (hy : SameBut SN My My1) (t1 : gI Mx1 1 1 = 0) (t2 : gI My1 50 1 = 0) (hA : RAu Mx1 My1) : Rel Mx1 My1 := by
  obtain ⟨h1, h2, h3, h4, h5⟩ := h
  have e : ∀ x k, x < 17 ∧ (x ≠ 1 ∨ k ≠ 1) → gI Mx1 x k = gI Mx x k := fun x k q => hx x k (SB_f ha q)
  exact ⟨⟨0, by omega, by rw [t1]; rfl, by rw [t2]; rfl, fun j hj => absurd hj (by omega)⟩, h2.move (e 3 1 (by omega)) (fun k => e 4 k (by omega)) (e 5 3 (by omega)) (fun k => e 6 k (by omega)) (fun k => e 7 k (by omega)) (fun k => e 8 k (by omega)) (hy.1 50 3 rfl) (fun k => hy.1 53 k rfl) (hy.1 50 12 rfl) (fun k => hy.1 65 k rfl) (fun k => hy.1 66 k rfl) (fun k => hy.1 67 k rfl), h3.move (e 9 3 (by omega)) (fun k => e 10 k (by omega)) (fun k => e 11 k (by omega)) (fun k => e 12 k (by omega)) (hy.1 50 4 rfl) (fun k => hy.1 56 k rfl) (fun k => hy.1 57 k rfl) (fun k => hy.1 58 k rfl), h4.move (e 9 4 (by omega)) (e 0 6 (by omega)) (e 5 5 (by omega)) (e 5 6 (by omega)) (hy.1 50 8 rfl) (hy.1 50 9 rfl) (hy.1 50 10 rfl) (hy.1 50 11 rfl), hA⟩
theorem sim_pattern : Sim_pattern Rel := by
  intro Mx My hR
  obtain ⟨n, hn, hx, hy, ht⟩ := hR.1
  obtain ⟨A, a, hAa, hA0, hA4, tA, k4, k5, k6, k7, k8, k9, k10⟩ := id hR.2.2.2.2
  have ha : a = 41 ∨ a = 44 := by omega
  obtain ⟨X, s, r1, r2, r3, r4, r5⟩ := begin_ok ha hA4 hn hx
  -- the reference begins
  have s0 : SameBut SM My (setI (setI (setI My 50 22 0) 50 36 0) 50 37 0) := ((SameBut.refl.setI rfl).setI rfl).setI rfl
  obtain ⟨Y, w1, w2, w3, w4⟩ := opens_ok (dep := 0) (ch := fun _ => (0, 0, false)) (rw := fun _ => (0, 0, true)) (M := setI (setI (setI My 50 22 0) 50 36 0) 50 37 0) (by omega) (by rw [gI_nk (by decide), gI_eq]; rfl) (fun d hd => absurd hd (by omega))
  have sy : SameBut SM My Y := s0.trans (w4.mono (fun x k q => by unfold SM at q; simp at q ⊢; omega))
  have hs : ∀ j, s j < 256 := r2.1.lt
  have qp : QP n s 0 (fun _ => 0) (fun _ _ => false) 0 (updF (fun _ => (0, 0, false)) 0 (0, 0, false)) (updF (fun _ => (0, 0, true)) 0 (0, 0, true)) 0 Y := by
    refine ⟨⟨hn, (sy.1 50 1 rfl).trans hy, hs, fun j hj => ?_⟩, ⟨by omega, ?_, ?_⟩, Or.inl ⟨w2, ⟨by omega, ?_, fun k hk => absurd hk (by omega), fun k hk => absurd hk (by omega)⟩, w3⟩⟩
    · rw [sy.1 51 j rfl, ht j hj, r3 j hj]
    · rw [w4.1 50 36 rfl, gI_nk (by decide), gI_eq]; rfl
    · rw [w4.1 50 37 rfl, gI_eq]; rfl
    · rw [w4.1 50 22 rfl, gI_nk (by decide), gI_nk (by decide), gI_eq]; rfl
  have bd : Bd 0 (fun _ => 0) (fun _ _ => false) 0 (updF (fun _ => ((0, 0, false) : Pt)) 0 (0, 0, false)) (updF (fun _ => ((0, 0, true) : Pt)) 0 (0, 0, true)) := by
    refine ⟨fun _ _ => rfl, fun _ _ _ => rfl, fun d k hd _ => ?_⟩
    have : d = 0 := by omega
    subst this
    rw [updF_eq, updF_eq]
    exact ⟨bit_0 k, bit_0 k⟩
  have res := side (a := a) (n := n) (s := s) FU FU 0 0 _ _ 0 _ _ 0 X Y (by unfold FU; omega) (by unfold FU; omega) (by omega) (by omega) r2 qp bd (fun q => absurd (w2.symm.trans q) (by decide))
  have eX : fX4_readFrom 1 Mx = fX4_readFrom_H7 1 FU (nI 0) X := by
    unfold fX4_readFrom
    rw [r1, bV_s]; rfl
  have eY : fX7_reads My = fX7_reads_H19 FU Y := by
    unfold fX7_reads
    rw [lt_eq, lt_eq, lt_eq, w1, bV_s]
  unfold fX6_pattern fX7_pattern
  rw [eX, eY]
  rcases res with ⟨q, X1, Y1, g1, g2, g3, g4, g5, g6⟩ | ⟨X1, Y1, t, fol, fit, g1, g2, g3, g4, g5, g6, g7, g8, g9⟩
  · rw [g2, bI_s, if_neg (nm1 (by omega)), g3, bI_s, lt_eq, if_pos z00, gI_nk (by decide), g4]
    have sx : SameBut (SB a) Mx X1 := r5.trans (SB_A g5)
    have sz : SameBut SN My (setI Y1 50 1 0) := (SN_M (sy.trans g6)).setI rfl
    refine ⟨_, X1, _, rfl, rfl, hR.keepPat ha sx.1 sz ?_ gI_eq ?_⟩
    · rw [g5.1 1 1 (by rcases ha with rfl | rfl <;> rfl)]; exact r4
    · have f0 : SB a 0 5 = false := SB_f ha (by omega)
      have f1 : SB a 17 4 = false := by rcases ha with rfl | rfl <;> rfl
      have sy2 : SameBut SM My Y1 := sy.trans g6
      refine hR.2.2.2.2.move (sx.2.2 0 5 f0) (sx.2.2 17 4 f1) (fun k => sx.1 _ k ?_) (fun x k z1 z2 z3 z4 z5 => sx.2.1 x k ?_) ?_ ?_ ?_ (fun k => ?_) (fun k => ?_)
      · rw [hA0]; unfold SB SPa; simp; omega
      · rw [hA4] at z3 z4 z5; unfold SB SPa; simp; omega
      · rw [gI_nk (by decide)]; exact sy2.1 50 17 rfl
      · exact sy2.2.1 50 20 rfl
      · exact sy2.2.1 50 21 rfl
      · exact sy2.2.1 69 k rfl
      · exact sy2.2.1 70 k rfl
  · have kA : kd A = 0 := by rcases hAa with ⟨rfl, -⟩ | ⟨rfl, -⟩ <;> rfl
    have sx : SameBut (SB a) Mx X1 := r5.trans (SB_A g8)
    have f0 : SB a 0 5 = false := SB_f ha (by omega)
    have f1 : SB a 17 4 = false := by rcases ha with rfl | rfl <;> rfl
    have e05 : gR X1 0 5 = A := (sx.2.2 0 5 f0).trans hA0
    have e174 : gR X1 17 4 = a := (sx.2.2 17 4 f1).trans hA4
    have ex : fX4_exchange A X1 = some (a, setR X1 17 4 A) := by
      unfold fX4_exchange
      rw [e174, ga_k (kd_a ha), lt_eq]
    have f05 : gR (setR (setR X1 17 4 A) 0 5 a) 0 5 = a := by rw [gR_setR, if_pos ⟨rfl, rfl⟩]
    rw [g1, bI_s, if_pos rfl, e05, ga_k kA, ex, bR_s, lt_eq, f05, ga_k (kd_a ha), fX0_atoms, bI_s, g2, bI_s, lt_eq, if_neg n10, lt_eq]
    have eI : ∀ x k, gI (setR (setR X1 17 4 A) 0 5 a) x k = gI X1 x k := fun _ _ => rfl
    have eJ : ∀ x k, gJ (setR (setR X1 17 4 A) 0 5 a) x k = gJ X1 x k := fun _ _ => rfl
    have h22 : gI (setI Y1 50 1 0) 50 22 = nI t := by rw [gI_nk (by decide)]; exact g4.2.1
    rw [h22]
    have s2 : SameBut SN My (setI (setI Y1 50 1 0) 50 17 (nI t)) := ((SN_M (sy.trans g9)).setI rfl).setI rfl
    obtain ⟨Z, z1, z2, z3⟩ := cp32 FU 0 (setI (setI Y1 50 1 0) 50 17 (nI t)) (by omega) (by unfold FU; omega)
    obtain ⟨W, v1, v2, v3⟩ := cp59 FU 0 Z (by omega) (by unfold FU; omega)
    rw [show (0 : Int32) = nI 0 from rfl] at z1 ⊢
    rw [show (nI 0) = (0 : Int32) from rfl] at z1 ⊢
    have hZ : gI Z 50 17 = nI t := by rw [z3.1 50 17 (onl_f (by omega) 17), gI_eq]
    have o69 : ∀ x k, x ≠ 69 → onl 69 x k = false := fun x k h => onl_f h k
    have o70 : ∀ x k, x ≠ 70 → onl 70 x k = false := fun x k h => onl_f h k
    have s3 : SameBut SN My Z := s2.trans (z3.mono (fun x k q => by unfold SN at q; unfold onl; simp at q ⊢; omega))
    have s4 : SameBut SN My W := s3.trans (v3.mono (fun x k q => by unfold SN at q; unfold onl; simp at q ⊢; omega))
    have s5 : SameBut SN My (setJ (setJ W 50 20 (gJ Z 78 0)) 50 21 (gJ Z 79 0)) := (s4.setJ rfl).setJ rfl
    have b78 : gJ Z 78 0 = gJ Y1 78 0 := by rw [z3.2.1 78 0 (o69 _ _ (by omega))]; rfl
    have b79 : gJ Z 79 0 = gJ Y1 79 0 := by rw [z3.2.1 79 0 (o69 _ _ (by omega))]; rfl
    have b75 : ∀ k, gJ Z 75 k = gJ Y1 75 k := fun k => by rw [z3.2.1 75 k (o69 _ _ (by omega))]; rfl
    refine ⟨nI t, setR (setR X1 17 4 A) 0 5 a, setJ (setJ W 50 20 (gJ Z 78 0)) 50 21 (gJ Z 79 0), ?_, ?_, ?_⟩
    · rw [eI, g3.2.1]
    · rw [z1]
      exact v1.trans (by rw [hZ])
    · refine hR.keepPat ha (fun x k q => (eI x k).trans (sx.1 x k q)) s5 ?_ ?_ ?_
      · rw [eI, g8.1 1 1 (by rcases ha with rfl | rfl <;> rfl)]; exact r4
      · rw [gI_setJ, gI_setJ, v3.1 50 1 (o70 _ _ (by omega)), z3.1 50 1 (o69 _ _ (by omega)), gI_nk (by decide), gI_eq]
      · refine ⟨a, A, by omega, f05, by rw [gR_setR, if_neg (by omega), gR_setR, if_pos ⟨rfl, rfl⟩], t, g4.1, by rw [eI]; exact g3.2.1, ?_, ?_, ?_, fun k hk => ?_, fun c k hc => ?_⟩
        · rw [gI_setJ, gI_setJ, v3.1 50 17 (o70 _ _ (by omega))]; exact hZ
        · rw [eJ, gJ_nk (by decide), gJ_eq, b78]; exact g6
        · rw [eJ, gJ_eq, b79]; exact g7
        · rw [eJ, gJ_ne (by decide), gJ_ne (by decide), v2 k (by have := g4.1; omega), if_pos (by omega), b75, g4.2.2.1 k hk, g3.2.2.1 k (by have := g4.1; omega)]
        · rw [eJ, g3.2.2.2 c k hc, gJ_ne (by decide), gJ_ne (by decide), v3.2.1 69 _ (o70 _ _ (by omega))]
          by_cases d : k < t
          · have t60 := g4.1
            rw [decide_eq_true d, Bool.true_and, z2 _ (by omega), if_pos (by omega)]
            rw [show gJ (setI (setI Y1 50 1 0) 50 17 (nI t)) 74 (4 * k + c / 64) = gJ Y1 74 (4 * k + c / 64) from rfl]
            exact (g4.2.2.2 k d c hc).symm
          · rw [decide_eq_false d, Bool.false_and]
            exact g5 k c (by omega)
