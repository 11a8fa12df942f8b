/-! pattern -/
def Res (a : Nat) (Mx My : Mem) (rx ry : Option (Int32 × Mem)) : Prop := (∃ q Mx1 My1, q ≤ 300 ∧ rx = some (nI q, Mx1) ∧ ry = some (0, My1) ∧ gI My1 50 37 = nI q ∧ SameBut (SPa a) Mx Mx1 ∧ SameBut SM My My1) ∨ (∃ Mx1 My1 t fol fit, rx = some (-1, Mx1) ∧ ry = some (1, My1) ∧ B3 a t fol fit Mx1 ∧ C3 t fol fit My1 ∧ (∀ k c, t ≤ k → fit k c = false) ∧ gJ Mx1 a 3 = gJ My1 78 0 ∧ gJ Mx1 a 4 = gJ My1 79 0 ∧ SameBut (SPa a) Mx Mx1 ∧ SameBut SM My My1)
theorem Res.from {a : Nat} {Mx My Mx0 My0 : Mem} {rx ry : Option (Int32 × Mem)} (h : Res a Mx0 My0 rx ry) (hx : SameBut (SPa a) Mx Mx0) (hy : SameBut SM My My0) : Res a Mx My rx ry := by
  rcases h with ⟨q, M1, M2, h1, h2, h3, h4, h5, h6⟩ | ⟨M1, M2, t, fol, fit, h1, h2, h3, h4, h5, h6, h7, h8, h9⟩
  · exact Or.inl ⟨q, M1, M2, h1, h2, h3, h4, hx.trans h5, hy.trans h6⟩
  · exact Or.inr ⟨M1, M2, t, fol, fit, h1, h2, h3, h4, h5, h6, h7, hx.trans h8, hy.trans h9⟩
theorem side {a n : Nat} {s : Nat → Nat} : ∀ (f1 f2 turn t : Nat) (fol : Nat → Int64) (fit : Nat → Nat → Bool) (dep : Nat) (ch rw : Nat → Pt) (p : Nat) (Mx My : Mem), n < p + f1 → n < p + f2 → turn ≤ p → p ≤ n → QX a n s t fol fit dep ch rw p Mx → QP n s t fol fit dep ch rw p My → Bd t fol fit dep ch rw → (gI My 50 32 = 1 → p < n → s p ≠ 42 ∧ s p ≠ 43 ∧ s p ≠ 63) → Res a Mx My (fX4_readFrom_H7 1 f1 (nI turn) Mx) (fX7_reads_H19 f2 My) := by
  intro f1
  induction f1 with
  | zero => intro f2 turn t fol fit dep ch rw p Mx My q1 q2 q3 q4; omega
  | succ f1 ih =>
    intro f2 turn t fol fit dep ch rw p Mx My q1 q2 q3 q4 hX hY hB hN
    obtain ⟨f2, rfl⟩ : ∃ f, f2 = f + 1 := ⟨f2 - 1, by omega⟩
    obtain ⟨x1, x2, x3, x4⟩ := id hX
    have ha := x1.1
    have hn := x1.2.2.1
    have hd := x2.1
    have y1 := hY.1
    have y2 := hY.2.1
    by_cases c : n ≤ p
    · -- the end
      have e : p = n := by omega
      subst e
      have ex : fX4_readFrom_H7 1 (f1 + 1) (nI turn) Mx = fX4_readFrom_L164 1 Mx := by
        rw [fX4_readFrom_H7, fX5_size, bI_s, x1.2.2.2.1, x2.2.2.1, if_pos (nI_le (Nat.le_refl p) (by omega))]
        split <;> rfl
      obtain ⟨N, r1, r2, r3, r4, r5, r6, r7⟩ := closes_ok hY
      have ey : fX7_reads_H19 (f2 + 1) My = if nI dep = 0 then zr_ 1 N else zr_ 0 N := by
        rw [fX7_reads_H19, y1.2.1, y2.2.2, if_pos (nI_le (Nat.le_refl p) (by omega)), r1, bV_s, r4.2.1]
      rw [ex, ey]
      cases dep with
      | zero =>
        rw [if_pos (show nI 0 = 0 from rfl), zr_1]
        obtain ⟨M1, w1, w2, w3, w4, w5⟩ := L164_ok hX
        obtain ⟨⟨g1, g2, -⟩, -⟩ := r6 0 (Nat.le_refl 0)
        rw [updF_eq] at g1 g2
        exact Or.inr ⟨M1, N, t, fol, fit, w1, rfl, w2, r5, hB.2.1, w3.trans g1.symm, w4.trans g2.symm, w5, r7⟩
      | succ dep =>
        rw [if_neg (show ¬ nI (dep + 1) = 0 from fun z => absurd ((nI_eq (b := 0) (by omega) (by omega)).mp z) (by omega)), zr_0]
        have s0 : SameBut S17 Mx (setI Mx 17 7 (nI p)) := SameBut.refl.setI rfl
        obtain ⟨M1, w1, w2, w3⟩ := end_any (a := a) (M := setI Mx 17 7 (nI p)) (dep := dep + 1) (q := p) ha x1.2.1 hd (by rw [gI_nk (by decide)]; exact x2.2.1) gI_eq
        refine Or.inl ⟨p, M1, N, hn, ?_, rfl, r4.2.2, (up_17 s0).trans w3, r7⟩
        unfold fX4_readFrom_L164 fX4_end
        rw [x2.2.2.2, if_pos rfl, x2.2.1, if_neg (nI_nle (by omega) (by omega)), fX5_size, bI_s, x1.2.2.2.1, lt_eq, w1, bV_s, w2]
    · have hp : p < n := by omega
      have hl := x1.lt p
      -- both at the sign
      have ey : fX7_reads_H19 (f2 + 1) My = fX7_reads_L149 (fX7_reads_H19 f2) (nI (s p)) My := by
        rw [fX7_reads_H19, y1.2.1, y2.2.2, if_neg (nI_ge hp (by omega)), y1.peek q4 y2.2.2, bI_s, if_pos hp]
        have l53 : (s p = 42 ∨ s p = 43 ∨ s p = 63) → fX7_reads_L53 (fX7_reads_H19 f2) (nI (s p)) My = fX7_reads_L149 (fX7_reads_H19 f2) (nI (s p)) My := by
          intro hs
          unfold fX7_reads_L53
          rcases hY.2.2 with h | h
          · rw [h.1, if_pos z00]
          · have := hN h.1 hp
            omega
        have e42 : nI (s p) = 42 ↔ s p = 42 := nI_eq (b := 42) (by omega) (by omega)
        have e43 : nI (s p) = 43 ↔ s p = 43 := nI_eq (b := 43) (by omega) (by omega)
        have e63 : nI (s p) = 63 ↔ s p = 63 := nI_eq (b := 63) (by omega) (by omega)
        by_cases d1 : s p = 42
        · rw [if_pos (e42.mpr d1)]; exact l53 (Or.inl d1)
        · rw [if_neg (fun z => d1 (e42.mp z))]
          by_cases d2 : s p = 43
          · rw [if_pos (e43.mpr d2)]; exact l53 (Or.inr (Or.inl d2))
          · rw [if_neg (fun z => d2 (e43.mp z))]
            by_cases d3 : s p = 63
            · rw [if_pos (e63.mpr d3)]; exact l53 (Or.inr (Or.inr d3))
            · rw [if_neg (fun z => d3 (e63.mp z))]
      have e40 : nI (s p) = 40 ↔ s p = 40 := nI_eq (b := 40) (by omega) (by omega)
      have e41 : nI (s p) = 41 ↔ s p = 41 := nI_eq (b := 41) (by omega) (by omega)
      have e42 : nI (s p) = 42 ↔ s p = 42 := nI_eq (b := 42) (by omega) (by omega)
      have e43 : nI (s p) = 43 ↔ s p = 43 := nI_eq (b := 43) (by omega) (by omega)
      have e63 : nI (s p) = 63 ↔ s p = 63 := nI_eq (b := 63) (by omega) (by omega)
      have e93 : nI (s p) = 93 ↔ s p = 93 := nI_eq (b := 93) (by omega) (by omega)
      have e124 : nI (s p) = 124 ↔ s p = 124 := nI_eq (b := 124) (by omega) (by omega)
      rw [ey, fX4_readFrom_H7, if_neg (show ¬ (300 : Int32) ≤ nI turn from nI_ge (b := 300) (by omega) (by omega)), fX5_size, bI_s, x1.2.2.2.1, x2.2.2.1, if_neg (nI_ge hp (by omega)), x2.2.2.2, if_pos rfl, x1.at q4, bI_s, if_pos hp]
      -- a fault in the class
      have flx : ∀ (q : Nat) (M1 : Mem), q ≤ n → SameBut (SPa a) Mx M1 → gI M1 17 7 = nI q → gI M1 17 5 = nI dep → ∃ M2, fX4_readFrom_L158 (fX4_readFrom_H7 1 f1) 1 (nI turn) M1 = some (nI q, M2) ∧ SameBut (SPa a) Mx M2 := by
        intro q M1 k1 k2 k3 k4
        unfold fX4_readFrom_L158
        obtain ⟨f, rfl⟩ : ∃ f, f1 = f + 1 := ⟨f1 - 1, by omega⟩
        rw [lt_eq, H7_f k3 (by omega)]
        obtain ⟨M2, w1, w2⟩ := L164_f (q := q) ha (x1.moveA k2).2.1 hd k4 k3 (by omega)
        exact ⟨M2, w1, k2.trans w2⟩
      have flt : ∃ M2, fX4_readFrom_L158 (fX4_readFrom_H7 1 f1) 1 (nI turn) (setI Mx 17 7 (nI p)) = some (nI p, M2) ∧ SameBut (SPa a) Mx M2 := flx p _ q4 (up_17 (SameBut.refl.setI rfl)) gI_eq (by rw [gI_nk (by decide)]; exact x2.2.1)
      -- going on, with one sign or more read
      have go : ∀ (f : Nat) (t1 : Nat) (fol1 : Nat → Int64) (fit1 : Nat → Nat → Bool) (dep1 : Nat) (ch1 rw1 : Nat → Pt) (p1 : Nat) (M1 M2 : Mem), p < p1 → p1 ≤ n → n < p1 + f → SameBut (SPa a) Mx M1 → SameBut SM My M2 → QX a n s t1 fol1 fit1 dep1 ch1 rw1 p1 M1 → QP n s t1 fol1 fit1 dep1 ch1 rw1 p1 M2 → Bd t1 fol1 fit1 dep1 ch1 rw1 → (gI M2 50 32 = 1 → p1 < n → s p1 ≠ 42 ∧ s p1 ≠ 43 ∧ s p1 ≠ 63) → Res a Mx My (fX4_readFrom_L158 (fX4_readFrom_H7 1 f1) 1 (nI turn) M1) (fX7_reads_H19 f M2) := by
        intro f t1 fol1 fit1 dep1 ch1 rw1 p1 M1 M2 k1 k2 k3 k4 k5 k6 k7 k8 k9
        unfold fX4_readFrom_L158
        rw [lt_eq, show nI turn + 1 = nI (turn + 1) from nI_add turn 1]
        exact (ih f (turn + 1) t1 fol1 fit1 dep1 ch1 rw1 p1 M1 M2 (by omega) k3 (by omega) k2 k6 k7 k8 k9).from k4 k5
      have no : ∀ (rx : Option (Int32 × Mem)), (∃ M2, rx = some (nI p, M2) ∧ SameBut (SPa a) Mx M2) → (t = 60 ∨ s p = 124 ∨ s p = 42 ∨ s p = 43 ∨ s p = 63 ∨ s p = 93 ∨ s p = 41) → Res a Mx My rx (fX7_reads_L314 (fX7_reads_H19 f2) (nI (s p)) My) := by
        intro rx hr hc
        obtain ⟨M2, w1, w2⟩ := hr
        unfold fX7_reads_L314
        rw [plain_no hl hY hc, bI_s, if_pos z00, zr_0]
        exact Or.inl ⟨p, M2, My, by omega, w1, rfl, y2.2.2, w2, SameBut.refl⟩
      by_cases c40 : s p = 40
      · rw [if_pos (e40.mpr c40)]
        unfold fX7_reads_L149
        rw [if_neg (fun z => absurd (e124.mp z) (by omega)), if_pos (e40.mpr c40), y2.2.1]
        by_cases d8 : dep < 8
        · obtain ⟨M1, r1, r2, r3⟩ := open_ok hX d8
          obtain ⟨N, w1, w2, w3, w4, w5, w6, w7⟩ := joins_ok hY
          have s1 : SameBut (fun x k => x == 50 && k == 36) N (setI N 50 36 (nI (dep + 1))) := SameBut.refl.setI rfl
          have g4 := w6.move s1 (fun x k _ _ => by simp; omega)
          obtain ⟨N1, z1, z2, z3, z4⟩ := opens_ok (dep := dep + 1) (ch := ch) (rw := rw) (M := setI N 50 36 (nI (dep + 1))) (by omega) gI_eq (fun d hd2 => g4 d (by omega))
          rw [r1, bV_s, if_neg (show ¬ nI dep = 8 from fun z => absurd ((nI_eq (b := 8) (by omega) (by omega)).mp z) (by omega)), w1, bV_s, lt_eq, w4.2.1, show nI dep + 1 = nI (dep + 1) from nI_add dep 1, z1, bV_s, lt_eq, z4.1 50 37 rfl, s1.1 50 37 rfl, w4.2.2, show nI p + 1 = nI (p + 1) from nI_add p 1]
          unfold fX7_reads_L324
          have s2 : SameBut (fun x k => x == 50 && k == 37) N1 (setI N1 50 37 (nI (p + 1))) := SameBut.refl.setI rfl
          have sa : SameBut SM My (setI N1 50 37 (nI (p + 1))) := ((w7.trans ((s1.mono (fun x k q => by unfold SM at q; simp at q ⊢; omega)) : SameBut SM _ _)).trans (z4.mono (fun x k q => by unfold SM at q; simp at q ⊢; omega))).trans (s2.mono (fun x k q => by unfold SM at q; simp at q ⊢; omega))
          refine go f2 t fol fit (dep + 1) _ _ (p + 1) M1 _ (by omega) (by omega) (by omega) r3 sa r2 ⟨y1.move sa rfl (fun _ => rfl), ⟨by omega, ?_, gI_eq⟩, Or.inl ⟨(s2.1 50 32 rfl).trans z2, ((w5.move s1 rfl (fun _ => rfl) (fun _ _ => rfl)).move z4 rfl (fun _ => rfl) (fun _ _ => rfl)).move s2 rfl (fun _ => rfl) (fun _ _ => rfl), z3.move s2 (fun x k _ _ => by simp; omega)⟩⟩ ⟨hB.1, hB.2.1, fun d k hd2 hk => ?_⟩ (fun q => absurd ((s2.1 50 32 rfl).trans z2 ▸ q) (by decide))
          · rw [gI_nk (by decide), z4.1 50 36 rfl, gI_eq]
          · by_cases e : d = dep + 1
            · rw [e, updF_eq, updF_eq]; exact ⟨bit_0 k, bit_0 k⟩
            · rw [updF_ne e, updF_ne e]; exact hB.2.2 d k (by omega) hk
        · have e8 : dep = 8 := by omega
          subst e8
          have ex : fX4_open Mx = some (setI Mx 17 7 (nI p)) := by
            unfold fX4_open
            rw [x2.2.1, if_neg (show ¬ nI 8 < 8 by decide), lt_eq, x2.2.2.1]
          rw [ex, bV_s, if_pos (show nI 8 = 8 from rfl), zr_0]
          obtain ⟨M2, w1, w2⟩ := flt
          exact Or.inl ⟨p, M2, My, by omega, w1, rfl, y2.2.2, w2, SameBut.refl⟩
      · rw [if_neg (fun z => c40 (e40.mp z))]
        by_cases c41 : s p = 41
        · rw [if_pos (e41.mpr c41)]
          unfold fX7_reads_L149
          rw [if_neg (fun z => absurd (e124.mp z) (by omega)), if_neg (fun z => c40 (e40.mp z)), if_pos (e41.mpr c41), y2.2.1]
          cases dep with
          | zero =>
            have ex : fX4_close Mx = some (setI Mx 17 7 (nI p)) := by
              unfold fX4_close
              rw [x2.2.1, if_neg (show ¬ (0 : Int32) < nI 0 by decide), lt_eq, x2.2.2.1]
            rw [ex, bV_s, if_pos (show nI 0 ≤ 0 by decide)]
            exact no _ flt (by omega)
          | succ dep =>
            rw [if_neg (nI_nle (by omega) (by omega))]
            obtain ⟨M1, r1, r2, r3⟩ := close_ok hX hp
            obtain ⟨N, w1, w2, w3, w4, w5, w6, w7⟩ := closes_ok hY
            obtain ⟨⟨g1, g2, g3⟩, -⟩ := w6 (dep + 1) (Nat.le_refl _)
            rw [updF_eq] at g1 g2 g3
            rw [r1, bV_s, w1, bV_s, lt_eq, w4.2.1, pred_nI, sz_1]
            have en : ∀ (x : Mem), gI x 50 36 = nI dep → gI x 50 36 + 1 = nI (dep + 1) := fun x h => by rw [h]; exact nI_add dep 1
            have f36 : gI (setI (setI N 50 36 (nI dep)) 50 32 1) 50 36 = nI dep := by rw [gI_nk (by decide), gI_eq]
            have f76 : gI (setI (setI N 50 36 (nI dep)) 50 32 1) 76 (dep + 1) = bz (chA (ch (dep + 1)) (rw (dep + 1))).2.2 := by rw [gI_ne (by decide), gI_ne (by decide)]; exact g3
            rw [en _ f36, zald_n (show dep + 1 < 9 by omega) (by decide), f76, sz_b]
            have f36b : gI (setI (setI (setI N 50 36 (nI dep)) 50 32 1) 50 33 (bz (chA (ch (dep + 1)) (rw (dep + 1))).2.2)) 50 36 = nI dep := by rw [gI_nk (by decide)]; exact f36
            rw [en _ f36b, lald_n (show dep + 1 < 9 by omega) (by decide), lt_eq]
            rw [show gJ (setI (setI (setI N 50 36 (nI dep)) 50 32 1) 50 33 (bz (chA (ch (dep + 1)) (rw (dep + 1))).2.2)) 78 (dep + 1) = (chA (ch (dep + 1)) (rw (dep + 1))).1 from g1]
            have f36c : gI (setJ (setI (setI (setI N 50 36 (nI dep)) 50 32 1) 50 33 (bz (chA (ch (dep + 1)) (rw (dep + 1))).2.2)) 50 34 (chA (ch (dep + 1)) (rw (dep + 1))).1) 50 36 = nI dep := f36b
            rw [en _ f36c, lald_n (show dep + 1 < 9 by omega) (by decide), lt_eq, gJ_ne (by decide)]
            rw [show gJ (setI (setI (setI N 50 36 (nI dep)) 50 32 1) 50 33 (bz (chA (ch (dep + 1)) (rw (dep + 1))).2.2)) 79 (dep + 1) = (chA (ch (dep + 1)) (rw (dep + 1))).2.1 from g2, lt_eq]
            have f37 : gI (setJ (setJ (setI (setI (setI N 50 36 (nI dep)) 50 32 1) 50 33 (bz (chA (ch (dep + 1)) (rw (dep + 1))).2.2)) 50 34 (chA (ch (dep + 1)) (rw (dep + 1))).1) 50 35 (chA (ch (dep + 1)) (rw (dep + 1))).2.1) 50 37 + 1 = nI (p + 1) := by
              rw [gI_setJ, gI_setJ, gI_nk (by decide), gI_nk (by decide), gI_nk (by decide), w4.2.2]; exact nI_add p 1
            rw [f37]
            unfold fX7_reads_L324
            have sf : SameBut (fun x k => x == 50 && (k == 32 || k == 33 || k == 34 || k == 35 || k == 36 || k == 37)) N (setI (setJ (setJ (setI (setI (setI N 50 36 (nI dep)) 50 32 1) 50 33 (bz (chA (ch (dep + 1)) (rw (dep + 1))).2.2)) 50 34 (chA (ch (dep + 1)) (rw (dep + 1))).1) 50 35 (chA (ch (dep + 1)) (rw (dep + 1))).2.1) 50 37 (nI (p + 1))) := (((((SameBut.refl.setI rfl).setI rfl).setI rfl).setJ rfl).setJ rfl).setI rfl
            have hpd : PD n s t fol fit dep ch rw (chA (ch (dep + 1)) (rw (dep + 1))) (p + 1) (setI (setJ (setJ (setI (setI (setI N 50 36 (nI dep)) 50 32 1) 50 33 (bz (chA (ch (dep + 1)) (rw (dep + 1))).2.2)) 50 34 (chA (ch (dep + 1)) (rw (dep + 1))).1) 50 35 (chA (ch (dep + 1)) (rw (dep + 1))).2.1) 50 37 (nI (p + 1))) := by
              refine ⟨w3.move sf rfl (fun _ => rfl), ⟨by omega, ?_, gI_eq⟩, ?_, w5.move sf rfl (fun _ => rfl) (fun _ _ => rfl), fun d hd2 => ?_, ?_, ?_, ?_⟩
              · rw [gI_nk (by decide)]; exact f36c
              · rw [gI_nk (by decide), gI_setJ, gI_setJ, gI_nk (by decide), gI_eq]
              · have k := (w6.move sf (fun x k _ _ => by simp; omega)) d (by omega)
                rw [updF_ne (by omega)] at k
                exact k
              · rw [gI_nk (by decide), gI_setJ, gI_setJ, gI_eq]
              · rw [gJ_setI, gJ_nk (by decide), gJ_eq]
              · rw [gJ_setI, gJ_eq]
            obtain ⟨N2, f, z1, z2, z3, z4, z5, z6⟩ := after_ok (f := f2) hpd (by omega) (by omega) (fun k hk => (hB.2.2 dep k (by omega) hk).2)
            rw [z1]
            have sa : SameBut SM My N2 := (w7.trans (sf.mono (fun x k q => by unfold SM at q; simp at q ⊢; omega))).trans z5
            refine go f t _ fit dep ch _ _ M1 N2 (by split <;> omega) z4 z3 r3 sa ?_ z2 ⟨fun k hk => ?_, hB.2.1, fun d k hd2 hk => ⟨(hB.2.2 d k (by omega) hk).1, ?_⟩⟩ z6
            · exact r2
            · rw [conA_hi hk]
              split
              · rw [conA_hi hk]; exact hB.1 k hk
              · exact hB.1 k hk
            · by_cases e : d = dep
              · rw [e, updF_eq]
                exact behA_bd (hB.2.2 dep k (by omega) hk).2 (chA_bd (hB.2.2 (dep + 1) k (Nat.le_refl _) hk).1 (hB.2.2 (dep + 1) k (Nat.le_refl _) hk).2)
              · rw [updF_ne e]; exact (hB.2.2 d k (by omega) hk).2
        · rw [if_neg (fun z => c41 (e41.mp z))]
          have l143 : fX4_readFrom_L143 (fX4_readFrom_H7 1 f1) 1 (nI turn) Mx = fX4_readFrom_L158 (fX4_readFrom_H7 1 f1) 1 (nI turn) (setI Mx 17 7 (nI p)) := by
            unfold fX4_readFrom_L143
            rw [lt_eq, x2.2.2.1]
          have l149 : s p ≠ 124 → fX7_reads_L149 (fX7_reads_H19 f2) (nI (s p)) My = fX7_reads_L314 (fX7_reads_H19 f2) (nI (s p)) My := by
            intro h
            unfold fX7_reads_L149
            rw [if_neg (fun z => h (e124.mp z)), if_neg (fun z => c40 (e40.mp z)), if_neg (fun z => c41 (e41.mp z))]
          by_cases cs : s p = 42 ∨ s p = 43 ∨ s p = 63 ∨ s p = 93
          · rw [l149 (by omega)]
            refine no _ ?_ (by omega)
            rw [l143]
            rcases cs with e | e | e | e
            · rw [if_pos (e42.mpr e)]; exact flt
            · rw [if_neg (fun z => absurd (e42.mp z) (by omega)), if_pos (e43.mpr e)]; exact flt
            · rw [if_neg (fun z => absurd (e42.mp z) (by omega)), if_neg (fun z => absurd (e43.mp z) (by omega)), if_pos (e63.mpr e)]; exact flt
            · rw [if_neg (fun z => absurd (e42.mp z) (by omega)), if_neg (fun z => absurd (e43.mp z) (by omega)), if_neg (fun z => absurd (e63.mp z) (by omega)), if_pos (e93.mpr e)]; exact flt
          · rw [if_neg (fun z => cs (Or.inl (e42.mp z))), if_neg (fun z => cs (Or.inr (Or.inl (e43.mp z)))), if_neg (fun z => cs (Or.inr (Or.inr (Or.inl (e63.mp z))))), if_neg (fun z => cs (Or.inr (Or.inr (Or.inr (e93.mp z)))))]
            by_cases c124 : s p = 124
            · rw [if_pos (e124.mpr c124)]
              unfold fX7_reads_L149
              rw [if_pos (e124.mpr c124)]
              obtain ⟨M1, r1, r2, r3, r4⟩ := bar_ok hX
              obtain ⟨N, w1, w2, w3, w4, w5, w6, w7⟩ := closes_ok hY
              obtain ⟨N1, z1, z2, z3, z4⟩ := begins_ok (dep := dep) (ch := updF ch dep (chA (ch dep) (rw dep))) (rw := rw) (M := N) hd w4.2.1 (fun d hd2 => (w6 d hd2).1) (fun d hd2 => (w6 d (by omega)).2)
              rw [r1, bV_s, lt_eq, r2, show nI p + 1 = nI (p + 1) from nI_add p 1, w1, bV_s, z1, bV_s, lt_eq, z4.1 50 37 rfl, w4.2.2, show nI p + 1 = nI (p + 1) from nI_add p 1]
              unfold fX7_reads_L324
              have s2 : SameBut (fun x k => x == 50 && k == 37) N1 (setI N1 50 37 (nI (p + 1))) := SameBut.refl.setI rfl
              have sa : SameBut SM My (setI N1 50 37 (nI (p + 1))) := (w7.trans (z4.mono (fun x k q => by unfold SM at q; simp at q ⊢; omega))).trans (s2.mono (fun x k q => by unfold SM at q; simp at q ⊢; omega))
              refine go f2 t fol fit dep _ _ (p + 1) _ _ (by omega) (by omega) (by omega) r4 sa r3 ⟨y1.move sa rfl (fun _ => rfl), ⟨hd, by rw [gI_nk (by decide), z4.1 50 36 rfl]; exact w4.2.1, gI_eq⟩, Or.inl ⟨(s2.1 50 32 rfl).trans z2, (w5.move z4 rfl (fun _ => rfl) (fun _ _ => rfl)).move s2 rfl (fun _ => rfl) (fun _ _ => rfl), z3.move s2 (fun x k _ _ => by simp; omega)⟩⟩ ⟨hB.1, hB.2.1, fun d k hd2 hk => ?_⟩ (fun q => absurd ((s2.1 50 32 rfl).trans z2 ▸ q) (by decide))
              by_cases e : d = dep
              · rw [e, updF_eq, updF_eq]; exact ⟨chA_bd (hB.2.2 dep k (Nat.le_refl _) hk).1 (hB.2.2 dep k (Nat.le_refl _) hk).2, bit_0 k⟩
              · rw [updF_ne e, updF_ne e]; exact hB.2.2 d k hd2 hk
            · rw [if_neg (fun z => c124 (e124.mp z)), l149 c124]
              by_cases ht : t = 60
              · subst ht
                rw [atom_full hX, bV_s]
                exact no _ flt (Or.inl rfl)
              · have ht : t < 60 := by have := x3.1; omega
                have kx := atom_in hX hp ht (fun c => hB.2.1 t c (Nat.le_refl t))
                have ky := plain_in hY hp ht (hB.1 t (Nat.le_refl t)) (by omega)
                unfold fX7_reads_L314
                cases hA : atA n s p with
                | inl q =>
                  rw [hA] at kx ky
                  obtain ⟨M1, r1, r2, r3, r4, r5⟩ := kx
                  obtain ⟨N, w1, w2, w3⟩ := ky
                  rw [r1, bV_s, w1, bI_s, if_pos z00, zr_0]
                  obtain ⟨M2, z1, z2⟩ := flx q M1 r5 r4 r2 r3
                  exact Or.inl ⟨q, M2, N, by omega, z1, rfl, w2, z2, w3⟩
                | inr gq =>
                  obtain ⟨g, q⟩ := gq
                  rw [hA] at kx ky
                  obtain ⟨M1, r1, r2, r3, r4, r5, r6⟩ := kx
                  obtain ⟨N, w1, w2, w3⟩ := ky
                  obtain ⟨M2, u1, u2, u3⟩ := endPiece_ok r2 r6 r3
                  obtain ⟨N1, v1, v2, v3⟩ := L162_ok (t0 := t) w2
                  have tb : ∀ k, t + 1 ≤ k → bit (shl6 1 (nI t)) k = false := by
                    intro k hk
                    by_cases k64 : k < 64
                    · rw [bit_shl1 (by omega) k64, decide_eq_false (by omega)]
                    · exact bit_big _ (by omega)
                  obtain ⟨N2, f, z1, z2, z3, z4, z5, z6⟩ := after_ok (f := f2) v2 r6 (by omega) (fun k hk => (hB.2.2 dep k (Nat.le_refl _) (by omega)).2)
                  rw [r1, u1, bV_s, bV_s, w1, v1, bI_s, if_neg n10]
                  unfold fX7_reads_L324
                  rw [z1]
                  refine go f (t + 1) _ (updF fit t g) dep ch _ _ M2 N2 (by split <;> omega) z4 z3 (r4.trans u3) ((w3.trans v3).trans z5) u2 z2 ⟨fun k hk => ?_, fun k c hk => ?_, fun d k hd2 hk => ⟨(hB.2.2 d k hd2 (by omega)).1, ?_⟩⟩ z6
                  · rw [conA_hi hk]
                    split
                    · rw [conA_hi hk]; exact hB.1 k (by omega)
                    · exact hB.1 k (by omega)
                  · rw [updF_ne (by omega)]; exact hB.2.1 k c (by omega)
                  · by_cases e : d = dep
                    · rw [e, updF_eq]
                      exact behA_bd (hB.2.2 dep k (Nat.le_refl _) (by omega)).2 (tb k hk)
                    · rw [updF_ne e]; exact (hB.2.2 d k hd2 (by omega)).2
