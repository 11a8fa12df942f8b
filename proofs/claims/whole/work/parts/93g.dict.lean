/-! the dictionary's cheapest way -/
def bet (s p l s1 p1 l1 : Nat) : Prop := s < s1 ∨ (s = s1 ∧ (p < p1 ∨ (p = p1 ∧ l1 < l)))
theorem bet_trans {s p l s1 p1 l1 s2 p2 l2 : Nat} (h : bet s p l s1 p1 l1) (g : bet s1 p1 l1 s2 p2 l2) : bet s p l s2 p2 l2 := by unfold bet at *; omega
theorem bet_irr {s p l : Nat} : ¬ bet s p l s p l := by unfold bet; omega
theorem bet_eq {s p l s1 p1 l1 : Nat} (h : ¬ bet s p l s1 p1 l1) (g : ¬ bet s1 p1 l1 s p l) : s = s1 ∧ p = p1 ∧ l = l1 := by unfold bet at *; omega
theorem bet_nt {s p l s1 p1 l1 s2 p2 l2 : Nat} (h : ¬ bet s p l s1 p1 l1) (g : bet s2 p2 l2 s1 p1 l1) : ¬ bet s p l s2 p2 l2 := fun q => h (bet_trans q g)
theorem bet_nn {s p l s1 p1 l1 s2 p2 l2 : Nat} (h : ¬ bet s p l s1 p1 l1) (g : ¬ bet s1 p1 l1 s2 p2 l2) : ¬ bet s p l s2 p2 l2 := by unfold bet at *; omega
def matW (len : Nat → Nat) (L : Nat → Nat → Nat) (b : Nat → Nat) (en k i : Nat) : Prop := i + len k ≤ en ∧ ∀ j, j < len k → L k j = b (i + j)
def BestW (w st : Nat) (len cst : Nat → Nat) (L : Nat → Nat → Nat) (b : Nat → Nat) (en : Nat) (S P : Nat → Nat) (i s p l : Nat) : Prop := ((s = st + S (i + 1) ∧ p = 1 + P (i + 1) ∧ l = 1) ∨ ∃ k, k < w ∧ matW len L b en k i ∧ s = cst k + S (i + len k) ∧ p = 1 + P (i + len k) ∧ l = len k) ∧ ¬ bet (st + S (i + 1)) (1 + P (i + 1)) 1 s p l ∧ ∀ k, k < w → matW len L b en k i → ¬ bet (cst k + S (i + len k)) (1 + P (i + len k)) (len k) s p l
theorem BestW.uniq {w st : Nat} {len cst : Nat → Nat} {L : Nat → Nat → Nat} {b : Nat → Nat} {en : Nat} {S P S1 P1 : Nat → Nat} {i s p l s1 p1 l1 : Nat} (hl : ∀ k, k < w → 1 ≤ len k) (hi : i < en) (hS : ∀ j, i < j → j ≤ en → S j = S1 j ∧ P j = P1 j) (h : BestW w st len cst L b en S P i s p l) (g : BestW w st len cst L b en S1 P1 i s1 p1 l1) : s = s1 ∧ p = p1 ∧ l = l1 := by
  obtain ⟨h1, h2, h3⟩ := h
  obtain ⟨g1, g2, g3⟩ := g
  have e1 := hS (i + 1) (by omega) (by omega)
  apply bet_eq
  · rcases h1 with ⟨rfl, rfl, rfl⟩ | ⟨k, k1, k2, rfl, rfl, rfl⟩
    · rw [e1.1, e1.2]; exact g2
    · have e2 := hS (i + len k) (by have := hl k k1; omega) k2.1
      rw [e2.1, e2.2]; exact g3 k k1 k2
  · rcases g1 with ⟨rfl, rfl, rfl⟩ | ⟨k, k1, k2, rfl, rfl, rfl⟩
    · rw [← e1.1, ← e1.2]; exact h2
    · have e2 := hS (i + len k) (by have := hl k k1; omega) k2.1
      rw [← e2.1, ← e2.2]; exact h3 k k1 k2
theorem tryX {i m c s p l s1 p1 : Nat} {M : Mem} (hi : i + m ≤ 300) (h0 : c + s1 < 2 ^ 30) (h1 : p1 < 2 ^ 30) (hs : s < 2 ^ 30) (hp : p < 2 ^ 30) (hl : l < 2 ^ 30) (e1 : gI M 13 (i + m) = nI s1) (e2 : gI M 14 (i + m) = nI p1) (e3 : gI M 13 i = nI s) (e4 : gI M 14 i = nI p) (e5 : gI M 15 i = nI l) : (bet (c + s1) (1 + p1) m s p l → fX1_tryPiece (nI i) (nI m) (nI c) M = some (setI (setI (setI M 13 i (nI (c + s1))) 14 i (nI (1 + p1))) 15 i (nI m))) ∧ (¬ bet (c + s1) (1 + p1) m s p l → fX1_tryPiece (nI i) (nI m) (nI c) M = some M) := by
  have yes : ∀ M, fX1_tryPiece_L92 (nI i) (nI m) (nI (c + s1)) (nI (1 + p1)) 1 M = some (setI (setI (setI M 13 i (nI (c + s1))) 14 i (nI (1 + p1))) 15 i (nI m)) := by
    intro M
    unfold fX1_tryPiece_L92
    rw [if_neg n10, iast_n (show i < 301 by omega) (by decide), iast_n (show i < 301 by omega) (by decide), iast_n (show i < 301 by omega) (by decide)]
  have no : ∀ M, fX1_tryPiece_L92 (nI i) (nI m) (nI (c + s1)) (nI (1 + p1)) 0 M = some M := fun M => by unfold fX1_tryPiece_L92; rw [if_pos z00]
  have run : fX1_tryPiece (nI i) (nI m) (nI c) M = if s ≤ c + s1 then (if c + s1 = s then (if 1 + p1 < p then fX1_tryPiece_L92 (nI i) (nI m) (nI (c + s1)) (nI (1 + p1)) 1 M else if 1 + p1 = p then (if m ≤ l then fX1_tryPiece_L92 (nI i) (nI m) (nI (c + s1)) (nI (1 + p1)) 0 M else fX1_tryPiece_L92 (nI i) (nI m) (nI (c + s1)) (nI (1 + p1)) 1 M) else fX1_tryPiece_L92 (nI i) (nI m) (nI (c + s1)) (nI (1 + p1)) 0 M) else fX1_tryPiece_L92 (nI i) (nI m) (nI (c + s1)) (nI (1 + p1)) 0 M) else fX1_tryPiece_L92 (nI i) (nI m) (nI (c + s1)) (nI (1 + p1)) 1 M := by
    unfold fX1_tryPiece fX1_tryPiece_L40 fX1_tryPiece_L85 fX1_tryPiece_L89 fX1_tryPiece_L90
    simp only [lt_eq]
    rw [nI_add, iald_n (show i + m < 301 by omega) (by decide), iald_n (show i + m < 301 by omega) (by decide), iald_n (show i < 301 by omega) (by decide)]
    simp only [iald_n (show i < ln 13 by show i < 301; omega) (by decide), iald_n (show i < ln 14 by show i < 301; omega) (by decide), iald_n (show i < ln 15 by show i < 301; omega) (by decide)]
    rw [e1, e2, e3, e4, e5, nI_add, show (1 : Int32) + nI p1 = nI (1 + p1) from nI_add 1 p1]
    simp (disch := omega) only [nI_leI, nI_ltI, nI_eq]
    by_cases d : s ≤ c + s1
    · rw [if_pos d, if_pos d]
    · rw [if_neg d, if_neg d, if_neg (by omega)]
  rw [run, yes, no]
  unfold bet
  constructor
  · intro h
    by_cases d1 : s ≤ c + s1
    · rw [if_pos d1, if_pos (by omega)]
      by_cases d2 : 1 + p1 < p
      · rw [if_pos d2]
      · rw [if_neg d2, if_pos (by omega), if_neg (by omega)]
    · rw [if_neg d1]
  · intro h
    rw [if_pos (by omega)]
    by_cases d1 : c + s1 = s
    · rw [if_pos d1, if_neg (by omega)]
      by_cases d2 : 1 + p1 = p
      · rw [if_pos d2, if_pos (by omega)]
      · rw [if_neg d2]
    · rw [if_neg d1]
def SDi (i : Nat) : Nat → Nat → Bool := fun a k => (a == 13 || a == 14 || a == 15 || a == 16) && k == i
def SD : Nat → Nat → Bool := fun a _ => a == 13 || a == 14 || a == 15 || a == 16
theorem SDi_SD {i a k : Nat} (h : SD a k = false) : SDi i a k = false := by unfold SD SDi at *; simp at *; omega
def DX (n w st : Nat) (len cst : Nat → Nat) (L : Nat → Nat → Nat) (b : Nat → Nat) (M : Mem) : Prop := n ≤ 300 ∧ gI M 3 1 = nI n ∧ w ≤ 40 ∧ gI M 9 3 = nI w ∧ 1 ≤ st ∧ st ≤ 1000 ∧ gI M 9 4 = nI st ∧ (∀ k, k < w → 1 ≤ len k ∧ len k ≤ 12 ∧ gI M 11 k = nI (len k) ∧ 1 ≤ cst k ∧ cst k ≤ 1000 ∧ gI M 12 k = nI (cst k)) ∧ (∀ k j, bt M 9 (12 * k + j) = L k j) ∧ ∀ j, bt M 3 j = b j
theorem DX.move {n w st : Nat} {len cst : Nat → Nat} {L : Nat → Nat → Nat} {b : Nat → Nat} {M M1 : Mem} (h : DX n w st len cst L b M) (hs : SameBut SD M M1) : DX n w st len cst L b M1 := by
  obtain ⟨h1, h2, h3, h4, h5, h6, h7, h8, h9, h10⟩ := h
  refine ⟨h1, (hs.1 3 1 rfl).trans h2, h3, (hs.1 9 3 rfl).trans h4, h5, h6, (hs.1 9 4 rfl).trans h7, fun k hk => ?_, fun k j => ?_, fun j => ?_⟩
  · obtain ⟨q1, q2, q3, q4, q5, q6⟩ := h8 k hk
    exact ⟨q1, q2, (hs.1 11 k rfl).trans q3, q4, q5, (hs.1 12 k rfl).trans q6⟩
  · rw [bt_congr (o := 9) (fun k => hs.1 10 k rfl)]; exact h9 k j
  · rw [bt_congr (o := 3) (fun k => hs.1 4 k rfl)]; exact h10 j
theorem BestW.bound {w st : Nat} {len cst : Nat → Nat} {L : Nat → Nat → Nat} {b : Nat → Nat} {en : Nat} {S P : Nat → Nat} {i s p l : Nat} (hst : st ≤ 1000) (hl : ∀ k, k < w → 1 ≤ len k ∧ len k ≤ 12 ∧ cst k ≤ 1000) (hi : i < en) (hS : ∀ j, i < j → j ≤ en → S j ≤ 1000 * (en - j) ∧ P j ≤ en - j) (h : BestW w st len cst L b en S P i s p l) : s ≤ 1000 * (en - i) ∧ p ≤ en - i ∧ 1 ≤ l ∧ l ≤ 12 ∧ i + l ≤ en := by
  rcases h.1 with ⟨rfl, rfl, rfl⟩ | ⟨k, k1, k2, rfl, rfl, rfl⟩
  · have := hS (i + 1) (by omega) (by omega)
    omega
  · have h1 := hl k k1
    have h2 := k2.1
    have := hS (i + len k) (by omega) (by omega)
    omega
theorem nar1 : vp_nar .boolean 1 = 1 := by decide
theorem nar0 : vp_nar .boolean 0 = 0 := by decide
theorem BestW.step {k st : Nat} {len cst : Nat → Nat} {L : Nat → Nat → Nat} {b : Nat → Nat} {en : Nat} {S P : Nat → Nat} {i s p l : Nat} (h : BestW k st len cst L b en S P i s p l) (hn : matW len L b en k i → ¬ bet (cst k + S (i + len k)) (1 + P (i + len k)) (len k) s p l) : BestW (k + 1) st len cst L b en S P i s p l := by
  obtain ⟨h1, h2, h3⟩ := h
  refine ⟨?_, h2, fun q hq hm => ?_⟩
  · rcases h1 with h | ⟨q, q1, q2⟩
    · exact Or.inl h
    · exact Or.inr ⟨q, by omega, q2⟩
  · by_cases e : q = k
    · subst e; exact hn hm
    · exact h3 q (by omega) hm
theorem BestW.take {k st : Nat} {len cst : Nat → Nat} {L : Nat → Nat → Nat} {b : Nat → Nat} {en : Nat} {S P : Nat → Nat} {i s p l : Nat} (h : BestW k st len cst L b en S P i s p l) (hm : matW len L b en k i) (hb : bet (cst k + S (i + len k)) (1 + P (i + len k)) (len k) s p l) : BestW (k + 1) st len cst L b en S P i (cst k + S (i + len k)) (1 + P (i + len k)) (len k) := by
  obtain ⟨h1, h2, h3⟩ := h
  refine ⟨Or.inr ⟨k, by omega, hm, rfl, rfl, rfl⟩, bet_nt h2 hb, fun q hq hm2 => ?_⟩
  by_cases e : q = k
  · subst e; exact bet_irr
  · exact bet_nt (h3 q (by omega) hm2) hb
theorem chX {n w st en i : Nat} {len cst : Nat → Nat} {L : Nat → Nat → Nat} {b : Nat → Nat} {S P : Nat → Nat} (hen : en ≤ n) (hi : i < en) (hS : ∀ j, i < j → j ≤ en → S j ≤ 1000 * (en - j) ∧ P j ≤ en - j) : ∀ (f k : Nat) (s p l : Nat) (M : Mem), k ≤ w → w < k + f → DX n w st len cst L b M → (∀ j, i < j → j ≤ en → gI M 13 j = nI (S j) ∧ gI M 14 j = nI (P j)) → gI M 13 i = nI s → gI M 14 i = nI p → gI M 15 i = nI l → BestW k st len cst L b en S P i s p l → ∃ M1 s1 p1 l1, fX1_choose_H48 3 f (nI i) (nI en) (dz (∃ q, q < k ∧ matW len L b en q i ∧ len q = 1)) (nI k) M = some M1 ∧ SameBut (SDi i) M M1 ∧ gI M1 13 i = nI s1 ∧ gI M1 14 i = nI p1 ∧ gI M1 15 i = nI l1 ∧ gI M1 16 i = dz (l1 = 1 ∧ ¬ ∃ q, q < w ∧ matW len L b en q i ∧ len q = 1) ∧ BestW w st len cst L b en S P i s1 p1 l1 := by
  intro f
  induction f with
  | zero => intro k s p l M q1 q2; omega
  | succ f ih =>
    intro k s p l M q1 q2 hD hA a1 a2 a3 hB
    obtain ⟨h1, h2, h3, h4, h5, h6, h7, h8, h9, h10⟩ := id hD
    have bd := hB.bound h6 (fun q hq => ⟨(h8 q (by omega)).1, (h8 q (by omega)).2.1, (h8 q (by omega)).2.2.2.2.1⟩) hi hS
    rw [fX1_choose_H48, h4]
    by_cases c : w ≤ k
    · have ek : k = w := by omega
      subst ek
      unfold fX1_choose_L153 fX1_choose_L154
      rw [if_pos (nI_le c (by omega)), iald_n (show i < 301 by omega) (by decide), a3, zast_n (show i < 301 by omega) (by decide), zast_n (show i < 301 by omega) (by decide), nar1, nar0]
      have fin : ∀ v : Int32, v = dz (l = 1 ∧ ¬ ∃ q, q < k ∧ matW len L b en q i ∧ len q = 1) → ∃ M1 s1 p1 l1, (some (setI M 16 i v) : Option Mem) = some M1 ∧ SameBut (SDi i) M M1 ∧ gI M1 13 i = nI s1 ∧ gI M1 14 i = nI p1 ∧ gI M1 15 i = nI l1 ∧ gI M1 16 i = dz (l1 = 1 ∧ ¬ ∃ q, q < k ∧ matW len L b en q i ∧ len q = 1) ∧ BestW k st len cst L b en S P i s1 p1 l1 := by
        intro v hv
        exact ⟨_, s, p, l, rfl, SameBut.refl.setI (by simp [SDi]), by rw [gI_ne (by decide)]; exact a1, by rw [gI_ne (by decide)]; exact a2, by rw [gI_ne (by decide)]; exact a3, by rw [gI_eq]; exact hv, hB⟩
      by_cases d : l = 1
      · rw [if_pos (show nI l = 1 by rw [d]; rfl)]
        by_cases d2 : ∃ q, q < k ∧ matW len L b en q i ∧ len q = 1
        · rw [dz_t d2, if_neg n10]
          exact fin 0 (by rw [dz_f (fun g => g.2 d2)])
        · rw [dz_f d2, if_pos z00]
          exact fin 1 (by rw [dz_t ⟨d, d2⟩])
      · rw [if_neg (show ¬ nI l = 1 from fun z => d ((nI_eq (b := 1) (by omega) (by omega)).mp z))]
        exact fin 0 (by rw [dz_f (fun g => d g.1)])
    · obtain ⟨l1, l2, l3, l4, l5, l6⟩ := h8 k (by omega)
      unfold fX1_choose_L97 fX1_choose_L102 fX1_choose_L123
      simp only [lt_eq]
      rw [if_neg (nI_ge (by omega) (by omega)), iald_n (show k < 40 by omega) (by decide), l3, pk_sub (by omega), show (1 : Int32) = nI 1 from rfl, nI_add]
      have known_no : ¬ (matW len L b en k i ∧ len k = 1) → dz (∃ q, q < k ∧ matW len L b en q i ∧ len q = 1) = dz (∃ q, q < k + 1 ∧ matW len L b en q i ∧ len q = 1) := by
        intro hno
        apply dz_c
        constructor
        · rintro ⟨q, w1, w2⟩; exact ⟨q, by omega, w2⟩
        · rintro ⟨q, w1, w2⟩
          by_cases e : q = k
          · subst e; exact absurd w2 hno
          · exact ⟨q, by omega, w2⟩
      by_cases d : en - i < len k
      · have nm : ¬ matW len L b en k i := fun g => by have := g.1; omega
        rw [if_pos (nI_lt d (by omega)), known_no (fun g => nm g.1)]
        exact ih (k + 1) s p l M (by omega) (by omega) hD hA a1 a2 a3 (hB.step (fun g => absurd g nm))
      · rw [if_neg (nI_nlt (by omega) (by omega)), stands_ok rfl h1 (by omega) l2 (by omega) h2 l3, bI_s]
        by_cases d2 : ∀ j, j < len k → i + j < n ∧ bt M 9 (12 * k + j) = bt M 3 (i + j)
        · have hm : matW len L b en k i := ⟨by omega, fun j hj => by rw [← h9, ← h10]; exact (d2 j hj).2⟩
          have ea := hA (i + len k) (by omega) (by omega)
          have eb := hS (i + len k) (by omega) (by omega)
          have known_yes : (len k = 1 ∨ ∃ q, q < k ∧ matW len L b en q i ∧ len q = 1) → (1 : Int32) = dz (∃ q, q < k + 1 ∧ matW len L b en q i ∧ len q = 1) := by
            rintro (g | ⟨q, w1, w2⟩)
            · rw [dz_t ⟨k, by omega, hm, g⟩]
            · rw [dz_t ⟨q, by omega, w2⟩]
          obtain ⟨t1, t2⟩ := tryX (i := i) (m := len k) (c := cst k) (s := s) (p := p) (l := l) (M := M) (by omega) (by omega) (by omega) (by omega) (by omega) (by omega) ea.1 ea.2 a1 a2 a3
          have go : ∀ v : Int32, v = dz (∃ q, q < k + 1 ∧ matW len L b en q i ∧ len q = 1) → ∃ M1 s1 p1 l1, (iald_ M 11 (nI k) fun v_12 => iald_ M 12 (nI k) fun v_13 => bV_ (fX1_tryPiece (nI i) v_12 v_13 M) fun M_14 => fX1_choose_H48 3 f (nI i) (nI en) v (nI (k + 1)) M_14) = some M1 ∧ SameBut (SDi i) M M1 ∧ gI M1 13 i = nI s1 ∧ gI M1 14 i = nI p1 ∧ gI M1 15 i = nI l1 ∧ gI M1 16 i = dz (l1 = 1 ∧ ¬ ∃ q, q < w ∧ matW len L b en q i ∧ len q = 1) ∧ BestW w st len cst L b en S P i s1 p1 l1 := by
            intro v hv
            rw [iald_n (show k < 40 by omega) (by decide), iald_n (show k < 40 by omega) (by decide), l3, l6, hv]
            by_cases d3 : bet (cst k + S (i + len k)) (1 + P (i + len k)) (len k) s p l
            · rw [t1 d3, bV_s]
              have sm : SameBut (SDi i) M (setI (setI (setI M 13 i (nI (cst k + S (i + len k)))) 14 i (nI (1 + P (i + len k)))) 15 i (nI (len k))) := ((SameBut.refl.setI (by simp [SDi])).setI (by simp [SDi])).setI (by simp [SDi])
              obtain ⟨M1, s1, p1, l1', r1, r2, r3⟩ := ih (k + 1) (cst k + S (i + len k)) (1 + P (i + len k)) (len k) _ (by omega) (by omega) (hD.move (sm.mono (fun a k h => SDi_SD h))) (fun j j1 j2 => by rw [sm.1 13 j (by simp [SDi]; omega), sm.1 14 j (by simp [SDi]; omega)]; exact hA j j1 j2) (by rw [gI_ne (by decide), gI_ne (by decide), gI_eq]) (by rw [gI_ne (by decide), gI_eq]) gI_eq (hB.take hm d3)
              exact ⟨M1, s1, p1, l1', r1, sm.trans r2, r3⟩
            · rw [t2 d3, bV_s]
              exact ih (k + 1) s p l M (by omega) (by omega) hD hA a1 a2 a3 (hB.step (fun _ => d3))
          rw [dz_t d2, if_neg n10]
          by_cases d4 : ∃ q, q < k ∧ matW len L b en q i ∧ len q = 1
          · rw [dz_t d4, if_neg n10]
            exact go _ (known_yes (Or.inr d4))
          · rw [dz_f d4, if_pos z00, iald_n (show k < 40 by omega) (by decide), l3]
            by_cases d5 : len k = 1
            · rw [if_pos (by rw [d5])]
              exact go _ (known_yes (Or.inl d5))
            · rw [if_neg (fun z => d5 ((nI_eq (by omega) (by omega)).mp z))]
              exact go _ (by rw [← known_no (fun g => d5 g.2), dz_f d4])
        · have nm : ¬ matW len L b en k i := fun g => d2 (fun j hj => ⟨by omega, by rw [h9, h10]; exact g.2 j hj⟩)
          rw [dz_f d2, if_pos z00, known_no (fun g => nm g.1)]
          exact ih (k + 1) s p l M (by omega) (by omega) hD hA a1 a2 a3 (hB.step (fun g => absurd g nm))

theorem BestW.congr {w st : Nat} {len cst : Nat → Nat} {L : Nat → Nat → Nat} {b : Nat → Nat} {en : Nat} {S P S1 P1 : Nat → Nat} {i s p l : Nat} (hl : ∀ k, k < w → 1 ≤ len k) (hi : i < en) (hS : ∀ j, i < j → j ≤ en → S j = S1 j ∧ P j = P1 j) (h : BestW w st len cst L b en S P i s p l) : BestW w st len cst L b en S1 P1 i s p l := by
  obtain ⟨h1, h2, h3⟩ := h
  have e1 := hS (i + 1) (by omega) (by omega)
  refine ⟨?_, by rw [← e1.1, ← e1.2]; exact h2, fun k k1 k2 => ?_⟩
  · rcases h1 with ⟨rfl, rfl, rfl⟩ | ⟨k, k1, k2, rfl, rfl, rfl⟩
    · exact Or.inl ⟨by rw [e1.1], by rw [e1.2], rfl⟩
    · have e2 := hS (i + len k) (by have := hl k k1; omega) k2.1
      exact Or.inr ⟨k, k1, k2, by rw [e2.1], by rw [e2.2], rfl⟩
  · have e2 := hS (i + len k) (by have := hl k k1; omega) k2.1
    rw [← e2.1, ← e2.2]; exact h3 k k1 k2
theorem choose_ok {n w st en i : Nat} {len cst : Nat → Nat} {L : Nat → Nat → Nat} {b : Nat → Nat} {S P : Nat → Nat} {M : Mem} (hen : en ≤ n) (hi : i < en) (hS : ∀ j, i < j → j ≤ en → S j ≤ 1000 * (en - j) ∧ P j ≤ en - j) (hD : DX n w st len cst L b M) (hA : ∀ j, i < j → j ≤ en → gI M 13 j = nI (S j) ∧ gI M 14 j = nI (P j)) : ∃ M1 s1 p1 l1, fX1_choose 3 (nI i) (nI en) M = some M1 ∧ SameBut (SDi i) M M1 ∧ gI M1 13 i = nI s1 ∧ gI M1 14 i = nI p1 ∧ gI M1 15 i = nI l1 ∧ gI M1 16 i = dz (l1 = 1 ∧ ¬ ∃ q, q < w ∧ matW len L b en q i ∧ len q = 1) ∧ BestW w st len cst L b en S P i s1 p1 l1 := by
  obtain ⟨h1, h2, h3, h4, h5, h6, h7, -⟩ := id hD
  have ha := hA (i + 1) (by omega) (by omega)
  have hb := hS (i + 1) (by omega) (by omega)
  unfold fX1_choose
  rw [show (1 : Int32) = nI 1 from rfl, nI_add, iald_n (show i + 1 < 301 by omega) (by decide), ha.1, h7, nI_add, iast_n (show i < 301 by omega) (by decide), iald_n (show i + 1 < 301 by omega) (by decide), gI_ne (by decide), ha.2, nI_add, iast_n (show i < 301 by omega) (by decide), iast_n (show i < 301 by omega) (by decide)]
  have sm : SameBut (SDi i) M (setI (setI (setI M 13 i (nI (st + S (i + 1)))) 14 i (nI (1 + P (i + 1)))) 15 i (nI 1)) := ((SameBut.refl.setI (by simp [SDi])).setI (by simp [SDi])).setI (by simp [SDi])
  obtain ⟨M1, s1, p1, l1, r1, r2, r3⟩ := chX hen hi hS FU 0 (st + S (i + 1)) (1 + P (i + 1)) 1 _ (by omega) (by unfold FU; omega) (hD.move (sm.mono (fun a k h => SDi_SD h))) (fun j j1 j2 => by rw [sm.1 13 j (by simp [SDi]; omega), sm.1 14 j (by simp [SDi]; omega)]; exact hA j j1 j2) (by rw [gI_ne (by decide), gI_ne (by decide), gI_eq]) (by rw [gI_ne (by decide), gI_eq]) gI_eq ⟨Or.inl ⟨rfl, rfl, rfl⟩, bet_irr, fun k hk => absurd hk (by omega)⟩
  rw [dz_f (by rintro ⟨q, hq, -⟩; omega)] at r1
  exact ⟨M1, s1, p1, l1, r1, sm.trans r2, r3⟩
/-- the arrays of a solved row -/
def Solved (n w st : Nat) (len cst : Nat → Nat) (L : Nat → Nat → Nat) (b : Nat → Nat) (pl en : Nat) (S P F : Nat → Nat) : Prop := S en = 0 ∧ P en = 0 ∧ (∀ j, pl ≤ j → j ≤ en → S j ≤ 1000 * (en - j) ∧ P j ≤ en - j) ∧ ∀ j, pl ≤ j → j < en → BestW w st len cst L b en S P j (S j) (P j) (F j)
theorem Solved.uniq {n w st : Nat} {len cst : Nat → Nat} {L : Nat → Nat → Nat} {b : Nat → Nat} {pl en : Nat} {S P F S1 P1 F1 : Nat → Nat} (hl : ∀ k, k < w → 1 ≤ len k) (h : Solved n w st len cst L b pl en S P F) (g : Solved n w st len cst L b pl en S1 P1 F1) : ∀ j, pl ≤ j → j ≤ en → S j = S1 j ∧ P j = P1 j ∧ (j < en → F j = F1 j) := by
  have key : ∀ d j, pl ≤ j → j ≤ en → en - j ≤ d → S j = S1 j ∧ P j = P1 j ∧ (j < en → F j = F1 j) := by
    intro d
    induction d with
    | zero =>
      intro j h1 h2 h3
      have e : j = en := by omega
      subst e
      exact ⟨h.1.trans g.1.symm, h.2.1.trans g.2.1.symm, fun q => by omega⟩
    | succ d ih =>
      intro j h1 h2 h3
      by_cases e : j = en
      · subst e
        exact ⟨h.1.trans g.1.symm, h.2.1.trans g.2.1.symm, fun q => by omega⟩
      · have u := BestW.uniq hl (show j < en by omega) (fun z z1 z2 => ⟨(ih z (by omega) z2 (by omega)).1, (ih z (by omega) z2 (by omega)).2.1⟩) (h.2.2.2 j h1 (by omega)) (g.2.2.2 j h1 (by omega))
        exact ⟨u.1, u.2.1, fun _ => u.2.2⟩
  intro j h1 h2
  exact key (en - j) j h1 h2 (Nat.le_refl _)
theorem solveX {n w st pl en : Nat} {len cst : Nat → Nat} {L : Nat → Nat → Nat} {b : Nat → Nat} (hen : en ≤ n) (hpl : pl ≤ en) : ∀ (f t : Nat) (S P F : Nat → Nat) (M : Mem), pl ≤ t → t ≤ en → t < pl + f → DX n w st len cst L b M → Solved n w st len cst L b t en S P F → (∀ j, t ≤ j → j ≤ en → gI M 13 j = nI (S j) ∧ gI M 14 j = nI (P j)) → (∀ j, t ≤ j → j < en → gI M 15 j = nI (F j) ∧ gI M 16 j = dz (F j = 1 ∧ ¬ ∃ q, q < w ∧ matW len L b en q j ∧ len q = 1)) → ∃ (M1 : Mem) (S P F : Nat → Nat), fX1_solve_H37 3 f (nI pl) (nI en) (nI t - 1) M = some (nI (S pl), M1) ∧ SameBut SD M M1 ∧ Solved n w st len cst L b pl en S P F ∧ (∀ j, pl ≤ j → j ≤ en → gI M1 13 j = nI (S j) ∧ gI M1 14 j = nI (P j)) ∧ ∀ j, pl ≤ j → j < en → gI M1 15 j = nI (F j) ∧ gI M1 16 j = dz (F j = 1 ∧ ¬ ∃ q, q < w ∧ matW len L b en q j ∧ len q = 1) := by
  intro f
  induction f with
  | zero => intro t S P F M q1 q2 q3; omega
  | succ f ih =>
    intro t S P F M q1 q2 q3 hD hSol hA hB
    obtain ⟨h1, h2, h3, h4, h5, h6, h7, h8, -⟩ := id hD
    rw [fX1_solve_H37]
    by_cases c : t = pl
    · subst c
      rw [if_pos (by
        by_cases z : t = 0
        · subst z; decide
        · rw [show nI t - 1 = nI (t - 1) by (have := nI_pred (t - 1); rwa [show t - 1 + 1 = t by omega] at this)]
          exact nI_lt (by omega) (by omega)), iald_n (show t < 301 by omega) (by decide), (hA t (by omega) q2).1]
      exact ⟨M, S, P, F, rfl, SameBut.refl, hSol, hA, hB⟩
    · have et : nI t - 1 = nI (t - 1) := by (have := nI_pred (t - 1); rwa [show t - 1 + 1 = t by omega] at this)
      obtain ⟨M1, s1, p1, l1, r1, r2, r3, r4, r5, r6, r7⟩ := choose_ok (i := t - 1) (S := S) (P := P) hen (by omega) (fun j j1 j2 => hSol.2.2.1 j (by omega) j2) hD (fun j j1 j2 => hA j (by omega) j2)
      rw [et, if_neg (nI_nlt (by omega) (by omega)), r1, bV_s, lt_eq, show nI (t - 1) + (-1) = nI (t - 1) - 1 from (Int32.sub_eq_add_neg _ _).symm]
      have hl : ∀ k, k < w → 1 ≤ len k := fun k hk => (h8 k hk).1
      have bd := r7.bound h6 (fun q hq => ⟨(h8 q hq).1, (h8 q hq).2.1, (h8 q hq).2.2.2.2.1⟩) (by omega) (fun j j1 j2 => hSol.2.2.1 j (by omega) j2)
      obtain ⟨M2, S2, P2, F2, u1, u2, u3⟩ := ih (t - 1) (fun j => if j = t - 1 then s1 else S j) (fun j => if j = t - 1 then p1 else P j) (fun j => if j = t - 1 then l1 else F j) M1 (by omega) (by omega) (by omega) (hD.move (r2.mono (fun a k h => SDi_SD h))) (by
        refine ⟨?_, ?_, fun j j1 j2 => ?_, fun j j1 j2 => ?_⟩
        · simp only [if_neg (show ¬ en = t - 1 by omega)]; exact hSol.1
        · simp only [if_neg (show ¬ en = t - 1 by omega)]; exact hSol.2.1
        · by_cases e : j = t - 1
          · simp only [if_pos e]; rw [e]; exact ⟨bd.1, bd.2.1⟩
          · simp only [if_neg e]; exact hSol.2.2.1 j (by omega) j2
        · have cg : ∀ z, j < z → z ≤ en → S z = (if z = t - 1 then s1 else S z) ∧ P z = (if z = t - 1 then p1 else P z) := fun z z1 z2 => by rw [if_neg (by omega), if_neg (by omega)]; exact ⟨rfl, rfl⟩
          by_cases e : j = t - 1
          · simp only [if_pos e]
            rw [← e] at r7
            exact r7.congr hl j2 cg
          · simp only [if_neg e]
            exact (hSol.2.2.2 j (by omega) j2).congr hl j2 cg) (fun j j1 j2 => by
          by_cases e : j = t - 1
          · subst e; simp only [if_true]; exact ⟨r3, r4⟩
          · simp only [if_neg e]
            rw [r2.1 13 j (by simp [SDi]; omega), r2.1 14 j (by simp [SDi]; omega)]
            exact hA j (by omega) j2) (fun j j1 j2 => by
          by_cases e : j = t - 1
          · subst e; simp only [if_true]; exact ⟨r5, r6⟩
          · simp only [if_neg e]
            rw [r2.1 15 j (by simp [SDi]; omega), r2.1 16 j (by simp [SDi]; omega)]
            exact hB j (by omega) j2)
      exact ⟨M2, S2, P2, F2, u1, SameBut.trans (r2.mono (fun a k h => SDi_SD h)) u2, u3⟩
theorem solve_ok {n w st pl en : Nat} {len cst : Nat → Nat} {L : Nat → Nat → Nat} {b : Nat → Nat} {M : Mem} (hen : en ≤ n) (hpl : pl ≤ en) (hD : DX n w st len cst L b M) : ∃ (M1 : Mem) (S P F : Nat → Nat), fX1_solve 3 (nI pl) (nI en) M = some (nI (S pl), M1) ∧ SameBut SD M M1 ∧ Solved n w st len cst L b pl en S P F ∧ (∀ j, pl ≤ j → j ≤ en → gI M1 13 j = nI (S j) ∧ gI M1 14 j = nI (P j)) ∧ ∀ j, pl ≤ j → j < en → gI M1 15 j = nI (F j) ∧ gI M1 16 j = dz (F j = 1 ∧ ¬ ∃ q, q < w ∧ matW len L b en q j ∧ len q = 1) := by
  have hn := hD.1
  unfold fX1_solve
  rw [if_neg (nI_pos (by omega)), if_neg (nI_nlt hpl (by omega)), if_pos (show nI en ≤ 300 from nI_le (b := 300) (by omega) (by omega)), iast_n (show en < 301 by omega) (by decide), iast_n (show en < 301 by omega) (by decide), lt_eq]
  have sm : SameBut SD M (setI (setI M 13 en 0) 14 en 0) := (SameBut.refl.setI rfl).setI rfl
  obtain ⟨M1, S, P, F, r1, r2, r3⟩ := solveX (pl := pl) hen hpl FU en (fun _ => 0) (fun _ => 0) (fun _ => 0) _ hpl (Nat.le_refl _) (by unfold FU; omega) (hD.move sm) ⟨rfl, rfl, fun j j1 j2 => by simp, fun j j1 j2 => absurd j2 (by omega)⟩ (fun j j1 j2 => by
    have e : j = en := by omega
    subst e
    exact ⟨by rw [gI_ne (by decide), gI_eq]; rfl, by rw [gI_eq]; rfl⟩) (fun j j1 j2 => absurd j2 (by omega))
  exact ⟨M1, S, P, F, r1, sm.trans r2, r3⟩
