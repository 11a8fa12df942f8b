/-! what ties the class's memory to the reference's -/
def RTp (Mx My : Mem) : Prop := ∃ n, n ≤ 300 ∧ gI Mx 1 1 = nI n ∧ gI My 50 1 = nI n ∧ ∀ j, j < n → gI My 51 j = nI (bt Mx 1 j)
def RTx (Mx My : Mem) : Prop := ∃ n, n ≤ 300 ∧ gI Mx 3 1 = nI n ∧ gI My 50 3 = nI n ∧ (∀ j, j < n → gI My 53 j = nI (bt Mx 3 j)) ∧ ∃ k, k ≤ 400 ∧ gI Mx 5 3 = nI k ∧ gI My 50 12 = nI k ∧ ∀ j, j < k → ∃ a e, a ≤ e ∧ e ≤ n ∧ gI Mx 6 j = nI a ∧ gI My 65 j = nI a ∧ gI Mx 7 j = nI e ∧ gI My 66 j = nI e ∧ gI My 67 j = gI Mx 8 j
def RDi (Mx My : Mem) : Prop := ∃ w, w ≤ 40 ∧ gI Mx 9 3 = nI w ∧ gI My 50 4 = nI w ∧ ∃ len cst : Nat → Nat, (∀ k, k < w → 1 ≤ len k ∧ len k ≤ 12 ∧ gI Mx 11 k = nI (len k) ∧ gI My 57 k = nI (len k) ∧ 1 ≤ cst k ∧ cst k ≤ 1000 ∧ gI Mx 12 k = nI (cst k) ∧ gI My 58 k = nI (cst k) ∧ ∀ j, j < len k → gI My 56 (12 * k + j) = nI (bt Mx 9 (12 * k + j))) ∧ ∀ k q, k < q → q < w → len k = len q → ∃ j, j < len k ∧ bt Mx 9 (12 * k + j) ≠ bt Mx 9 (12 * q + j)
def RMi (Mx My : Mem) : Prop := (∃ c, 1 ≤ c ∧ c ≤ 1000 ∧ gI Mx 9 4 = nI c ∧ gI My 50 8 = nI c) ∧ (∃ b : Bool, gI Mx 0 6 = bz b ∧ gI My 50 9 = bz b) ∧ (∃ m, 1 ≤ m ∧ m ≤ 300 ∧ gI Mx 5 5 = nI m ∧ gI My 50 10 = nI m) ∧ ∃ b : Bool, gI Mx 5 6 = bz b ∧ gI My 50 11 = bz b
def RAu (Mx My : Mem) : Prop := ∃ a a2, (a = 41 ∧ a2 = 44 ∨ a = 44 ∧ a2 = 41) ∧ gR Mx 0 5 = a ∧ gR Mx 17 4 = a2 ∧ ∃ t, t ≤ 60 ∧ gI Mx a 2 = nI t ∧ gI My 50 17 = nI t ∧ gJ Mx a 3 = gJ My 50 20 ∧ gJ Mx a 4 = gJ My 50 21 ∧ (∀ k, k < t → gJ Mx (a + 2) k = gJ My 70 k) ∧ ∀ c k, c < 256 → bit (gJ Mx (a + 1) c) k = (decide (k < t) && bit (gJ My 69 (4 * k + c / 64)) (c % 64))
def Rel (Mx My : Mem) : Prop := RTp Mx My ∧ RTx Mx My ∧ RDi Mx My ∧ RMi Mx My ∧ RAu Mx My
theorem bt_congr {M M1 : Mem} {o : Nat} (h : ∀ k, gI M1 (o + 1) k = gI M (o + 1) k) (j : Nat) : bt M1 o j = bt M o j := by unfold bt; rw [h]
theorem RTp.move {Mx My Mx1 My1 : Mem} (h : RTp Mx My) (a1 : gI Mx1 1 1 = gI Mx 1 1) (a2 : ∀ k, gI Mx1 2 k = gI Mx 2 k) (b1 : gI My1 50 1 = gI My 50 1) (b2 : ∀ k, gI My1 51 k = gI My 51 k) : RTp Mx1 My1 := by
  obtain ⟨n, h1, h2, h3, h4⟩ := h
  exact ⟨n, h1, a1.trans h2, b1.trans h3, fun j hj => by rw [b2, h4 j hj, bt_congr (o := 1) a2]⟩
theorem RTx.move {Mx My Mx1 My1 : Mem} (h : RTx Mx My) (a1 : gI Mx1 3 1 = gI Mx 3 1) (a2 : ∀ k, gI Mx1 4 k = gI Mx 4 k) (a3 : gI Mx1 5 3 = gI Mx 5 3) (a4 : ∀ k, gI Mx1 6 k = gI Mx 6 k) (a5 : ∀ k, gI Mx1 7 k = gI Mx 7 k) (a6 : ∀ k, gI Mx1 8 k = gI Mx 8 k) (b1 : gI My1 50 3 = gI My 50 3) (b2 : ∀ k, gI My1 53 k = gI My 53 k) (b3 : gI My1 50 12 = gI My 50 12) (b4 : ∀ k, gI My1 65 k = gI My 65 k) (b5 : ∀ k, gI My1 66 k = gI My 66 k) (b6 : ∀ k, gI My1 67 k = gI My 67 k) : RTx Mx1 My1 := by
  obtain ⟨n, h1, h2, h3, h4, k, h5, h6, h7, h8⟩ := h
  refine ⟨n, h1, a1.trans h2, b1.trans h3, fun j hj => by rw [b2, h4 j hj, bt_congr (o := 3) a2], k, h5, a3.trans h6, b3.trans h7, fun j hj => ?_⟩
  obtain ⟨a, e, q1, q2, q3, q4, q5, q6, q7⟩ := h8 j hj
  exact ⟨a, e, q1, q2, by rw [a4]; exact q3, by rw [b4]; exact q4, by rw [a5]; exact q5, by rw [b5]; exact q6, by rw [b6, a6]; exact q7⟩
theorem RDi.move {Mx My Mx1 My1 : Mem} (h : RDi Mx My) (a1 : gI Mx1 9 3 = gI Mx 9 3) (a2 : ∀ k, gI Mx1 10 k = gI Mx 10 k) (a3 : ∀ k, gI Mx1 11 k = gI Mx 11 k) (a4 : ∀ k, gI Mx1 12 k = gI Mx 12 k) (b1 : gI My1 50 4 = gI My 50 4) (b2 : ∀ k, gI My1 56 k = gI My 56 k) (b3 : ∀ k, gI My1 57 k = gI My 57 k) (b4 : ∀ k, gI My1 58 k = gI My 58 k) : RDi Mx1 My1 := by
  obtain ⟨w, h1, h2, h3, len, cst, h4, h5⟩ := h
  refine ⟨w, h1, a1.trans h2, b1.trans h3, len, cst, fun k hk => ?_, fun k q hk hq hl => ?_⟩
  · obtain ⟨q1, q2, q3, q4, q5, q6, q7, q8, q9⟩ := h4 k hk
    exact ⟨q1, q2, by rw [a3]; exact q3, by rw [b3]; exact q4, q5, q6, by rw [a4]; exact q7, by rw [b4]; exact q8, fun j hj => by rw [b2, q9 j hj, bt_congr (o := 9) a2]⟩
  · obtain ⟨j, hj, hne⟩ := h5 k q hk hq hl
    exact ⟨j, hj, by rw [bt_congr (o := 9) a2, bt_congr (o := 9) a2]; exact hne⟩
theorem RMi.move {Mx My Mx1 My1 : Mem} (h : RMi Mx My) (a1 : gI Mx1 9 4 = gI Mx 9 4) (a2 : gI Mx1 0 6 = gI Mx 0 6) (a3 : gI Mx1 5 5 = gI Mx 5 5) (a4 : gI Mx1 5 6 = gI Mx 5 6) (b1 : gI My1 50 8 = gI My 50 8) (b2 : gI My1 50 9 = gI My 50 9) (b3 : gI My1 50 10 = gI My 50 10) (b4 : gI My1 50 11 = gI My 50 11) : RMi Mx1 My1 := by
  unfold RMi at h ⊢
  rw [a1, a2, a3, a4, b1, b2, b3, b4]
  exact h
theorem RAu.move {Mx My Mx1 My1 : Mem} (h : RAu Mx My) (r1 : gR Mx1 0 5 = gR Mx 0 5) (r2 : gR Mx1 17 4 = gR Mx 17 4) (a1 : ∀ k, gI Mx1 (gR Mx 0 5) k = gI Mx (gR Mx 0 5) k) (a2 : ∀ a k, 41 ≤ a → a ≤ 46 → a ≠ gR Mx 17 4 → a ≠ gR Mx 17 4 + 1 → a ≠ gR Mx 17 4 + 2 → gJ Mx1 a k = gJ Mx a k) (b1 : gI My1 50 17 = gI My 50 17) (b2 : gJ My1 50 20 = gJ My 50 20) (b3 : gJ My1 50 21 = gJ My 50 21) (b4 : ∀ k, gJ My1 69 k = gJ My 69 k) (b5 : ∀ k, gJ My1 70 k = gJ My 70 k) : RAu Mx1 My1 := by
  obtain ⟨a, a0, h1, h2, h3, t, h4, h5, h6, h7, h8, h9, h10⟩ := h
  rw [h3] at a2
  have e1 := fun k => a2 a k (by omega) (by omega) (by omega) (by omega) (by omega)
  have e2 := fun k => a2 (a + 1) k (by omega) (by omega) (by omega) (by omega) (by omega)
  have e3 := fun k => a2 (a + 2) k (by omega) (by omega) (by omega) (by omega) (by omega)
  rw [h2] at a1
  exact ⟨a, a0, h1, r1.trans h2, r2.trans h3, t, h4, by rw [a1]; exact h5, b1.trans h6, by rw [e1, b2]; exact h7, by rw [e1, b3]; exact h8, fun k hk => by rw [e3, b5]; exact h9 k hk, fun c k hc => by rw [e2, b4]; exact h10 c k hc⟩
/-! numbers -/
theorem rng {x : Int32} {lo hi : Nat} (h1 : nI lo ≤ x) (h2 : x ≤ nI hi) (hh : hi < 2 ^ 31) (hl : lo < 2 ^ 31) : ∃ m, lo ≤ m ∧ m ≤ hi ∧ x = nI m := by
  have h0 : ¬ x < 0 := by
    rw [Int32.lt_iff_toInt_lt]
    rw [Int32.le_iff_toInt_le, nI_toInt hl] at h1
    have : (0 : Int32).toInt = 0 := by decide
    omega
  obtain ⟨j, hj, rfl⟩ := nI_of h0
  rw [nI_leI hl hj] at h1
  rw [nI_leI hj hh] at h2
  exact ⟨j, h1, h2, rfl⟩
theorem isIn_ok (x lo hi : Int32) (M : Mem) : fX7_isIn x lo hi M = some (bz (decide (lo ≤ x ∧ x ≤ hi)), M) := by
  unfold fX7_isIn
  by_cases h1 : x < lo
  · rw [if_pos h1, zr_0, decide_eq_false (fun q => absurd h1 (Int32.not_lt.mpr q.1))]; rfl
  · rw [if_neg h1]
    by_cases h2 : hi < x
    · rw [if_pos h2, zr_0, decide_eq_false (fun q => absurd h2 (Int32.not_lt.mpr q.2))]; rfl
    · rw [if_neg h2, zr_1, decide_eq_true ⟨Int32.not_lt.mp h1, Int32.not_lt.mp h2⟩]; rfl
/-! feed -/
def apd (o n : Nat) (x : Int32) (M : Mem) : Mem := setI (setI M (o + 1) n x.toInt8.toInt32.toInt8.toInt32) o 1 (nI (n + 1))
theorem append_ok {o : Nat} (ho : kd o = 5) {M : Mem} {n : Nat} (h : gI M o 1 = nI n) (hn : n < 300) (x : Int32) : fX5_append o x M = some (apd o n x M) := by
  unfold fX5_append
  rw [h]
  rw [if_neg (by rw [show (300 : Int32) = nI 300 from rfl]; exact nI_ge hn (by omega)), bast_n (by rw [na5 ho]; exact hn) (by rw [na5 ho]; omega), lt_eq, gI_setI, if_neg (by omega), h, show (1 : Int32) = nI 1 from rfl, nI_add]
  rfl
theorem bt_apd {o n : Nat} {x : Int32} {M : Mem} (j : Nat) : nI (bt (apd o n x M) o j) = if j = n then x &&& 255 else nI (bt M o j) := by
  rw [← bt_eq, ← bt_eq]
  unfold apd
  rw [gI_setI, if_neg (by omega), gI_setI]
  by_cases h : j = n
  · rw [if_pos ⟨rfl, h⟩, if_pos h, bp_b, bp_b]
  · rw [if_neg (fun q => h q.2), if_neg h]
theorem feedX (n m : Nat) (x2 : Int64) (hnm : n + m ≤ 300) (hm : m ≤ 8) : ∀ (f i : Nat) (M : Mem), i ≤ m → m < i + f → gI M 1 1 = nI (n + i) → ∃ M1, fX6_feed_H34 f (nI m) x2 (nI i) M = some (nI (n + m), M1) ∧ gI M1 1 1 = nI (n + m) ∧ SameBut (fun a _ => a == 1 || a == 2) M M1 ∧ ∀ j, nI (bt M1 1 j) = if n + i ≤ j ∧ j < n + m then (ushr6 x2 (nI (8 * (j - n)))).toInt32 &&& 255 else nI (bt M 1 j) := by
  intro f
  induction f with
  | zero => intro i M h1 h2; omega
  | succ f ih =>
    intro i M h1 h2 h3
    rw [fX6_feed_H34]
    by_cases hi : m ≤ i
    · have hi2 : i = m := by omega
      subst hi2
      rw [if_pos (nI_le hi (by omega))]
      refine ⟨M, ?_, h3, SameBut.refl, fun j => by rw [if_neg (by omega)]⟩
      show bI_ (fX5_size 1 M) _ = _
      rw [fX5_size, bI_s, h3]
    · rw [if_neg (nI_ge (by omega) (by omega)), append_ok rfl h3 (by omega), bV_s, lt_eq, show (1 : Int32) = nI 1 from rfl, nI_add, show (8 : Int32) = nI 8 from rfl, pk_mul]
      obtain ⟨M1, q1, q2, q3, q4⟩ := ih (i + 1) (apd 1 (n + i) ((ushr6 x2 (nI (8 * i))).toInt32 &&& nI 255) M) (by omega) (by omega) (by unfold apd; rw [gI_setI, if_pos ⟨rfl, rfl⟩]; rfl)
      refine ⟨M1, q1, q2, SameBut.trans ((SameBut.refl.setI rfl).setI rfl) q3, fun j => ?_⟩
      rw [q4 j, bt_apd]
      by_cases hj : j = n + i
      · subst hj
        rw [if_neg (by omega), if_pos rfl, if_pos (by omega), show n + i - n = i by omega]
        rw [show nI 255 = (255 : Int32) from rfl, Int32.and_assoc]
        rfl
      · rw [if_neg hj]
        by_cases hj2 : n + (i + 1) ≤ j ∧ j < n + m
        · rw [if_pos hj2, if_pos (by omega)]
        · rw [if_neg hj2, if_neg (by omega)]
theorem feedY (n m : Nat) (x2 : Int64) (hnm : n + m ≤ 300) (hm : m ≤ 8) : ∀ (f i : Nat) (M : Mem), i ≤ m → m < i + f → gI M 50 1 = nI (n + i) → ∃ M1, fX7_feed_H30 f (nI m) x2 (nI i) M = some (nI (n + m), M1) ∧ gI M1 50 1 = nI (n + m) ∧ SameBut (fun a k => (a == 50 && k == 1) || a == 51) M M1 ∧ ∀ j, gI M1 51 j = if n + i ≤ j ∧ j < n + m then (shr6 x2 (nI (8 * (j - n)))).toInt32 &&& 255 else gI M 51 j := by
  intro f
  induction f with
  | zero => intro i M h1 h2; omega
  | succ f ih =>
    intro i M h1 h2 h3
    rw [fX7_feed_H30]
    by_cases hi : m ≤ i
    · have hi2 : i = m := by omega
      subst hi2
      rw [if_pos (nI_le hi (by omega)), h3]
      exact ⟨M, rfl, h3, SameBut.refl, fun j => by rw [if_neg (by omega)]⟩
    · rw [if_neg (nI_ge (by omega) (by omega)), h3, iast_n (show n + i < 300 by omega) (by decide), lt_eq, lt_eq, gI_setI, if_neg (by omega), h3, show (1 : Int32) = nI 1 from rfl, nI_add, nI_add, show (8 : Int32) = nI 8 from rfl, pk_mul]
      obtain ⟨M1, q1, q2, q3, q4⟩ := ih (i + 1) (setI (setI M 51 (n + i) ((shr6 x2 (nI (8 * i))).toInt32 &&& 255)) 50 1 (nI (n + i + 1))) (by omega) (by omega) (by rw [gI_setI, if_pos ⟨rfl, rfl⟩]; rfl)
      refine ⟨M1, q1, q2, SameBut.trans ((SameBut.refl.setI rfl).setI rfl) q3, fun j => ?_⟩
      rw [q4 j, gI_ne (by decide), gI_at]
      by_cases hj : j = n + i
      · subst hj
        rw [if_neg (by omega), if_pos rfl, if_pos (by omega), show n + i - n = i by omega]
      · rw [if_neg hj]
        by_cases hj2 : n + (i + 1) ≤ j ∧ j < n + m
        · rw [if_pos hj2, if_pos (by omega)]
        · rw [if_neg hj2, if_neg (by omega)]
theorem Rel.keepTape {Mx My Mx1 My1 : Mem} (h : Rel Mx My) (hp : RTp Mx1 My1) (hx : SameBut (fun a _ => a == 1 || a == 2) Mx Mx1) (hy : SameBut (fun a k => (a == 50 && k == 1) || a == 51) My My1) : Rel Mx1 My1 := by
  obtain ⟨-, h2, h3, h4, h5⟩ := h
  refine ⟨hp, h2.move (hx.1 3 1 rfl) (fun k => hx.1 4 k rfl) (hx.1 5 3 rfl) (fun k => hx.1 6 k rfl) (fun k => hx.1 7 k rfl) (fun k => hx.1 8 k rfl) (hy.1 50 3 rfl) (fun k => hy.1 53 k rfl) (hy.1 50 12 rfl) (fun k => hy.1 65 k rfl) (fun k => hy.1 66 k rfl) (fun k => hy.1 67 k rfl), h3.move (hx.1 9 3 rfl) (fun k => hx.1 10 k rfl) (fun k => hx.1 11 k rfl) (fun k => hx.1 12 k rfl) (hy.1 50 4 rfl) (fun k => hy.1 56 k rfl) (fun k => hy.1 57 k rfl) (fun k => hy.1 58 k rfl), h4.move (hx.1 9 4 rfl) (hx.1 0 6 rfl) (hx.1 5 5 rfl) (hx.1 5 6 rfl) (hy.1 50 8 rfl) (hy.1 50 9 rfl) (hy.1 50 10 rfl) (hy.1 50 11 rfl), ?_⟩
  obtain ⟨a, a2, q1, q2, q3, -⟩ := id h5
  refine h5.move (hx.2.2 0 5 rfl) (hx.2.2 17 4 rfl) (fun k => hx.1 _ k ?_) (fun a k q4 q5 _ _ _ => hx.2.1 a k ?_) (hy.1 50 17 rfl) (hy.2.1 50 20 rfl) (hy.2.1 50 21 rfl) (fun k => hy.2.1 69 k rfl) (fun k => hy.2.1 70 k rfl)
  · rw [q2]; rcases q1 with ⟨rfl, -⟩ | ⟨rfl, -⟩ <;> rfl
  · simp; omega
theorem sim_feed : Sim_feed Rel := by
  intro Mx My x1 x2 hR
  obtain ⟨n, hn, hx, hy, ht⟩ := hR.1
  unfold fX6_feed fX7_feed
  rw [isIn_ok, bI_s]
  by_cases c1 : x1 < 1
  · rw [if_pos c1, decide_eq_false (fun q => absurd c1 (Int32.not_lt.mpr q.1)), bz_f, if_pos rfl]
    exact ⟨_, _, _, rfl, rfl, hR⟩
  · rw [if_neg c1]
    by_cases c2 : x1 ≤ 8
    · rw [if_pos c2, decide_eq_true ⟨Int32.not_lt.mp c1, c2⟩, bz_t, if_neg (by decide)]
      obtain ⟨m, h1, h2, rfl⟩ := rng (lo := 1) (hi := 8) (Int32.not_lt.mp c1) c2 (by omega) (by omega)
      rw [fX5_size, bI_s, hx, hy, nI_add, show (300 : Int32) = nI 300 from rfl]
      by_cases c3 : n + m ≤ 300
      · rw [if_pos (nI_le c3 (by omega)), if_pos (nI_le c3 (by omega))]
        obtain ⟨M1, a1, a2, a3, a4⟩ := feedX n m x2 c3 h2 FU 0 Mx (by omega) (by unfold FU; omega) (by rw [hx]; rfl)
        obtain ⟨M2, b1, b2, b3, b4⟩ := feedY n m x2 c3 h2 FU 0 My (by omega) (by unfold FU; omega) (by rw [hy]; rfl)
        refine ⟨_, M1, M2, a1, b1, hR.keepTape ⟨n + m, c3, a2, b2, fun j hj => ?_⟩ a3 b3⟩
        rw [b4 j, a4 j]
        by_cases c4 : n + 0 ≤ j ∧ j < n + m
        · rw [if_pos c4, if_pos c4, byte_of x2 (by omega)]
        · rw [if_neg c4, if_neg c4, ht j (by omega)]
      · rw [if_neg (nI_ge (by omega) (by omega)), if_neg (nI_ge (by omega) (by omega))]
        exact ⟨_, _, _, rfl, rfl, hR⟩
    · rw [if_neg c2, decide_eq_false (fun q => c2 q.2), bz_f, if_pos rfl]
      exact ⟨_, _, _, rfl, rfl, hR⟩

/-! text -/
theorem tkX {o q : Nat} (ho : kd o = 5) (hq : kd q = 5) (hoq : o ≠ q ∧ o ≠ q + 1 ∧ o + 1 ≠ q ∧ o + 1 ≠ q + 1) (n : Nat) (hn : n ≤ 300) : ∀ (f i : Nat) (M : Mem), i ≤ n → n < i + f → gI M q 1 = nI n → gI M o 1 = nI i → ∃ M1, fX5_takeOver_H7 o q f (nI i) M = some M1 ∧ gI M1 o 1 = nI n ∧ gI M1 q 1 = 0 ∧ SameBut (fun a k => a == o || a == o + 1 || (a == q && k == 1)) M M1 ∧ ∀ j, bt M1 o j = if i ≤ j ∧ j < n then bt M q j else bt M o j := by
  intro f
  induction f with
  | zero => intro i M h1 h2; omega
  | succ f ih =>
    intro i M h1 h2 h3 h4
    rw [fX5_takeOver_H7, h3]
    by_cases hi : n ≤ i
    · have hi2 : i = n := by omega
      subst hi2
      rw [if_pos (nI_le hi (by omega))]
      refine ⟨setI M q 1 0, rfl, by rw [gI_ne hoq.1]; exact h4, gI_eq, SameBut.refl.setI (by simp), fun j => ?_⟩
      rw [if_neg (by omega)]
      exact bt_congr (fun k => gI_ne hoq.2.2.1) j
    · rw [if_neg (nI_ge (by omega) (by omega)), at_ok hq h3 hn, bI_s, atv_in (by omega) hn, append_ok ho h4 (by omega), bV_s, lt_eq, show (1 : Int32) = nI 1 from rfl, nI_add]
      have e1 : ∀ k, gI (apd o i (nI (bt M q i)) M) (q + 1) k = gI M (q + 1) k := fun k => by unfold apd; rw [gI_ne (Ne.symm hoq.2.1), gI_ne (Ne.symm hoq.2.2.2)]
      obtain ⟨M1, q1, q2, q3, q4, q5⟩ := ih (i + 1) (apd o i (nI (bt M q i)) M) (by omega) (by omega) (by unfold apd; rw [gI_ne (Ne.symm hoq.1), gI_ne (Ne.symm hoq.2.2.1)]; exact h3) (by unfold apd; rw [gI_eq])
      refine ⟨M1, q1, q2, q3, SameBut.trans ((SameBut.refl.setI (by simp)).setI (by simp)) q4, fun j => ?_⟩
      rw [q5 j, bt_congr e1]
      have hb : bt (apd o i (nI (bt M q i)) M) o j = if j = i then bt M q i else bt M o j := by
        have h := bt_apd (o := o) (n := i) (x := nI (bt M q i)) (M := M) j
        have hl := bt_lt (apd o i (nI (bt M q i)) M) o j
        by_cases hj : j = i
        · rw [if_pos hj] at h ⊢
          rw [show (255 : Int32) = nI 255 from rfl, show nI 255 = (255 : Int32) from rfl, pk_andN (k := 8) (by have := bt_lt M q i; omega) (by decide), Nat.mod_eq_of_lt (by have := bt_lt M q i; omega)] at h
          exact (nI_eq (by omega) (by have := bt_lt M q i; omega)).mp h
        · rw [if_neg hj] at h ⊢
          exact (nI_eq (by omega) (by have := bt_lt M o j; omega)).mp h
      rw [hb]
      by_cases hj : j = i
      · subst hj
        rw [if_neg (by omega), if_pos rfl, if_pos (by omega)]
      · rw [if_neg hj]
        by_cases hj2 : i + 1 ≤ j ∧ j < n
        · rw [if_pos hj2, if_pos (by omega)]
        · rw [if_neg hj2, if_neg (by omega)]
theorem take_ok {o q : Nat} (ho : kd o = 5) (hq : kd q = 5) (hoq : o ≠ q ∧ o ≠ q + 1 ∧ o + 1 ≠ q ∧ o + 1 ≠ q + 1) {n : Nat} (hn : n ≤ 300) {M : Mem} (h : gI M q 1 = nI n) : ∃ M1, fX5_takeOver o q M = some M1 ∧ gI M1 o 1 = nI n ∧ gI M1 q 1 = 0 ∧ SameBut (fun a k => a == o || a == o + 1 || (a == q && k == 1)) M M1 ∧ ∀ j, j < n → bt M1 o j = bt M q j := by
  unfold fX5_takeOver
  rw [lt_eq]
  obtain ⟨M1, q1, q2, q3, q4, q5⟩ := tkX ho hq hoq n hn FU 0 (setI M o 1 0) (by omega) (by unfold FU; omega) (by rw [gI_ne (Ne.symm hoq.1)]; exact h) gI_eq
  refine ⟨M1, q1, q2, q3, SameBut.trans (SameBut.refl.setI (by simp)) q4, fun j hj => ?_⟩
  rw [q5 j, if_pos ⟨by omega, hj⟩]
  exact bt_congr (fun k => gI_ne (Ne.symm hoq.2.1)) j
theorem textY (n : Nat) (hn : n ≤ 300) : ∀ (f i : Nat) (M : Mem), i ≤ n → n < i + f → gI M 50 3 = nI n → ∃ M1, fX7_text_H20 f (nI i) M = some (nI n, M1) ∧ SameBut (fun a _ => a == 53) M M1 ∧ ∀ j, gI M1 53 j = if i ≤ j ∧ j < n then gI M 51 j else gI M 53 j := by
  intro f
  induction f with
  | zero => intro i M h1 h2; omega
  | succ f ih =>
    intro i M h1 h2 h3
    rw [fX7_text_H20, h3]
    by_cases hi : n ≤ i
    · rw [if_pos (nI_le hi (by omega))]
      exact ⟨M, rfl, SameBut.refl, fun j => by rw [if_neg (by omega)]⟩
    · rw [if_neg (nI_ge (by omega) (by omega)), iald_n (show i < 300 by omega) (by decide), iast_n (show i < 300 by omega) (by decide), lt_eq, show (1 : Int32) = nI 1 from rfl, nI_add]
      obtain ⟨M1, q1, q2, q3⟩ := ih (i + 1) (setI M 53 i (gI M 51 i)) (by omega) (by omega) (by rw [gI_ne (by decide)]; exact h3)
      refine ⟨M1, q1, SameBut.trans (SameBut.refl.setI rfl) q2, fun j => ?_⟩
      rw [q3 j, gI_ne (by decide), gI_at]
      by_cases hj : j = i
      · subst hj
        rw [if_neg (by omega), if_pos rfl, if_pos (by omega)]
      · rw [if_neg hj]
        by_cases hj2 : i + 1 ≤ j ∧ j < n
        · rw [if_pos hj2, if_pos (by omega)]
        · rw [if_neg hj2, if_neg (by omega)]
theorem sim_text : Sim_text Rel := by
  intro Mx My hR
  obtain ⟨n, hn, hx, hy, ht⟩ := hR.1
  obtain ⟨M1, q1, q2, q3, q4, q5⟩ := take_ok (o := 3) (q := 1) rfl rfl (by decide) hn hx
  unfold fX6_text fX7_text
  rw [q1, bV_s, lt_eq, lt_eq, lt_eq, hy]
  obtain ⟨M2, r1, r2, r3⟩ := textY n hn FU 0 (setI (setI (setI My 50 3 (nI n)) 50 1 0) 50 12 0) (by omega) (by unfold FU; omega) (by rw [gI_nk (by decide), gI_nk (by decide), gI_eq])
  refine ⟨nI n, setI (setI M1 5 3 0) 5 4 0, M2, ?_, r1, ?_⟩
  · rw [show fX2_clear M1 = some (setI (setI M1 5 3 0) 5 4 0) from rfl, bV_s, fX5_size, bI_s, gI_ne (by decide), gI_ne (by decide), q2]
  · have hx1 : SameBut (fun a k => a == 3 || a == 4 || (a == 1 && k == 1) || (a == 5 && (k == 3 || k == 4))) Mx (setI (setI M1 5 3 0) 5 4 0) := SameBut.trans (q4.mono (fun a k h => by simp at h ⊢; omega)) ((SameBut.refl.setI rfl).setI rfl)
    have hy1 : SameBut (fun a k => a == 53 || (a == 50 && (k == 3 || k == 1 || k == 12))) My M2 := SameBut.trans (((SameBut.refl.setI rfl).setI rfl).setI rfl) (r2.mono (fun a k h => by simp at h ⊢; omega))
    obtain ⟨-, h2, h3, h4, h5⟩ := hR
    refine ⟨⟨0, by omega, ?_, ?_, fun j hj => absurd hj (by omega)⟩, ⟨n, hn, ?_, ?_, ?_, 0, by omega, ?_, ?_, fun j hj => absurd hj (by omega)⟩, h3.move (hx1.1 9 3 rfl) (fun k => hx1.1 10 k rfl) (fun k => hx1.1 11 k rfl) (fun k => hx1.1 12 k rfl) (hy1.1 50 4 rfl) (fun k => hy1.1 56 k rfl) (fun k => hy1.1 57 k rfl) (fun k => hy1.1 58 k rfl), h4.move (hx1.1 9 4 rfl) (hx1.1 0 6 rfl) (hx1.1 5 5 rfl) (hx1.1 5 6 rfl) (hy1.1 50 8 rfl) (hy1.1 50 9 rfl) (hy1.1 50 10 rfl) (hy1.1 50 11 rfl), ?_⟩
    · rw [gI_ne (by decide), gI_ne (by decide), q3]; rfl
    · rw [r2.1 50 1 rfl, gI_nk (by decide), gI_eq]; rfl
    · rw [gI_ne (by decide), gI_ne (by decide), q2]
    · rw [r2.1 50 3 rfl, gI_nk (by decide), gI_nk (by decide), gI_eq]
    · intro j hj
      rw [r3 j, if_pos ⟨by omega, hj⟩, gI_ne (by decide), gI_ne (by decide), gI_ne (by decide), ht j hj, bt_congr (M := M1) (o := 3) (fun k => by rw [gI_ne (by decide), gI_ne (by decide)]), q5 j hj]
    · rw [gI_nk (by decide), gI_eq]; rfl
    · rw [r2.1 50 12 rfl, gI_eq]; rfl
    · obtain ⟨a, a2, p1, p2, p3, -⟩ := id h5
      refine h5.move (hx1.2.2 0 5 rfl) (hx1.2.2 17 4 rfl) (fun k => hx1.1 _ k ?_) (fun a k q4 q5 _ _ _ => hx1.2.1 a k ?_) (hy1.1 50 17 rfl) (hy1.2.1 50 20 rfl) (hy1.2.1 50 21 rfl) (fun k => hy1.2.1 69 k rfl) (fun k => hy1.2.1 70 k rfl)
      · rw [p2]; rcases p1 with ⟨rfl, -⟩ | ⟨rfl, -⟩ <;> rfl
      · simp; omega
