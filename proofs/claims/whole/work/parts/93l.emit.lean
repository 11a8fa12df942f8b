/-! what is emitted: lists of places and ends, and who lays them down -/
def SX : Nat → Nat → Bool := fun a k => SF a k || SD a k
def SY : Nat → Nat → Bool := fun a k => SG a k || SE a k
theorem SX_SF {a k : Nat} (h : SX a k = false) : SF a k = false := by unfold SX at h; exact (Bool.or_eq_false_iff.mp h).1
theorem SX_SD {a k : Nat} (h : SX a k = false) : SD a k = false := by unfold SX at h; exact (Bool.or_eq_false_iff.mp h).2
theorem SY_SG {a k : Nat} (h : SY a k = false) : SG a k = false := by unfold SY at h; exact (Bool.or_eq_false_iff.mp h).1
theorem SY_SE {a k : Nat} (h : SY a k = false) : SE a k = false := by unfold SY at h; exact (Bool.or_eq_false_iff.mp h).2
theorem PX.moveX {sh : Bool} {lim : Nat} {rule : Bool} {M M1 : Mem} (h : PX sh lim rule M) (hs : SameBut SX M M1) : PX sh lim rule M1 := ⟨h.1, h.2.1, (hs.1 5 5 rfl).trans h.2.2.1, (hs.1 5 6 rfl).trans h.2.2.2.1, (hs.1 5 7 rfl).trans h.2.2.2.2⟩
theorem PY.moveY {sh : Bool} {lim : Nat} {rule : Bool} {M M1 : Mem} (h : PY sh lim rule M) (hs : SameBut SY M M1) : PY sh lim rule M1 := ⟨h.1, h.2.1, (hs.1 50 10 rfl).trans h.2.2.1, (hs.1 50 11 rfl).trans h.2.2.2.1, by rw [hs.1 50 42 rfl]; exact h.2.2.2.2⟩
theorem DX.moveX {n w st : Nat} {len cst : Nat → Nat} {L : Nat → Nat → Nat} {b : Nat → Nat} {M M1 : Mem} (h : DX n w st len cst L b M) (hs : SameBut SX M M1) : DX n w st len cst L b M1 := by
  obtain ⟨h1, h2, h3, h4, h5, h6, h7, h8, h9, h10⟩ := h
  refine ⟨h1, (hs.1 3 1 rfl).trans h2, h3, (hs.1 9 3 rfl).trans h4, h5, h6, (hs.1 9 4 rfl).trans h7, fun k hk => ?_, fun k j => ?_, fun j => ?_⟩
  · obtain ⟨q1, q2, q3, q4, q5, q6⟩ := h8 k hk
    exact ⟨q1, q2, (hs.1 11 k rfl).trans q3, q4, q5, (hs.1 12 k rfl).trans q6⟩
  · rw [bt_congr (o := 9) (fun k => hs.1 10 k rfl)]; exact h9 k j
  · rw [bt_congr (o := 3) (fun k => hs.1 4 k rfl)]; exact h10 j
theorem DY.moveY {n w st : Nat} {len cst : Nat → Nat} {L : Nat → Nat → Nat} {b : Nat → Nat} {M M1 : Mem} (h : DY n w st len cst L b M) (hs : SameBut SY M M1) : DY n w st len cst L b M1 := by
  obtain ⟨h1, h2, h3, h4, h5, h6, h7, h8, h9, h10, h11⟩ := h
  refine ⟨h1, (hs.1 50 3 rfl).trans h2, h3, (hs.1 50 4 rfl).trans h4, h5, h6, (hs.1 50 8 rfl).trans h7, fun k hk => ?_, fun k j hk hj => (hs.1 56 _ rfl).trans (h9 k j hk hj), fun j hj => (hs.1 53 j rfl).trans (h10 j hj), h11⟩
  obtain ⟨q1, q2, q3, q4, q5, q6⟩ := h8 k hk
  exact ⟨q1, q2, (hs.1 57 k rfl).trans q3, q4, q5, (hs.1 58 k rfl).trans q6⟩
theorem sSF {M M1 : Mem} (h : SameBut SF M M1) : SameBut SX M M1 := h.mono (fun _ _ q => SX_SF q)
theorem sSG {M M1 : Mem} (h : SameBut SG M M1) : SameBut SY M M1 := h.mono (fun _ _ q => SY_SG q)
def TX (n : Nat) (b : Nat → Nat) (M : Mem) : Prop := n ≤ 300 ∧ gI M 3 1 = nI n ∧ ∀ j, bt M 3 j = b j
def TY (n : Nat) (b : Nat → Nat) (M : Mem) : Prop := n ≤ 300 ∧ gI M 50 3 = nI n ∧ (∀ j, b j < 256) ∧ ∀ j, j < n → gI M 53 j = nI (b j)
theorem TX.move {n : Nat} {b : Nat → Nat} {M M1 : Mem} (h : TX n b M) (hs : SameBut SF M M1) : TX n b M1 := ⟨h.1, (hs.1 3 1 rfl).trans h.2.1, fun j => by rw [bt_congr (o := 3) (fun k => hs.1 4 k rfl)]; exact h.2.2 j⟩
theorem TY.move {n : Nat} {b : Nat → Nat} {M M1 : Mem} (h : TY n b M) (hs : SameBut SG M M1) : TY n b M1 := ⟨h.1, (hs.1 50 3 rfl).trans h.2.1, h.2.2.1, fun j hj => (hs.1 53 j rfl).trans (h.2.2.2 j hj)⟩
theorem DX.tx {n w st : Nat} {len cst : Nat → Nat} {L : Nat → Nat → Nat} {b : Nat → Nat} {M : Mem} (h : DX n w st len cst L b M) : TX n b M := ⟨h.1, h.2.1, h.2.2.2.2.2.2.2.2.2⟩
theorem DY.ty {n w st : Nat} {len cst : Nat → Nat} {L : Nat → Nat → Nat} {b : Nat → Nat} {M : Mem} (h : DY n w st len cst L b M) : TY n b M := ⟨h.1, h.2.1, h.2.2.2.2.2.2.2.2.2.2.1, h.2.2.2.2.2.2.2.2.2.1⟩
theorem TX.lt {n : Nat} {b : Nat → Nat} {M : Mem} (h : TX n b M) (j : Nat) : b j < 256 := by rw [← h.2.2 j]; exact bt_lt M 3 j
theorem TX.at {n i : Nat} {b : Nat → Nat} {M : Mem} (h : TX n b M) (hi : i < n) : fX5_at 3 (nI i) M = some (nI (b i), M) := by rw [at_ok rfl h.2.1 h.1, atv_in hi h.1, h.2.2]
theorem TX.eqf {n : Nat} {b : Nat → Nat} {M : Mem} (h : TX n b M) : bt M 3 = b := funext h.2.2
def OX (sh : Bool) (lim : Nat) (rule : Bool) (S : Nat → Nat → Bool) (E : List (Nat × Nat)) (σ : TS) (M : Mem) (r : Option Mem) : Prop := ∃ M1, r = some M1 ∧ RX (addsA sh lim rule E σ) M1 ∧ SameBut S M M1
def OY (n : Nat) (sh : Bool) (lim : Nat) (rule : Bool) (S : Nat → Nat → Bool) (E : List (Nat × Nat)) (σ : TS) (M : Mem) (r : Option Mem) : Prop := ∃ M1, r = some M1 ∧ RY (addsA sh lim rule E σ) M1 ∧ SameBut S M M1 ∧ ∀ q ∈ E, q.1 ≤ q.2 ∧ q.2 ≤ n
section
variable {sh : Bool} {lim : Nat} {rule : Bool} {S : Nat → Nat → Bool} {E E2 : List (Nat × Nat)} {σ : TS} {M : Mem} {r : Option Mem} {n : Nat}
theorem OX.nil (h : RX σ M) : OX sh lim rule S [] σ M (some M) := ⟨M, rfl, h, SameBut.refl⟩
theorem OX.over (o : σ.2.1 = true) (h : RX σ M) : OX sh lim rule S E σ M (some M) := ⟨M, rfl, by rw [addsA_over E σ o]; exact h, SameBut.refl⟩
theorem OX.bind {k : Mem → Option Mem} (h : OX sh lim rule S E σ M r) (g : ∀ M1, RX (addsA sh lim rule E σ) M1 → SameBut S M M1 → OX sh lim rule S E2 (addsA sh lim rule E σ) M1 (k M1)) : OX sh lim rule S (E ++ E2) σ M (bV_ r k) := by
  obtain ⟨M1, rfl, h2, h3⟩ := h
  obtain ⟨M2, g1, g2, g3⟩ := g M1 h2 h3
  exact ⟨M2, by rw [bV_s]; exact g1, by rw [addsA_app]; exact g2, h3.trans g3⟩
theorem OX.ret (h : OX sh lim rule S E σ M r) : OX sh lim rule S E σ M (bV_ r fun M1 => some M1) := by
  obtain ⟨M1, rfl, h2, h3⟩ := h
  exact ⟨M1, rfl, h2, h3⟩
theorem OX.up (h : OX sh lim rule SF E σ M r) : OX sh lim rule SX E σ M r := by
  obtain ⟨M1, h1, h2, h3⟩ := h
  exact ⟨M1, h1, h2, sSF h3⟩
theorem OX.one {p e : Nat} (hpe : p ≤ e) (he : e ≤ 300) (hP : PX sh lim rule M) (hR : RX σ M) : OX sh lim rule SF [(p, e)] σ M (fX2_add (nI p) (nI e) M) := addX hpe he hP hR
theorem OY.nil (h : RY σ M) : OY n sh lim rule S [] σ M (some M) := ⟨M, rfl, h, SameBut.refl, fun q hq => absurd hq (by simp)⟩
theorem OY.bind {k : Mem → Option Mem} (h : OY n sh lim rule S E σ M r) (g : ∀ M1, RY (addsA sh lim rule E σ) M1 → SameBut S M M1 → OY n sh lim rule S E2 (addsA sh lim rule E σ) M1 (k M1)) : OY n sh lim rule S (E ++ E2) σ M (bV_ r k) := by
  obtain ⟨M1, rfl, h2, h3, h4⟩ := h
  obtain ⟨M2, g1, g2, g3, g4⟩ := g M1 h2 h3
  exact ⟨M2, by rw [bV_s]; exact g1, by rw [addsA_app]; exact g2, h3.trans g3, fun q hq => (List.mem_append.mp hq).elim (h4 q) (g4 q)⟩
theorem OY.ret (h : OY n sh lim rule S E σ M r) : OY n sh lim rule S E σ M (bV_ r fun M1 => some M1) := by
  obtain ⟨M1, rfl, h2, h3⟩ := h
  exact ⟨M1, rfl, h2, h3⟩
theorem OY.up (h : OY n sh lim rule SG E σ M r) : OY n sh lim rule SY E σ M r := by
  obtain ⟨M1, h1, h2, h3, h4⟩ := h
  exact ⟨M1, h1, h2, sSG h3, h4⟩
theorem OY.one {p e : Nat} (hpe : p ≤ e) (he : e ≤ n) (hn : n ≤ 300) (hP : PY sh lim rule M) (hR : RY σ M) : OY n sh lim rule SG [(p, e)] σ M (fX7_tokenOf (nI p) (nI e) M) := by
  obtain ⟨M1, h1, h2, h3⟩ := addY hpe (by omega) hP hR
  refine ⟨M1, h1, h2, h3, fun q hq => ?_⟩
  have : q = (p, e) := by simpa using hq
  subst this
  exact ⟨hpe, he⟩
end
/-! paths -/
def pathE (b : Nat → Nat) (pl en : Nat) : Nat → Nat → List (Nat × Nat)
  | 0, _ => [(pl, en)]
  | d + 1, i => if b i = 47 then (pl, i) :: pathE b pl en d (i + 1) else pathE b pl en d (i + 1)
theorem pathX {sh : Bool} {lim : Nat} {rule : Bool} {n pl en : Nat} {b : Nat → Nat} (hen : en ≤ n) (hpl : pl ≤ en) : ∀ (f i : Nat) (σ : TS) (M : Mem), pl ≤ i → i ≤ en → en < i + f → PX sh lim rule M → TX n b M → RX σ M → OX sh lim rule SF (pathE b pl en (en - i) i) σ M (fX6_cutPaths_H4 f (nI pl) (nI en) (nI i) M) := by
  intro f
  induction f with
  | zero => intro i σ M q1 q2 q3; omega
  | succ f ih =>
    intro i σ M q1 q2 q3 hP hT hR
    have hn := hT.1
    rw [fX6_cutPaths_H4]
    by_cases c : en ≤ i
    · rw [if_pos (nI_le c (by omega)), show en - i = 0 by omega]
      exact (OX.one hpl (by omega) hP hR).ret
    · rw [if_neg (nI_ge (by omega) (by omega)), hT.at (by omega), bI_s, show en - i = (en - (i + 1)) + 1 by omega, pathE]
      have e47 : nI (b i) = 47 ↔ b i = 47 := nI_eq (b := 47) (by have := hT.lt i; omega) (by omega)
      unfold fX6_cutPaths_L31
      simp only [lt_eq, show (1 : Int32) = nI 1 from rfl, nI_add]
      by_cases d : b i = 47
      · rw [if_pos d, if_pos (e47.mpr d)]
        exact (OX.one (p := pl) (e := i) (by omega) (by omega) hP hR).bind (fun M1 r1 s1 => ih (i + 1) _ M1 (by omega) (by omega) (by omega) (hP.move s1) (hT.move s1) r1)
      · rw [if_neg d, if_neg (fun z => d (e47.mp z))]
        exact ih (i + 1) σ M (by omega) (by omega) (by omega) hP hT hR
theorem pathY {sh : Bool} {lim : Nat} {rule : Bool} {n pl en : Nat} {b : Nat → Nat} (hen : en ≤ n) (hpl : pl ≤ en) : ∀ (f i : Nat) (σ : TS) (M : Mem), pl ≤ i → i ≤ en → en < i + f → PY sh lim rule M → TY n b M → RY σ M → OY n sh lim rule SG (pathE b pl en (en - i) i) σ M (fX7_paths_H4 f (nI pl) (nI en) (nI i) M) := by
  intro f
  induction f with
  | zero => intro i σ M q1 q2 q3; omega
  | succ f ih =>
    intro i σ M q1 q2 q3 hP hT hR
    have hn := hT.1
    rw [fX7_paths_H4]
    by_cases c : en ≤ i
    · rw [if_pos (nI_le c (by omega)), show en - i = 0 by omega]
      exact (OY.one hpl hen hn hP hR).ret
    · rw [if_neg (nI_ge (by omega) (by omega)), iald_n (show i < 300 by omega) (by decide), hT.2.2.2 i (by omega), show en - i = (en - (i + 1)) + 1 by omega, pathE]
      have e47 : nI (b i) = 47 ↔ b i = 47 := nI_eq (b := 47) (by have := hT.2.2.1 i; omega) (by omega)
      unfold fX7_paths_L26
      simp only [lt_eq, show (1 : Int32) = nI 1 from rfl, nI_add]
      by_cases d : b i = 47
      · rw [if_pos d, if_pos (e47.mpr d)]
        exact (OY.one (p := pl) (e := i) (by omega) (by omega) hn hP hR).bind (fun M1 r1 s1 => ih (i + 1) _ M1 (by omega) (by omega) (by omega) (hP.move s1) (hT.move s1) r1)
      · rw [if_neg d, if_neg (fun z => d (e47.mp z))]
        exact ih (i + 1) σ M (by omega) (by omega) (by omega) hP hT hR
/-! sizes -/
def sizE (pl : Nat) : Nat → Nat → List (Nat × Nat)
  | 0, _ => []
  | d + 1, i => (pl, i) :: sizE pl d (i + 1)
def szE (a m en pl : Nat) : List (Nat × Nat) := sizE pl (min en (pl + m) + 1 - (pl + a)) (pl + a)
theorem sizX {sh : Bool} {lim : Nat} {rule : Bool} {pl la : Nat} (hla : la ≤ 300) : ∀ (f i : Nat) (σ : TS) (M : Mem), pl ≤ i → i ≤ 601 → la + 1 < i + f → 0 < f → PX sh lim rule M → RX σ M → OX sh lim rule SF (sizE pl (la + 1 - i) i) σ M (fX6_cutSizes_H15 f (nI pl) (nI la) (nI i) M) := by
  intro f
  induction f with
  | zero => intro i σ M q1 q2 q3 q4; omega
  | succ f ih =>
    intro i σ M q1 q2 q3 q4 hP hR
    rw [fX6_cutSizes_H15]
    by_cases c : la < i
    · rw [if_pos (nI_lt c (by omega)), show la + 1 - i = 0 by omega]
      exact OX.nil hR
    · rw [if_neg (nI_nlt (by omega) (by omega)), show la + 1 - i = (la + 1 - (i + 1)) + 1 by omega, sizE]
      simp only [lt_eq, show (1 : Int32) = nI 1 from rfl, nI_add]
      exact (OX.one (p := pl) (e := i) (by omega) (by omega) hP hR).bind (fun M1 r1 s1 => ih (i + 1) _ M1 (by omega) (by omega) (by omega) (by omega) (hP.move s1) r1)
theorem min_ok {a c : Nat} (ha : a < 2 ^ 31) (hc : c < 2 ^ 31) : mmin_ (nI a) (nI c) = nI (min a c) := by
  unfold mmin_
  by_cases z : c < a
  · rw [if_pos (nI_lt z ha), Nat.min_eq_right (by omega)]
  · rw [if_neg (nI_nlt (by omega) hc), Nat.min_eq_left (by omega)]
theorem max_ok {a c : Nat} (ha : a < 2 ^ 31) (hc : c < 2 ^ 31) : mmax_ (nI a) (nI c) = nI (max a c) := by
  unfold mmax_
  by_cases z : a < c
  · rw [if_pos (nI_lt z hc), Nat.max_eq_right (by omega)]
  · rw [if_neg (nI_nlt (by omega) ha), Nat.max_eq_left (by omega)]
theorem szX {sh : Bool} {lim : Nat} {rule : Bool} {pl en a m : Nat} {σ : TS} {M : Mem} (hpl : pl ≤ 300) (hen : en ≤ 300) (ha : a ≤ 300) (hm : m ≤ 300) (hP : PX sh lim rule M) (hR : RX σ M) : OX sh lim rule SF (szE a m en pl) σ M (fX6_cutSizes (nI pl) (nI en) (nI a) (nI m) M) := by
  unfold fX6_cutSizes szE
  simp only [lt_eq, nI_add]
  rw [min_ok (by omega) (by omega)]
  exact sizX (by omega) FU (pl + a) σ M (by omega) (by omega) (by unfold FU; omega) (by unfold FU; omega) hP hR
def rowsE (a m en : Nat) : Nat → Nat → List (Nat × Nat)
  | 0, _ => []
  | d + 1, i => szE a m en i ++ rowsE a m en d (i + 1)
theorem over_ok {σ : TS} {M : Mem} (h : RX σ M) : fX2_isOver M = some (bz σ.2.1, M) := by
  unfold fX2_isOver
  cases o : σ.2.1 with
  | true => rw [(h.1 o).1]; rfl
  | false => rw [(h.2 o).1]; rfl
theorem rowsX {sh : Bool} {lim : Nat} {rule : Bool} {en a m : Nat} (hen : en ≤ 300) (ha : a ≤ 300) (hm : m ≤ 300) : ∀ (f i : Nat) (σ : TS) (M : Mem), i ≤ en → en < i + f → PX sh lim rule M → RX σ M → OX sh lim rule SF (rowsE a m en (en - i) i) σ M (fX6_cutRow_H48 f (nI en) (nI a) (nI m) (nI i) M) := by
  intro f
  induction f with
  | zero => intro i σ M q1 q2; omega
  | succ f ih =>
    intro i σ M q1 q2 hP hR
    rw [fX6_cutRow_H48]
    unfold fX6_cutRow_L81
    by_cases c : en ≤ i
    · rw [if_pos (nI_le c (by omega)), show en - i = 0 by omega]
      exact OX.nil hR
    · rw [if_neg (nI_ge (by omega) (by omega)), over_ok hR, bI_s, show en - i = (en - (i + 1)) + 1 by omega, rowsE]
      cases o : σ.2.1 with
      | true => rw [if_neg (show ¬ bz true = 0 from n10)]; exact OX.over o hR
      | false =>
        rw [if_pos (show bz false = 0 from rfl)]
        simp only [lt_eq, show (1 : Int32) = nI 1 from rfl, nI_add]
        exact (szX (by omega) hen ha hm hP hR).bind (fun M1 r1 s1 => ih (i + 1) _ M1 (by omega) (by omega) (hP.move s1) r1)
theorem sizY {sh : Bool} {lim : Nat} {rule : Bool} {n pl en a m i : Nat} (k94 : Int32 → Int32 → Int32 → Int32 → Int32 → Mem → Option Mem) (hn : n ≤ 300) (hen : en ≤ n) (hm : m ≤ 300) (hi : i ≤ en) : ∀ (f z : Nat) (σ : TS) (M : Mem) (E2 : List (Nat × Nat)), z ≤ m + 1 → m + 1 < z + f → 0 < f → PY sh lim rule M → RY σ M → (∀ (σ1 : TS) (M1 : Mem), SameBut SG M M1 → RY σ1 M1 → OY n sh lim rule SG E2 σ1 M1 (k94 (nI pl) (nI en) (nI a) (nI m) (nI (i + 1)) M1)) → OY n sh lim rule SG (sizE i (min en (i + m) + 1 - (i + z)) (i + z) ++ E2) σ M (fX7_row_H117 k94 f (nI pl) (nI en) (nI a) (nI m) (nI i) (nI z) M) := by
  intro f
  induction f with
  | zero => intro z σ M E2 q1 q2 q3; omega
  | succ f ih =>
    intro z σ M E2 q1 q2 q3 hP hR hk
    rw [fX7_row_H117]
    unfold fX7_row_L150
    simp only [lt_eq, show (1 : Int32) = nI 1 from rfl, nI_add]
    by_cases c : m < z
    · rw [if_pos (nI_lt c (by omega)), show min en (i + m) + 1 - (i + z) = 0 by omega]
      exact hk σ M SameBut.refl hR
    · rw [if_neg (nI_nlt (by omega) (by omega))]
      by_cases d : en < i + z
      · rw [if_pos (nI_lt d (by omega)), show min en (i + m) + 1 - (i + z) = 0 by omega]
        exact hk σ M SameBut.refl hR
      · rw [if_neg (nI_nlt (by omega) (by omega)), show min en (i + m) + 1 - (i + z) = (min en (i + m) + 1 - (i + (z + 1))) + 1 by omega, sizE]
        exact (OY.one (p := i) (e := i + z) (by omega) (by omega) hn hP hR).bind (fun M1 r1 s1 => ih (z + 1) _ M1 E2 (by omega) (by omega) (by omega) (hP.move s1) r1 (fun σ1 M2 s2 r2 => hk σ1 M2 (s1.trans s2) r2))
theorem rowsY {sh : Bool} {lim : Nat} {rule : Bool} {n pl en a m way : Nat} (hn : n ≤ 300) (hen : en ≤ n) (ha : a ≤ m) (hm : m ≤ 300) (hw : way = 5 ∨ way = 6) : ∀ (f i : Nat) (σ : TS) (M : Mem), pl ≤ i → i ≤ en → en < i + f → gI M 50 42 = nI way → PY sh lim rule M → RY σ M → OY n sh lim rule SG (if way = 5 then rowsE a m en (en - i) i else if i = pl ∧ pl < en then szE a m en pl else []) σ M (fX7_row_H94 f (nI pl) (nI en) (nI a) (nI m) (nI i) M) := by
  intro f
  induction f with
  | zero => intro i σ M q1 q2 q3; omega
  | succ f ih =>
    intro i σ M q1 q2 q3 hW hP hR
    rw [fX7_row_H94, hW]
    unfold fX7_row_L156 fX7_row_L114
    have e5 : nI way = 5 ↔ way = 5 := nI_eq (b := 5) (by omega) (by omega)
    by_cases c : en ≤ i
    · rw [if_pos (nI_le c (by omega)), show en - i = 0 by omega]
      have : (if way = 5 then rowsE a m en 0 i else if i = pl ∧ pl < en then szE a m en pl else []) = [] := by
        rcases hw with rfl | rfl
        · rfl
        · rw [if_neg (by omega), if_neg (by omega)]
      rw [this]
      exact OY.nil hR
    · rw [if_neg (nI_ge (by omega) (by omega))]
      rcases hw with rfl | rfl
      · rw [if_pos (show nI 5 = 5 from rfl), if_pos rfl, show en - i = (en - (i + 1)) + 1 by omega, rowsE]
        have h := sizY (sh := sh) (lim := lim) (rule := rule) (n := n) (pl := pl) (en := en) (a := a) (m := m) (i := i) (fX7_row_H94 f) hn hen hm q2 FU a σ M (rowsE a m en (en - (i + 1)) (i + 1)) (by omega) (by unfold FU; omega) (by unfold FU; omega) hP hR (fun σ1 M1 s1 r1 => by
          have g := ih (i + 1) σ1 M1 (by omega) (by omega) (by omega) ((s1.1 50 42 rfl).trans hW) (hP.move s1) r1
          rw [if_pos rfl] at g
          exact g)
        exact h
      · rw [if_neg (show ¬ nI 6 = 5 by decide), if_neg (show ¬ 6 = 5 by decide)]
        by_cases d : i = pl
        · subst d
          rw [if_pos rfl, if_pos (show i = i ∧ i < en from ⟨rfl, by omega⟩)]
          have h := sizY (sh := sh) (lim := lim) (rule := rule) (n := n) (pl := i) (en := en) (a := a) (m := m) (i := i) (fX7_row_H94 f) hn hen hm q2 FU a σ M [] (by omega) (by unfold FU; omega) (by unfold FU; omega) hP hR (fun σ1 M1 s1 r1 => by
            have g := ih (i + 1) σ1 M1 (by omega) (by omega) (by omega) ((s1.1 50 42 rfl).trans hW) (hP.move s1) r1
            rw [if_neg (show ¬ 6 = 5 by decide), if_neg (by omega)] at g
            exact g)
          rw [List.append_nil] at h
          exact h
        · rw [if_neg (show ¬ nI i = nI pl from fun z => d ((nI_eq (by omega) (by omega)).mp z)), if_neg (show ¬ (i = pl ∧ pl < en) from fun z => d z.1)]
          exact OY.nil hR
