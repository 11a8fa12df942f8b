/-! tools for the pure side -/
theorem lt_eq {α β : Type} (v : α) (k : α → Option β) : lt_ v k = k v := rfl
theorem bI_s {β : Type} (r : Int32) (u : Mem) (k : Int32 → Mem → Option β) : bI_ (some (r, u)) k = k r u := rfl
theorem bJ_s {β : Type} (r : Int64) (u : Mem) (k : Int64 → Mem → Option β) : bJ_ (some (r, u)) k = k r u := rfl
theorem bR_s {β : Type} (r : Nat) (u : Mem) (k : Nat → Mem → Option β) : bR_ (some (r, u)) k = k r u := rfl
theorem bV_s {β : Type} (u : Mem) (k : Mem → Option β) : bV_ (some u) k = k u := rfl
theorem zr_0 (M : Mem) : zr_ 0 M = some (0, M) := rfl
theorem zr_1 (M : Mem) : zr_ 1 M = some (1, M) := rfl
theorem sz_0 {β : Type} (M : Mem) (o k : Nat) (K : Mem → Option β) : sz_ M o k 0 K = K (setI M o k 0) := rfl
theorem sz_1 {β : Type} (M : Mem) (o k : Nat) (K : Mem → Option β) : sz_ M o k 1 K = K (setI M o k 1) := rfl
/-- a truth as a number -/
def bz (b : Bool) : Int32 := if b then 1 else 0
theorem bz_t : bz true = 1 := rfl
theorem bz_f : bz false = 0 := rfl
theorem bz_0 (b : Bool) : bz b = 0 ↔ b = false := by cases b <;> decide
theorem zr_b (b : Bool) (M : Mem) : zr_ (bz b) M = some (bz b, M) := by cases b <;> rfl
theorem zr_d (P : Prop) [Decidable P] (M : Mem) : (if P then zr_ 1 M else zr_ 0 M) = some (bz (decide P), M) := by by_cases h : P <;> simp [h, zr_0, zr_1, bz]
theorem sz_b {β : Type} (M : Mem) (o k : Nat) (b : Bool) (K : Mem → Option β) : sz_ M o k (bz b) K = K (setI M o k (bz b)) := by cases b <;> rfl
theorem nI_neg {n : Nat} (h : n < 2 ^ 31) : ¬ nI n < 0 := nI_pos h
theorem in_ok {i N : Nat} (h : i < N) (hN : N < 2 ^ 31) : ¬ (nI i < 0 ∨ N ≤ (nI i).toNatClampNeg) := nI_in h hN
theorem iald_n {β : Type} {M : Mem} {o i : Nat} {k : Int32 → Option β} (h : i < ln o) (hN : ln o < 2 ^ 31) : iald_ M o (nI i) k = k (gI M o i) := by
  unfold iald_; rw [if_neg (in_ok h hN), nI_clamp (by omega)]
theorem bald_n {β : Type} {M : Mem} {o i : Nat} {k : Int32 → Option β} (h : i < ln o) (hN : ln o < 2 ^ 31) : bald_ M o (nI i) k = k (gI M o i) := by
  unfold bald_; rw [if_neg (in_ok h hN), nI_clamp (by omega)]
theorem zald_n {β : Type} {M : Mem} {o i : Nat} {k : Int32 → Option β} (h : i < ln o) (hN : ln o < 2 ^ 31) : zald_ M o (nI i) k = k (gI M o i) := by
  unfold zald_; rw [if_neg (in_ok h hN), nI_clamp (by omega)]
theorem lald_n {β : Type} {M : Mem} {o i : Nat} {k : Int64 → Option β} (h : i < ln o) (hN : ln o < 2 ^ 31) : lald_ M o (nI i) k = k (gJ M o i) := by
  unfold lald_; rw [if_neg (in_ok h hN), nI_clamp (by omega)]
theorem aald_n {β : Type} {o i : Nat} {k : Nat → Option β} (h : i < ln o) (hN : ln o < 2 ^ 31) : aald_ o (nI i) k = k (o + 1 + i) := by
  unfold aald_; rw [if_neg (in_ok h hN), nI_clamp (by omega)]
theorem iast_n {β : Type} {M : Mem} {o i : Nat} {x : Int32} {k : Mem → Option β} (h : i < ln o) (hN : ln o < 2 ^ 31) : iast_ M o (nI i) x k = k (setI M o i x) := by
  unfold iast_; rw [if_neg (in_ok h hN), nI_clamp (by omega)]
theorem bast_n {β : Type} {M : Mem} {o i : Nat} {x : Int32} {k : Mem → Option β} (h : i < ln o) (hN : ln o < 2 ^ 31) : bast_ M o (nI i) x k = k (setI M o i x.toInt8.toInt32) := by
  unfold bast_; rw [if_neg (in_ok h hN), nI_clamp (by omega), vp_nar_byte]
theorem zast_n {β : Type} {M : Mem} {o i : Nat} {x : Int32} {k : Mem → Option β} (h : i < ln o) (hN : ln o < 2 ^ 31) : zast_ M o (nI i) x k = k (setI M o i (vp_nar .boolean x)) := by
  unfold zast_; rw [if_neg (in_ok h hN), nI_clamp (by omega)]
theorem last_n {β : Type} {M : Mem} {o i : Nat} {x : Int64} {k : Mem → Option β} (h : i < ln o) (hN : ln o < 2 ^ 31) : last_ M o (nI i) x k = k (setJ M o i x) := by
  unfold last_; rw [if_neg (in_ok h hN), nI_clamp (by omega)]
theorem lit (n : Nat) : (OfNat.ofNat n : Int32) = nI n := rfl
theorem and255 (x : Int32) : ∃ c : Nat, c < 256 ∧ x &&& 255 = nI c := pk_andE x 8 (by decide)
/-- the sign at a place of a row of signs -/
def bt (M : Mem) (o j : Nat) : Nat := (gI M (o + 1) j &&& 255).toNatClampNeg
theorem bt_lt (M : Mem) (o j : Nat) : bt M o j < 256 := by
  obtain ⟨c, h1, h2⟩ := and255 (gI M (o + 1) j)
  unfold bt; rw [h2, nI_clamp (by omega)]; exact h1
theorem bt_eq (M : Mem) (o j : Nat) : gI M (o + 1) j &&& 255 = nI (bt M o j) := by
  obtain ⟨c, h1, h2⟩ := and255 (gI M (o + 1) j)
  unfold bt; rw [h2, nI_clamp (by omega)]
/-- what 'at' answers -/
def atv (n : Nat) (b : Nat → Nat) (x : Int32) : Int32 := if x < 0 then (-1) else if nI n ≤ x then (-1) else nI (b x.toNatClampNeg)
theorem atv_in {n i : Nat} {b : Nat → Nat} (h : i < n) (hn : n ≤ 300) : atv n b (nI i) = nI (b i) := by
  unfold atv; rw [if_neg (nI_pos (by omega)), if_neg (nI_ge h (by omega)), nI_clamp (by omega)]
theorem atv_out {n i : Nat} {b : Nat → Nat} (h : n ≤ i) (hi : i < 2 ^ 31) : atv n b (nI i) = -1 := by
  unfold atv; rw [if_neg (nI_pos (by omega)), if_pos (nI_le h (by omega))]
theorem at_ok {o : Nat} (ho : kd o = 5) {M : Mem} {n : Nat} (h1 : gI M o 1 = nI n) (hn : n ≤ 300) (x : Int32) : fX5_at o x M = some (atv n (bt M o) x, M) := by
  unfold fX5_at atv
  rw [h1]
  by_cases c1 : x < 0
  · rw [if_pos c1, if_pos c1]
  · rw [if_neg c1, if_neg c1]
    by_cases c2 : nI n ≤ x
    · rw [if_pos c2, if_pos c2]
    · rw [if_neg c2, if_neg c2]
      obtain ⟨j, hj, rfl⟩ : ∃ j : Nat, j < n ∧ x = nI j := by
        rcases pk_ix x (n := n) (by omega) with h | h | h
        · exact absurd h c1
        · exact absurd h c2
        · exact h
      rw [bald_n (by rw [na5 ho]; omega) (by rw [na5 ho]; omega), nI_clamp (by omega), bt_eq]
/-- what two memories have the same -/
def SameBut (S : Nat → Nat → Bool) (M M1 : Mem) : Prop := (∀ a k, S a k = false → gI M1 a k = gI M a k) ∧ (∀ a k, S a k = false → gJ M1 a k = gJ M a k) ∧ (∀ a k, S a k = false → gR M1 a k = gR M a k)
theorem SameBut.refl {S : Nat → Nat → Bool} {M : Mem} : SameBut S M M := ⟨fun _ _ _ => rfl, fun _ _ _ => rfl, fun _ _ _ => rfl⟩
theorem SameBut.trans {S : Nat → Nat → Bool} {M M1 M2 : Mem} (h : SameBut S M M1) (g : SameBut S M1 M2) : SameBut S M M2 := ⟨fun a k q => (g.1 a k q).trans (h.1 a k q), fun a k q => (g.2.1 a k q).trans (h.2.1 a k q), fun a k q => (g.2.2 a k q).trans (h.2.2 a k q)⟩
theorem SameBut.mono {S S1 : Nat → Nat → Bool} {M M1 : Mem} (h : SameBut S M M1) (hs : ∀ a k, S1 a k = false → S a k = false) : SameBut S1 M M1 := ⟨fun a k q => h.1 a k (hs a k q), fun a k q => h.2.1 a k (hs a k q), fun a k q => h.2.2 a k (hs a k q)⟩
theorem SameBut.setI {S : Nat → Nat → Bool} {M M1 : Mem} {o k : Nat} {v : Int32} (h : SameBut S M M1) (hs : S o k = true) : SameBut S M (setI M1 o k v) := ⟨fun a b q => by rw [gI_setI, if_neg (by rintro ⟨rfl, rfl⟩; rw [hs] at q; cases q)]; exact h.1 a b q, fun a b q => h.2.1 a b q, fun a b q => h.2.2 a b q⟩
theorem SameBut.setJ {S : Nat → Nat → Bool} {M M1 : Mem} {o k : Nat} {v : Int64} (h : SameBut S M M1) (hs : S o k = true) : SameBut S M (setJ M1 o k v) := ⟨fun a b q => h.1 a b q, fun a b q => by rw [gJ_setJ, if_neg (by rintro ⟨rfl, rfl⟩; rw [hs] at q; cases q)]; exact h.2.1 a b q, fun a b q => h.2.2 a b q⟩
theorem SameBut.setR {S : Nat → Nat → Bool} {M M1 : Mem} {o k : Nat} {v : Nat} (h : SameBut S M M1) (hs : S o k = true) : SameBut S M (setR M1 o k v) := ⟨fun a b q => h.1 a b q, fun a b q => h.2.1 a b q, fun a b q => by rw [gR_setR, if_neg (by rintro ⟨rfl, rfl⟩; rw [hs] at q; cases q)]; exact h.2.2 a b q⟩
theorem gI_ne {M : Mem} {o k a b : Nat} {v : Int32} (h : a ≠ o) : gI (setI M o k v) a b = gI M a b := by rw [gI_setI, if_neg (fun q => h q.1)]
theorem gI_at {M : Mem} {o k b : Nat} {v : Int32} : gI (setI M o k v) o b = if b = k then v else gI M o b := by
  rw [gI_setI]; by_cases h : b = k
  · rw [if_pos ⟨rfl, h⟩, if_pos h]
  · rw [if_neg (fun q => h q.2), if_neg h]
theorem gI_eq {M : Mem} {o k : Nat} {v : Int32} : gI (setI M o k v) o k = v := by rw [gI_setI, if_pos ⟨rfl, rfl⟩]
theorem gI_nk {M : Mem} {o k a b : Nat} {v : Int32} (h : b ≠ k) : gI (setI M o k v) a b = gI M a b := by rw [gI_setI, if_neg (fun q => h q.2)]
theorem gJ_ne {M : Mem} {o k a b : Nat} {v : Int64} (h : a ≠ o) : gJ (setJ M o k v) a b = gJ M a b := by rw [gJ_setJ, if_neg (fun q => h q.1)]
theorem gJ_at {M : Mem} {o k b : Nat} {v : Int64} : gJ (setJ M o k v) o b = if b = k then v else gJ M o b := by
  rw [gJ_setJ]; by_cases h : b = k
  · rw [if_pos ⟨rfl, h⟩, if_pos h]
  · rw [if_neg (fun q => h q.2), if_neg h]
theorem gJ_eq {M : Mem} {o k : Nat} {v : Int64} : gJ (setJ M o k v) o k = v := by rw [gJ_setJ, if_pos ⟨rfl, rfl⟩]
theorem gJ_nk {M : Mem} {o k a b : Nat} {v : Int64} (h : b ≠ k) : gJ (setJ M o k v) a b = gJ M a b := by rw [gJ_setJ, if_neg (fun q => h q.2)]
theorem n10 : ¬ (1 : Int32) = 0 := by decide
theorem z00 : (0 : Int32) = 0 := rfl
theorem bz_of {x : Int32} (h : x = 0 ∨ x = 1) : ∃ c : Bool, x = bz c := by
  rcases h with rfl | rfl
  · exact ⟨false, rfl⟩
  · exact ⟨true, rfl⟩
noncomputable def dz (P : Prop) : Int32 := @ite _ P (Classical.propDecidable P) 1 0
theorem dz_t {P : Prop} (h : P) : dz P = 1 := by unfold dz; exact if_pos h
theorem dz_f {P : Prop} (h : ¬ P) : dz P = 0 := by unfold dz; exact if_neg h
theorem dz_c {P Q : Prop} (h : P ↔ Q) : dz P = dz Q := by rw [propext h]
theorem ga_k {β : Type} {x : Nat} {K : Nat → Option β} (h : kd x = 0) : ga_ x K = K x := by unfold ga_; rw [if_pos h]
