/-! bits of longs (the rows bp_b, wb_* began as the kit's own rows for pasting) -/
theorem bp_b (x : Int32) : x.toInt8.toInt32 &&& 255 = x &&& 255 := by
  apply Int32.toBitVec_inj.mp
  rw [Int32.toBitVec_and, Int32.toBitVec_and, Int8.toBitVec_toInt32, Int32.toBitVec_toInt8]
  apply BitVec.eq_of_getLsbD_eq
  intro i hi
  rw [BitVec.getLsbD_and, BitVec.getLsbD_and]
  have hm : ∀ i < 32, 8 ≤ i → (255 : Int32).toBitVec.getLsbD i = false := by decide
  by_cases h : i < 8
  · rw [BitVec.getLsbD_signExtend, BitVec.getLsbD_signExtend, if_pos h, if_pos hi]
    simp only [hi, h, decide_true, Bool.true_and]
  · rw [hm i hi (by omega)]
    simp
theorem wb_c : ∀ k, k < 64 → ((nI k).toInt64 &&& 63) = lN k := by decide +kernel
theorem wb_cu : ∀ k, k < 64 → ((nI k).toInt64.toUInt64 &&& Int64.toUInt64 63) = UInt64.ofNat k := by decide +kernel
theorem wb_sm : ∀ k, k < 64 → (BitVec.ofNat 64 k).smod 64 = BitVec.ofNat 64 k := by decide +kernel
def bit (x : Int64) (k : Nat) : Bool := x.toBitVec.getLsbD k
theorem bit_ext {x y : Int64} (h : ∀ k, k < 64 → bit x k = bit y k) : x = y := Int64.toBitVec_inj.mp (BitVec.eq_of_getLsbD_eq h)
theorem bit_big (x : Int64) {k : Nat} (h : 64 ≤ k) : bit x k = false := BitVec.getLsbD_of_ge _ _ h
theorem bit_and (x y : Int64) (k : Nat) : bit (x &&& y) k = (bit x k && bit y k) := by unfold bit; rw [Int64.toBitVec_and, BitVec.getLsbD_and]
theorem bit_or (x y : Int64) (k : Nat) : bit (x ||| y) k = (bit x k || bit y k) := by unfold bit; rw [Int64.toBitVec_or, BitVec.getLsbD_or]
theorem bit_xor (x y : Int64) (k : Nat) : bit (x ^^^ y) k = (bit x k ^^ bit y k) := by unfold bit; rw [Int64.toBitVec_xor, BitVec.getLsbD_xor]
theorem bit_0 (k : Nat) : bit 0 k = false := by unfold bit; show (0#64).getLsbD k = false; simp
theorem bit_m1 : ∀ k, k < 64 → bit (-1) k = true := by decide +kernel
theorem bit_1 : ∀ k, k < 64 → bit 1 k = decide (k = 0) := by decide +kernel
theorem bit_not (x : Int64) {k : Nat} (h : k < 64) : bit (x ^^^ (-1)) k = !bit x k := by rw [bit_xor, bit_m1 k h]; cases bit x k <;> rfl
theorem bit_ushr (x : Int64) {k : Nat} (j : Nat) (hk : k < 64) : bit (ushr6 x (nI k)) j = bit x (k + j) := by
  unfold bit ushr6
  rw [wb_cu k hk]
  have e : (x.toUInt64 >>> UInt64.ofNat k).toInt64.toBitVec = x.toBitVec >>> k := by
    apply BitVec.eq_of_toNat_eq
    show (x.toUInt64 >>> UInt64.ofNat k).toNat = _
    rw [UInt64.toNat_shiftRight, UInt64.toNat_ofNat', Nat.mod_eq_of_lt (show k < 2 ^ 64 by omega), Nat.mod_eq_of_lt hk, BitVec.toNat_ushiftRight]
    rfl
  rw [e, BitVec.getLsbD_ushiftRight]
theorem bit_shr (x : Int64) {k j : Nat} (hk : k + j < 64) : bit (shr6 x (nI k)) j = bit x (k + j) := by
  unfold bit shr6
  rw [wb_c k (by omega), Int64.toBitVec_shiftRight]
  show (x.toBitVec.sshiftRight' ((BitVec.ofNat 64 k).smod 64)).getLsbD j = _
  rw [wb_sm k (by omega), BitVec.sshiftRight_eq', BitVec.toNat_ofNat, Nat.mod_eq_of_lt (show k < 2 ^ 64 by omega), BitVec.getLsbD_sshiftRight]
  have : ¬ 64 ≤ j := by omega
  simp [this, hk]
theorem bit_shl1 {k j : Nat} (hk : k < 64) (hj : j < 64) : bit (shl6 1 (nI k)) j = decide (j = k) := by
  unfold bit shl6
  rw [wb_c k hk, Int64.toBitVec_shiftLeft]
  show (((1 : Int64).toBitVec) <<< ((BitVec.ofNat 64 k).smod 64)).getLsbD j = _
  rw [wb_sm k hk, BitVec.shiftLeft_eq', BitVec.toNat_ofNat, Nat.mod_eq_of_lt (show k < 2 ^ 64 by omega), BitVec.getLsbD_shiftLeft]
  by_cases h : j < k
  · simp [h, hj]; omega
  · have h1 := bit_1 (j - k) (by omega)
    unfold bit at h1
    rw [h1]
    simp [h, hj]
    omega
theorem and1_0 (x : Int64) : x &&& 1 = 0 ↔ bit x 0 = false := by
  constructor
  · intro h
    have := congrArg (fun y => bit y 0) h
    simpa [bit_and, bit_0, bit_1 0 (by decide)] using this
  · intro h
    apply bit_ext
    intro k hk
    rw [bit_and, bit_1 k hk, bit_0]
    by_cases hk0 : k = 0
    · subst hk0; simp [h]
    · simp [hk0]
theorem and1_1 (x : Int64) : x &&& 1 = 1 ↔ bit x 0 = true := by
  constructor
  · intro h
    have := congrArg (fun y => bit y 0) h
    simpa [bit_and, bit_1 0 (by decide)] using this
  · intro h
    apply bit_ext
    intro k hk
    rw [bit_and, bit_1 k hk]
    by_cases hk0 : k = 0
    · subst hk0; simp [h]
    · simp [hk0]
theorem lg_e (x y : Int64) : lg_cmp x y = 0 ↔ x = y := by
  unfold lg_cmp
  by_cases h : x > y
  · rw [if_pos h]
    constructor
    · intro q; exact absurd q (by decide)
    · intro q; subst q; exact absurd h (Int64.lt_irrefl)
  · rw [if_neg h]
    by_cases h2 : x = y
    · simp [h2]
    · rw [if_neg h2]
      constructor
      · intro q; exact absurd q (by decide)
      · intro q; exact absurd q h2
theorem tst_u (x : Int64) {k : Nat} (hk : k < 64) : lg_cmp ((ushr6 x (nI k)) &&& 1) 0 = 0 ↔ bit x k = false := by
  rw [lg_e, and1_0, bit_ushr x 0 hk]; rfl
theorem tst_s (x : Int64) {k : Nat} (hk : k < 64) : lg_cmp ((shr6 x (nI k)) &&& 1) 1 = 0 ↔ bit x k = true := by
  rw [lg_e, and1_1, bit_shr x (j := 0) (by omega)]; rfl
/-- the byte at a place of a long, by either shift -/
theorem byte_of (x : Int64) {i : Nat} (hi : i < 8) : (ushr6 x (nI (8 * i))).toInt32 &&& 255 = (shr6 x (nI (8 * i))).toInt32 &&& 255 := by
  apply Int32.toBitVec_inj.mp
  rw [Int32.toBitVec_and, Int32.toBitVec_and]
  apply BitVec.eq_of_getLsbD_eq
  intro j hj
  rw [BitVec.getLsbD_and, BitVec.getLsbD_and]
  have hm : ∀ i < 32, 8 ≤ i → (255 : Int32).toBitVec.getLsbD i = false := by decide
  by_cases h : j < 8
  · congr 1
    rw [Int64.toBitVec_toInt32, Int64.toBitVec_toInt32, BitVec.getLsbD_signExtend, BitVec.getLsbD_signExtend, if_pos (show j < 64 by omega), if_pos (show j < 64 by omega)]
    congr 1
    exact (bit_ushr x j (by omega)).trans (bit_shr x (by omega)).symm
  · rw [hm j hj (by omega)]
    simp
