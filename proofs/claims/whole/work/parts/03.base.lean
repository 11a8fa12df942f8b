abbrev Mem : Type := (Nat → Nat → Int32) × (Nat → Nat → Int64) × (Nat → Nat → Nat)
def gI (M : Mem) (o k : Nat) : Int32 := M.1 o k
def gJ (M : Mem) (o k : Nat) : Int64 := M.2.1 o k
def gR (M : Mem) (o k : Nat) : Nat := M.2.2 o k
def tw {α : Type} (f : Nat → Nat → α) (o k : Nat) (v : α) : Nat → Nat → α := fun a b => if a = o ∧ b = k then v else f a b
def setI (M : Mem) (o k : Nat) (v : Int32) : Mem := (tw M.1 o k v, M.2.1, M.2.2)
def setJ (M : Mem) (o k : Nat) (v : Int64) : Mem := (M.1, tw M.2.1 o k v, M.2.2)
def setR (M : Mem) (o k : Nat) (v : Nat) : Mem := (M.1, M.2.1, tw M.2.2 o k v)
theorem gI_setI (M : Mem) (o k a b : Nat) (v : Int32) : gI (setI M o k v) a b = if a = o ∧ b = k then v else gI M a b := rfl
theorem gI_setJ (M : Mem) (o k a b : Nat) (v : Int64) : gI (setJ M o k v) a b = gI M a b := rfl
theorem gI_setR (M : Mem) (o k a b : Nat) (v : Nat) : gI (setR M o k v) a b = gI M a b := rfl
theorem gJ_setI (M : Mem) (o k a b : Nat) (v : Int32) : gJ (setI M o k v) a b = gJ M a b := rfl
theorem gJ_setJ (M : Mem) (o k a b : Nat) (v : Int64) : gJ (setJ M o k v) a b = if a = o ∧ b = k then v else gJ M a b := rfl
theorem gJ_setR (M : Mem) (o k a b : Nat) (v : Nat) : gJ (setR M o k v) a b = gJ M a b := rfl
theorem gR_setI (M : Mem) (o k a b : Nat) (v : Int32) : gR (setI M o k v) a b = gR M a b := rfl
theorem gR_setJ (M : Mem) (o k a b : Nat) (v : Int64) : gR (setJ M o k v) a b = gR M a b := rfl
theorem gR_setR (M : Mem) (o k a b : Nat) (v : Nat) : gR (setR M o k v) a b = if a = o ∧ b = k then v else gR M a b := rfl
def KL : List Nat := [6, 5, 8, 5, 8, 2, 9, 9, 9, 1, 8, 9, 9, 9, 9, 9, 11, 4, 5, 8, 12, 3, 3, 3, 3, 3, 3, 3, 3, 3, 12, 3, 3, 3, 3, 3, 3, 3, 3, 3, 3, 0, 10, 10, 0, 10, 10, 99, 99, 99, 7, 9, 99, 9, 99, 99, 9, 9, 9, 99, 99, 99, 99, 99, 99, 9, 9, 9, 99, 10, 10, 99, 99, 99, 10, 10, 11, 11, 10, 10, 11, 10, 10, 99, 99, 99, 99, 99, 99, 99, 9, 9, 9]
def LL : List Nat := [0, 0, 300, 0, 300, 0, 400, 400, 400, 0, 480, 40, 40, 301, 301, 301, 301, 0, 0, 300, 9, 0, 0, 0, 0, 0, 0, 0, 0, 0, 9, 0, 0, 0, 0, 0, 0, 0, 0, 0, 0, 0, 256, 60, 0, 256, 60, 0, 0, 0, 0, 300, 0, 300, 0, 0, 480, 40, 40, 0, 0, 0, 0, 0, 0, 400, 400, 400, 0, 240, 60, 0, 0, 0, 240, 60, 9, 9, 9, 9, 9, 9, 9, 0, 0, 0, 0, 0, 0, 0, 301, 301, 301]
def kd (o : Nat) : Nat := KL.getD o 99
def ln (o : Nat) : Nat := LL.getD o 0
def iX : List Nat := [0, 1, 2, 3, 4, 5, 6, 7, 8, 9, 10, 11, 12, 13, 14, 15, 16, 17, 18, 19, 20, 21, 22, 23, 24, 25, 26, 27, 28, 29, 30, 31, 32, 33, 34, 35, 36, 37, 38, 39, 40, 41, 42, 43, 44, 45, 46]
def iY : List Nat := [50, 51, 53, 56, 57, 58, 65, 66, 67, 69, 70, 74, 75, 76, 77, 78, 79, 80, 81, 82, 90, 91, 92]
def ceK (cy : Nat → ClassId) (ad : Nat → Nat) (M : Mem) (κ o : Nat) : va_E := match κ with
  | 0 => .inr (0, [.ref (ad (o + 1)), .ref (ad (o + 2)), .int (gI M o 2), .long (gJ M o 3), .long (gJ M o 4)])
  | 1 => .inr (1, [.ref (ad (o + 1)), .ref (ad (o + 2)), .ref (ad (o + 3)), .int (gI M o 3), .int (gI M o 4), .ref (ad (o + 4)), .ref (ad (o + 5)), .ref (ad (o + 6)), .ref (ad (o + 7))])
  | 2 => .inr (2, [.ref (ad (o + 1)), .ref (ad (o + 2)), .ref (ad (o + 3)), .int (gI M o 3), .int (gI M o 4), .int (gI M o 5), .int (gI M o 6), .int (gI M o 7), .int (gI M o 8), .int (gI M o 9)])
  | 3 => .inr (3, [.long (gJ M o 0), .long (gJ M o 1), .int (gI M o 2)])
  | 4 => .inr (4, [.ref (ad (o + 1)), .ref (ad (o + 3)), .ref (ad (o + 13)), .ref (ad (o + 23)), .ref (ad (gR M o 4)), .int (gI M o 5), .int (gI M o 6), .int (gI M o 7)])
  | 5 => .inr (5, [.ref (ad (o + 1)), .int (gI M o 1)])
  | 6 => .inr (6, [.ref (ad (o + 1)), .ref (ad (o + 3)), .ref (ad (o + 5)), .ref (ad (o + 9)), .ref (ad (o + 17)), .ref (ad (gR M o 5)), .int (gI M o 6)])
  | 7 => .inr (7, [.ref (ad (o + 1)), .int (gI M o 1), .ref (ad (o + 3)), .int (gI M o 3), .int (gI M o 4), .ref (ad (o + 6)), .ref (ad (o + 7)), .ref (ad (o + 8)), .int (gI M o 8), .int (gI M o 9), .int (gI M o 10), .int (gI M o 11), .int (gI M o 12), .int (gI M o 13), .ref (ad (o + 15)), .ref (ad (o + 16)), .ref (ad (o + 17)), .int (gI M o 17), .ref (ad (o + 19)), .ref (ad (o + 20)), .long (gJ M o 20), .long (gJ M o 21), .int (gI M o 22), .ref (ad (o + 24)), .ref (ad (o + 25)), .ref (ad (o + 26)), .ref (ad (o + 27)), .ref (ad (o + 28)), .ref (ad (o + 29)), .ref (ad (o + 30)), .ref (ad (o + 31)), .ref (ad (o + 32)), .int (gI M o 32), .int (gI M o 33), .long (gJ M o 34), .long (gJ M o 35), .int (gI M o 36), .int (gI M o 37), .int (gI M o 38), .ref (ad (o + 40)), .ref (ad (o + 41)), .ref (ad (o + 42)), .int (gI M o 42), .int (gI M o 43), .int (gI M o 44)])
  | 8 => .inl (cy 0, ln o, .inl (gI M o))
  | 9 => .inl (cy 1, ln o, .inl (gI M o))
  | 10 => .inl (cy 2, ln o, .inr (.inl (gJ M o)))
  | 11 => .inl (cy 3, ln o, .inl (gI M o))
  | _ => .inl (cy 4, ln o, .inr (.inr (.inr (.inr (fun j => some (ad (o + 1 + j)))))))
def ce (cy : Nat → ClassId) (ad : Nat → Nat) (M : Mem) (o : Nat) : va_E := ceK cy ad M (kd o) o
def wl (cy : Nat → ClassId) (ad : Nat → Nat) (ids : List Nat) (M : Mem) : va_W := ids.map (fun o => (ad o, ce cy ad M o))
def AA (ad : Nat → Nat) (ids : List Nat) : Nat → Prop := fun q => ∃ o, o ∈ ids ∧ q = ad o
def tyL (cy : Nat → ClassId) : List (ClassId × FieldType) := [(cy 0, .byte), (cy 1, .int), (cy 2, .long), (cy 3, .boolean), (cy 4, .object RX3)]
section CE
variable {cy : Nat → ClassId} {ad : Nat → Nat} {M M1 : Mem} {o a i : Nat} {ids : List Nat}
theorem ce_0 (h : kd o = 0) : ce cy ad M o = .inr (0, [.ref (ad (o + 1)), .ref (ad (o + 2)), .int (gI M o 2), .long (gJ M o 3), .long (gJ M o 4)]) := by unfold ce; rw [h]; rfl
theorem ce_1 (h : kd o = 1) : ce cy ad M o = .inr (1, [.ref (ad (o + 1)), .ref (ad (o + 2)), .ref (ad (o + 3)), .int (gI M o 3), .int (gI M o 4), .ref (ad (o + 4)), .ref (ad (o + 5)), .ref (ad (o + 6)), .ref (ad (o + 7))]) := by unfold ce; rw [h]; rfl
theorem ce_2 (h : kd o = 2) : ce cy ad M o = .inr (2, [.ref (ad (o + 1)), .ref (ad (o + 2)), .ref (ad (o + 3)), .int (gI M o 3), .int (gI M o 4), .int (gI M o 5), .int (gI M o 6), .int (gI M o 7), .int (gI M o 8), .int (gI M o 9)]) := by unfold ce; rw [h]; rfl
theorem ce_3 (h : kd o = 3) : ce cy ad M o = .inr (3, [.long (gJ M o 0), .long (gJ M o 1), .int (gI M o 2)]) := by unfold ce; rw [h]; rfl
theorem ce_4 (h : kd o = 4) : ce cy ad M o = .inr (4, [.ref (ad (o + 1)), .ref (ad (o + 3)), .ref (ad (o + 13)), .ref (ad (o + 23)), .ref (ad (gR M o 4)), .int (gI M o 5), .int (gI M o 6), .int (gI M o 7)]) := by unfold ce; rw [h]; rfl
theorem ce_5 (h : kd o = 5) : ce cy ad M o = .inr (5, [.ref (ad (o + 1)), .int (gI M o 1)]) := by unfold ce; rw [h]; rfl
theorem ce_6 (h : kd o = 6) : ce cy ad M o = .inr (6, [.ref (ad (o + 1)), .ref (ad (o + 3)), .ref (ad (o + 5)), .ref (ad (o + 9)), .ref (ad (o + 17)), .ref (ad (gR M o 5)), .int (gI M o 6)]) := by unfold ce; rw [h]; rfl
theorem ce_7 (h : kd o = 7) : ce cy ad M o = .inr (7, [.ref (ad (o + 1)), .int (gI M o 1), .ref (ad (o + 3)), .int (gI M o 3), .int (gI M o 4), .ref (ad (o + 6)), .ref (ad (o + 7)), .ref (ad (o + 8)), .int (gI M o 8), .int (gI M o 9), .int (gI M o 10), .int (gI M o 11), .int (gI M o 12), .int (gI M o 13), .ref (ad (o + 15)), .ref (ad (o + 16)), .ref (ad (o + 17)), .int (gI M o 17), .ref (ad (o + 19)), .ref (ad (o + 20)), .long (gJ M o 20), .long (gJ M o 21), .int (gI M o 22), .ref (ad (o + 24)), .ref (ad (o + 25)), .ref (ad (o + 26)), .ref (ad (o + 27)), .ref (ad (o + 28)), .ref (ad (o + 29)), .ref (ad (o + 30)), .ref (ad (o + 31)), .ref (ad (o + 32)), .int (gI M o 32), .int (gI M o 33), .long (gJ M o 34), .long (gJ M o 35), .int (gI M o 36), .int (gI M o 37), .int (gI M o 38), .ref (ad (o + 40)), .ref (ad (o + 41)), .ref (ad (o + 42)), .int (gI M o 42), .int (gI M o 43), .int (gI M o 44)]) := by unfold ce; rw [h]; rfl
theorem ce_8 (h : kd o = 8) : ce cy ad M o = .inl (cy 0, ln o, .inl (gI M o)) := by unfold ce; rw [h]; rfl
theorem ce_9 (h : kd o = 9) : ce cy ad M o = .inl (cy 1, ln o, .inl (gI M o)) := by unfold ce; rw [h]; rfl
theorem ce_10 (h : kd o = 10) : ce cy ad M o = .inl (cy 2, ln o, .inr (.inl (gJ M o))) := by unfold ce; rw [h]; rfl
theorem ce_11 (h : kd o = 11) : ce cy ad M o = .inl (cy 3, ln o, .inl (gI M o)) := by unfold ce; rw [h]; rfl
theorem ce_12 (h : kd o = 12) : ce cy ad M o = .inl (cy 4, ln o, .inr (.inr (.inr (.inr (fun j => some (ad (o + 1 + j))))))) := by unfold ce; rw [h]; rfl
theorem ce_congr (hI : gI M1 a = gI M a) (hJ : gJ M1 a = gJ M a) (hR : gR M1 a = gR M a) : ce cy ad M1 a = ce cy ad M a := by
  unfold ce
  generalize kd a = κ
  unfold ceK
  split <;> simp only [hI, hJ, hR]
theorem ce_neI {k : Nat} {v : Int32} (h : a ≠ o) : ce cy ad (setI M o k v) a = ce cy ad M a := ce_congr (funext fun b => by rw [gI_setI, if_neg (fun q => h q.1)]) rfl rfl
theorem ce_neJ {k : Nat} {v : Int64} (h : a ≠ o) : ce cy ad (setJ M o k v) a = ce cy ad M a := ce_congr rfl (funext fun b => by rw [gJ_setJ, if_neg (fun q => h q.1)]) rfl
theorem ce_neR {k : Nat} {v : Nat} (h : a ≠ o) : ce cy ad (setR M o k v) a = ce cy ad M a := ce_congr rfl rfl (funext fun b => by rw [gR_setR, if_neg (fun q => h q.1)])
theorem pu_0_2 (h : kd o = 0) (v : Int32) : ce cy ad (setI M o 2 v) o = .inr (0, ([.ref (ad (o + 1)), .ref (ad (o + 2)), .int (gI M o 2), .long (gJ M o 3), .long (gJ M o 4)] : List Value).set 2 (.int v)) := by rw [ce_0 h]; simp [gI_setI, gI_setJ, gI_setR, gJ_setI, gJ_setJ, gJ_setR, gR_setI, gR_setJ, gR_setR]
theorem pu_0_3 (h : kd o = 0) (v : Int64) : ce cy ad (setJ M o 3 v) o = .inr (0, ([.ref (ad (o + 1)), .ref (ad (o + 2)), .int (gI M o 2), .long (gJ M o 3), .long (gJ M o 4)] : List Value).set 3 (.long v)) := by rw [ce_0 h]; simp [gI_setI, gI_setJ, gI_setR, gJ_setI, gJ_setJ, gJ_setR, gR_setI, gR_setJ, gR_setR]
theorem pu_0_4 (h : kd o = 0) (v : Int64) : ce cy ad (setJ M o 4 v) o = .inr (0, ([.ref (ad (o + 1)), .ref (ad (o + 2)), .int (gI M o 2), .long (gJ M o 3), .long (gJ M o 4)] : List Value).set 4 (.long v)) := by rw [ce_0 h]; simp [gI_setI, gI_setJ, gI_setR, gJ_setI, gJ_setJ, gJ_setR, gR_setI, gR_setJ, gR_setR]
theorem pu_1_3 (h : kd o = 1) (v : Int32) : ce cy ad (setI M o 3 v) o = .inr (1, ([.ref (ad (o + 1)), .ref (ad (o + 2)), .ref (ad (o + 3)), .int (gI M o 3), .int (gI M o 4), .ref (ad (o + 4)), .ref (ad (o + 5)), .ref (ad (o + 6)), .ref (ad (o + 7))] : List Value).set 3 (.int v)) := by rw [ce_1 h]; simp [gI_setI, gI_setJ, gI_setR, gJ_setI, gJ_setJ, gJ_setR, gR_setI, gR_setJ, gR_setR]
theorem pu_1_4 (h : kd o = 1) (v : Int32) : ce cy ad (setI M o 4 v) o = .inr (1, ([.ref (ad (o + 1)), .ref (ad (o + 2)), .ref (ad (o + 3)), .int (gI M o 3), .int (gI M o 4), .ref (ad (o + 4)), .ref (ad (o + 5)), .ref (ad (o + 6)), .ref (ad (o + 7))] : List Value).set 4 (.int v)) := by rw [ce_1 h]; simp [gI_setI, gI_setJ, gI_setR, gJ_setI, gJ_setJ, gJ_setR, gR_setI, gR_setJ, gR_setR]
theorem pu_2_3 (h : kd o = 2) (v : Int32) : ce cy ad (setI M o 3 v) o = .inr (2, ([.ref (ad (o + 1)), .ref (ad (o + 2)), .ref (ad (o + 3)), .int (gI M o 3), .int (gI M o 4), .int (gI M o 5), .int (gI M o 6), .int (gI M o 7), .int (gI M o 8), .int (gI M o 9)] : List Value).set 3 (.int v)) := by rw [ce_2 h]; simp [gI_setI, gI_setJ, gI_setR, gJ_setI, gJ_setJ, gJ_setR, gR_setI, gR_setJ, gR_setR]
theorem pu_2_4 (h : kd o = 2) (v : Int32) : ce cy ad (setI M o 4 v) o = .inr (2, ([.ref (ad (o + 1)), .ref (ad (o + 2)), .ref (ad (o + 3)), .int (gI M o 3), .int (gI M o 4), .int (gI M o 5), .int (gI M o 6), .int (gI M o 7), .int (gI M o 8), .int (gI M o 9)] : List Value).set 4 (.int v)) := by rw [ce_2 h]; simp [gI_setI, gI_setJ, gI_setR, gJ_setI, gJ_setJ, gJ_setR, gR_setI, gR_setJ, gR_setR]
theorem pu_2_5 (h : kd o = 2) (v : Int32) : ce cy ad (setI M o 5 v) o = .inr (2, ([.ref (ad (o + 1)), .ref (ad (o + 2)), .ref (ad (o + 3)), .int (gI M o 3), .int (gI M o 4), .int (gI M o 5), .int (gI M o 6), .int (gI M o 7), .int (gI M o 8), .int (gI M o 9)] : List Value).set 5 (.int v)) := by rw [ce_2 h]; simp [gI_setI, gI_setJ, gI_setR, gJ_setI, gJ_setJ, gJ_setR, gR_setI, gR_setJ, gR_setR]
theorem pu_2_6 (h : kd o = 2) (v : Int32) : ce cy ad (setI M o 6 v) o = .inr (2, ([.ref (ad (o + 1)), .ref (ad (o + 2)), .ref (ad (o + 3)), .int (gI M o 3), .int (gI M o 4), .int (gI M o 5), .int (gI M o 6), .int (gI M o 7), .int (gI M o 8), .int (gI M o 9)] : List Value).set 6 (.int v)) := by rw [ce_2 h]; simp [gI_setI, gI_setJ, gI_setR, gJ_setI, gJ_setJ, gJ_setR, gR_setI, gR_setJ, gR_setR]
theorem pu_2_7 (h : kd o = 2) (v : Int32) : ce cy ad (setI M o 7 v) o = .inr (2, ([.ref (ad (o + 1)), .ref (ad (o + 2)), .ref (ad (o + 3)), .int (gI M o 3), .int (gI M o 4), .int (gI M o 5), .int (gI M o 6), .int (gI M o 7), .int (gI M o 8), .int (gI M o 9)] : List Value).set 7 (.int v)) := by rw [ce_2 h]; simp [gI_setI, gI_setJ, gI_setR, gJ_setI, gJ_setJ, gJ_setR, gR_setI, gR_setJ, gR_setR]
theorem pu_2_8 (h : kd o = 2) (v : Int32) : ce cy ad (setI M o 8 v) o = .inr (2, ([.ref (ad (o + 1)), .ref (ad (o + 2)), .ref (ad (o + 3)), .int (gI M o 3), .int (gI M o 4), .int (gI M o 5), .int (gI M o 6), .int (gI M o 7), .int (gI M o 8), .int (gI M o 9)] : List Value).set 8 (.int v)) := by rw [ce_2 h]; simp [gI_setI, gI_setJ, gI_setR, gJ_setI, gJ_setJ, gJ_setR, gR_setI, gR_setJ, gR_setR]
theorem pu_2_9 (h : kd o = 2) (v : Int32) : ce cy ad (setI M o 9 v) o = .inr (2, ([.ref (ad (o + 1)), .ref (ad (o + 2)), .ref (ad (o + 3)), .int (gI M o 3), .int (gI M o 4), .int (gI M o 5), .int (gI M o 6), .int (gI M o 7), .int (gI M o 8), .int (gI M o 9)] : List Value).set 9 (.int v)) := by rw [ce_2 h]; simp [gI_setI, gI_setJ, gI_setR, gJ_setI, gJ_setJ, gJ_setR, gR_setI, gR_setJ, gR_setR]
theorem pu_3_0 (h : kd o = 3) (v : Int64) : ce cy ad (setJ M o 0 v) o = .inr (3, ([.long (gJ M o 0), .long (gJ M o 1), .int (gI M o 2)] : List Value).set 0 (.long v)) := by rw [ce_3 h]; simp [gI_setI, gI_setJ, gI_setR, gJ_setI, gJ_setJ, gJ_setR, gR_setI, gR_setJ, gR_setR]
theorem pu_3_1 (h : kd o = 3) (v : Int64) : ce cy ad (setJ M o 1 v) o = .inr (3, ([.long (gJ M o 0), .long (gJ M o 1), .int (gI M o 2)] : List Value).set 1 (.long v)) := by rw [ce_3 h]; simp [gI_setI, gI_setJ, gI_setR, gJ_setI, gJ_setJ, gJ_setR, gR_setI, gR_setJ, gR_setR]
theorem pu_3_2 (h : kd o = 3) (v : Int32) : ce cy ad (setI M o 2 v) o = .inr (3, ([.long (gJ M o 0), .long (gJ M o 1), .int (gI M o 2)] : List Value).set 2 (.int v)) := by rw [ce_3 h]; simp [gI_setI, gI_setJ, gI_setR, gJ_setI, gJ_setJ, gJ_setR, gR_setI, gR_setJ, gR_setR]
theorem pu_4_4 (h : kd o = 4) (v : Nat) : ce cy ad (setR M o 4 v) o = .inr (4, ([.ref (ad (o + 1)), .ref (ad (o + 3)), .ref (ad (o + 13)), .ref (ad (o + 23)), .ref (ad (gR M o 4)), .int (gI M o 5), .int (gI M o 6), .int (gI M o 7)] : List Value).set 4 (.ref (ad v))) := by rw [ce_4 h]; simp [gI_setI, gI_setJ, gI_setR, gJ_setI, gJ_setJ, gJ_setR, gR_setI, gR_setJ, gR_setR]
theorem pu_4_5 (h : kd o = 4) (v : Int32) : ce cy ad (setI M o 5 v) o = .inr (4, ([.ref (ad (o + 1)), .ref (ad (o + 3)), .ref (ad (o + 13)), .ref (ad (o + 23)), .ref (ad (gR M o 4)), .int (gI M o 5), .int (gI M o 6), .int (gI M o 7)] : List Value).set 5 (.int v)) := by rw [ce_4 h]; simp [gI_setI, gI_setJ, gI_setR, gJ_setI, gJ_setJ, gJ_setR, gR_setI, gR_setJ, gR_setR]
theorem pu_4_6 (h : kd o = 4) (v : Int32) : ce cy ad (setI M o 6 v) o = .inr (4, ([.ref (ad (o + 1)), .ref (ad (o + 3)), .ref (ad (o + 13)), .ref (ad (o + 23)), .ref (ad (gR M o 4)), .int (gI M o 5), .int (gI M o 6), .int (gI M o 7)] : List Value).set 6 (.int v)) := by rw [ce_4 h]; simp [gI_setI, gI_setJ, gI_setR, gJ_setI, gJ_setJ, gJ_setR, gR_setI, gR_setJ, gR_setR]
theorem pu_4_7 (h : kd o = 4) (v : Int32) : ce cy ad (setI M o 7 v) o = .inr (4, ([.ref (ad (o + 1)), .ref (ad (o + 3)), .ref (ad (o + 13)), .ref (ad (o + 23)), .ref (ad (gR M o 4)), .int (gI M o 5), .int (gI M o 6), .int (gI M o 7)] : List Value).set 7 (.int v)) := by rw [ce_4 h]; simp [gI_setI, gI_setJ, gI_setR, gJ_setI, gJ_setJ, gJ_setR, gR_setI, gR_setJ, gR_setR]
theorem pu_5_1 (h : kd o = 5) (v : Int32) : ce cy ad (setI M o 1 v) o = .inr (5, ([.ref (ad (o + 1)), .int (gI M o 1)] : List Value).set 1 (.int v)) := by rw [ce_5 h]; simp [gI_setI, gI_setJ, gI_setR, gJ_setI, gJ_setJ, gJ_setR, gR_setI, gR_setJ, gR_setR]
theorem pu_6_5 (h : kd o = 6) (v : Nat) : ce cy ad (setR M o 5 v) o = .inr (6, ([.ref (ad (o + 1)), .ref (ad (o + 3)), .ref (ad (o + 5)), .ref (ad (o + 9)), .ref (ad (o + 17)), .ref (ad (gR M o 5)), .int (gI M o 6)] : List Value).set 5 (.ref (ad v))) := by rw [ce_6 h]; simp [gI_setI, gI_setJ, gI_setR, gJ_setI, gJ_setJ, gJ_setR, gR_setI, gR_setJ, gR_setR]
theorem pu_6_6 (h : kd o = 6) (v : Int32) : ce cy ad (setI M o 6 v) o = .inr (6, ([.ref (ad (o + 1)), .ref (ad (o + 3)), .ref (ad (o + 5)), .ref (ad (o + 9)), .ref (ad (o + 17)), .ref (ad (gR M o 5)), .int (gI M o 6)] : List Value).set 6 (.int v)) := by rw [ce_6 h]; simp [gI_setI, gI_setJ, gI_setR, gJ_setI, gJ_setJ, gJ_setR, gR_setI, gR_setJ, gR_setR]
theorem pu_7_1 (h : kd o = 7) (v : Int32) : ce cy ad (setI M o 1 v) o = .inr (7, ([.ref (ad (o + 1)), .int (gI M o 1), .ref (ad (o + 3)), .int (gI M o 3), .int (gI M o 4), .ref (ad (o + 6)), .ref (ad (o + 7)), .ref (ad (o + 8)), .int (gI M o 8), .int (gI M o 9), .int (gI M o 10), .int (gI M o 11), .int (gI M o 12), .int (gI M o 13), .ref (ad (o + 15)), .ref (ad (o + 16)), .ref (ad (o + 17)), .int (gI M o 17), .ref (ad (o + 19)), .ref (ad (o + 20)), .long (gJ M o 20), .long (gJ M o 21), .int (gI M o 22), .ref (ad (o + 24)), .ref (ad (o + 25)), .ref (ad (o + 26)), .ref (ad (o + 27)), .ref (ad (o + 28)), .ref (ad (o + 29)), .ref (ad (o + 30)), .ref (ad (o + 31)), .ref (ad (o + 32)), .int (gI M o 32), .int (gI M o 33), .long (gJ M o 34), .long (gJ M o 35), .int (gI M o 36), .int (gI M o 37), .int (gI M o 38), .ref (ad (o + 40)), .ref (ad (o + 41)), .ref (ad (o + 42)), .int (gI M o 42), .int (gI M o 43), .int (gI M o 44)] : List Value).set 1 (.int v)) := by rw [ce_7 h]; simp [gI_setI, gI_setJ, gI_setR, gJ_setI, gJ_setJ, gJ_setR, gR_setI, gR_setJ, gR_setR]
theorem pu_7_3 (h : kd o = 7) (v : Int32) : ce cy ad (setI M o 3 v) o = .inr (7, ([.ref (ad (o + 1)), .int (gI M o 1), .ref (ad (o + 3)), .int (gI M o 3), .int (gI M o 4), .ref (ad (o + 6)), .ref (ad (o + 7)), .ref (ad (o + 8)), .int (gI M o 8), .int (gI M o 9), .int (gI M o 10), .int (gI M o 11), .int (gI M o 12), .int (gI M o 13), .ref (ad (o + 15)), .ref (ad (o + 16)), .ref (ad (o + 17)), .int (gI M o 17), .ref (ad (o + 19)), .ref (ad (o + 20)), .long (gJ M o 20), .long (gJ M o 21), .int (gI M o 22), .ref (ad (o + 24)), .ref (ad (o + 25)), .ref (ad (o + 26)), .ref (ad (o + 27)), .ref (ad (o + 28)), .ref (ad (o + 29)), .ref (ad (o + 30)), .ref (ad (o + 31)), .ref (ad (o + 32)), .int (gI M o 32), .int (gI M o 33), .long (gJ M o 34), .long (gJ M o 35), .int (gI M o 36), .int (gI M o 37), .int (gI M o 38), .ref (ad (o + 40)), .ref (ad (o + 41)), .ref (ad (o + 42)), .int (gI M o 42), .int (gI M o 43), .int (gI M o 44)] : List Value).set 3 (.int v)) := by rw [ce_7 h]; simp [gI_setI, gI_setJ, gI_setR, gJ_setI, gJ_setJ, gJ_setR, gR_setI, gR_setJ, gR_setR]
theorem pu_7_4 (h : kd o = 7) (v : Int32) : ce cy ad (setI M o 4 v) o = .inr (7, ([.ref (ad (o + 1)), .int (gI M o 1), .ref (ad (o + 3)), .int (gI M o 3), .int (gI M o 4), .ref (ad (o + 6)), .ref (ad (o + 7)), .ref (ad (o + 8)), .int (gI M o 8), .int (gI M o 9), .int (gI M o 10), .int (gI M o 11), .int (gI M o 12), .int (gI M o 13), .ref (ad (o + 15)), .ref (ad (o + 16)), .ref (ad (o + 17)), .int (gI M o 17), .ref (ad (o + 19)), .ref (ad (o + 20)), .long (gJ M o 20), .long (gJ M o 21), .int (gI M o 22), .ref (ad (o + 24)), .ref (ad (o + 25)), .ref (ad (o + 26)), .ref (ad (o + 27)), .ref (ad (o + 28)), .ref (ad (o + 29)), .ref (ad (o + 30)), .ref (ad (o + 31)), .ref (ad (o + 32)), .int (gI M o 32), .int (gI M o 33), .long (gJ M o 34), .long (gJ M o 35), .int (gI M o 36), .int (gI M o 37), .int (gI M o 38), .ref (ad (o + 40)), .ref (ad (o + 41)), .ref (ad (o + 42)), .int (gI M o 42), .int (gI M o 43), .int (gI M o 44)] : List Value).set 4 (.int v)) := by rw [ce_7 h]; simp [gI_setI, gI_setJ, gI_setR, gJ_setI, gJ_setJ, gJ_setR, gR_setI, gR_setJ, gR_setR]
theorem pu_7_8 (h : kd o = 7) (v : Int32) : ce cy ad (setI M o 8 v) o = .inr (7, ([.ref (ad (o + 1)), .int (gI M o 1), .ref (ad (o + 3)), .int (gI M o 3), .int (gI M o 4), .ref (ad (o + 6)), .ref (ad (o + 7)), .ref (ad (o + 8)), .int (gI M o 8), .int (gI M o 9), .int (gI M o 10), .int (gI M o 11), .int (gI M o 12), .int (gI M o 13), .ref (ad (o + 15)), .ref (ad (o + 16)), .ref (ad (o + 17)), .int (gI M o 17), .ref (ad (o + 19)), .ref (ad (o + 20)), .long (gJ M o 20), .long (gJ M o 21), .int (gI M o 22), .ref (ad (o + 24)), .ref (ad (o + 25)), .ref (ad (o + 26)), .ref (ad (o + 27)), .ref (ad (o + 28)), .ref (ad (o + 29)), .ref (ad (o + 30)), .ref (ad (o + 31)), .ref (ad (o + 32)), .int (gI M o 32), .int (gI M o 33), .long (gJ M o 34), .long (gJ M o 35), .int (gI M o 36), .int (gI M o 37), .int (gI M o 38), .ref (ad (o + 40)), .ref (ad (o + 41)), .ref (ad (o + 42)), .int (gI M o 42), .int (gI M o 43), .int (gI M o 44)] : List Value).set 8 (.int v)) := by rw [ce_7 h]; simp [gI_setI, gI_setJ, gI_setR, gJ_setI, gJ_setJ, gJ_setR, gR_setI, gR_setJ, gR_setR]
theorem pu_7_9 (h : kd o = 7) (v : Int32) : ce cy ad (setI M o 9 v) o = .inr (7, ([.ref (ad (o + 1)), .int (gI M o 1), .ref (ad (o + 3)), .int (gI M o 3), .int (gI M o 4), .ref (ad (o + 6)), .ref (ad (o + 7)), .ref (ad (o + 8)), .int (gI M o 8), .int (gI M o 9), .int (gI M o 10), .int (gI M o 11), .int (gI M o 12), .int (gI M o 13), .ref (ad (o + 15)), .ref (ad (o + 16)), .ref (ad (o + 17)), .int (gI M o 17), .ref (ad (o + 19)), .ref (ad (o + 20)), .long (gJ M o 20), .long (gJ M o 21), .int (gI M o 22), .ref (ad (o + 24)), .ref (ad (o + 25)), .ref (ad (o + 26)), .ref (ad (o + 27)), .ref (ad (o + 28)), .ref (ad (o + 29)), .ref (ad (o + 30)), .ref (ad (o + 31)), .ref (ad (o + 32)), .int (gI M o 32), .int (gI M o 33), .long (gJ M o 34), .long (gJ M o 35), .int (gI M o 36), .int (gI M o 37), .int (gI M o 38), .ref (ad (o + 40)), .ref (ad (o + 41)), .ref (ad (o + 42)), .int (gI M o 42), .int (gI M o 43), .int (gI M o 44)] : List Value).set 9 (.int v)) := by rw [ce_7 h]; simp [gI_setI, gI_setJ, gI_setR, gJ_setI, gJ_setJ, gJ_setR, gR_setI, gR_setJ, gR_setR]
theorem pu_7_10 (h : kd o = 7) (v : Int32) : ce cy ad (setI M o 10 v) o = .inr (7, ([.ref (ad (o + 1)), .int (gI M o 1), .ref (ad (o + 3)), .int (gI M o 3), .int (gI M o 4), .ref (ad (o + 6)), .ref (ad (o + 7)), .ref (ad (o + 8)), .int (gI M o 8), .int (gI M o 9), .int (gI M o 10), .int (gI M o 11), .int (gI M o 12), .int (gI M o 13), .ref (ad (o + 15)), .ref (ad (o + 16)), .ref (ad (o + 17)), .int (gI M o 17), .ref (ad (o + 19)), .ref (ad (o + 20)), .long (gJ M o 20), .long (gJ M o 21), .int (gI M o 22), .ref (ad (o + 24)), .ref (ad (o + 25)), .ref (ad (o + 26)), .ref (ad (o + 27)), .ref (ad (o + 28)), .ref (ad (o + 29)), .ref (ad (o + 30)), .ref (ad (o + 31)), .ref (ad (o + 32)), .int (gI M o 32), .int (gI M o 33), .long (gJ M o 34), .long (gJ M o 35), .int (gI M o 36), .int (gI M o 37), .int (gI M o 38), .ref (ad (o + 40)), .ref (ad (o + 41)), .ref (ad (o + 42)), .int (gI M o 42), .int (gI M o 43), .int (gI M o 44)] : List Value).set 10 (.int v)) := by rw [ce_7 h]; simp [gI_setI, gI_setJ, gI_setR, gJ_setI, gJ_setJ, gJ_setR, gR_setI, gR_setJ, gR_setR]
theorem pu_7_11 (h : kd o = 7) (v : Int32) : ce cy ad (setI M o 11 v) o = .inr (7, ([.ref (ad (o + 1)), .int (gI M o 1), .ref (ad (o + 3)), .int (gI M o 3), .int (gI M o 4), .ref (ad (o + 6)), .ref (ad (o + 7)), .ref (ad (o + 8)), .int (gI M o 8), .int (gI M o 9), .int (gI M o 10), .int (gI M o 11), .int (gI M o 12), .int (gI M o 13), .ref (ad (o + 15)), .ref (ad (o + 16)), .ref (ad (o + 17)), .int (gI M o 17), .ref (ad (o + 19)), .ref (ad (o + 20)), .long (gJ M o 20), .long (gJ M o 21), .int (gI M o 22), .ref (ad (o + 24)), .ref (ad (o + 25)), .ref (ad (o + 26)), .ref (ad (o + 27)), .ref (ad (o + 28)), .ref (ad (o + 29)), .ref (ad (o + 30)), .ref (ad (o + 31)), .ref (ad (o + 32)), .int (gI M o 32), .int (gI M o 33), .long (gJ M o 34), .long (gJ M o 35), .int (gI M o 36), .int (gI M o 37), .int (gI M o 38), .ref (ad (o + 40)), .ref (ad (o + 41)), .ref (ad (o + 42)), .int (gI M o 42), .int (gI M o 43), .int (gI M o 44)] : List Value).set 11 (.int v)) := by rw [ce_7 h]; simp [gI_setI, gI_setJ, gI_setR, gJ_setI, gJ_setJ, gJ_setR, gR_setI, gR_setJ, gR_setR]
theorem pu_7_12 (h : kd o = 7) (v : Int32) : ce cy ad (setI M o 12 v) o = .inr (7, ([.ref (ad (o + 1)), .int (gI M o 1), .ref (ad (o + 3)), .int (gI M o 3), .int (gI M o 4), .ref (ad (o + 6)), .ref (ad (o + 7)), .ref (ad (o + 8)), .int (gI M o 8), .int (gI M o 9), .int (gI M o 10), .int (gI M o 11), .int (gI M o 12), .int (gI M o 13), .ref (ad (o + 15)), .ref (ad (o + 16)), .ref (ad (o + 17)), .int (gI M o 17), .ref (ad (o + 19)), .ref (ad (o + 20)), .long (gJ M o 20), .long (gJ M o 21), .int (gI M o 22), .ref (ad (o + 24)), .ref (ad (o + 25)), .ref (ad (o + 26)), .ref (ad (o + 27)), .ref (ad (o + 28)), .ref (ad (o + 29)), .ref (ad (o + 30)), .ref (ad (o + 31)), .ref (ad (o + 32)), .int (gI M o 32), .int (gI M o 33), .long (gJ M o 34), .long (gJ M o 35), .int (gI M o 36), .int (gI M o 37), .int (gI M o 38), .ref (ad (o + 40)), .ref (ad (o + 41)), .ref (ad (o + 42)), .int (gI M o 42), .int (gI M o 43), .int (gI M o 44)] : List Value).set 12 (.int v)) := by rw [ce_7 h]; simp [gI_setI, gI_setJ, gI_setR, gJ_setI, gJ_setJ, gJ_setR, gR_setI, gR_setJ, gR_setR]
theorem pu_7_13 (h : kd o = 7) (v : Int32) : ce cy ad (setI M o 13 v) o = .inr (7, ([.ref (ad (o + 1)), .int (gI M o 1), .ref (ad (o + 3)), .int (gI M o 3), .int (gI M o 4), .ref (ad (o + 6)), .ref (ad (o + 7)), .ref (ad (o + 8)), .int (gI M o 8), .int (gI M o 9), .int (gI M o 10), .int (gI M o 11), .int (gI M o 12), .int (gI M o 13), .ref (ad (o + 15)), .ref (ad (o + 16)), .ref (ad (o + 17)), .int (gI M o 17), .ref (ad (o + 19)), .ref (ad (o + 20)), .long (gJ M o 20), .long (gJ M o 21), .int (gI M o 22), .ref (ad (o + 24)), .ref (ad (o + 25)), .ref (ad (o + 26)), .ref (ad (o + 27)), .ref (ad (o + 28)), .ref (ad (o + 29)), .ref (ad (o + 30)), .ref (ad (o + 31)), .ref (ad (o + 32)), .int (gI M o 32), .int (gI M o 33), .long (gJ M o 34), .long (gJ M o 35), .int (gI M o 36), .int (gI M o 37), .int (gI M o 38), .ref (ad (o + 40)), .ref (ad (o + 41)), .ref (ad (o + 42)), .int (gI M o 42), .int (gI M o 43), .int (gI M o 44)] : List Value).set 13 (.int v)) := by rw [ce_7 h]; simp [gI_setI, gI_setJ, gI_setR, gJ_setI, gJ_setJ, gJ_setR, gR_setI, gR_setJ, gR_setR]
theorem pu_7_17 (h : kd o = 7) (v : Int32) : ce cy ad (setI M o 17 v) o = .inr (7, ([.ref (ad (o + 1)), .int (gI M o 1), .ref (ad (o + 3)), .int (gI M o 3), .int (gI M o 4), .ref (ad (o + 6)), .ref (ad (o + 7)), .ref (ad (o + 8)), .int (gI M o 8), .int (gI M o 9), .int (gI M o 10), .int (gI M o 11), .int (gI M o 12), .int (gI M o 13), .ref (ad (o + 15)), .ref (ad (o + 16)), .ref (ad (o + 17)), .int (gI M o 17), .ref (ad (o + 19)), .ref (ad (o + 20)), .long (gJ M o 20), .long (gJ M o 21), .int (gI M o 22), .ref (ad (o + 24)), .ref (ad (o + 25)), .ref (ad (o + 26)), .ref (ad (o + 27)), .ref (ad (o + 28)), .ref (ad (o + 29)), .ref (ad (o + 30)), .ref (ad (o + 31)), .ref (ad (o + 32)), .int (gI M o 32), .int (gI M o 33), .long (gJ M o 34), .long (gJ M o 35), .int (gI M o 36), .int (gI M o 37), .int (gI M o 38), .ref (ad (o + 40)), .ref (ad (o + 41)), .ref (ad (o + 42)), .int (gI M o 42), .int (gI M o 43), .int (gI M o 44)] : List Value).set 17 (.int v)) := by rw [ce_7 h]; simp [gI_setI, gI_setJ, gI_setR, gJ_setI, gJ_setJ, gJ_setR, gR_setI, gR_setJ, gR_setR]
theorem pu_7_20 (h : kd o = 7) (v : Int64) : ce cy ad (setJ M o 20 v) o = .inr (7, ([.ref (ad (o + 1)), .int (gI M o 1), .ref (ad (o + 3)), .int (gI M o 3), .int (gI M o 4), .ref (ad (o + 6)), .ref (ad (o + 7)), .ref (ad (o + 8)), .int (gI M o 8), .int (gI M o 9), .int (gI M o 10), .int (gI M o 11), .int (gI M o 12), .int (gI M o 13), .ref (ad (o + 15)), .ref (ad (o + 16)), .ref (ad (o + 17)), .int (gI M o 17), .ref (ad (o + 19)), .ref (ad (o + 20)), .long (gJ M o 20), .long (gJ M o 21), .int (gI M o 22), .ref (ad (o + 24)), .ref (ad (o + 25)), .ref (ad (o + 26)), .ref (ad (o + 27)), .ref (ad (o + 28)), .ref (ad (o + 29)), .ref (ad (o + 30)), .ref (ad (o + 31)), .ref (ad (o + 32)), .int (gI M o 32), .int (gI M o 33), .long (gJ M o 34), .long (gJ M o 35), .int (gI M o 36), .int (gI M o 37), .int (gI M o 38), .ref (ad (o + 40)), .ref (ad (o + 41)), .ref (ad (o + 42)), .int (gI M o 42), .int (gI M o 43), .int (gI M o 44)] : List Value).set 20 (.long v)) := by rw [ce_7 h]; simp [gI_setI, gI_setJ, gI_setR, gJ_setI, gJ_setJ, gJ_setR, gR_setI, gR_setJ, gR_setR]
theorem pu_7_21 (h : kd o = 7) (v : Int64) : ce cy ad (setJ M o 21 v) o = .inr (7, ([.ref (ad (o + 1)), .int (gI M o 1), .ref (ad (o + 3)), .int (gI M o 3), .int (gI M o 4), .ref (ad (o + 6)), .ref (ad (o + 7)), .ref (ad (o + 8)), .int (gI M o 8), .int (gI M o 9), .int (gI M o 10), .int (gI M o 11), .int (gI M o 12), .int (gI M o 13), .ref (ad (o + 15)), .ref (ad (o + 16)), .ref (ad (o + 17)), .int (gI M o 17), .ref (ad (o + 19)), .ref (ad (o + 20)), .long (gJ M o 20), .long (gJ M o 21), .int (gI M o 22), .ref (ad (o + 24)), .ref (ad (o + 25)), .ref (ad (o + 26)), .ref (ad (o + 27)), .ref (ad (o + 28)), .ref (ad (o + 29)), .ref (ad (o + 30)), .ref (ad (o + 31)), .ref (ad (o + 32)), .int (gI M o 32), .int (gI M o 33), .long (gJ M o 34), .long (gJ M o 35), .int (gI M o 36), .int (gI M o 37), .int (gI M o 38), .ref (ad (o + 40)), .ref (ad (o + 41)), .ref (ad (o + 42)), .int (gI M o 42), .int (gI M o 43), .int (gI M o 44)] : List Value).set 21 (.long v)) := by rw [ce_7 h]; simp [gI_setI, gI_setJ, gI_setR, gJ_setI, gJ_setJ, gJ_setR, gR_setI, gR_setJ, gR_setR]
theorem pu_7_22 (h : kd o = 7) (v : Int32) : ce cy ad (setI M o 22 v) o = .inr (7, ([.ref (ad (o + 1)), .int (gI M o 1), .ref (ad (o + 3)), .int (gI M o 3), .int (gI M o 4), .ref (ad (o + 6)), .ref (ad (o + 7)), .ref (ad (o + 8)), .int (gI M o 8), .int (gI M o 9), .int (gI M o 10), .int (gI M o 11), .int (gI M o 12), .int (gI M o 13), .ref (ad (o + 15)), .ref (ad (o + 16)), .ref (ad (o + 17)), .int (gI M o 17), .ref (ad (o + 19)), .ref (ad (o + 20)), .long (gJ M o 20), .long (gJ M o 21), .int (gI M o 22), .ref (ad (o + 24)), .ref (ad (o + 25)), .ref (ad (o + 26)), .ref (ad (o + 27)), .ref (ad (o + 28)), .ref (ad (o + 29)), .ref (ad (o + 30)), .ref (ad (o + 31)), .ref (ad (o + 32)), .int (gI M o 32), .int (gI M o 33), .long (gJ M o 34), .long (gJ M o 35), .int (gI M o 36), .int (gI M o 37), .int (gI M o 38), .ref (ad (o + 40)), .ref (ad (o + 41)), .ref (ad (o + 42)), .int (gI M o 42), .int (gI M o 43), .int (gI M o 44)] : List Value).set 22 (.int v)) := by rw [ce_7 h]; simp [gI_setI, gI_setJ, gI_setR, gJ_setI, gJ_setJ, gJ_setR, gR_setI, gR_setJ, gR_setR]
theorem pu_7_32 (h : kd o = 7) (v : Int32) : ce cy ad (setI M o 32 v) o = .inr (7, ([.ref (ad (o + 1)), .int (gI M o 1), .ref (ad (o + 3)), .int (gI M o 3), .int (gI M o 4), .ref (ad (o + 6)), .ref (ad (o + 7)), .ref (ad (o + 8)), .int (gI M o 8), .int (gI M o 9), .int (gI M o 10), .int (gI M o 11), .int (gI M o 12), .int (gI M o 13), .ref (ad (o + 15)), .ref (ad (o + 16)), .ref (ad (o + 17)), .int (gI M o 17), .ref (ad (o + 19)), .ref (ad (o + 20)), .long (gJ M o 20), .long (gJ M o 21), .int (gI M o 22), .ref (ad (o + 24)), .ref (ad (o + 25)), .ref (ad (o + 26)), .ref (ad (o + 27)), .ref (ad (o + 28)), .ref (ad (o + 29)), .ref (ad (o + 30)), .ref (ad (o + 31)), .ref (ad (o + 32)), .int (gI M o 32), .int (gI M o 33), .long (gJ M o 34), .long (gJ M o 35), .int (gI M o 36), .int (gI M o 37), .int (gI M o 38), .ref (ad (o + 40)), .ref (ad (o + 41)), .ref (ad (o + 42)), .int (gI M o 42), .int (gI M o 43), .int (gI M o 44)] : List Value).set 32 (.int v)) := by rw [ce_7 h]; simp [gI_setI, gI_setJ, gI_setR, gJ_setI, gJ_setJ, gJ_setR, gR_setI, gR_setJ, gR_setR]
theorem pu_7_33 (h : kd o = 7) (v : Int32) : ce cy ad (setI M o 33 v) o = .inr (7, ([.ref (ad (o + 1)), .int (gI M o 1), .ref (ad (o + 3)), .int (gI M o 3), .int (gI M o 4), .ref (ad (o + 6)), .ref (ad (o + 7)), .ref (ad (o + 8)), .int (gI M o 8), .int (gI M o 9), .int (gI M o 10), .int (gI M o 11), .int (gI M o 12), .int (gI M o 13), .ref (ad (o + 15)), .ref (ad (o + 16)), .ref (ad (o + 17)), .int (gI M o 17), .ref (ad (o + 19)), .ref (ad (o + 20)), .long (gJ M o 20), .long (gJ M o 21), .int (gI M o 22), .ref (ad (o + 24)), .ref (ad (o + 25)), .ref (ad (o + 26)), .ref (ad (o + 27)), .ref (ad (o + 28)), .ref (ad (o + 29)), .ref (ad (o + 30)), .ref (ad (o + 31)), .ref (ad (o + 32)), .int (gI M o 32), .int (gI M o 33), .long (gJ M o 34), .long (gJ M o 35), .int (gI M o 36), .int (gI M o 37), .int (gI M o 38), .ref (ad (o + 40)), .ref (ad (o + 41)), .ref (ad (o + 42)), .int (gI M o 42), .int (gI M o 43), .int (gI M o 44)] : List Value).set 33 (.int v)) := by rw [ce_7 h]; simp [gI_setI, gI_setJ, gI_setR, gJ_setI, gJ_setJ, gJ_setR, gR_setI, gR_setJ, gR_setR]
theorem pu_7_34 (h : kd o = 7) (v : Int64) : ce cy ad (setJ M o 34 v) o = .inr (7, ([.ref (ad (o + 1)), .int (gI M o 1), .ref (ad (o + 3)), .int (gI M o 3), .int (gI M o 4), .ref (ad (o + 6)), .ref (ad (o + 7)), .ref (ad (o + 8)), .int (gI M o 8), .int (gI M o 9), .int (gI M o 10), .int (gI M o 11), .int (gI M o 12), .int (gI M o 13), .ref (ad (o + 15)), .ref (ad (o + 16)), .ref (ad (o + 17)), .int (gI M o 17), .ref (ad (o + 19)), .ref (ad (o + 20)), .long (gJ M o 20), .long (gJ M o 21), .int (gI M o 22), .ref (ad (o + 24)), .ref (ad (o + 25)), .ref (ad (o + 26)), .ref (ad (o + 27)), .ref (ad (o + 28)), .ref (ad (o + 29)), .ref (ad (o + 30)), .ref (ad (o + 31)), .ref (ad (o + 32)), .int (gI M o 32), .int (gI M o 33), .long (gJ M o 34), .long (gJ M o 35), .int (gI M o 36), .int (gI M o 37), .int (gI M o 38), .ref (ad (o + 40)), .ref (ad (o + 41)), .ref (ad (o + 42)), .int (gI M o 42), .int (gI M o 43), .int (gI M o 44)] : List Value).set 34 (.long v)) := by rw [ce_7 h]; simp [gI_setI, gI_setJ, gI_setR, gJ_setI, gJ_setJ, gJ_setR, gR_setI, gR_setJ, gR_setR]
theorem pu_7_35 (h : kd o = 7) (v : Int64) : ce cy ad (setJ M o 35 v) o = .inr (7, ([.ref (ad (o + 1)), .int (gI M o 1), .ref (ad (o + 3)), .int (gI M o 3), .int (gI M o 4), .ref (ad (o + 6)), .ref (ad (o + 7)), .ref (ad (o + 8)), .int (gI M o 8), .int (gI M o 9), .int (gI M o 10), .int (gI M o 11), .int (gI M o 12), .int (gI M o 13), .ref (ad (o + 15)), .ref (ad (o + 16)), .ref (ad (o + 17)), .int (gI M o 17), .ref (ad (o + 19)), .ref (ad (o + 20)), .long (gJ M o 20), .long (gJ M o 21), .int (gI M o 22), .ref (ad (o + 24)), .ref (ad (o + 25)), .ref (ad (o + 26)), .ref (ad (o + 27)), .ref (ad (o + 28)), .ref (ad (o + 29)), .ref (ad (o + 30)), .ref (ad (o + 31)), .ref (ad (o + 32)), .int (gI M o 32), .int (gI M o 33), .long (gJ M o 34), .long (gJ M o 35), .int (gI M o 36), .int (gI M o 37), .int (gI M o 38), .ref (ad (o + 40)), .ref (ad (o + 41)), .ref (ad (o + 42)), .int (gI M o 42), .int (gI M o 43), .int (gI M o 44)] : List Value).set 35 (.long v)) := by rw [ce_7 h]; simp [gI_setI, gI_setJ, gI_setR, gJ_setI, gJ_setJ, gJ_setR, gR_setI, gR_setJ, gR_setR]
theorem pu_7_36 (h : kd o = 7) (v : Int32) : ce cy ad (setI M o 36 v) o = .inr (7, ([.ref (ad (o + 1)), .int (gI M o 1), .ref (ad (o + 3)), .int (gI M o 3), .int (gI M o 4), .ref (ad (o + 6)), .ref (ad (o + 7)), .ref (ad (o + 8)), .int (gI M o 8), .int (gI M o 9), .int (gI M o 10), .int (gI M o 11), .int (gI M o 12), .int (gI M o 13), .ref (ad (o + 15)), .ref (ad (o + 16)), .ref (ad (o + 17)), .int (gI M o 17), .ref (ad (o + 19)), .ref (ad (o + 20)), .long (gJ M o 20), .long (gJ M o 21), .int (gI M o 22), .ref (ad (o + 24)), .ref (ad (o + 25)), .ref (ad (o + 26)), .ref (ad (o + 27)), .ref (ad (o + 28)), .ref (ad (o + 29)), .ref (ad (o + 30)), .ref (ad (o + 31)), .ref (ad (o + 32)), .int (gI M o 32), .int (gI M o 33), .long (gJ M o 34), .long (gJ M o 35), .int (gI M o 36), .int (gI M o 37), .int (gI M o 38), .ref (ad (o + 40)), .ref (ad (o + 41)), .ref (ad (o + 42)), .int (gI M o 42), .int (gI M o 43), .int (gI M o 44)] : List Value).set 36 (.int v)) := by rw [ce_7 h]; simp [gI_setI, gI_setJ, gI_setR, gJ_setI, gJ_setJ, gJ_setR, gR_setI, gR_setJ, gR_setR]
theorem pu_7_37 (h : kd o = 7) (v : Int32) : ce cy ad (setI M o 37 v) o = .inr (7, ([.ref (ad (o + 1)), .int (gI M o 1), .ref (ad (o + 3)), .int (gI M o 3), .int (gI M o 4), .ref (ad (o + 6)), .ref (ad (o + 7)), .ref (ad (o + 8)), .int (gI M o 8), .int (gI M o 9), .int (gI M o 10), .int (gI M o 11), .int (gI M o 12), .int (gI M o 13), .ref (ad (o + 15)), .ref (ad (o + 16)), .ref (ad (o + 17)), .int (gI M o 17), .ref (ad (o + 19)), .ref (ad (o + 20)), .long (gJ M o 20), .long (gJ M o 21), .int (gI M o 22), .ref (ad (o + 24)), .ref (ad (o + 25)), .ref (ad (o + 26)), .ref (ad (o + 27)), .ref (ad (o + 28)), .ref (ad (o + 29)), .ref (ad (o + 30)), .ref (ad (o + 31)), .ref (ad (o + 32)), .int (gI M o 32), .int (gI M o 33), .long (gJ M o 34), .long (gJ M o 35), .int (gI M o 36), .int (gI M o 37), .int (gI M o 38), .ref (ad (o + 40)), .ref (ad (o + 41)), .ref (ad (o + 42)), .int (gI M o 42), .int (gI M o 43), .int (gI M o 44)] : List Value).set 37 (.int v)) := by rw [ce_7 h]; simp [gI_setI, gI_setJ, gI_setR, gJ_setI, gJ_setJ, gJ_setR, gR_setI, gR_setJ, gR_setR]
theorem pu_7_38 (h : kd o = 7) (v : Int32) : ce cy ad (setI M o 38 v) o = .inr (7, ([.ref (ad (o + 1)), .int (gI M o 1), .ref (ad (o + 3)), .int (gI M o 3), .int (gI M o 4), .ref (ad (o + 6)), .ref (ad (o + 7)), .ref (ad (o + 8)), .int (gI M o 8), .int (gI M o 9), .int (gI M o 10), .int (gI M o 11), .int (gI M o 12), .int (gI M o 13), .ref (ad (o + 15)), .ref (ad (o + 16)), .ref (ad (o + 17)), .int (gI M o 17), .ref (ad (o + 19)), .ref (ad (o + 20)), .long (gJ M o 20), .long (gJ M o 21), .int (gI M o 22), .ref (ad (o + 24)), .ref (ad (o + 25)), .ref (ad (o + 26)), .ref (ad (o + 27)), .ref (ad (o + 28)), .ref (ad (o + 29)), .ref (ad (o + 30)), .ref (ad (o + 31)), .ref (ad (o + 32)), .int (gI M o 32), .int (gI M o 33), .long (gJ M o 34), .long (gJ M o 35), .int (gI M o 36), .int (gI M o 37), .int (gI M o 38), .ref (ad (o + 40)), .ref (ad (o + 41)), .ref (ad (o + 42)), .int (gI M o 42), .int (gI M o 43), .int (gI M o 44)] : List Value).set 38 (.int v)) := by rw [ce_7 h]; simp [gI_setI, gI_setJ, gI_setR, gJ_setI, gJ_setJ, gJ_setR, gR_setI, gR_setJ, gR_setR]
theorem pu_7_42 (h : kd o = 7) (v : Int32) : ce cy ad (setI M o 42 v) o = .inr (7, ([.ref (ad (o + 1)), .int (gI M o 1), .ref (ad (o + 3)), .int (gI M o 3), .int (gI M o 4), .ref (ad (o + 6)), .ref (ad (o + 7)), .ref (ad (o + 8)), .int (gI M o 8), .int (gI M o 9), .int (gI M o 10), .int (gI M o 11), .int (gI M o 12), .int (gI M o 13), .ref (ad (o + 15)), .ref (ad (o + 16)), .ref (ad (o + 17)), .int (gI M o 17), .ref (ad (o + 19)), .ref (ad (o + 20)), .long (gJ M o 20), .long (gJ M o 21), .int (gI M o 22), .ref (ad (o + 24)), .ref (ad (o + 25)), .ref (ad (o + 26)), .ref (ad (o + 27)), .ref (ad (o + 28)), .ref (ad (o + 29)), .ref (ad (o + 30)), .ref (ad (o + 31)), .ref (ad (o + 32)), .int (gI M o 32), .int (gI M o 33), .long (gJ M o 34), .long (gJ M o 35), .int (gI M o 36), .int (gI M o 37), .int (gI M o 38), .ref (ad (o + 40)), .ref (ad (o + 41)), .ref (ad (o + 42)), .int (gI M o 42), .int (gI M o 43), .int (gI M o 44)] : List Value).set 42 (.int v)) := by rw [ce_7 h]; simp [gI_setI, gI_setJ, gI_setR, gJ_setI, gJ_setJ, gJ_setR, gR_setI, gR_setJ, gR_setR]
theorem pu_7_43 (h : kd o = 7) (v : Int32) : ce cy ad (setI M o 43 v) o = .inr (7, ([.ref (ad (o + 1)), .int (gI M o 1), .ref (ad (o + 3)), .int (gI M o 3), .int (gI M o 4), .ref (ad (o + 6)), .ref (ad (o + 7)), .ref (ad (o + 8)), .int (gI M o 8), .int (gI M o 9), .int (gI M o 10), .int (gI M o 11), .int (gI M o 12), .int (gI M o 13), .ref (ad (o + 15)), .ref (ad (o + 16)), .ref (ad (o + 17)), .int (gI M o 17), .ref (ad (o + 19)), .ref (ad (o + 20)), .long (gJ M o 20), .long (gJ M o 21), .int (gI M o 22), .ref (ad (o + 24)), .ref (ad (o + 25)), .ref (ad (o + 26)), .ref (ad (o + 27)), .ref (ad (o + 28)), .ref (ad (o + 29)), .ref (ad (o + 30)), .ref (ad (o + 31)), .ref (ad (o + 32)), .int (gI M o 32), .int (gI M o 33), .long (gJ M o 34), .long (gJ M o 35), .int (gI M o 36), .int (gI M o 37), .int (gI M o 38), .ref (ad (o + 40)), .ref (ad (o + 41)), .ref (ad (o + 42)), .int (gI M o 42), .int (gI M o 43), .int (gI M o 44)] : List Value).set 43 (.int v)) := by rw [ce_7 h]; simp [gI_setI, gI_setJ, gI_setR, gJ_setI, gJ_setJ, gJ_setR, gR_setI, gR_setJ, gR_setR]
theorem pu_7_44 (h : kd o = 7) (v : Int32) : ce cy ad (setI M o 44 v) o = .inr (7, ([.ref (ad (o + 1)), .int (gI M o 1), .ref (ad (o + 3)), .int (gI M o 3), .int (gI M o 4), .ref (ad (o + 6)), .ref (ad (o + 7)), .ref (ad (o + 8)), .int (gI M o 8), .int (gI M o 9), .int (gI M o 10), .int (gI M o 11), .int (gI M o 12), .int (gI M o 13), .ref (ad (o + 15)), .ref (ad (o + 16)), .ref (ad (o + 17)), .int (gI M o 17), .ref (ad (o + 19)), .ref (ad (o + 20)), .long (gJ M o 20), .long (gJ M o 21), .int (gI M o 22), .ref (ad (o + 24)), .ref (ad (o + 25)), .ref (ad (o + 26)), .ref (ad (o + 27)), .ref (ad (o + 28)), .ref (ad (o + 29)), .ref (ad (o + 30)), .ref (ad (o + 31)), .ref (ad (o + 32)), .int (gI M o 32), .int (gI M o 33), .long (gJ M o 34), .long (gJ M o 35), .int (gI M o 36), .int (gI M o 37), .int (gI M o 38), .ref (ad (o + 40)), .ref (ad (o + 41)), .ref (ad (o + 42)), .int (gI M o 42), .int (gI M o 43), .int (gI M o 44)] : List Value).set 44 (.int v)) := by rw [ce_7 h]; simp [gI_setI, gI_setJ, gI_setR, gJ_setI, gJ_setJ, gJ_setR, gR_setI, gR_setJ, gR_setR]
theorem gI_upd {x : Int32} : gI (setI M o i x) o = upd (gI M o) i x := funext fun b => by by_cases h : b = i <;> simp [gI_setI, upd, h]
theorem gJ_upd {x : Int64} : gJ (setJ M o i x) o = vp_updL (gJ M o) i x := funext fun b => by by_cases h : b = i <;> simp [gJ_setJ, vp_updL, h]
theorem wl_at {k : Nat} (h : ids[k]? = some o) : (wl cy ad ids M)[k]? = some (ad o, ce cy ad M o) := by simp [wl, h]
theorem wl_set {k : Nat} {E : va_E} (hN : ids.Nodup) (hk : ids[k]? = some o) (ho : ce cy ad M1 o = E) (hne : ∀ a, a ≠ o → ce cy ad M1 a = ce cy ad M a) : (wl cy ad ids M).set k (ad o, E) = wl cy ad ids M1 := by
  apply List.ext_getElem?
  intro j
  rw [List.getElem?_set]
  by_cases hj : k = j
  · subst hj
    have hlt : k < ids.length := (List.getElem?_eq_some_iff.mp hk).1
    have e1 : ids[k] = o := (List.getElem?_eq_some_iff.mp hk).2
    simp [wl, hlt, ho, e1]
  · rw [if_neg hj]
    simp only [wl, List.getElem?_map]
    cases hq : ids[j]? with
    | none => rfl
    | some b =>
      have hb : b ≠ o := by
        intro e
        subst e
        obtain ⟨h1, e1⟩ := List.getElem?_eq_some_iff.mp hk
        obtain ⟨h2, e2⟩ := List.getElem?_eq_some_iff.mp hq
        exact hj ((List.getElem_inj hN).mp (e1.trans e2.symm))
      simp [hne b hb]
end CE
/-- the five words of nest mates -/
def NWL : List Cond := [.fieldLinkNest "TokenMachines$PatternReader" 114 "TokenMachines$Part" "mayBeEmpty" "Z" "TokenMachines", .fieldLinkNest "TokenMachines$PatternReader" 84 "TokenMachines$Part" "first" "J" "TokenMachines", .fieldLinkNest "TokenMachines$PatternReader" 88 "TokenMachines$Part" "last" "J" "TokenMachines", .methodLinkNest "TokenMachines$Dictionary" 51 yX6_isCost "TokenMachines", .methodLinkNest "TokenMachines$Signs" 30 yX6_isBlank "TokenMachines"]
def NWs (U : State) : Prop := ∀ w ∈ NWL, va_Nw w U
theorem NWs.warm {s U : State} (hW : s.WarmedH U.vm) (h : NWs s) : NWs U := by
  intro w hw
  have h0 := h w hw
  simp only [NWL, List.mem_cons, List.not_mem_nil, or_false] at hw
  rcases hw with rfl | rfl | rfl | rfl | rfl
  · exact va_Nw.warmF hW h0
  · exact va_Nw.warmF hW h0
  · exact va_Nw.warmF hW h0
  · exact va_Nw.warmM hW h0
  · exact va_Nw.warmM hW h0
theorem NWs.same {u U : State} (hv : u.vm = U.vm) (h : NWs u) : NWs U := by
  intro w hw
  have h0 := h w hw
  simp only [NWL, List.mem_cons, List.not_mem_nil, or_false] at hw
  rcases hw with rfl | rfl | rfl | rfl | rfl <;> exact va_Nw.same rfl hv h0
/-- the machine at a place, with what the heap, the locals and the stack hold -/
def SW (p : Program) (l : Launch) (e : Env) (R : Room) (s : State) (m : MethodId) (args : Array Value) (below : List Frame) (meth : Method) (c : Code) (cells slots : Nat) (Q : State → Prop) (nL : Nat) (Φ : Heap → List Loc → Prop) (pc : Nat) (lv : List (Nat × Value)) (st : List Value) : Prop :=
  ∀ (H : Heap) (locs : List Loc) (ls : Array Slot), Φ H locs → lv_has ls nL lv → W p l e R s m args below meth c H locs cells slots Q (F0 m pc ls st)
def lt_ {α β : Type} (v : α) (k : α → Option β) : Option β := k v
section SWR
variable {p : Program} {l : Launch} {e : Env} {R : Room} {s : State} {m : MethodId} {args : Array Value} {below : List Frame} {meth : Method} {c : Code} {cells slots : Nat} {Q : State → Prop} {nL : Nat} {Φ : Heap → List Loc → Prop} {cc : ByteArray} {pc : Nat} {lv : List (Nat × Value)} {rest : List Value}
theorem sw_iconst (hx : p.tables.exec = Jvm.exec) (hb : c.code = cc) {n : Int} (v : Int32) (hdg : decode cc pc = .ok (.iconst n, 1)) (hv : Int32.ofInt n = v) (kk : SW p l e R s m args below meth c cells slots Q nL Φ (pc + 1) lv (.int v :: rest)) : SW p l e R s m args below meth c cells slots Q nL Φ pc lv rest := fun H locs ls hΦ hl => lv_iconst hx hb hdg hv (kk H locs ls hΦ hl)
theorem sw_bipush (hx : p.tables.exec = Jvm.exec) (hb : c.code = cc) {n : Int} (v : Int32) (hdg : decode cc pc = .ok (.bipush n, 2)) (hv : (Int8.ofInt n).toInt32 = v) (kk : SW p l e R s m args below meth c cells slots Q nL Φ (pc + 2) lv (.int v :: rest)) : SW p l e R s m args below meth c cells slots Q nL Φ pc lv rest := fun H locs ls hΦ hl => lv_bipush hx hb hdg hv (kk H locs ls hΦ hl)
theorem sw_sipush (hx : p.tables.exec = Jvm.exec) (hb : c.code = cc) {n : Int} (v : Int32) (hdg : decode cc pc = .ok (.sipush n, 3)) (hv : (Int16.ofInt n).toInt32 = v) (kk : SW p l e R s m args below meth c cells slots Q nL Φ (pc + 3) lv (.int v :: rest)) : SW p l e R s m args below meth c cells slots Q nL Φ pc lv rest := fun H locs ls hΦ hl => lv_sipush hx hb hdg hv (kk H locs ls hΦ hl)
theorem sw_lconst (hx : p.tables.exec = Jvm.exec) (hb : c.code = cc) {n : Fin 2} (v : Int64) (hdg : decode cc pc = .ok (.lconst n, 1)) (hv : Int64.ofNat (n : Nat) = v) (kk : SW p l e R s m args below meth c cells slots Q nL Φ (pc + 1) lv (.long v :: rest)) : SW p l e R s m args below meth c cells slots Q nL Φ pc lv rest := fun H locs ls hΦ hl => lv_lconst hx hb hdg hv (kk H locs ls hΦ hl)
theorem sw_iload_n (hx : p.tables.exec = Jvm.exec) (hb : c.code = cc) {j : Fin 4} {i : Nat} {x : Int32} (hdg : decode cc pc = .ok (.iload_n j, 1)) (k : Nat) (hi : (j : Nat) = i) (hk : lv[k]? = some (i, .int x)) (kk : SW p l e R s m args below meth c cells slots Q nL Φ (pc + 1) lv (.int x :: rest)) : SW p l e R s m args below meth c cells slots Q nL Φ pc lv rest := fun H locs ls hΦ hl => lv_iload_n hx hb hdg hi (lv_at hl k hk) (kk H locs ls hΦ hl)
theorem sw_iload (hx : p.tables.exec = Jvm.exec) (hb : c.code = cc) {i : Nat} {x : Int32} (hdg : decode cc pc = .ok (.iload i, 2)) (k : Nat) (hk : lv[k]? = some (i, .int x)) (kk : SW p l e R s m args below meth c cells slots Q nL Φ (pc + 2) lv (.int x :: rest)) : SW p l e R s m args below meth c cells slots Q nL Φ pc lv rest := fun H locs ls hΦ hl => lv_iload hx hb hdg (lv_at hl k hk) (kk H locs ls hΦ hl)
theorem sw_istore_n (hx : p.tables.exec = Jvm.exec) (hb : c.code = cc) {j : Fin 4} {i : Nat} {x : Int32} (lv1 : List (Nat × Value)) (hdg : decode cc pc = .ok (.istore_n j, 1)) (hi : (j : Nat) = i) (hn : i < nL) (hl1 : (i, Value.int x) :: lv.filter (fun q => !(q.1 == i) && !(q.1 + 1 == i && q.2.category == 2)) = lv1) (kk : SW p l e R s m args below meth c cells slots Q nL Φ (pc + 1) lv1 rest) : SW p l e R s m args below meth c cells slots Q nL Φ pc lv (.int x :: rest) := fun H locs ls hΦ hl => lv_istore_n hx hb hdg hi hl hn hl1 (fun ls1 hl1 => kk H locs ls1 hΦ hl1)
theorem sw_istore (hx : p.tables.exec = Jvm.exec) (hb : c.code = cc) {i : Nat} {x : Int32} (lv1 : List (Nat × Value)) (hdg : decode cc pc = .ok (.istore i, 2)) (hn : i < nL) (hl1 : (i, Value.int x) :: lv.filter (fun q => !(q.1 == i) && !(q.1 + 1 == i && q.2.category == 2)) = lv1) (kk : SW p l e R s m args below meth c cells slots Q nL Φ (pc + 2) lv1 rest) : SW p l e R s m args below meth c cells slots Q nL Φ pc lv (.int x :: rest) := fun H locs ls hΦ hl => lv_istore hx hb hdg hl hn hl1 (fun ls1 hl1 => kk H locs ls1 hΦ hl1)
theorem sw_lload_n (hx : p.tables.exec = Jvm.exec) (hb : c.code = cc) {j : Fin 4} {i : Nat} {x : Int64} (hdg : decode cc pc = .ok (.lload_n j, 1)) (k : Nat) (hi : (j : Nat) = i) (hk : lv[k]? = some (i, .long x)) (kk : SW p l e R s m args below meth c cells slots Q nL Φ (pc + 1) lv (.long x :: rest)) : SW p l e R s m args below meth c cells slots Q nL Φ pc lv rest := fun H locs ls hΦ hl => lv_lload_n hx hb hdg hi (lv_at hl k hk) (kk H locs ls hΦ hl)
theorem sw_lload (hx : p.tables.exec = Jvm.exec) (hb : c.code = cc) {i : Nat} {x : Int64} (hdg : decode cc pc = .ok (.lload i, 2)) (k : Nat) (hk : lv[k]? = some (i, .long x)) (kk : SW p l e R s m args below meth c cells slots Q nL Φ (pc + 2) lv (.long x :: rest)) : SW p l e R s m args below meth c cells slots Q nL Φ pc lv rest := fun H locs ls hΦ hl => lv_lload hx hb hdg (lv_at hl k hk) (kk H locs ls hΦ hl)
theorem sw_lstore_n (hx : p.tables.exec = Jvm.exec) (hb : c.code = cc) {j : Fin 4} {i : Nat} {x : Int64} (lv1 : List (Nat × Value)) (hdg : decode cc pc = .ok (.lstore_n j, 1)) (hi : (j : Nat) = i) (hn : i + 1 < nL) (hl1 : (i, Value.long x) :: lv.filter (fun q => !(q.1 == i) && (!(q.1 == i + 1) && !(q.1 + 1 == i && q.2.category == 2))) = lv1) (kk : SW p l e R s m args below meth c cells slots Q nL Φ (pc + 1) lv1 rest) : SW p l e R s m args below meth c cells slots Q nL Φ pc lv (.long x :: rest) := fun H locs ls hΦ hl => lv_lstore_n hx hb hdg hi hl hn hl1 (fun ls1 hl1 => kk H locs ls1 hΦ hl1)
theorem sw_lstore (hx : p.tables.exec = Jvm.exec) (hb : c.code = cc) {i : Nat} {x : Int64} (lv1 : List (Nat × Value)) (hdg : decode cc pc = .ok (.lstore i, 2)) (hn : i + 1 < nL) (hl1 : (i, Value.long x) :: lv.filter (fun q => !(q.1 == i) && (!(q.1 == i + 1) && !(q.1 + 1 == i && q.2.category == 2))) = lv1) (kk : SW p l e R s m args below meth c cells slots Q nL Φ (pc + 2) lv1 rest) : SW p l e R s m args below meth c cells slots Q nL Φ pc lv (.long x :: rest) := fun H locs ls hΦ hl => lv_lstore hx hb hdg hl hn hl1 (fun ls1 hl1 => kk H locs ls1 hΦ hl1)
theorem sw_aload_n (hx : p.tables.exec = Jvm.exec) (hb : c.code = cc) {j : Fin 4} {i : Nat} {x : Nat} (hdg : decode cc pc = .ok (.aload_n j, 1)) (k : Nat) (hi : (j : Nat) = i) (hk : lv[k]? = some (i, .ref x)) (kk : SW p l e R s m args below meth c cells slots Q nL Φ (pc + 1) lv (.ref x :: rest)) : SW p l e R s m args below meth c cells slots Q nL Φ pc lv rest := fun H locs ls hΦ hl => lv_aload_n hx hb hdg hi (lv_at hl k hk) (kk H locs ls hΦ hl)
theorem sw_aload (hx : p.tables.exec = Jvm.exec) (hb : c.code = cc) {i : Nat} {x : Nat} (hdg : decode cc pc = .ok (.aload i, 2)) (k : Nat) (hk : lv[k]? = some (i, .ref x)) (kk : SW p l e R s m args below meth c cells slots Q nL Φ (pc + 2) lv (.ref x :: rest)) : SW p l e R s m args below meth c cells slots Q nL Φ pc lv rest := fun H locs ls hΦ hl => lv_aload hx hb hdg (lv_at hl k hk) (kk H locs ls hΦ hl)
theorem sw_astore_n (hx : p.tables.exec = Jvm.exec) (hb : c.code = cc) {j : Fin 4} {i : Nat} {x : Nat} (lv1 : List (Nat × Value)) (hdg : decode cc pc = .ok (.astore_n j, 1)) (hi : (j : Nat) = i) (hn : i < nL) (hl1 : (i, Value.ref x) :: lv.filter (fun q => !(q.1 == i) && !(q.1 + 1 == i && q.2.category == 2)) = lv1) (kk : SW p l e R s m args below meth c cells slots Q nL Φ (pc + 1) lv1 rest) : SW p l e R s m args below meth c cells slots Q nL Φ pc lv (.ref x :: rest) := fun H locs ls hΦ hl => lv_astore_n hx hb hdg hi hl hn hl1 (fun ls1 hl1 => kk H locs ls1 hΦ hl1)
theorem sw_astore (hx : p.tables.exec = Jvm.exec) (hb : c.code = cc) {i : Nat} {x : Nat} (lv1 : List (Nat × Value)) (hdg : decode cc pc = .ok (.astore i, 2)) (hn : i < nL) (hl1 : (i, Value.ref x) :: lv.filter (fun q => !(q.1 == i) && !(q.1 + 1 == i && q.2.category == 2)) = lv1) (kk : SW p l e R s m args below meth c cells slots Q nL Φ (pc + 2) lv1 rest) : SW p l e R s m args below meth c cells slots Q nL Φ pc lv (.ref x :: rest) := fun H locs ls hΦ hl => lv_astore hx hb hdg hl hn hl1 (fun ls1 hl1 => kk H locs ls1 hΦ hl1)
theorem sw_istore_nN (hx : p.tables.exec = Jvm.exec) (hb : c.code = cc) {j : Fin 4} {i : Nat} {x : Int32} (lv1 : Int32 → List (Nat × Value)) {β : Type} {K : Int32 → Option β} {r : β} (hdg : decode cc pc = .ok (.istore_n j, 1)) (hi : (j : Nat) = i) (hn : i < nL) (hl1 : ∀ y, (i, Value.int y) :: lv.filter (fun q => !(q.1 == i) && !(q.1 + 1 == i && q.2.category == 2)) = lv1 y) (h : lt_ x K = some r) (kk : ∀ y, K y = some r → SW p l e R s m args below meth c cells slots Q nL Φ (pc + 1) (lv1 y) rest) : SW p l e R s m args below meth c cells slots Q nL Φ pc lv (.int x :: rest) := fun H locs ls hΦ hl => lv_istore_n hx hb hdg hi hl hn (hl1 x) (fun ls1 hl1 => kk x h H locs ls1 hΦ hl1)
theorem sw_istoreN (hx : p.tables.exec = Jvm.exec) (hb : c.code = cc) {i : Nat} {x : Int32} (lv1 : Int32 → List (Nat × Value)) {β : Type} {K : Int32 → Option β} {r : β} (hdg : decode cc pc = .ok (.istore i, 2)) (hn : i < nL) (hl1 : ∀ y, (i, Value.int y) :: lv.filter (fun q => !(q.1 == i) && !(q.1 + 1 == i && q.2.category == 2)) = lv1 y) (h : lt_ x K = some r) (kk : ∀ y, K y = some r → SW p l e R s m args below meth c cells slots Q nL Φ (pc + 2) (lv1 y) rest) : SW p l e R s m args below meth c cells slots Q nL Φ pc lv (.int x :: rest) := fun H locs ls hΦ hl => lv_istore hx hb hdg hl hn (hl1 x) (fun ls1 hl1 => kk x h H locs ls1 hΦ hl1)
theorem sw_lstore_nN (hx : p.tables.exec = Jvm.exec) (hb : c.code = cc) {j : Fin 4} {i : Nat} {x : Int64} (lv1 : Int64 → List (Nat × Value)) {β : Type} {K : Int64 → Option β} {r : β} (hdg : decode cc pc = .ok (.lstore_n j, 1)) (hi : (j : Nat) = i) (hn : i + 1 < nL) (hl1 : ∀ y, (i, Value.long y) :: lv.filter (fun q => !(q.1 == i) && (!(q.1 == i + 1) && !(q.1 + 1 == i && q.2.category == 2))) = lv1 y) (h : lt_ x K = some r) (kk : ∀ y, K y = some r → SW p l e R s m args below meth c cells slots Q nL Φ (pc + 1) (lv1 y) rest) : SW p l e R s m args below meth c cells slots Q nL Φ pc lv (.long x :: rest) := fun H locs ls hΦ hl => lv_lstore_n hx hb hdg hi hl hn (hl1 x) (fun ls1 hl1 => kk x h H locs ls1 hΦ hl1)
theorem sw_lstoreN (hx : p.tables.exec = Jvm.exec) (hb : c.code = cc) {i : Nat} {x : Int64} (lv1 : Int64 → List (Nat × Value)) {β : Type} {K : Int64 → Option β} {r : β} (hdg : decode cc pc = .ok (.lstore i, 2)) (hn : i + 1 < nL) (hl1 : ∀ y, (i, Value.long y) :: lv.filter (fun q => !(q.1 == i) && (!(q.1 == i + 1) && !(q.1 + 1 == i && q.2.category == 2))) = lv1 y) (h : lt_ x K = some r) (kk : ∀ y, K y = some r → SW p l e R s m args below meth c cells slots Q nL Φ (pc + 2) (lv1 y) rest) : SW p l e R s m args below meth c cells slots Q nL Φ pc lv (.long x :: rest) := fun H locs ls hΦ hl => lv_lstore hx hb hdg hl hn (hl1 x) (fun ls1 hl1 => kk x h H locs ls1 hΦ hl1)
theorem sw_iincN (hx : p.tables.exec = Jvm.exec) (hb : c.code = cc) {i k : Nat} {n : Int} {x : Int32} (v : Int32) (lv1 : Int32 → List (Nat × Value)) {β : Type} {K : Int32 → Option β} {r : β} (hdg : decode cc pc = .ok (.iinc i n, 3)) (hk : lv[k]? = some (i, .int x)) (hv : x + Int32.ofInt n = v) (hn : i < nL) (hl1 : ∀ y, (i, Value.int y) :: lv.filter (fun q => !(q.1 == i) && !(q.1 + 1 == i && q.2.category == 2)) = lv1 y) (h : lt_ v K = some r) (kk : ∀ y, K y = some r → SW p l e R s m args below meth c cells slots Q nL Φ (pc + 3) (lv1 y) rest) : SW p l e R s m args below meth c cells slots Q nL Φ pc lv rest := fun H locs ls hΦ hl => lv_iinc hx hb hdg hl hk hv hn (hl1 v) (fun ls1 hl1 => kk v h H locs ls1 hΦ hl1)
theorem sw_iinc (hx : p.tables.exec = Jvm.exec) (hb : c.code = cc) {i k : Nat} {n : Int} {x : Int32} (v : Int32) (lv1 : List (Nat × Value)) (hdg : decode cc pc = .ok (.iinc i n, 3)) (hk : lv[k]? = some (i, .int x)) (hv : x + Int32.ofInt n = v) (hn : i < nL) (hl1 : (i, Value.int v) :: lv.filter (fun q => !(q.1 == i) && !(q.1 + 1 == i && q.2.category == 2)) = lv1) (kk : SW p l e R s m args below meth c cells slots Q nL Φ (pc + 3) lv1 rest) : SW p l e R s m args below meth c cells slots Q nL Φ pc lv rest := fun H locs ls hΦ hl => lv_iinc hx hb hdg hl hk hv hn hl1 (fun ls1 hl1 => kk H locs ls1 hΦ hl1)
theorem sw_iadd (hx : p.tables.exec = Jvm.exec) (hb : c.code = cc) {x y : Int32} (hdg : decode cc pc = .ok (.iadd, 1)) (kk : SW p l e R s m args below meth c cells slots Q nL Φ (pc + 1) lv (.int (x + y) :: rest)) : SW p l e R s m args below meth c cells slots Q nL Φ pc lv (.int y :: .int x :: rest) := fun H locs ls hΦ hl => lv_iadd hx hb hdg (kk H locs ls hΦ hl)
theorem sw_isub (hx : p.tables.exec = Jvm.exec) (hb : c.code = cc) {x y : Int32} (hdg : decode cc pc = .ok (.isub, 1)) (kk : SW p l e R s m args below meth c cells slots Q nL Φ (pc + 1) lv (.int (x - y) :: rest)) : SW p l e R s m args below meth c cells slots Q nL Φ pc lv (.int y :: .int x :: rest) := fun H locs ls hΦ hl => lv_isub hx hb hdg (kk H locs ls hΦ hl)
theorem sw_imul (hx : p.tables.exec = Jvm.exec) (hb : c.code = cc) {x y : Int32} (hdg : decode cc pc = .ok (.imul, 1)) (kk : SW p l e R s m args below meth c cells slots Q nL Φ (pc + 1) lv (.int (x * y) :: rest)) : SW p l e R s m args below meth c cells slots Q nL Φ pc lv (.int y :: .int x :: rest) := fun H locs ls hΦ hl => lv_imul hx hb hdg (kk H locs ls hΦ hl)
theorem sw_iand (hx : p.tables.exec = Jvm.exec) (hb : c.code = cc) {x y : Int32} (hdg : decode cc pc = .ok (.iand, 1)) (kk : SW p l e R s m args below meth c cells slots Q nL Φ (pc + 1) lv (.int (x &&& y) :: rest)) : SW p l e R s m args below meth c cells slots Q nL Φ pc lv (.int y :: .int x :: rest) := fun H locs ls hΦ hl => lv_iand hx hb hdg (kk H locs ls hΦ hl)
theorem sw_ior (hx : p.tables.exec = Jvm.exec) (hb : c.code = cc) {x y : Int32} (hdg : decode cc pc = .ok (.ior, 1)) (kk : SW p l e R s m args below meth c cells slots Q nL Φ (pc + 1) lv (.int (x ||| y) :: rest)) : SW p l e R s m args below meth c cells slots Q nL Φ pc lv (.int y :: .int x :: rest) := fun H locs ls hΦ hl => lv_ior hx hb hdg (kk H locs ls hΦ hl)
theorem sw_ixor (hx : p.tables.exec = Jvm.exec) (hb : c.code = cc) {x y : Int32} (hdg : decode cc pc = .ok (.ixor, 1)) (kk : SW p l e R s m args below meth c cells slots Q nL Φ (pc + 1) lv (.int (x ^^^ y) :: rest)) : SW p l e R s m args below meth c cells slots Q nL Φ pc lv (.int y :: .int x :: rest) := fun H locs ls hΦ hl => lv_ixor hx hb hdg (kk H locs ls hΦ hl)
theorem sw_idiv (hx : p.tables.exec = Jvm.exec) (hb : c.code = cc) {x y : Int32} (hdg : decode cc pc = .ok (.idiv, 1)) (hne : ¬ y = 0) (kk : SW p l e R s m args below meth c cells slots Q nL Φ (pc + 1) lv (.int (x / y) :: rest)) : SW p l e R s m args below meth c cells slots Q nL Φ pc lv (.int y :: .int x :: rest) := fun H locs ls hΦ hl => lv_idiv hx hb hdg hne (kk H locs ls hΦ hl)
theorem sw_irem (hx : p.tables.exec = Jvm.exec) (hb : c.code = cc) {x y : Int32} (hdg : decode cc pc = .ok (.irem, 1)) (hne : ¬ y = 0) (kk : SW p l e R s m args below meth c cells slots Q nL Φ (pc + 1) lv (.int (x - x / y * y) :: rest)) : SW p l e R s m args below meth c cells slots Q nL Φ pc lv (.int y :: .int x :: rest) := fun H locs ls hΦ hl => lv_irem hx hb hdg hne (kk H locs ls hΦ hl)
theorem sw_land (hx : p.tables.exec = Jvm.exec) (hb : c.code = cc) {x y : Int64} (hdg : decode cc pc = .ok (.land, 1)) (kk : SW p l e R s m args below meth c cells slots Q nL Φ (pc + 1) lv (.long (x &&& y) :: rest)) : SW p l e R s m args below meth c cells slots Q nL Φ pc lv (.long y :: .long x :: rest) := fun H locs ls hΦ hl => lv_land hx hb hdg (kk H locs ls hΦ hl)
theorem sw_lor (hx : p.tables.exec = Jvm.exec) (hb : c.code = cc) {x y : Int64} (hdg : decode cc pc = .ok (.lor, 1)) (kk : SW p l e R s m args below meth c cells slots Q nL Φ (pc + 1) lv (.long (x ||| y) :: rest)) : SW p l e R s m args below meth c cells slots Q nL Φ pc lv (.long y :: .long x :: rest) := fun H locs ls hΦ hl => lv_lor hx hb hdg (kk H locs ls hΦ hl)
theorem sw_lxor (hx : p.tables.exec = Jvm.exec) (hb : c.code = cc) {x y : Int64} (hdg : decode cc pc = .ok (.lxor, 1)) (kk : SW p l e R s m args below meth c cells slots Q nL Φ (pc + 1) lv (.long (x ^^^ y) :: rest)) : SW p l e R s m args below meth c cells slots Q nL Φ pc lv (.long y :: .long x :: rest) := fun H locs ls hΦ hl => lv_lxor hx hb hdg (kk H locs ls hΦ hl)
def shl6 (x : Int64) (y : Int32) : Int64 := x <<< (y.toInt64 &&& 63)
def shr6 (x : Int64) (y : Int32) : Int64 := x >>> (y.toInt64 &&& 63)
def ushr6 (x : Int64) (y : Int32) : Int64 := (x.toUInt64 >>> (y.toInt64.toUInt64 &&& Int64.toUInt64 63)).toInt64
theorem sw_lshl (hx : p.tables.exec = Jvm.exec) (hb : c.code = cc) {x : Int64} {y : Int32} (hdg : decode cc pc = .ok (.lshl, 1)) (kk : SW p l e R s m args below meth c cells slots Q nL Φ (pc + 1) lv (.long (shl6 x y) :: rest)) : SW p l e R s m args below meth c cells slots Q nL Φ pc lv (.int y :: .long x :: rest) := fun H locs ls hΦ hl => lv_lshl hx hb hdg rfl (kk H locs ls hΦ hl)
theorem sw_lshr (hx : p.tables.exec = Jvm.exec) (hb : c.code = cc) {x : Int64} {y : Int32} (hdg : decode cc pc = .ok (.lshr, 1)) (kk : SW p l e R s m args below meth c cells slots Q nL Φ (pc + 1) lv (.long (shr6 x y) :: rest)) : SW p l e R s m args below meth c cells slots Q nL Φ pc lv (.int y :: .long x :: rest) := fun H locs ls hΦ hl => lv_lshr hx hb hdg rfl (kk H locs ls hΦ hl)
theorem sw_lushr (hx : p.tables.exec = Jvm.exec) (hb : c.code = cc) {x : Int64} {y : Int32} (hdg : decode cc pc = .ok (.lushr, 1)) (kk : SW p l e R s m args below meth c cells slots Q nL Φ (pc + 1) lv (.long (ushr6 x y) :: rest)) : SW p l e R s m args below meth c cells slots Q nL Φ pc lv (.int y :: .long x :: rest) := fun H locs ls hΦ hl => lv_lushr hx hb hdg rfl (kk H locs ls hΦ hl)
theorem sw_lcmp (hx : p.tables.exec = Jvm.exec) (hb : c.code = cc) {x y : Int64} (hdg : decode cc pc = .ok (.lcmp, 1)) (kk : SW p l e R s m args below meth c cells slots Q nL Φ (pc + 1) lv (.int (lg_cmp x y) :: rest)) : SW p l e R s m args below meth c cells slots Q nL Φ pc lv (.long y :: .long x :: rest) := fun H locs ls hΦ hl => W.lcmp hx hb hdg (kk H locs ls hΦ hl)
theorem sw_i2l (hx : p.tables.exec = Jvm.exec) (hb : c.code = cc) {x : Int32} (hdg : decode cc pc = .ok (.i2l, 1)) (kk : SW p l e R s m args below meth c cells slots Q nL Φ (pc + 1) lv (.long x.toInt64 :: rest)) : SW p l e R s m args below meth c cells slots Q nL Φ pc lv (.int x :: rest) := fun H locs ls hΦ hl => lv_i2l hx hb hdg rfl (kk H locs ls hΦ hl)
theorem sw_l2i (hx : p.tables.exec = Jvm.exec) (hb : c.code = cc) {x : Int64} (hdg : decode cc pc = .ok (.l2i, 1)) (kk : SW p l e R s m args below meth c cells slots Q nL Φ (pc + 1) lv (.int x.toInt32 :: rest)) : SW p l e R s m args below meth c cells slots Q nL Φ pc lv (.long x :: rest) := fun H locs ls hΦ hl => lv_l2i hx hb hdg rfl (kk H locs ls hΦ hl)
theorem sw_i2b (hx : p.tables.exec = Jvm.exec) (hb : c.code = cc) {x : Int32} (hdg : decode cc pc = .ok (.i2b, 1)) (kk : SW p l e R s m args below meth c cells slots Q nL Φ (pc + 1) lv (.int x.toInt8.toInt32 :: rest)) : SW p l e R s m args below meth c cells slots Q nL Φ pc lv (.int x :: rest) := fun H locs ls hΦ hl => lv_i2b hx hb hdg rfl (kk H locs ls hΦ hl)
theorem sw_dup (hx : p.tables.exec = Jvm.exec) (hb : c.code = cc) {v : Value} (hdg : decode cc pc = .ok (.dup, 1)) (hv : v.category = 1) (kk : SW p l e R s m args below meth c cells slots Q nL Φ (pc + 1) lv (v :: v :: rest)) : SW p l e R s m args below meth c cells slots Q nL Φ pc lv (v :: rest) := fun H locs ls hΦ hl => lv_dup hx hb hdg hv (kk H locs ls hΦ hl)
theorem sw_pop (hx : p.tables.exec = Jvm.exec) (hb : c.code = cc) {v : Value} (hdg : decode cc pc = .ok (.pop, 1)) (hv : v.category = 1) (kk : SW p l e R s m args below meth c cells slots Q nL Φ (pc + 1) lv rest) : SW p l e R s m args below meth c cells slots Q nL Φ pc lv (v :: rest) := fun H locs ls hΦ hl => lv_pop hx hb hdg hv (kk H locs ls hΦ hl)
theorem sw_dup2 (hx : p.tables.exec = Jvm.exec) (hb : c.code = cc) {v u : Value} (hdg : decode cc pc = .ok (.dup2, 1)) (hv : v.category = 1) (hu : u.category = 1) (kk : SW p l e R s m args below meth c cells slots Q nL Φ (pc + 1) lv (v :: u :: v :: u :: rest)) : SW p l e R s m args below meth c cells slots Q nL Φ pc lv (v :: u :: rest) := fun H locs ls hΦ hl => lv_dup2_11 hx hb hdg hv hu (kk H locs ls hΦ hl)
theorem sw_goto (hx : p.tables.exec = Jvm.exec) (hb : c.code = cc) {off : Int} (tgt : Nat) (hdg : decode cc pc = .ok (.goto off, 3)) (ht : (pc : Int) + off = (tgt : Int)) (kk : SW p l e R s m args below meth c cells slots Q nL Φ tgt lv rest) : SW p l e R s m args below meth c cells slots Q nL Φ pc lv rest := fun H locs ls hΦ hl => lv_goto hx hb hdg ht (kk H locs ls hΦ hl)
theorem sw_if_eq (hx : p.tables.exec = Jvm.exec) (hb : c.code = cc) {x : Int32} {off : Int} (tgt : Nat) {α : Type} {E1 E2 : Option α} {r : α} (hdg : decode cc pc = .ok (.ifCond .eq off, 3)) (ht : (pc : Int) + off = (tgt : Int)) (h : (if x = 0 then E1 else E2) = some r) (kt : E1 = some r → SW p l e R s m args below meth c cells slots Q nL Φ tgt lv rest) (kf : E2 = some r → SW p l e R s m args below meth c cells slots Q nL Φ (pc + 3) lv rest) : SW p l e R s m args below meth c cells slots Q nL Φ pc lv (.int x :: rest) := fun H locs ls hΦ hl => lv_if_eq hx hb hdg ht (fun hc => kt ((if_pos hc).symm.trans h) H locs ls hΦ hl) (fun hc => kf ((if_neg hc).symm.trans h) H locs ls hΦ hl)
theorem sw_icmp_eq (hx : p.tables.exec = Jvm.exec) (hb : c.code = cc) {x y : Int32} {off : Int} (tgt : Nat) {α : Type} {E1 E2 : Option α} {r : α} (hdg : decode cc pc = .ok (.if_icmp .eq off, 3)) (ht : (pc : Int) + off = (tgt : Int)) (h : (if x = y then E1 else E2) = some r) (kt : E1 = some r → SW p l e R s m args below meth c cells slots Q nL Φ tgt lv rest) (kf : E2 = some r → SW p l e R s m args below meth c cells slots Q nL Φ (pc + 3) lv rest) : SW p l e R s m args below meth c cells slots Q nL Φ pc lv (.int y :: .int x :: rest) := fun H locs ls hΦ hl => lv_icmp_eq hx hb hdg ht (fun hc => kt ((if_pos hc).symm.trans h) H locs ls hΦ hl) (fun hc => kf ((if_neg hc).symm.trans h) H locs ls hΦ hl)
theorem sw_if_ne (hx : p.tables.exec = Jvm.exec) (hb : c.code = cc) {x : Int32} {off : Int} (tgt : Nat) {α : Type} {E1 E2 : Option α} {r : α} (hdg : decode cc pc = .ok (.ifCond .ne off, 3)) (ht : (pc : Int) + off = (tgt : Int)) (h : (if x = 0 then E1 else E2) = some r) (kt : E2 = some r → SW p l e R s m args below meth c cells slots Q nL Φ tgt lv rest) (kf : E1 = some r → SW p l e R s m args below meth c cells slots Q nL Φ (pc + 3) lv rest) : SW p l e R s m args below meth c cells slots Q nL Φ pc lv (.int x :: rest) := fun H locs ls hΦ hl => lv_if_ne hx hb hdg ht (fun hc => kt ((if_neg hc).symm.trans h) H locs ls hΦ hl) (fun hc => kf ((if_pos hc).symm.trans h) H locs ls hΦ hl)
theorem sw_icmp_ne (hx : p.tables.exec = Jvm.exec) (hb : c.code = cc) {x y : Int32} {off : Int} (tgt : Nat) {α : Type} {E1 E2 : Option α} {r : α} (hdg : decode cc pc = .ok (.if_icmp .ne off, 3)) (ht : (pc : Int) + off = (tgt : Int)) (h : (if x = y then E1 else E2) = some r) (kt : E2 = some r → SW p l e R s m args below meth c cells slots Q nL Φ tgt lv rest) (kf : E1 = some r → SW p l e R s m args below meth c cells slots Q nL Φ (pc + 3) lv rest) : SW p l e R s m args below meth c cells slots Q nL Φ pc lv (.int y :: .int x :: rest) := fun H locs ls hΦ hl => lv_icmp_ne hx hb hdg ht (fun hc => kt ((if_neg hc).symm.trans h) H locs ls hΦ hl) (fun hc => kf ((if_pos hc).symm.trans h) H locs ls hΦ hl)
theorem sw_if_lt (hx : p.tables.exec = Jvm.exec) (hb : c.code = cc) {x : Int32} {off : Int} (tgt : Nat) {α : Type} {E1 E2 : Option α} {r : α} (hdg : decode cc pc = .ok (.ifCond .lt off, 3)) (ht : (pc : Int) + off = (tgt : Int)) (h : (if x < 0 then E1 else E2) = some r) (kt : E1 = some r → SW p l e R s m args below meth c cells slots Q nL Φ tgt lv rest) (kf : E2 = some r → SW p l e R s m args below meth c cells slots Q nL Φ (pc + 3) lv rest) : SW p l e R s m args below meth c cells slots Q nL Φ pc lv (.int x :: rest) := fun H locs ls hΦ hl => lv_if_lt hx hb hdg ht (fun hc => kt ((if_pos hc).symm.trans h) H locs ls hΦ hl) (fun hc => kf ((if_neg hc).symm.trans h) H locs ls hΦ hl)
theorem sw_icmp_lt (hx : p.tables.exec = Jvm.exec) (hb : c.code = cc) {x y : Int32} {off : Int} (tgt : Nat) {α : Type} {E1 E2 : Option α} {r : α} (hdg : decode cc pc = .ok (.if_icmp .lt off, 3)) (ht : (pc : Int) + off = (tgt : Int)) (h : (if x < y then E1 else E2) = some r) (kt : E1 = some r → SW p l e R s m args below meth c cells slots Q nL Φ tgt lv rest) (kf : E2 = some r → SW p l e R s m args below meth c cells slots Q nL Φ (pc + 3) lv rest) : SW p l e R s m args below meth c cells slots Q nL Φ pc lv (.int y :: .int x :: rest) := fun H locs ls hΦ hl => lv_icmp_lt hx hb hdg ht (fun hc => kt ((if_pos hc).symm.trans h) H locs ls hΦ hl) (fun hc => kf ((if_neg hc).symm.trans h) H locs ls hΦ hl)
theorem sw_if_ge (hx : p.tables.exec = Jvm.exec) (hb : c.code = cc) {x : Int32} {off : Int} (tgt : Nat) {α : Type} {E1 E2 : Option α} {r : α} (hdg : decode cc pc = .ok (.ifCond .ge off, 3)) (ht : (pc : Int) + off = (tgt : Int)) (h : (if 0 ≤ x then E1 else E2) = some r) (kt : E1 = some r → SW p l e R s m args below meth c cells slots Q nL Φ tgt lv rest) (kf : E2 = some r → SW p l e R s m args below meth c cells slots Q nL Φ (pc + 3) lv rest) : SW p l e R s m args below meth c cells slots Q nL Φ pc lv (.int x :: rest) := fun H locs ls hΦ hl => lv_if_ge hx hb hdg ht (fun hc => kt ((if_pos hc).symm.trans h) H locs ls hΦ hl) (fun hc => kf ((if_neg hc).symm.trans h) H locs ls hΦ hl)
theorem sw_icmp_ge (hx : p.tables.exec = Jvm.exec) (hb : c.code = cc) {x y : Int32} {off : Int} (tgt : Nat) {α : Type} {E1 E2 : Option α} {r : α} (hdg : decode cc pc = .ok (.if_icmp .ge off, 3)) (ht : (pc : Int) + off = (tgt : Int)) (h : (if y ≤ x then E1 else E2) = some r) (kt : E1 = some r → SW p l e R s m args below meth c cells slots Q nL Φ tgt lv rest) (kf : E2 = some r → SW p l e R s m args below meth c cells slots Q nL Φ (pc + 3) lv rest) : SW p l e R s m args below meth c cells slots Q nL Φ pc lv (.int y :: .int x :: rest) := fun H locs ls hΦ hl => lv_icmp_ge hx hb hdg ht (fun hc => kt ((if_pos hc).symm.trans h) H locs ls hΦ hl) (fun hc => kf ((if_neg hc).symm.trans h) H locs ls hΦ hl)
theorem sw_if_gt (hx : p.tables.exec = Jvm.exec) (hb : c.code = cc) {x : Int32} {off : Int} (tgt : Nat) {α : Type} {E1 E2 : Option α} {r : α} (hdg : decode cc pc = .ok (.ifCond .gt off, 3)) (ht : (pc : Int) + off = (tgt : Int)) (h : (if 0 < x then E1 else E2) = some r) (kt : E1 = some r → SW p l e R s m args below meth c cells slots Q nL Φ tgt lv rest) (kf : E2 = some r → SW p l e R s m args below meth c cells slots Q nL Φ (pc + 3) lv rest) : SW p l e R s m args below meth c cells slots Q nL Φ pc lv (.int x :: rest) := fun H locs ls hΦ hl => lv_if_gt hx hb hdg ht (fun hc => kt ((if_pos hc).symm.trans h) H locs ls hΦ hl) (fun hc => kf ((if_neg hc).symm.trans h) H locs ls hΦ hl)
theorem sw_icmp_gt (hx : p.tables.exec = Jvm.exec) (hb : c.code = cc) {x y : Int32} {off : Int} (tgt : Nat) {α : Type} {E1 E2 : Option α} {r : α} (hdg : decode cc pc = .ok (.if_icmp .gt off, 3)) (ht : (pc : Int) + off = (tgt : Int)) (h : (if y < x then E1 else E2) = some r) (kt : E1 = some r → SW p l e R s m args below meth c cells slots Q nL Φ tgt lv rest) (kf : E2 = some r → SW p l e R s m args below meth c cells slots Q nL Φ (pc + 3) lv rest) : SW p l e R s m args below meth c cells slots Q nL Φ pc lv (.int y :: .int x :: rest) := fun H locs ls hΦ hl => lv_icmp_gt hx hb hdg ht (fun hc => kt ((if_pos hc).symm.trans h) H locs ls hΦ hl) (fun hc => kf ((if_neg hc).symm.trans h) H locs ls hΦ hl)
theorem sw_if_le (hx : p.tables.exec = Jvm.exec) (hb : c.code = cc) {x : Int32} {off : Int} (tgt : Nat) {α : Type} {E1 E2 : Option α} {r : α} (hdg : decode cc pc = .ok (.ifCond .le off, 3)) (ht : (pc : Int) + off = (tgt : Int)) (h : (if x ≤ 0 then E1 else E2) = some r) (kt : E1 = some r → SW p l e R s m args below meth c cells slots Q nL Φ tgt lv rest) (kf : E2 = some r → SW p l e R s m args below meth c cells slots Q nL Φ (pc + 3) lv rest) : SW p l e R s m args below meth c cells slots Q nL Φ pc lv (.int x :: rest) := fun H locs ls hΦ hl => lv_if_le hx hb hdg ht (fun hc => kt ((if_pos hc).symm.trans h) H locs ls hΦ hl) (fun hc => kf ((if_neg hc).symm.trans h) H locs ls hΦ hl)
theorem sw_icmp_le (hx : p.tables.exec = Jvm.exec) (hb : c.code = cc) {x y : Int32} {off : Int} (tgt : Nat) {α : Type} {E1 E2 : Option α} {r : α} (hdg : decode cc pc = .ok (.if_icmp .le off, 3)) (ht : (pc : Int) + off = (tgt : Int)) (h : (if x ≤ y then E1 else E2) = some r) (kt : E1 = some r → SW p l e R s m args below meth c cells slots Q nL Φ tgt lv rest) (kf : E2 = some r → SW p l e R s m args below meth c cells slots Q nL Φ (pc + 3) lv rest) : SW p l e R s m args below meth c cells slots Q nL Φ pc lv (.int y :: .int x :: rest) := fun H locs ls hΦ hl => lv_icmp_le hx hb hdg ht (fun hc => kt ((if_pos hc).symm.trans h) H locs ls hΦ hl) (fun hc => kf ((if_neg hc).symm.trans h) H locs ls hΦ hl)
theorem sw_sub {lv1 : List (Nat × Value)} (ks : List Nat) (h1 : lv_pick lv ks = lv1) (kk : SW p l e R s m args below meth c cells slots Q nL Φ pc lv1 rest) : SW p l e R s m args below meth c cells slots Q nL Φ pc lv rest := fun H locs ls hΦ hl => kk H locs ls hΦ (lv_sub hl ks h1)
theorem sw_tableOut (hx : p.tables.exec = Jvm.exec) (hb : c.code = cc) {dflt lo hi : Int} {offs : Array Int} {len : Nat} {x : Int32} (tgt : Nat) (hdg : decode cc pc = .ok (.tableswitch dflt lo hi offs, len)) (h : x.toInt < lo ∨ hi < x.toInt) (ht : (pc : Int) + dflt = (tgt : Int)) (kk : SW p l e R s m args below meth c cells slots Q nL Φ tgt lv rest) : SW p l e R s m args below meth c cells slots Q nL Φ pc lv (.int x :: rest) := fun H locs ls hΦ hl => lv_tableOut hx hb hdg h ht (kk H locs ls hΦ hl)
theorem sw_tableIn (hx : p.tables.exec = Jvm.exec) (hb : c.code = cc) {dflt lo hi : Int} {offs : Array Int} {len : Nat} {x : Int32} {off : Int} (tgt : Nat) (hdg : decode cc pc = .ok (.tableswitch dflt lo hi offs, len)) (h1 : ¬ x.toInt < lo) (h2 : ¬ hi < x.toInt) (ho : offs[(x.toInt - lo).toNat]? = some off) (ht : (pc : Int) + off = (tgt : Int)) (kk : SW p l e R s m args below meth c cells slots Q nL Φ tgt lv rest) : SW p l e R s m args below meth c cells slots Q nL Φ pc lv (.int x :: rest) := fun H locs ls hΦ hl => lv_tableIn hx hb hdg h1 h2 ho ht (kk H locs ls hΦ hl)
theorem sw_lookup (hx : p.tables.exec = Jvm.exec) (hb : c.code = cc) {dflt : Int} {ps : Array (Int × Int)} {len : Nat} {x : Int32} {off : Int} (tgt : Nat) (hdg : decode cc pc = .ok (.lookupswitch dflt ps, len)) (hp : (ps.toList.zip (ps.toList.drop 1)).all (fun (a, next) => a.1 < next.1) = true) (ho : Op.lookupswitch.offset ps.toList dflt x.toInt = off) (ht : (pc : Int) + off = (tgt : Int)) (kk : SW p l e R s m args below meth c cells slots Q nL Φ tgt lv rest) : SW p l e R s m args below meth c cells slots Q nL Φ pc lv (.int x :: rest) := fun H locs ls hΦ hl => lv_lookup hx hb hdg hp ho ht (kk H locs ls hΦ hl)
theorem ifc {α : Type} {P : Prop} [Decidable P] {E1 E2 : Option α} {r : α} {G : Prop} (h : (if P then E1 else E2) = some r) (k1 : P → E1 = some r → G) (k2 : ¬ P → E2 = some r → G) : G := by
  by_cases hP : P
  · exact k1 hP ((if_pos hP).symm.trans h)
  · exact k2 hP ((if_neg hP).symm.trans h)
end SWR
def PH (D : va_G) (cy : Nat → ClassId) (ad : Nat → Nat) (ids : List Nat) (s : State) (M : Mem) : Heap → List Loc → Prop := fun H locs => va_P D vwCl (wl cy ad ids M) H ∧ va_S (AA ad ids) s.heap H locs
def CX (p : Program) (s : State) (m : MethodId) (args : Array Value) (meth : Method) (c : Code) (D : va_G) (cy : Nat → ClassId) (ad : Nat → Nat) (ids : List Nat) (cc : ByteArray) (nL : Nat) (Ts : List Cond) (own : String) : Prop :=
  p.tables.exec = Jvm.exec ∧ c.code = cc ∧ c.maxLocals = nL ∧ s.vm.findClass own = some m.cls ∧ (∀ w ∈ Ts, w.before args s = true) ∧ va_K D vwCl (tyL cy) s ∧ (∀ M : Mem, va_D (AA ad ids) (wl cy ad ids M)) ∧ ids.Nodup ∧ meth.locks = false ∧ NWs s
section SWM
variable {p : Program} {l : Launch} {e : Env} {R : Room} {s : State} {m : MethodId} {args : Array Value} {below : List Frame} {meth : Method} {c : Code} {cells slots : Nat} {Q : State → Prop} {nL : Nat} {cc : ByteArray} {pc : Nat} {lv : List (Nat × Value)} {rest : List Value} {D : va_G} {cy : Nat → ClassId} {ad : Nat → Nat} {ids : List Nat} {Ts : List Cond} {own : String} {M : Mem} {o : Nat}
theorem ids_at {ids : List Nat} {o : Nat} (h : o ∈ ids) : ∃ k : Nat, ids[k]? = some o := by
  obtain ⟨k, hk, e⟩ := List.getElem_of_mem h
  exact ⟨k, by rw [List.getElem?_eq_getElem hk, e]⟩
theorem sw_get (X : CX p s m args meth c D cy ad ids cc nL Ts own) {C : String} {T : u_T} {N ci index : Nat} {fs : List Value} {v : Value} (hin : ∀ w ∈ u_ws C T N, w ∈ Ts) (ho : o ∈ ids) (he : ce cy ad M o = .inr (ci, fs)) (hc : vwCl[ci]? = some (C, T, N)) (k : Nat) (hk : k < N) (hlink : (Cond.fieldLink own index (T k).1 (T k).2.1 (T k).2.2.1) ∈ Ts) (hv : fs[k]? = some v) (hdg : decode cc pc = .ok (.getfield index, 3)) (kk : SW p l e R s m args below meth c cells slots Q nL (PH D cy ad ids s M) (pc + 3) lv (v :: rest)) : SW p l e R s m args below meth c cells slots Q nL (PH D cy ad ids s M) pc lv (.ref (ad o) :: rest) := by
  intro H locs ls hΦ hl
  obtain ⟨hx, hb, hml, hown, hts, hK, hD, hN, hlk, hNW⟩ := X
  obtain ⟨q0, hq⟩ := ids_at ho
  exact va_get (D := D) hx hb hts hin hown hK hΦ.1 q0 ((wl_at hq).trans (congrArg (fun e => some (ad o, e)) he)) hc k hk (hts _ hlink) (fun _ h9 => h9) hv hdg (kk H locs ls hΦ hl)
theorem sw_getN (X : CX p s m args meth c D cy ad ids cc nL Ts own) {C : String} {T : u_T} {N ci index : Nat} {host : String} {fs : List Value} {v : Value} (hin : ∀ w ∈ u_ws C T N, w ∈ Ts) (ho : o ∈ ids) (he : ce cy ad M o = .inr (ci, fs)) (hc : vwCl[ci]? = some (C, T, N)) (k : Nat) (hk : k < N) (hlink : (Cond.fieldLinkNest own index (T k).1 (T k).2.1 (T k).2.2.1 host) ∈ NWL) (hv : fs[k]? = some v) (hdg : decode cc pc = .ok (.getfield index, 3)) (kk : SW p l e R s m args below meth c cells slots Q nL (PH D cy ad ids s M) (pc + 3) lv (v :: rest)) : SW p l e R s m args below meth c cells slots Q nL (PH D cy ad ids s M) pc lv (.ref (ad o) :: rest) := by
  intro H locs ls hΦ hl
  obtain ⟨hx, hb, hml, hown, hts, hK, hD, hN, hlk, hNW⟩ := X
  obtain ⟨q0, hq⟩ := ids_at ho
  exact va_getN (D := D) hx hb hts hin hown hK hΦ.1 q0 ((wl_at hq).trans (congrArg (fun e => some (ad o, e)) he)) hc k hk (va_Nw.use rfl (hNW _ hlink)) (fun _ h9 => h9) hv hdg (kk H locs ls hΦ hl)
theorem sw_putI (X : CX p s m args meth c D cy ad ids cc nL Ts own) {C : String} {T : u_T} {N ci index : Nat} {fs : List Value} {ty : FieldType} {v : Int32} (ty0 : Nat → FieldType) (hty : ∀ k, k < N → parseFieldDescriptor (T k).2.2.1 = some (ty0 k)) (hnm : ∀ a, a < N → ∀ b, b < N → a ≠ b → (T a).2.1 ≠ (T b).2.1) (hin : ∀ w ∈ u_ws C T N, w ∈ Ts) (ho : o ∈ ids) (he : ce cy ad M o = .inr (ci, fs)) (hc : vwCl[ci]? = some (C, T, N)) (k : Nat) (hk : k < N) (hlink : (Cond.fieldLink own index (T k).1 (T k).2.1 (T k).2.2.1) ∈ Ts) (hfin : (T k).2.2.2 = false) (hd : parseFieldDescriptor (T k).2.2.1 = some ty) (hn : narrow ty (.int v) = (.int v)) (hfit : fits ty (.int v) = true) (hl0 : k < fs.length) (hset : ce cy ad (setI M o k v) o = .inr (ci, fs.set k (.int v))) (hdg : decode cc pc = .ok (.putfield index, 3)) {β : Type} {K : Mem → Option β} {r : β} (h : lt_ (setI M o k v) K = some r) (kk : ∀ M1 : Mem, K M1 = some r → SW p l e R s m args below meth c cells slots Q nL (PH D cy ad ids s M1) (pc + 3) lv rest) : SW p l e R s m args below meth c cells slots Q nL (PH D cy ad ids s M) pc lv (.int v :: .ref (ad o) :: rest) := by
  intro H locs ls hΦ hl
  obtain ⟨hx, hb, hml, hown, hts, hK, hD, hN, hlk, hNW⟩ := X
  obtain ⟨q0, hq⟩ := ids_at ho
  refine va_put (D := D) (A := AA ad ids) hx hb hts hin ty0 hty hnm hown hK hΦ.1 (hD M) hΦ.2 q0 ((wl_at hq).trans (congrArg (fun e => some (ad o, e)) he)) hc k hk (hts _ hlink) (fun _ h9 => h9) hfin hd hn hfit hl0 hdg (fun H1 locs1 hP1 hD1 hS1 => ?_)
  rw [wl_set hN hq hset (fun a h => ce_neI h)] at hP1
  exact kk _ h H1 locs1 ls ⟨hP1, hS1⟩ hl
theorem sw_putJ (X : CX p s m args meth c D cy ad ids cc nL Ts own) {C : String} {T : u_T} {N ci index : Nat} {fs : List Value} {ty : FieldType} {v : Int64} (ty0 : Nat → FieldType) (hty : ∀ k, k < N → parseFieldDescriptor (T k).2.2.1 = some (ty0 k)) (hnm : ∀ a, a < N → ∀ b, b < N → a ≠ b → (T a).2.1 ≠ (T b).2.1) (hin : ∀ w ∈ u_ws C T N, w ∈ Ts) (ho : o ∈ ids) (he : ce cy ad M o = .inr (ci, fs)) (hc : vwCl[ci]? = some (C, T, N)) (k : Nat) (hk : k < N) (hlink : (Cond.fieldLink own index (T k).1 (T k).2.1 (T k).2.2.1) ∈ Ts) (hfin : (T k).2.2.2 = false) (hd : parseFieldDescriptor (T k).2.2.1 = some ty) (hn : narrow ty (.long v) = (.long v)) (hfit : fits ty (.long v) = true) (hl0 : k < fs.length) (hset : ce cy ad (setJ M o k v) o = .inr (ci, fs.set k (.long v))) (hdg : decode cc pc = .ok (.putfield index, 3)) {β : Type} {K : Mem → Option β} {r : β} (h : lt_ (setJ M o k v) K = some r) (kk : ∀ M1 : Mem, K M1 = some r → SW p l e R s m args below meth c cells slots Q nL (PH D cy ad ids s M1) (pc + 3) lv rest) : SW p l e R s m args below meth c cells slots Q nL (PH D cy ad ids s M) pc lv (.long v :: .ref (ad o) :: rest) := by
  intro H locs ls hΦ hl
  obtain ⟨hx, hb, hml, hown, hts, hK, hD, hN, hlk, hNW⟩ := X
  obtain ⟨q0, hq⟩ := ids_at ho
  refine va_put (D := D) (A := AA ad ids) hx hb hts hin ty0 hty hnm hown hK hΦ.1 (hD M) hΦ.2 q0 ((wl_at hq).trans (congrArg (fun e => some (ad o, e)) he)) hc k hk (hts _ hlink) (fun _ h9 => h9) hfin hd hn hfit hl0 hdg (fun H1 locs1 hP1 hD1 hS1 => ?_)
  rw [wl_set hN hq hset (fun a h => ce_neJ h)] at hP1
  exact kk _ h H1 locs1 ls ⟨hP1, hS1⟩ hl
theorem sw_putR (X : CX p s m args meth c D cy ad ids cc nL Ts own) {C : String} {T : u_T} {N ci index : Nat} {fs : List Value} {ty : FieldType} {v : Nat} (ty0 : Nat → FieldType) (hty : ∀ k, k < N → parseFieldDescriptor (T k).2.2.1 = some (ty0 k)) (hnm : ∀ a, a < N → ∀ b, b < N → a ≠ b → (T a).2.1 ≠ (T b).2.1) (hin : ∀ w ∈ u_ws C T N, w ∈ Ts) (ho : o ∈ ids) (he : ce cy ad M o = .inr (ci, fs)) (hc : vwCl[ci]? = some (C, T, N)) (k : Nat) (hk : k < N) (hlink : (Cond.fieldLink own index (T k).1 (T k).2.1 (T k).2.2.1) ∈ Ts) (hfin : (T k).2.2.2 = false) (hd : parseFieldDescriptor (T k).2.2.1 = some ty) (hn : narrow ty (.ref (ad v)) = (.ref (ad v))) (hfit : fits ty (.ref (ad v)) = true) (hl0 : k < fs.length) (hset : ce cy ad (setR M o k v) o = .inr (ci, fs.set k (.ref (ad v)))) (hdg : decode cc pc = .ok (.putfield index, 3)) {β : Type} {K : Mem → Option β} {r : β} (h : lt_ (setR M o k v) K = some r) (kk : ∀ M1 : Mem, K M1 = some r → SW p l e R s m args below meth c cells slots Q nL (PH D cy ad ids s M1) (pc + 3) lv rest) : SW p l e R s m args below meth c cells slots Q nL (PH D cy ad ids s M) pc lv (.ref (ad v) :: .ref (ad o) :: rest) := by
  intro H locs ls hΦ hl
  obtain ⟨hx, hb, hml, hown, hts, hK, hD, hN, hlk, hNW⟩ := X
  obtain ⟨q0, hq⟩ := ids_at ho
  refine va_put (D := D) (A := AA ad ids) hx hb hts hin ty0 hty hnm hown hK hΦ.1 (hD M) hΦ.2 q0 ((wl_at hq).trans (congrArg (fun e => some (ad o, e)) he)) hc k hk (hts _ hlink) (fun _ h9 => h9) hfin hd hn hfit hl0 hdg (fun H1 locs1 hP1 hD1 hS1 => ?_)
  rw [wl_set hN hq hset (fun a h => ce_neR h)] at hP1
  exact kk _ h H1 locs1 ls ⟨hP1, hS1⟩ hl
theorem sw_putIN (X : CX p s m args meth c D cy ad ids cc nL Ts own) {C : String} {T : u_T} {N ci index : Nat} {host : String} {fs : List Value} {ty : FieldType} {v : Int32} (ty0 : Nat → FieldType) (hty : ∀ k, k < N → parseFieldDescriptor (T k).2.2.1 = some (ty0 k)) (hnm : ∀ a, a < N → ∀ b, b < N → a ≠ b → (T a).2.1 ≠ (T b).2.1) (hin : ∀ w ∈ u_ws C T N, w ∈ Ts) (ho : o ∈ ids) (he : ce cy ad M o = .inr (ci, fs)) (hc : vwCl[ci]? = some (C, T, N)) (k : Nat) (hk : k < N) (hlink : (Cond.fieldLinkNest own index (T k).1 (T k).2.1 (T k).2.2.1 host) ∈ NWL) (hfin : (T k).2.2.2 = false) (hd : parseFieldDescriptor (T k).2.2.1 = some ty) (hn : narrow ty (.int v) = (.int v)) (hfit : fits ty (.int v) = true) (hl0 : k < fs.length) (hset : ce cy ad (setI M o k v) o = .inr (ci, fs.set k (.int v))) (hdg : decode cc pc = .ok (.putfield index, 3)) {β : Type} {K : Mem → Option β} {r : β} (h : lt_ (setI M o k v) K = some r) (kk : ∀ M1 : Mem, K M1 = some r → SW p l e R s m args below meth c cells slots Q nL (PH D cy ad ids s M1) (pc + 3) lv rest) : SW p l e R s m args below meth c cells slots Q nL (PH D cy ad ids s M) pc lv (.int v :: .ref (ad o) :: rest) := by
  intro H locs ls hΦ hl
  obtain ⟨hx, hb, hml, hown, hts, hK, hD, hN, hlk, hNW⟩ := X
  obtain ⟨q0, hq⟩ := ids_at ho
  refine va_putN (D := D) (A := AA ad ids) hx hb hts hin ty0 hty hnm hown hK hΦ.1 (hD M) hΦ.2 q0 ((wl_at hq).trans (congrArg (fun e => some (ad o, e)) he)) hc k hk (va_Nw.use rfl (hNW _ hlink)) (fun _ h9 => h9) hfin hd hn hfit hl0 hdg (fun H1 locs1 hP1 hD1 hS1 => ?_)
  rw [wl_set hN hq hset (fun a h => ce_neI h)] at hP1
  exact kk _ h H1 locs1 ls ⟨hP1, hS1⟩ hl
theorem sw_putJN (X : CX p s m args meth c D cy ad ids cc nL Ts own) {C : String} {T : u_T} {N ci index : Nat} {host : String} {fs : List Value} {ty : FieldType} {v : Int64} (ty0 : Nat → FieldType) (hty : ∀ k, k < N → parseFieldDescriptor (T k).2.2.1 = some (ty0 k)) (hnm : ∀ a, a < N → ∀ b, b < N → a ≠ b → (T a).2.1 ≠ (T b).2.1) (hin : ∀ w ∈ u_ws C T N, w ∈ Ts) (ho : o ∈ ids) (he : ce cy ad M o = .inr (ci, fs)) (hc : vwCl[ci]? = some (C, T, N)) (k : Nat) (hk : k < N) (hlink : (Cond.fieldLinkNest own index (T k).1 (T k).2.1 (T k).2.2.1 host) ∈ NWL) (hfin : (T k).2.2.2 = false) (hd : parseFieldDescriptor (T k).2.2.1 = some ty) (hn : narrow ty (.long v) = (.long v)) (hfit : fits ty (.long v) = true) (hl0 : k < fs.length) (hset : ce cy ad (setJ M o k v) o = .inr (ci, fs.set k (.long v))) (hdg : decode cc pc = .ok (.putfield index, 3)) {β : Type} {K : Mem → Option β} {r : β} (h : lt_ (setJ M o k v) K = some r) (kk : ∀ M1 : Mem, K M1 = some r → SW p l e R s m args below meth c cells slots Q nL (PH D cy ad ids s M1) (pc + 3) lv rest) : SW p l e R s m args below meth c cells slots Q nL (PH D cy ad ids s M) pc lv (.long v :: .ref (ad o) :: rest) := by
  intro H locs ls hΦ hl
  obtain ⟨hx, hb, hml, hown, hts, hK, hD, hN, hlk, hNW⟩ := X
  obtain ⟨q0, hq⟩ := ids_at ho
  refine va_putN (D := D) (A := AA ad ids) hx hb hts hin ty0 hty hnm hown hK hΦ.1 (hD M) hΦ.2 q0 ((wl_at hq).trans (congrArg (fun e => some (ad o, e)) he)) hc k hk (va_Nw.use rfl (hNW _ hlink)) (fun _ h9 => h9) hfin hd hn hfit hl0 hdg (fun H1 locs1 hP1 hD1 hS1 => ?_)
  rw [wl_set hN hq hset (fun a h => ce_neJ h)] at hP1
  exact kk _ h H1 locs1 ls ⟨hP1, hS1⟩ hl
theorem sw_putRN (X : CX p s m args meth c D cy ad ids cc nL Ts own) {C : String} {T : u_T} {N ci index : Nat} {host : String} {fs : List Value} {ty : FieldType} {v : Nat} (ty0 : Nat → FieldType) (hty : ∀ k, k < N → parseFieldDescriptor (T k).2.2.1 = some (ty0 k)) (hnm : ∀ a, a < N → ∀ b, b < N → a ≠ b → (T a).2.1 ≠ (T b).2.1) (hin : ∀ w ∈ u_ws C T N, w ∈ Ts) (ho : o ∈ ids) (he : ce cy ad M o = .inr (ci, fs)) (hc : vwCl[ci]? = some (C, T, N)) (k : Nat) (hk : k < N) (hlink : (Cond.fieldLinkNest own index (T k).1 (T k).2.1 (T k).2.2.1 host) ∈ NWL) (hfin : (T k).2.2.2 = false) (hd : parseFieldDescriptor (T k).2.2.1 = some ty) (hn : narrow ty (.ref (ad v)) = (.ref (ad v))) (hfit : fits ty (.ref (ad v)) = true) (hl0 : k < fs.length) (hset : ce cy ad (setR M o k v) o = .inr (ci, fs.set k (.ref (ad v)))) (hdg : decode cc pc = .ok (.putfield index, 3)) {β : Type} {K : Mem → Option β} {r : β} (h : lt_ (setR M o k v) K = some r) (kk : ∀ M1 : Mem, K M1 = some r → SW p l e R s m args below meth c cells slots Q nL (PH D cy ad ids s M1) (pc + 3) lv rest) : SW p l e R s m args below meth c cells slots Q nL (PH D cy ad ids s M) pc lv (.ref (ad v) :: .ref (ad o) :: rest) := by
  intro H locs ls hΦ hl
  obtain ⟨hx, hb, hml, hown, hts, hK, hD, hN, hlk, hNW⟩ := X
  obtain ⟨q0, hq⟩ := ids_at ho
  refine va_putN (D := D) (A := AA ad ids) hx hb hts hin ty0 hty hnm hown hK hΦ.1 (hD M) hΦ.2 q0 ((wl_at hq).trans (congrArg (fun e => some (ad o, e)) he)) hc k hk (va_Nw.use rfl (hNW _ hlink)) (fun _ h9 => h9) hfin hd hn hfit hl0 hdg (fun H1 locs1 hP1 hD1 hS1 => ?_)
  rw [wl_set hN hq hset (fun a h => ce_neR h)] at hP1
  exact kk _ h H1 locs1 ls ⟨hP1, hS1⟩ hl
def iald_ {β : Type} (M : Mem) (o : Nat) (i : Int32) (k : Int32 → Option β) : Option β := if i < 0 ∨ ln o ≤ i.toNatClampNeg then none else k (gI M o i.toNatClampNeg)
theorem sw_iald (X : CX p s m args meth c D cy ad ids cc nL Ts own) {i : Int32} {β : Type} {K : Int32 → Option β} {r : β} (ho : o ∈ ids) (he : kd o = 9) (hdg : decode cc pc = .ok (.iaload, 1)) (h : iald_ M o i K = some r) (kk : ∀ v : Int32, K v = some r → SW p l e R s m args below meth c cells slots Q nL (PH D cy ad ids s M) (pc + 1) lv (.int v :: rest)) : SW p l e R s m args below meth c cells slots Q nL (PH D cy ad ids s M) pc lv (.int i :: .ref (ad o) :: rest) := by
  intro H locs ls hΦ hl
  obtain ⟨hx, hb, hml, hown, hts, hK, hD, hN, hlk, hNW⟩ := X
  obtain ⟨q0, hq⟩ := ids_at ho
  unfold iald_ at h
  by_cases hb0 : i < 0 ∨ ln o ≤ i.toNatClampNeg
  · rw [if_pos hb0] at h; cases h
  · rw [if_neg hb0] at h
    exact va_iald (D := D) hx hb hK hΦ.1 q0 1 ((wl_at hq).trans (congrArg (fun e => some (ad o, e)) (ce_9 he))) rfl hb0 hdg (kk _ h H locs ls hΦ hl)
def bald_ {β : Type} (M : Mem) (o : Nat) (i : Int32) (k : Int32 → Option β) : Option β := if i < 0 ∨ ln o ≤ i.toNatClampNeg then none else k (gI M o i.toNatClampNeg)
theorem sw_bald (X : CX p s m args meth c D cy ad ids cc nL Ts own) {i : Int32} {β : Type} {K : Int32 → Option β} {r : β} (ho : o ∈ ids) (he : kd o = 8) (hdg : decode cc pc = .ok (.baload, 1)) (h : bald_ M o i K = some r) (kk : ∀ v : Int32, K v = some r → SW p l e R s m args below meth c cells slots Q nL (PH D cy ad ids s M) (pc + 1) lv (.int v :: rest)) : SW p l e R s m args below meth c cells slots Q nL (PH D cy ad ids s M) pc lv (.int i :: .ref (ad o) :: rest) := by
  intro H locs ls hΦ hl
  obtain ⟨hx, hb, hml, hown, hts, hK, hD, hN, hlk, hNW⟩ := X
  obtain ⟨q0, hq⟩ := ids_at ho
  unfold bald_ at h
  by_cases hb0 : i < 0 ∨ ln o ≤ i.toNatClampNeg
  · rw [if_pos hb0] at h; cases h
  · rw [if_neg hb0] at h
    exact va_bald (D := D) hx hb hK hΦ.1 q0 0 ((wl_at hq).trans (congrArg (fun e => some (ad o, e)) (ce_8 he))) rfl hb0 hdg (kk _ h H locs ls hΦ hl)
def zald_ {β : Type} (M : Mem) (o : Nat) (i : Int32) (k : Int32 → Option β) : Option β := if i < 0 ∨ ln o ≤ i.toNatClampNeg then none else k (gI M o i.toNatClampNeg)
theorem sw_zald (X : CX p s m args meth c D cy ad ids cc nL Ts own) {i : Int32} {β : Type} {K : Int32 → Option β} {r : β} (ho : o ∈ ids) (he : kd o = 11) (hdg : decode cc pc = .ok (.baload, 1)) (h : zald_ M o i K = some r) (kk : ∀ v : Int32, K v = some r → SW p l e R s m args below meth c cells slots Q nL (PH D cy ad ids s M) (pc + 1) lv (.int v :: rest)) : SW p l e R s m args below meth c cells slots Q nL (PH D cy ad ids s M) pc lv (.int i :: .ref (ad o) :: rest) := by
  intro H locs ls hΦ hl
  obtain ⟨hx, hb, hml, hown, hts, hK, hD, hN, hlk, hNW⟩ := X
  obtain ⟨q0, hq⟩ := ids_at ho
  unfold zald_ at h
  by_cases hb0 : i < 0 ∨ ln o ≤ i.toNatClampNeg
  · rw [if_pos hb0] at h; cases h
  · rw [if_neg hb0] at h
    exact va_zald (D := D) hx hb hK hΦ.1 q0 3 ((wl_at hq).trans (congrArg (fun e => some (ad o, e)) (ce_11 he))) rfl hb0 hdg (kk _ h H locs ls hΦ hl)
def lald_ {β : Type} (M : Mem) (o : Nat) (i : Int32) (k : Int64 → Option β) : Option β := if i < 0 ∨ ln o ≤ i.toNatClampNeg then none else k (gJ M o i.toNatClampNeg)
theorem sw_lald (X : CX p s m args meth c D cy ad ids cc nL Ts own) {i : Int32} {β : Type} {K : Int64 → Option β} {r : β} (ho : o ∈ ids) (he : kd o = 10) (hdg : decode cc pc = .ok (.laload, 1)) (h : lald_ M o i K = some r) (kk : ∀ v : Int64, K v = some r → SW p l e R s m args below meth c cells slots Q nL (PH D cy ad ids s M) (pc + 1) lv (.long v :: rest)) : SW p l e R s m args below meth c cells slots Q nL (PH D cy ad ids s M) pc lv (.int i :: .ref (ad o) :: rest) := by
  intro H locs ls hΦ hl
  obtain ⟨hx, hb, hml, hown, hts, hK, hD, hN, hlk, hNW⟩ := X
  obtain ⟨q0, hq⟩ := ids_at ho
  unfold lald_ at h
  by_cases hb0 : i < 0 ∨ ln o ≤ i.toNatClampNeg
  · rw [if_pos hb0] at h; cases h
  · rw [if_neg hb0] at h
    exact va_lald (D := D) hx hb hK hΦ.1 q0 2 ((wl_at hq).trans (congrArg (fun e => some (ad o, e)) (ce_10 he))) rfl hb0 hdg (kk _ h H locs ls hΦ hl)
def iast_ {β : Type} (M : Mem) (o : Nat) (i : Int32) (x : Int32) (k : Mem → Option β) : Option β := if i < 0 ∨ ln o ≤ i.toNatClampNeg then none else k (setI M o i.toNatClampNeg x)
theorem sw_iast (X : CX p s m args meth c D cy ad ids cc nL Ts own) {i : Int32} {x : Int32} {β : Type} {K : Mem → Option β} {r : β} (ho : o ∈ ids) (he : kd o = 9) (hdg : decode cc pc = .ok (.iastore, 1)) (h : iast_ M o i x K = some r) (kk : ∀ M1 : Mem, K M1 = some r → SW p l e R s m args below meth c cells slots Q nL (PH D cy ad ids s M1) (pc + 1) lv rest) : SW p l e R s m args below meth c cells slots Q nL (PH D cy ad ids s M) pc lv (.int x :: .int i :: .ref (ad o) :: rest) := by
  intro H locs ls hΦ hl
  obtain ⟨hx, hb, hml, hown, hts, hK, hD, hN, hlk, hNW⟩ := X
  obtain ⟨q0, hq⟩ := ids_at ho
  unfold iast_ at h
  by_cases hb0 : i < 0 ∨ ln o ≤ i.toNatClampNeg
  · rw [if_pos hb0] at h; cases h
  · rw [if_neg hb0] at h
    refine va_iast (D := D) (A := AA ad ids) hx hb hK hΦ.1 (hD M) hΦ.2 q0 1 ((wl_at hq).trans (congrArg (fun e => some (ad o, e)) (ce_9 he))) rfl hb0 hdg (fun H1 locs1 hP1 hD1 hS1 => ?_)
    rw [wl_set hN hq (M1 := setI M o i.toNatClampNeg x) ((ce_9 he).trans (by rw [gI_upd])) (fun a h => ce_neI h)] at hP1
    exact kk _ h H1 locs1 ls ⟨hP1, hS1⟩ hl
def bast_ {β : Type} (M : Mem) (o : Nat) (i : Int32) (x : Int32) (k : Mem → Option β) : Option β := if i < 0 ∨ ln o ≤ i.toNatClampNeg then none else k (setI M o i.toNatClampNeg (vp_nar .byte x))
theorem sw_bast (X : CX p s m args meth c D cy ad ids cc nL Ts own) {i : Int32} {x : Int32} {β : Type} {K : Mem → Option β} {r : β} (ho : o ∈ ids) (he : kd o = 8) (hdg : decode cc pc = .ok (.bastore, 1)) (h : bast_ M o i x K = some r) (kk : ∀ M1 : Mem, K M1 = some r → SW p l e R s m args below meth c cells slots Q nL (PH D cy ad ids s M1) (pc + 1) lv rest) : SW p l e R s m args below meth c cells slots Q nL (PH D cy ad ids s M) pc lv (.int x :: .int i :: .ref (ad o) :: rest) := by
  intro H locs ls hΦ hl
  obtain ⟨hx, hb, hml, hown, hts, hK, hD, hN, hlk, hNW⟩ := X
  obtain ⟨q0, hq⟩ := ids_at ho
  unfold bast_ at h
  by_cases hb0 : i < 0 ∨ ln o ≤ i.toNatClampNeg
  · rw [if_pos hb0] at h; cases h
  · rw [if_neg hb0] at h
    refine va_bast (D := D) (A := AA ad ids) hx hb hK hΦ.1 (hD M) hΦ.2 q0 0 ((wl_at hq).trans (congrArg (fun e => some (ad o, e)) (ce_8 he))) rfl hb0 hdg (fun H1 locs1 hP1 hD1 hS1 => ?_)
    rw [wl_set hN hq (M1 := setI M o i.toNatClampNeg (vp_nar .byte x)) ((ce_8 he).trans (by rw [gI_upd])) (fun a h => ce_neI h)] at hP1
    exact kk _ h H1 locs1 ls ⟨hP1, hS1⟩ hl
def zast_ {β : Type} (M : Mem) (o : Nat) (i : Int32) (x : Int32) (k : Mem → Option β) : Option β := if i < 0 ∨ ln o ≤ i.toNatClampNeg then none else k (setI M o i.toNatClampNeg (vp_nar .boolean x))
theorem sw_zast (X : CX p s m args meth c D cy ad ids cc nL Ts own) {i : Int32} {x : Int32} {β : Type} {K : Mem → Option β} {r : β} (ho : o ∈ ids) (he : kd o = 11) (hdg : decode cc pc = .ok (.bastore, 1)) (h : zast_ M o i x K = some r) (kk : ∀ M1 : Mem, K M1 = some r → SW p l e R s m args below meth c cells slots Q nL (PH D cy ad ids s M1) (pc + 1) lv rest) : SW p l e R s m args below meth c cells slots Q nL (PH D cy ad ids s M) pc lv (.int x :: .int i :: .ref (ad o) :: rest) := by
  intro H locs ls hΦ hl
  obtain ⟨hx, hb, hml, hown, hts, hK, hD, hN, hlk, hNW⟩ := X
  obtain ⟨q0, hq⟩ := ids_at ho
  unfold zast_ at h
  by_cases hb0 : i < 0 ∨ ln o ≤ i.toNatClampNeg
  · rw [if_pos hb0] at h; cases h
  · rw [if_neg hb0] at h
    refine va_zast (D := D) (A := AA ad ids) hx hb hK hΦ.1 (hD M) hΦ.2 q0 3 ((wl_at hq).trans (congrArg (fun e => some (ad o, e)) (ce_11 he))) rfl hb0 hdg (fun H1 locs1 hP1 hD1 hS1 => ?_)
    rw [wl_set hN hq (M1 := setI M o i.toNatClampNeg (vp_nar .boolean x)) ((ce_11 he).trans (by rw [gI_upd])) (fun a h => ce_neI h)] at hP1
    exact kk _ h H1 locs1 ls ⟨hP1, hS1⟩ hl
def last_ {β : Type} (M : Mem) (o : Nat) (i : Int32) (x : Int64) (k : Mem → Option β) : Option β := if i < 0 ∨ ln o ≤ i.toNatClampNeg then none else k (setJ M o i.toNatClampNeg x)
theorem sw_last (X : CX p s m args meth c D cy ad ids cc nL Ts own) {i : Int32} {x : Int64} {β : Type} {K : Mem → Option β} {r : β} (ho : o ∈ ids) (he : kd o = 10) (hdg : decode cc pc = .ok (.lastore, 1)) (h : last_ M o i x K = some r) (kk : ∀ M1 : Mem, K M1 = some r → SW p l e R s m args below meth c cells slots Q nL (PH D cy ad ids s M1) (pc + 1) lv rest) : SW p l e R s m args below meth c cells slots Q nL (PH D cy ad ids s M) pc lv (.long x :: .int i :: .ref (ad o) :: rest) := by
  intro H locs ls hΦ hl
  obtain ⟨hx, hb, hml, hown, hts, hK, hD, hN, hlk, hNW⟩ := X
  obtain ⟨q0, hq⟩ := ids_at ho
  unfold last_ at h
  by_cases hb0 : i < 0 ∨ ln o ≤ i.toNatClampNeg
  · rw [if_pos hb0] at h; cases h
  · rw [if_neg hb0] at h
    refine va_last (D := D) (A := AA ad ids) hx hb hK hΦ.1 (hD M) hΦ.2 q0 2 ((wl_at hq).trans (congrArg (fun e => some (ad o, e)) (ce_10 he))) rfl hb0 hdg (fun H1 locs1 hP1 hD1 hS1 => ?_)
    rw [wl_set hN hq (M1 := setJ M o i.toNatClampNeg x) ((ce_10 he).trans (by rw [gJ_upd])) (fun a h => ce_neJ h)] at hP1
    exact kk _ h H1 locs1 ls ⟨hP1, hS1⟩ hl
def aald_ {β : Type} (o : Nat) (i : Int32) (k : Nat → Option β) : Option β := if i < 0 ∨ ln o ≤ i.toNatClampNeg then none else k (o + 1 + i.toNatClampNeg)
theorem sw_aald (X : CX p s m args meth c D cy ad ids cc nL Ts own) {i : Int32} {β : Type} {K : Nat → Option β} {r : β} (ho : o ∈ ids) (he : kd o = 12) (hdg : decode cc pc = .ok (.aaload, 1)) (h : aald_ o i K = some r) (kk : ∀ v : Nat, o + 1 ≤ v → v < o + 1 + ln o → K v = some r → SW p l e R s m args below meth c cells slots Q nL (PH D cy ad ids s M) (pc + 1) lv (.ref (ad v) :: rest)) : SW p l e R s m args below meth c cells slots Q nL (PH D cy ad ids s M) pc lv (.int i :: .ref (ad o) :: rest) := by
  intro H locs ls hΦ hl
  obtain ⟨hx, hb, hml, hown, hts, hK, hD, hN, hlk, hNW⟩ := X
  obtain ⟨q0, hq⟩ := ids_at ho
  unfold aald_ at h
  by_cases hb0 : i < 0 ∨ ln o ≤ i.toNatClampNeg
  · rw [if_pos hb0] at h; cases h
  · rw [if_neg hb0] at h
    exact va_aldq (D := D) hx hb hK hΦ.1 q0 4 ((wl_at hq).trans (congrArg (fun e => some (ad o, e)) (ce_12 he))) rfl hb0 hdg (kk (o + 1 + i.toNatClampNeg) (by omega) (by have := not_or.mp hb0; omega) h H locs ls hΦ hl)
theorem sw_alen (X : CX p s m args meth c D cy ad ids cc nL Ts own) (ho : o ∈ ids) (he : kd o = 10) (hdg : decode cc pc = .ok (.arraylength, 1)) (kk : SW p l e R s m args below meth c cells slots Q nL (PH D cy ad ids s M) (pc + 1) lv (.int (nI (ln o)) :: rest)) : SW p l e R s m args below meth c cells slots Q nL (PH D cy ad ids s M) pc lv (.ref (ad o) :: rest) := by
  intro H locs ls hΦ hl
  obtain ⟨hx, hb, hml, hown, hts, hK, hD, hN, hlk, hNW⟩ := X
  obtain ⟨q0, hq⟩ := ids_at ho
  exact va_alen (D := D) hx hb hK hΦ.1 q0 2 ((wl_at hq).trans (congrArg (fun e => some (ad o, e)) (ce_10 he))) (ty := .long) rfl rfl hdg (kk H locs ls hΦ hl)
def mmax_ (x y : Int32) : Int32 := if x < y then y else x
theorem sw_mmax (X : CX p s m args meth c D cy ad ids cc nL Ts own) {index : Nat} {x y : Int32} (hlink : Cond.methodLink own index Lib.Math.max.name ∈ Ts) (hstat : Cond.static Lib.Math.max.name ∈ Ts) (hini : Cond.initialized "java/lang/Math" ∈ Ts) (hcode : Cond.code Lib.Math.max.name Lib.Math.max.code 2 (some .int) ∈ Ts) (hframes : 1 ≤ R.frames) (hlocals : (rest.map fun v => v.category).sum + 13 ≤ R.locals) (hc : cells ≤ R.cells) (hs : slots ≤ R.slots) (hdg : decode cc pc = .ok (.invokestatic index, 3)) (kk : SW p l e R s m args below meth c cells slots Q nL (PH D cy ad ids s M) (pc + 3) lv (.int (mmax_ x y) :: rest)) : SW p l e R s m args below meth c cells slots Q nL (PH D cy ad ids s M) pc lv (.int y :: .int x :: rest) := by
  intro H locs ls hΦ hl
  obtain ⟨hx, hb, hml, hown, hts, hK, hD, hN, hlk, hNW⟩ := X
  exact va_mmax hx hb (hml.trans hl.1.symm) hown (hts _ hlink) (hts _ hstat) (hts _ hini) (hts _ hcode) hframes hlocals hc hs hdg (kk H locs ls hΦ hl)
def mmin_ (x y : Int32) : Int32 := if y < x then y else x
theorem sw_mmin (X : CX p s m args meth c D cy ad ids cc nL Ts own) {index : Nat} {x y : Int32} (hlink : Cond.methodLink own index Lib.Math.min.name ∈ Ts) (hstat : Cond.static Lib.Math.min.name ∈ Ts) (hini : Cond.initialized "java/lang/Math" ∈ Ts) (hcode : Cond.code Lib.Math.min.name Lib.Math.min.code 2 (some .int) ∈ Ts) (hframes : 1 ≤ R.frames) (hlocals : (rest.map fun v => v.category).sum + 13 ≤ R.locals) (hc : cells ≤ R.cells) (hs : slots ≤ R.slots) (hdg : decode cc pc = .ok (.invokestatic index, 3)) (kk : SW p l e R s m args below meth c cells slots Q nL (PH D cy ad ids s M) (pc + 3) lv (.int (mmin_ x y) :: rest)) : SW p l e R s m args below meth c cells slots Q nL (PH D cy ad ids s M) pc lv (.int y :: .int x :: rest) := by
  intro H locs ls hΦ hl
  obtain ⟨hx, hb, hml, hown, hts, hK, hD, hN, hlk, hNW⟩ := X
  exact va_mmin hx hb (hml.trans hl.1.symm) hown (hts _ hlink) (hts _ hstat) (hts _ hini) (hts _ hcode) hframes hlocals hc hs hdg (kk H locs ls hΦ hl)
def PB (D : va_G) (cy : Nat → ClassId) (ad : Nat → Nat) (ids : List Nat) (M : Mem) (U : State) : Prop := va_P D vwCl (wl cy ad ids M) U.heap ∧ va_K D vwCl (tyL cy) U ∧ NWs U
def BB (D : va_G) (cy : Nat → ClassId) (ad : Nat → Nat) (ids : List Nat) : Mem → State → Prop := fun u t => va_P D vwCl (wl cy ad ids u) t.heap
def CTI (l : Launch) (y : MethodName) (ws : List Cond) (rm : Room) (D : va_G) (cy : Nat → ClassId) (ad : Nat → Nat) (ids : List Nat) (av : List Value) (M : Mem) (z : Int32 × Mem) : Prop := Met l y ws rm (va_Pc av (PB D cy ad ids M)) (va_Qi (fun r u => r = z.1 ∧ u = z.2) (BB D cy ad ids) (AA ad ids)) 0 0 (AA ad ids)
def CTJ (l : Launch) (y : MethodName) (ws : List Cond) (rm : Room) (D : va_G) (cy : Nat → ClassId) (ad : Nat → Nat) (ids : List Nat) (av : List Value) (M : Mem) (z : Int64 × Mem) : Prop := Met l y ws rm (va_Pc av (PB D cy ad ids M)) (va_Ql (fun r u => r = z.1 ∧ u = z.2) (BB D cy ad ids) (AA ad ids)) 0 0 (AA ad ids)
def CTV (l : Launch) (y : MethodName) (ws : List Cond) (rm : Room) (D : va_G) (cy : Nat → ClassId) (ad : Nat → Nat) (ids : List Nat) (av : List Value) (M : Mem) (z : Mem) : Prop := Met l y ws rm (va_Pc av (PB D cy ad ids M)) (va_Qv (fun u => u = z) (BB D cy ad ids) (AA ad ids)) 0 0 (AA ad ids)
def CTR (l : Launch) (y : MethodName) (ws : List Cond) (rm : Room) (D : va_G) (cy : Nat → ClassId) (ad : Nat → Nat) (ids : List Nat) (av : List Value) (M : Mem) (z : Nat × Mem) : Prop := Met l y ws rm (va_Pc av (PB D cy ad ids M)) (va_Qr (fun u => u = z.2) (fun u a t => a = ad z.1 ∧ BB D cy ad ids u t) (AA ad ids)) 0 0 (AA ad ids)
theorem PB.blind {D : va_G} {cy : Nat → ClassId} {ad : Nat → Nat} {ids : List Nat} {av : List Value} {M : Mem} : FrameBlind (va_Pc av (PB D cy ad ids M)) := by
  intro a U g mk q
  obtain ⟨q0, qP, qK, qN⟩ := q
  exact ⟨q0, qP, va_K.moved (u := U) (U := U.calling g mk a) (Vm.Alike.refl U.vm) qK, NWs.same (u := U) (U := U.calling g mk a) rfl qN⟩
def bI_ {β : Type} (x : Option (Int32 × Mem)) (k : Int32 → Mem → Option β) : Option β := match x with
  | none => none
  | some (r, u) => k r u
theorem sw_callVI (X : CX p s m args meth c D cy ad ids cc nL Ts own) {y : MethodName} {bytes : ByteArray} {maxL n index : Nat} {ret : Option FieldType} {ws : List Cond} {rm : Room} {C : String} {ci : Nat} {q : vw_C} {fs : List Value} (ho : o ∈ ids) (he : ce cy ad M o = .inr (ci, fs)) (hc : vwCl[ci]? = some q) (hC : q.1 = C) {As st0 : List Value} {β : Type} {f : Option (Int32 × Mem)} {K : Int32 → Mem → Option β} {r : β} (hM : ∀ z, f = some z → CTI l y ws rm D cy ad ids (.ref (ad o) :: As) M z) (cw : CallW R s args own C index y bytes maxL ret ws rm 0 0 n) (hn : As.length = n) (hst : st0 = As.reverse ++ .ref (ad o) :: rest) (hW : (rest.map fun v => v.category).sum ≤ 8) (hdg : decode cc pc = .ok (.invokevirtual index, 3)) (hf : cells + 0 ≤ R.cells ∧ slots + 0 ≤ R.slots) (h : bI_ f K = some r) (kk : ∀ (v : Int32) (M1 : Mem), f = some (v, M1) → K v M1 = some r → SW p l e R s m args below meth c cells slots Q nL (PH D cy ad ids s M1) (pc + 3) lv (.int v :: rest)) : SW p l e R s m args below meth c cells slots Q nL (PH D cy ad ids s M) pc lv st0 := by
  intro H locs ls hΦ hl
  have X0 := X
  obtain ⟨hx, hb, hml, hown, hts, hK, hD, hN, hlk, hNW⟩ := X
  cases hfz : f with
  | none => rw [hfz] at h; cases h
  | some z =>
    rw [hfz] at h
    obtain ⟨q0, hq⟩ := ids_at ho
    have hr := va_recv hK hΦ.1 hc ((wl_at hq).trans (congrArg (fun e => some (ad o, e)) he))
    rw [hC] at hr
    have hrun := va_runV (g := F0 m pc ls st0) (As := As) (rest := rest) (cells := cells) (slots := slots) (H := H) (locs := locs) (below := below) (meth := meth) (e := e) ⟨hx, hb, hml, hown, hts⟩ (hM z hfz) cw ⟨PB.blind, hr, fun U hU hW => ⟨rfl, by rw [hU]; exact hΦ.1, va_K.moved hW.alike hK, NWs.warm hW hNW⟩⟩ rfl hn hl.1 hst (lv_room hW) hdg hf
    refine va_calli hrun hΦ.2 (fun q _ h => h) (fun q h => h) (fun rr u t H1 locs1 ht hvm hw hB hz1 hk1 hS => ?_)
    subst ht
    obtain ⟨v, M1⟩ := z
    dsimp only at hw
    obtain ⟨h1, h2⟩ := hw
    subst h1; subst h2
    exact kk rr u hfz h t.heap locs1 ls ⟨hB, hS⟩ hl
theorem sw_callSI (X : CX p s m args meth c D cy ad ids cc nL Ts own) {y : MethodName} {bytes : ByteArray} {maxL n index : Nat} {ret : Option FieldType} {ws : List Cond} {rm : Room} {As st0 : List Value} {β : Type} {f : Option (Int32 × Mem)} {K : Int32 → Mem → Option β} {r : β} (hM : ∀ z, f = some z → CTI l y ws rm D cy ad ids As M z) (cw : CallB R s args own index y bytes maxL ret ws rm 0 0 n ∧ (Cond.static y).before args s = true) (hn : As.length = n) (hst : st0 = As.reverse ++ rest) (hW : (rest.map fun v => v.category).sum ≤ 8) (hdg : decode cc pc = .ok (.invokestatic index, 3)) (hf : cells + 0 ≤ R.cells ∧ slots + 0 ≤ R.slots) (h : bI_ f K = some r) (kk : ∀ (v : Int32) (M1 : Mem), f = some (v, M1) → K v M1 = some r → SW p l e R s m args below meth c cells slots Q nL (PH D cy ad ids s M1) (pc + 3) lv (.int v :: rest)) : SW p l e R s m args below meth c cells slots Q nL (PH D cy ad ids s M) pc lv st0 := by
  intro H locs ls hΦ hl
  have X0 := X
  obtain ⟨hx, hb, hml, hown, hts, hK, hD, hN, hlk, hNW⟩ := X
  cases hfz : f with
  | none => rw [hfz] at h; cases h
  | some z =>
    rw [hfz] at h
    have hrun := va_runS (g := F0 m pc ls st0) (As := As) (rest := rest) (cells := cells) (slots := slots) (H := H) (locs := locs) (below := below) (meth := meth) (e := e) ⟨hx, hb, hml, hown, hts⟩ (hM z hfz) cw ⟨PB.blind, fun U hU hW => ⟨rfl, by rw [hU]; exact hΦ.1, va_K.moved hW.alike hK, NWs.warm hW hNW⟩⟩ rfl hn hl.1 hst (lv_room hW) hdg hf
    refine va_calli hrun hΦ.2 (fun q _ h => h) (fun q h => h) (fun rr u t H1 locs1 ht hvm hw hB hz1 hk1 hS => ?_)
    subst ht
    obtain ⟨v, M1⟩ := z
    dsimp only at hw
    obtain ⟨h1, h2⟩ := hw
    subst h1; subst h2
    exact kk rr u hfz h t.heap locs1 ls ⟨hB, hS⟩ hl
theorem sw_callNI (X : CX p s m args meth c D cy ad ids cc nL Ts own) {y : MethodName} {bytes : ByteArray} {maxL n index : Nat} {ret : Option FieldType} {ws : List Cond} {rm : Room} {host : String} {As st0 : List Value} {β : Type} {f : Option (Int32 × Mem)} {K : Int32 → Mem → Option β} {r : β} (hM : ∀ z, f = some z → CTI l y ws rm D cy ad ids As M z) (cw : va_CN R s args own index y host bytes maxL ret ws rm 0 0 n ∧ (Cond.static y).before args s = true ∧ True) (hn : As.length = n) (hst : st0 = As.reverse ++ rest) (hW : (rest.map fun v => v.category).sum ≤ 8) (hdg : decode cc pc = .ok (.invokestatic index, 3)) (hf : cells + 0 ≤ R.cells ∧ slots + 0 ≤ R.slots) (h : bI_ f K = some r) (kk : ∀ (v : Int32) (M1 : Mem), f = some (v, M1) → K v M1 = some r → SW p l e R s m args below meth c cells slots Q nL (PH D cy ad ids s M1) (pc + 3) lv (.int v :: rest)) : SW p l e R s m args below meth c cells slots Q nL (PH D cy ad ids s M) pc lv st0 := by
  intro H locs ls hΦ hl
  have X0 := X
  obtain ⟨hx, hb, hml, hown, hts, hK, hD, hN, hlk, hNW⟩ := X
  cases hfz : f with
  | none => rw [hfz] at h; cases h
  | some z =>
    rw [hfz] at h
    have hrun := va_runSN (g := F0 m pc ls st0) (As := As) (rest := rest) (cells := cells) (slots := slots) (H := H) (locs := locs) (below := below) (meth := meth) (e := e) ⟨hx, hb, hml, hown, hts⟩ (hM z hfz) cw ⟨PB.blind, fun U hU hW => ⟨rfl, by rw [hU]; exact hΦ.1, va_K.moved hW.alike hK, NWs.warm hW hNW⟩⟩ rfl hn hl.1 hst (lv_room hW) hdg hf
    refine va_calli hrun hΦ.2 (fun q _ h => h) (fun q h => h) (fun rr u t H1 locs1 ht hvm hw hB hz1 hk1 hS => ?_)
    subst ht
    obtain ⟨v, M1⟩ := z
    dsimp only at hw
    obtain ⟨h1, h2⟩ := hw
    subst h1; subst h2
    exact kk rr u hfz h t.heap locs1 ls ⟨hB, hS⟩ hl
def bJ_ {β : Type} (x : Option (Int64 × Mem)) (k : Int64 → Mem → Option β) : Option β := match x with
  | none => none
  | some (r, u) => k r u
theorem sw_callVJ (X : CX p s m args meth c D cy ad ids cc nL Ts own) {y : MethodName} {bytes : ByteArray} {maxL n index : Nat} {ret : Option FieldType} {ws : List Cond} {rm : Room} {C : String} {ci : Nat} {q : vw_C} {fs : List Value} (ho : o ∈ ids) (he : ce cy ad M o = .inr (ci, fs)) (hc : vwCl[ci]? = some q) (hC : q.1 = C) {As st0 : List Value} {β : Type} {f : Option (Int64 × Mem)} {K : Int64 → Mem → Option β} {r : β} (hM : ∀ z, f = some z → CTJ l y ws rm D cy ad ids (.ref (ad o) :: As) M z) (cw : CallW R s args own C index y bytes maxL ret ws rm 0 0 n) (hn : As.length = n) (hst : st0 = As.reverse ++ .ref (ad o) :: rest) (hW : (rest.map fun v => v.category).sum ≤ 8) (hdg : decode cc pc = .ok (.invokevirtual index, 3)) (hf : cells + 0 ≤ R.cells ∧ slots + 0 ≤ R.slots) (h : bJ_ f K = some r) (kk : ∀ (v : Int64) (M1 : Mem), f = some (v, M1) → K v M1 = some r → SW p l e R s m args below meth c cells slots Q nL (PH D cy ad ids s M1) (pc + 3) lv (.long v :: rest)) : SW p l e R s m args below meth c cells slots Q nL (PH D cy ad ids s M) pc lv st0 := by
  intro H locs ls hΦ hl
  have X0 := X
  obtain ⟨hx, hb, hml, hown, hts, hK, hD, hN, hlk, hNW⟩ := X
  cases hfz : f with
  | none => rw [hfz] at h; cases h
  | some z =>
    rw [hfz] at h
    obtain ⟨q0, hq⟩ := ids_at ho
    have hr := va_recv hK hΦ.1 hc ((wl_at hq).trans (congrArg (fun e => some (ad o, e)) he))
    rw [hC] at hr
    have hrun := va_runV (g := F0 m pc ls st0) (As := As) (rest := rest) (cells := cells) (slots := slots) (H := H) (locs := locs) (below := below) (meth := meth) (e := e) ⟨hx, hb, hml, hown, hts⟩ (hM z hfz) cw ⟨PB.blind, hr, fun U hU hW => ⟨rfl, by rw [hU]; exact hΦ.1, va_K.moved hW.alike hK, NWs.warm hW hNW⟩⟩ rfl hn hl.1 hst (lv_room hW) hdg hf
    refine va_calll hrun hΦ.2 (fun q _ h => h) (fun q h => h) (fun rr u t H1 locs1 ht hvm hw hB hz1 hk1 hS => ?_)
    subst ht
    obtain ⟨v, M1⟩ := z
    dsimp only at hw
    obtain ⟨h1, h2⟩ := hw
    subst h1; subst h2
    exact kk rr u hfz h t.heap locs1 ls ⟨hB, hS⟩ hl
theorem sw_callSJ (X : CX p s m args meth c D cy ad ids cc nL Ts own) {y : MethodName} {bytes : ByteArray} {maxL n index : Nat} {ret : Option FieldType} {ws : List Cond} {rm : Room} {As st0 : List Value} {β : Type} {f : Option (Int64 × Mem)} {K : Int64 → Mem → Option β} {r : β} (hM : ∀ z, f = some z → CTJ l y ws rm D cy ad ids As M z) (cw : CallB R s args own index y bytes maxL ret ws rm 0 0 n ∧ (Cond.static y).before args s = true) (hn : As.length = n) (hst : st0 = As.reverse ++ rest) (hW : (rest.map fun v => v.category).sum ≤ 8) (hdg : decode cc pc = .ok (.invokestatic index, 3)) (hf : cells + 0 ≤ R.cells ∧ slots + 0 ≤ R.slots) (h : bJ_ f K = some r) (kk : ∀ (v : Int64) (M1 : Mem), f = some (v, M1) → K v M1 = some r → SW p l e R s m args below meth c cells slots Q nL (PH D cy ad ids s M1) (pc + 3) lv (.long v :: rest)) : SW p l e R s m args below meth c cells slots Q nL (PH D cy ad ids s M) pc lv st0 := by
  intro H locs ls hΦ hl
  have X0 := X
  obtain ⟨hx, hb, hml, hown, hts, hK, hD, hN, hlk, hNW⟩ := X
  cases hfz : f with
  | none => rw [hfz] at h; cases h
  | some z =>
    rw [hfz] at h
    have hrun := va_runS (g := F0 m pc ls st0) (As := As) (rest := rest) (cells := cells) (slots := slots) (H := H) (locs := locs) (below := below) (meth := meth) (e := e) ⟨hx, hb, hml, hown, hts⟩ (hM z hfz) cw ⟨PB.blind, fun U hU hW => ⟨rfl, by rw [hU]; exact hΦ.1, va_K.moved hW.alike hK, NWs.warm hW hNW⟩⟩ rfl hn hl.1 hst (lv_room hW) hdg hf
    refine va_calll hrun hΦ.2 (fun q _ h => h) (fun q h => h) (fun rr u t H1 locs1 ht hvm hw hB hz1 hk1 hS => ?_)
    subst ht
    obtain ⟨v, M1⟩ := z
    dsimp only at hw
    obtain ⟨h1, h2⟩ := hw
    subst h1; subst h2
    exact kk rr u hfz h t.heap locs1 ls ⟨hB, hS⟩ hl
theorem sw_callNJ (X : CX p s m args meth c D cy ad ids cc nL Ts own) {y : MethodName} {bytes : ByteArray} {maxL n index : Nat} {ret : Option FieldType} {ws : List Cond} {rm : Room} {host : String} {As st0 : List Value} {β : Type} {f : Option (Int64 × Mem)} {K : Int64 → Mem → Option β} {r : β} (hM : ∀ z, f = some z → CTJ l y ws rm D cy ad ids As M z) (cw : va_CN R s args own index y host bytes maxL ret ws rm 0 0 n ∧ (Cond.static y).before args s = true ∧ True) (hn : As.length = n) (hst : st0 = As.reverse ++ rest) (hW : (rest.map fun v => v.category).sum ≤ 8) (hdg : decode cc pc = .ok (.invokestatic index, 3)) (hf : cells + 0 ≤ R.cells ∧ slots + 0 ≤ R.slots) (h : bJ_ f K = some r) (kk : ∀ (v : Int64) (M1 : Mem), f = some (v, M1) → K v M1 = some r → SW p l e R s m args below meth c cells slots Q nL (PH D cy ad ids s M1) (pc + 3) lv (.long v :: rest)) : SW p l e R s m args below meth c cells slots Q nL (PH D cy ad ids s M) pc lv st0 := by
  intro H locs ls hΦ hl
  have X0 := X
  obtain ⟨hx, hb, hml, hown, hts, hK, hD, hN, hlk, hNW⟩ := X
  cases hfz : f with
  | none => rw [hfz] at h; cases h
  | some z =>
    rw [hfz] at h
    have hrun := va_runSN (g := F0 m pc ls st0) (As := As) (rest := rest) (cells := cells) (slots := slots) (H := H) (locs := locs) (below := below) (meth := meth) (e := e) ⟨hx, hb, hml, hown, hts⟩ (hM z hfz) cw ⟨PB.blind, fun U hU hW => ⟨rfl, by rw [hU]; exact hΦ.1, va_K.moved hW.alike hK, NWs.warm hW hNW⟩⟩ rfl hn hl.1 hst (lv_room hW) hdg hf
    refine va_calll hrun hΦ.2 (fun q _ h => h) (fun q h => h) (fun rr u t H1 locs1 ht hvm hw hB hz1 hk1 hS => ?_)
    subst ht
    obtain ⟨v, M1⟩ := z
    dsimp only at hw
    obtain ⟨h1, h2⟩ := hw
    subst h1; subst h2
    exact kk rr u hfz h t.heap locs1 ls ⟨hB, hS⟩ hl
def bV_ {β : Type} (x : Option Mem) (k : Mem → Option β) : Option β := match x with
  | none => none
  | some u => k u
theorem sw_callVV (X : CX p s m args meth c D cy ad ids cc nL Ts own) {y : MethodName} {bytes : ByteArray} {maxL n index : Nat} {ret : Option FieldType} {ws : List Cond} {rm : Room} {C : String} {ci : Nat} {q : vw_C} {fs : List Value} (ho : o ∈ ids) (he : ce cy ad M o = .inr (ci, fs)) (hc : vwCl[ci]? = some q) (hC : q.1 = C) {As st0 : List Value} {β : Type} {f : Option (Mem)} {K : Mem → Option β} {r : β} (hM : ∀ z, f = some z → CTV l y ws rm D cy ad ids (.ref (ad o) :: As) M z) (cw : CallW R s args own C index y bytes maxL ret ws rm 0 0 n) (hn : As.length = n) (hst : st0 = As.reverse ++ .ref (ad o) :: rest) (hW : (rest.map fun v => v.category).sum ≤ 8) (hdg : decode cc pc = .ok (.invokevirtual index, 3)) (hf : cells + 0 ≤ R.cells ∧ slots + 0 ≤ R.slots) (h : bV_ f K = some r) (kk : ∀ (M1 : Mem), f = some M1 → K M1 = some r → SW p l e R s m args below meth c cells slots Q nL (PH D cy ad ids s M1) (pc + 3) lv rest) : SW p l e R s m args below meth c cells slots Q nL (PH D cy ad ids s M) pc lv st0 := by
  intro H locs ls hΦ hl
  have X0 := X
  obtain ⟨hx, hb, hml, hown, hts, hK, hD, hN, hlk, hNW⟩ := X
  cases hfz : f with
  | none => rw [hfz] at h; cases h
  | some z =>
    rw [hfz] at h
    obtain ⟨q0, hq⟩ := ids_at ho
    have hr := va_recv hK hΦ.1 hc ((wl_at hq).trans (congrArg (fun e => some (ad o, e)) he))
    rw [hC] at hr
    have hrun := va_runV (g := F0 m pc ls st0) (As := As) (rest := rest) (cells := cells) (slots := slots) (H := H) (locs := locs) (below := below) (meth := meth) (e := e) ⟨hx, hb, hml, hown, hts⟩ (hM z hfz) cw ⟨PB.blind, hr, fun U hU hW => ⟨rfl, by rw [hU]; exact hΦ.1, va_K.moved hW.alike hK, NWs.warm hW hNW⟩⟩ rfl hn hl.1 hst (lv_room hW) hdg hf
    refine va_callv hrun hΦ.2 (fun q _ h => h) (fun q h => h) (fun u t H1 locs1 ht hvm hw hB hz1 hk1 hS => ?_)
    subst hw; subst ht
    exact kk u hfz h t.heap locs1 ls ⟨hB, hS⟩ hl
theorem sw_callSV (X : CX p s m args meth c D cy ad ids cc nL Ts own) {y : MethodName} {bytes : ByteArray} {maxL n index : Nat} {ret : Option FieldType} {ws : List Cond} {rm : Room} {As st0 : List Value} {β : Type} {f : Option (Mem)} {K : Mem → Option β} {r : β} (hM : ∀ z, f = some z → CTV l y ws rm D cy ad ids As M z) (cw : CallB R s args own index y bytes maxL ret ws rm 0 0 n ∧ (Cond.static y).before args s = true) (hn : As.length = n) (hst : st0 = As.reverse ++ rest) (hW : (rest.map fun v => v.category).sum ≤ 8) (hdg : decode cc pc = .ok (.invokestatic index, 3)) (hf : cells + 0 ≤ R.cells ∧ slots + 0 ≤ R.slots) (h : bV_ f K = some r) (kk : ∀ (M1 : Mem), f = some M1 → K M1 = some r → SW p l e R s m args below meth c cells slots Q nL (PH D cy ad ids s M1) (pc + 3) lv rest) : SW p l e R s m args below meth c cells slots Q nL (PH D cy ad ids s M) pc lv st0 := by
  intro H locs ls hΦ hl
  have X0 := X
  obtain ⟨hx, hb, hml, hown, hts, hK, hD, hN, hlk, hNW⟩ := X
  cases hfz : f with
  | none => rw [hfz] at h; cases h
  | some z =>
    rw [hfz] at h
    have hrun := va_runS (g := F0 m pc ls st0) (As := As) (rest := rest) (cells := cells) (slots := slots) (H := H) (locs := locs) (below := below) (meth := meth) (e := e) ⟨hx, hb, hml, hown, hts⟩ (hM z hfz) cw ⟨PB.blind, fun U hU hW => ⟨rfl, by rw [hU]; exact hΦ.1, va_K.moved hW.alike hK, NWs.warm hW hNW⟩⟩ rfl hn hl.1 hst (lv_room hW) hdg hf
    refine va_callv hrun hΦ.2 (fun q _ h => h) (fun q h => h) (fun u t H1 locs1 ht hvm hw hB hz1 hk1 hS => ?_)
    subst hw; subst ht
    exact kk u hfz h t.heap locs1 ls ⟨hB, hS⟩ hl
theorem sw_callNV (X : CX p s m args meth c D cy ad ids cc nL Ts own) {y : MethodName} {bytes : ByteArray} {maxL n index : Nat} {ret : Option FieldType} {ws : List Cond} {rm : Room} {host : String} {As st0 : List Value} {β : Type} {f : Option (Mem)} {K : Mem → Option β} {r : β} (hM : ∀ z, f = some z → CTV l y ws rm D cy ad ids As M z) (cw : va_CN R s args own index y host bytes maxL ret ws rm 0 0 n ∧ (Cond.static y).before args s = true ∧ True) (hn : As.length = n) (hst : st0 = As.reverse ++ rest) (hW : (rest.map fun v => v.category).sum ≤ 8) (hdg : decode cc pc = .ok (.invokestatic index, 3)) (hf : cells + 0 ≤ R.cells ∧ slots + 0 ≤ R.slots) (h : bV_ f K = some r) (kk : ∀ (M1 : Mem), f = some M1 → K M1 = some r → SW p l e R s m args below meth c cells slots Q nL (PH D cy ad ids s M1) (pc + 3) lv rest) : SW p l e R s m args below meth c cells slots Q nL (PH D cy ad ids s M) pc lv st0 := by
  intro H locs ls hΦ hl
  have X0 := X
  obtain ⟨hx, hb, hml, hown, hts, hK, hD, hN, hlk, hNW⟩ := X
  cases hfz : f with
  | none => rw [hfz] at h; cases h
  | some z =>
    rw [hfz] at h
    have hrun := va_runSN (g := F0 m pc ls st0) (As := As) (rest := rest) (cells := cells) (slots := slots) (H := H) (locs := locs) (below := below) (meth := meth) (e := e) ⟨hx, hb, hml, hown, hts⟩ (hM z hfz) cw ⟨PB.blind, fun U hU hW => ⟨rfl, by rw [hU]; exact hΦ.1, va_K.moved hW.alike hK, NWs.warm hW hNW⟩⟩ rfl hn hl.1 hst (lv_room hW) hdg hf
    refine va_callv hrun hΦ.2 (fun q _ h => h) (fun q h => h) (fun u t H1 locs1 ht hvm hw hB hz1 hk1 hS => ?_)
    subst hw; subst ht
    exact kk u hfz h t.heap locs1 ls ⟨hB, hS⟩ hl
def bR_ {β : Type} (x : Option (Nat × Mem)) (k : Nat → Mem → Option β) : Option β := match x with
  | none => none
  | some (r, u) => k r u
theorem sw_callVR (X : CX p s m args meth c D cy ad ids cc nL Ts own) {y : MethodName} {bytes : ByteArray} {maxL n index : Nat} {ret : Option FieldType} {ws : List Cond} {rm : Room} {C : String} {ci : Nat} {q : vw_C} {fs : List Value} (ho : o ∈ ids) (he : ce cy ad M o = .inr (ci, fs)) (hc : vwCl[ci]? = some q) (hC : q.1 = C) {As st0 : List Value} {β : Type} {f : Option (Nat × Mem)} {K : Nat → Mem → Option β} {r : β} (hM : ∀ z, f = some z → CTR l y ws rm D cy ad ids (.ref (ad o) :: As) M z) (cw : CallW R s args own C index y bytes maxL ret ws rm 0 0 n) (hn : As.length = n) (hst : st0 = As.reverse ++ .ref (ad o) :: rest) (hW : (rest.map fun v => v.category).sum ≤ 8) (hdg : decode cc pc = .ok (.invokevirtual index, 3)) (hf : cells + 0 ≤ R.cells ∧ slots + 0 ≤ R.slots) (h : bR_ f K = some r) (kk : ∀ (v : Nat) (M1 : Mem), f = some (v, M1) → K v M1 = some r → SW p l e R s m args below meth c cells slots Q nL (PH D cy ad ids s M1) (pc + 3) lv (.ref (ad v) :: rest)) : SW p l e R s m args below meth c cells slots Q nL (PH D cy ad ids s M) pc lv st0 := by
  intro H locs ls hΦ hl
  have X0 := X
  obtain ⟨hx, hb, hml, hown, hts, hK, hD, hN, hlk, hNW⟩ := X
  cases hfz : f with
  | none => rw [hfz] at h; cases h
  | some z =>
    rw [hfz] at h
    obtain ⟨q0, hq⟩ := ids_at ho
    have hr := va_recv hK hΦ.1 hc ((wl_at hq).trans (congrArg (fun e => some (ad o, e)) he))
    rw [hC] at hr
    have hrun := va_runV (g := F0 m pc ls st0) (As := As) (rest := rest) (cells := cells) (slots := slots) (H := H) (locs := locs) (below := below) (meth := meth) (e := e) ⟨hx, hb, hml, hown, hts⟩ (hM z hfz) cw ⟨PB.blind, hr, fun U hU hW => ⟨rfl, by rw [hU]; exact hΦ.1, va_K.moved hW.alike hK, NWs.warm hW hNW⟩⟩ rfl hn hl.1 hst (lv_room hW) hdg hf
    refine va_callr hrun hΦ.2 (fun q _ h => h) (fun q h => h) (fun u ra t H1 locs1 ht hvm hw hB hz1 hk1 hS => ?_)
    subst ht
    obtain ⟨v, M1⟩ := z
    dsimp only at hw hB
    subst hw
    obtain ⟨hra, hB⟩ := hB
    rw [hra]
    exact kk v u hfz h t.heap locs1 ls ⟨hB, hS⟩ hl
theorem sw_Iret (X : CX p s m args meth c D cy ad ids cc nL Ts own) {v : Int32} {z : Int32 × Mem} (hr : meth.sig.returnType = some .int) (hdg : decode cc pc = .ok (.ireturn, 1)) (h : (some (v, M) : Option (Int32 × Mem)) = some z) : SW p l e R s m args below meth c 0 0 (MQ below (va_Qi (fun r u => r = z.1 ∧ u = z.2) (BB D cy ad ids) (AA ad ids)) args s 0 0 (AA ad ids)) nL (PH D cy ad ids s M) pc lv [.int v] := by
  intro H locs ls hΦ hl
  obtain ⟨hx, hb, hml, hown, hts, hK, hD, hN, hlk, hNW⟩ := X
  cases h
  exact W.iret hx hb hr (fun t ht hW => ⟨⟨v, M, rfl, ⟨rfl, rfl⟩, by show va_P _ _ _ _; rw [ht]; exact hΦ.1⟩, hΦ.2.F ht⟩) hΦ.2.2.2 hdg hlk
theorem sw_Jret (X : CX p s m args meth c D cy ad ids cc nL Ts own) {v : Int64} {z : Int64 × Mem} (hr : meth.sig.returnType = some .long) (hdg : decode cc pc = .ok (.lreturn, 1)) (h : (some (v, M) : Option (Int64 × Mem)) = some z) : SW p l e R s m args below meth c 0 0 (MQ below (va_Ql (fun r u => r = z.1 ∧ u = z.2) (BB D cy ad ids) (AA ad ids)) args s 0 0 (AA ad ids)) nL (PH D cy ad ids s M) pc lv [.long v] := by
  intro H locs ls hΦ hl
  obtain ⟨hx, hb, hml, hown, hts, hK, hD, hN, hlk, hNW⟩ := X
  cases h
  exact W.lret hx hb hr (fun t ht hW => ⟨⟨v, M, rfl, ⟨rfl, rfl⟩, by show va_P _ _ _ _; rw [ht]; exact hΦ.1⟩, hΦ.2.F ht⟩) hΦ.2.2.2 hdg hlk
def zr_ (v : Int32) (M : Mem) : Option (Int32 × Mem) := if v = 0 ∨ v = 1 then some (v, M) else none
theorem nar_z {v : Int32} (h : v = 0 ∨ v = 1) : narrow .boolean (.int v) = .int v ∧ fits .boolean (.int v) = true := by rcases h with rfl | rfl <;> exact ⟨by decide +kernel, by decide +kernel⟩
theorem sw_Zret (X : CX p s m args meth c D cy ad ids cc nL Ts own) {v : Int32} {z : Int32 × Mem} (hr : meth.sig.returnType = some .boolean) (hdg : decode cc pc = .ok (.ireturn, 1)) (h : zr_ v M = some z) : SW p l e R s m args below meth c 0 0 (MQ below (va_Qi (fun r u => r = z.1 ∧ u = z.2) (BB D cy ad ids) (AA ad ids)) args s 0 0 (AA ad ids)) nL (PH D cy ad ids s M) pc lv [.int v] := by
  intro H locs ls hΦ hl
  obtain ⟨hx, hb, hml, hown, hts, hK, hD, hN, hlk, hNW⟩ := X
  unfold zr_ at h
  by_cases hv : v = 0 ∨ v = 1
  · rw [if_pos hv] at h
    cases h
    exact W.zret hx hb hr (nar_z hv).1 (fun t ht hW => ⟨⟨v, M, rfl, ⟨rfl, rfl⟩, by show va_P _ _ _ _; rw [ht]; exact hΦ.1⟩, hΦ.2.F ht⟩) hΦ.2.2.2 hdg hlk
  · rw [if_neg hv] at h; cases h
theorem sw_Vret (X : CX p s m args meth c D cy ad ids cc nL Ts own) {z : Mem} (hr : meth.sig.returnType = none) (hdg : decode cc pc = .ok (.return_, 1)) (h : (some M : Option Mem) = some z) : SW p l e R s m args below meth c 0 0 (MQ below (va_Qv (fun u => u = z) (BB D cy ad ids) (AA ad ids)) args s 0 0 (AA ad ids)) nL (PH D cy ad ids s M) pc lv [] := by
  intro H locs ls hΦ hl
  obtain ⟨hx, hb, hml, hown, hts, hK, hD, hN, hlk, hNW⟩ := X
  cases h
  exact W.vret hx hb hr (fun t ht hW => ⟨⟨M, rfl, rfl, by show va_P _ _ _ _; rw [ht]; exact hΦ.1⟩, hΦ.2.F ht⟩) hΦ.2.2.2 hdg hlk
theorem sw_Rret (X : CX p s m args meth c D cy ad ids cc nL Ts own) {v : Nat} {z : Nat × Mem} {cn : String} (hr : meth.sig.returnType = some (.object cn)) (hdg : decode cc pc = .ok (.areturn, 1)) (h : (some (v, M) : Option (Nat × Mem)) = some z) : SW p l e R s m args below meth c 0 0 (MQ below (va_Qr (fun u => u = z.2) (fun u a t => a = ad z.1 ∧ BB D cy ad ids u t) (AA ad ids)) args s 0 0 (AA ad ids)) nL (PH D cy ad ids s M) pc lv [.ref (ad v)] := by
  intro H locs ls hΦ hl
  obtain ⟨hx, hb, hml, hown, hts, hK, hD, hN, hlk, hNW⟩ := X
  cases h
  exact W.aret hx hb hr (Or.inl ⟨_, rfl⟩) (Or.inr ⟨_, rfl⟩) (fun t ht hW => ⟨⟨M, ad v, rfl, rfl, rfl, by show va_P _ _ _ _; rw [ht]; exact hΦ.1⟩, hΦ.2.F ht⟩) hΦ.2.2.2 hdg hlk
def sz_ {β : Type} (M : Mem) (o k : Nat) (v : Int32) (K : Mem → Option β) : Option β := if v = 0 ∨ v = 1 then K (setI M o k v) else none
theorem sz_ok {β : Type} {M : Mem} {o k : Nat} {v : Int32} {K : Mem → Option β} {r : β} (h : sz_ M o k v K = some r) : (v = 0 ∨ v = 1) ∧ lt_ (setI M o k v) K = some r := by
  unfold sz_ at h
  by_cases hv : v = 0 ∨ v = 1
  · rw [if_pos hv] at h; exact ⟨hv, h⟩
  · rw [if_neg hv] at h; cases h
/-- a method, from its body -/
theorem met_of {l : Launch} {y : MethodName} {ws ws0 : List Cond} {rm : Room} {D : va_G} {cy : Nat → ClassId} {ad : Nat → Nat} {ids : List Nat} {av : List Value} {M : Mem} {Qc : Array Value → State → Outcome → State → Prop} {cc : ByteArray} {maxL : Nat} {ret : Option FieldType} {own : String} (hy : plainName y.cls = true) (hw : ws = Cond.code y cc maxL ret :: ws0) (hyo : y.cls = own) (hD : ∀ M : Mem, va_D (AA ad ids) (wl cy ad ids M)) (hN : ids.Nodup) (hlen : (lg_sl av).length ≤ maxL)
  (body : ∀ (p : Program) (e : Env) (s : State) (m : MethodId) (below : List Frame) (meth : Method) (c : Code), CX p s m av.toArray meth c D cy ad ids cc maxL ws own → meth.sig.returnType = ret → SW p l e rm s m av.toArray below meth c 0 0 (MQ below Qc av.toArray s 0 0 (AA ad ids)) maxL (PH D cy ad ids s M) 0 (lv_args 0 av) []) :
  Met l y ws rm (va_Pc av (PB D cy ad ids M)) Qc 0 0 (AA ad ids) := by
  refine Met.ofW (cc := cc) (maxL := maxL) (ret := ret) hy hw ?_
  intro p e s m args below meth c s₁ B hml hv
  obtain ⟨rfl, hP, hK, hNW⟩ := hv
  have hts := atoms_spec (ws := ws) B.pre
  have hown : s.vm.findClass y.cls = some m.cls := findClass_of_methodNamed B.named
  have hl := lv_entry av (n := maxL) hlen
  rw [lg_entry_eq]
  exact body p e s m below meth c ⟨B.exec, B.bytes, hml, hyo ▸ hown, hts, hK, hD, hN, B.notSynchronized, hNW⟩ B.returns s.heap [] _ ⟨hP, va_S.rf⟩ hl
end SWM
def ga_ {β : Type} (x : Nat) (K : Nat → Option β) : Option β := if kd x = 0 then K x else none
theorem ga_ok {β : Type} {x : Nat} {K : Nat → Option β} {r : β} (h : ga_ x K = some r) : kd x = 0 ∧ K x = some r := by
  unfold ga_ at h
  by_cases hv : kd x = 0
  · rw [if_pos hv] at h; exact ⟨hv, h⟩
  · rw [if_neg hv] at h; cases h
def FU : Nat := 100000
theorem kd_lt {o : Nat} (h : kd o ≠ 99) : o < 93 := by
  rcases Nat.lt_or_ge o 93 with q | q
  · exact q
  · exact absurd (by unfold kd; rw [List.getD_eq_getElem?_getD, List.getElem?_eq_none (show KL.length ≤ o from q)]; rfl) h
theorem mk5 {o : Nat} (h : kd o = 5) : o = 1 ∨ o = 3 ∨ o = 18 := (show ∀ o, o < 93 → kd o = 5 → o = 1 ∨ o = 3 ∨ o = 18 by decide +kernel) o (kd_lt (by rw [h]; decide)) h
theorem mk0 {o : Nat} (h : kd o = 0) : o = 41 ∨ o = 44 := (show ∀ o, o < 93 → kd o = 0 → o = 41 ∨ o = 44 by decide +kernel) o (kd_lt (by rw [h]; decide)) h
theorem mm5 {o : Nat} (h : kd o = 5) : o ∈ iX := by rcases mk5 h with rfl | rfl | rfl <;> decide
theorem mm0 {o : Nat} (h : kd o = 0) : o ∈ iX := by rcases mk0 h with rfl | rfl <;> decide
theorem mm3 {o : Nat} (h : kd o = 3) : o ∈ iX := (show ∀ o, o < 93 → kd o = 3 → o ∈ iX by decide +kernel) o (kd_lt (by rw [h]; decide)) h
theorem ma5 {o : Nat} (h : kd o = 5) : o + 1 ∈ iX := by rcases mk5 h with rfl | rfl | rfl <;> decide
theorem ka5 {o : Nat} (h : kd o = 5) : kd (o + 1) = 8 := by rcases mk5 h with rfl | rfl | rfl <;> rfl
theorem na5 {o : Nat} (h : kd o = 5) : ln (o + 1) = 300 := by rcases mk5 h with rfl | rfl | rfl <;> rfl
theorem ma0 {o : Nat} (h : kd o = 0) : o + 1 ∈ iX := by rcases mk0 h with rfl | rfl <;> decide
theorem mb0 {o : Nat} (h : kd o = 0) : o + 2 ∈ iX := by rcases mk0 h with rfl | rfl <;> decide
theorem ka0 {o : Nat} (h : kd o = 0) : kd (o + 1) = 10 := by rcases mk0 h with rfl | rfl <;> rfl
theorem kb0 {o : Nat} (h : kd o = 0) : kd (o + 2) = 10 := by rcases mk0 h with rfl | rfl <;> rfl
theorem na0 {o : Nat} (h : kd o = 0) : ln (o + 1) = 256 := by rcases mk0 h with rfl | rfl <;> rfl
theorem nb0 {o : Nat} (h : kd o = 0) : ln (o + 2) = 60 := by rcases mk0 h with rfl | rfl <;> rfl
theorem kv20 {v : Nat} (h1 : 20 + 1 ≤ v) (h2 : v < 20 + 1 + ln 20) : kd v = 3 := (show ∀ v, v < 30 → 21 ≤ v → kd v = 3 by decide +kernel) v h2 h1
theorem kv30 {v : Nat} (h1 : 30 + 1 ≤ v) (h2 : v < 30 + 1 + ln 30) : kd v = 3 := (show ∀ v, v < 40 → 31 ≤ v → kd v = 3 by decide +kernel) v h2 h1
theorem ndX : iX.Nodup := by decide +kernel
theorem ndY : iY.Nodup := by decide +kernel
theorem mi_0 : 0 ∈ iX := by decide +kernel
theorem mi_1 : 1 ∈ iX := by decide +kernel
theorem mi_2 : 2 ∈ iX := by decide +kernel
theorem mi_3 : 3 ∈ iX := by decide +kernel
theorem mi_4 : 4 ∈ iX := by decide +kernel
theorem mi_5 : 5 ∈ iX := by decide +kernel
theorem mi_6 : 6 ∈ iX := by decide +kernel
theorem mi_7 : 7 ∈ iX := by decide +kernel
theorem mi_8 : 8 ∈ iX := by decide +kernel
theorem mi_9 : 9 ∈ iX := by decide +kernel
theorem mi_10 : 10 ∈ iX := by decide +kernel
theorem mi_11 : 11 ∈ iX := by decide +kernel
theorem mi_12 : 12 ∈ iX := by decide +kernel
theorem mi_13 : 13 ∈ iX := by decide +kernel
theorem mi_14 : 14 ∈ iX := by decide +kernel
theorem mi_15 : 15 ∈ iX := by decide +kernel
theorem mi_16 : 16 ∈ iX := by decide +kernel
theorem mi_17 : 17 ∈ iX := by decide +kernel
theorem mi_18 : 18 ∈ iX := by decide +kernel
theorem mi_19 : 19 ∈ iX := by decide +kernel
theorem mi_20 : 20 ∈ iX := by decide +kernel
theorem mi_21 : 21 ∈ iX := by decide +kernel
theorem mi_22 : 22 ∈ iX := by decide +kernel
theorem mi_23 : 23 ∈ iX := by decide +kernel
theorem mi_24 : 24 ∈ iX := by decide +kernel
theorem mi_25 : 25 ∈ iX := by decide +kernel
theorem mi_26 : 26 ∈ iX := by decide +kernel
theorem mi_27 : 27 ∈ iX := by decide +kernel
theorem mi_28 : 28 ∈ iX := by decide +kernel
theorem mi_29 : 29 ∈ iX := by decide +kernel
theorem mi_30 : 30 ∈ iX := by decide +kernel
theorem mi_31 : 31 ∈ iX := by decide +kernel
theorem mi_32 : 32 ∈ iX := by decide +kernel
theorem mi_33 : 33 ∈ iX := by decide +kernel
theorem mi_34 : 34 ∈ iX := by decide +kernel
theorem mi_35 : 35 ∈ iX := by decide +kernel
theorem mi_36 : 36 ∈ iX := by decide +kernel
theorem mi_37 : 37 ∈ iX := by decide +kernel
theorem mi_38 : 38 ∈ iX := by decide +kernel
theorem mi_39 : 39 ∈ iX := by decide +kernel
theorem mi_40 : 40 ∈ iX := by decide +kernel
theorem mi_41 : 41 ∈ iX := by decide +kernel
theorem mi_42 : 42 ∈ iX := by decide +kernel
theorem mi_43 : 43 ∈ iX := by decide +kernel
theorem mi_44 : 44 ∈ iX := by decide +kernel
theorem mi_45 : 45 ∈ iX := by decide +kernel
theorem mi_46 : 46 ∈ iX := by decide +kernel
theorem mi_50 : 50 ∈ iY := by decide +kernel
theorem mi_51 : 51 ∈ iY := by decide +kernel
theorem mi_53 : 53 ∈ iY := by decide +kernel
theorem mi_56 : 56 ∈ iY := by decide +kernel
theorem mi_57 : 57 ∈ iY := by decide +kernel
theorem mi_58 : 58 ∈ iY := by decide +kernel
theorem mi_65 : 65 ∈ iY := by decide +kernel
theorem mi_66 : 66 ∈ iY := by decide +kernel
theorem mi_67 : 67 ∈ iY := by decide +kernel
theorem mi_69 : 69 ∈ iY := by decide +kernel
theorem mi_70 : 70 ∈ iY := by decide +kernel
theorem mi_74 : 74 ∈ iY := by decide +kernel
theorem mi_75 : 75 ∈ iY := by decide +kernel
theorem mi_76 : 76 ∈ iY := by decide +kernel
theorem mi_77 : 77 ∈ iY := by decide +kernel
theorem mi_78 : 78 ∈ iY := by decide +kernel
theorem mi_79 : 79 ∈ iY := by decide +kernel
theorem mi_80 : 80 ∈ iY := by decide +kernel
theorem mi_81 : 81 ∈ iY := by decide +kernel
theorem mi_82 : 82 ∈ iY := by decide +kernel
theorem mi_90 : 90 ∈ iY := by decide +kernel
theorem mi_91 : 91 ∈ iY := by decide +kernel
theorem mi_92 : 92 ∈ iY := by decide +kernel
