def RH (D : va_G) (ws : va_W) (A : Nat → Prop) (s : State) : Heap → List Loc → Prop := fun H locs => va_P D vwCl ws H ∧ va_D A ws ∧ va_S A s.heap H locs
def CR (p : Program) (s : State) (m : MethodId) (args : Array Value) (meth : Method) (c : Code) (D : va_G) (cy : Nat → ClassId) (cc : ByteArray) (nL : Nat) (Ts : List Cond) (own : String) (A : Nat → Prop) (nm : String) : Prop :=
  p.tables.exec = Jvm.exec ∧ c.code = cc ∧ c.maxLocals = nL ∧ s.vm.findClass own = some m.cls ∧ (∀ w ∈ Ts, w.before args s = true) ∧ va_K D vwCl (tyL cy) s ∧ (∀ q, s.heap.size ≤ q → A q) ∧ meth.locks = false ∧ meth.name = nm ∧ va_AO RX3 s
section RW
variable {p : Program} {l : Launch} {e : Env} {R : Room} {s : State} {m : MethodId} {args : Array Value} {below : List Frame} {meth : Method} {c : Code} {cells slots : Nat} {Q : State → Prop} {nL : Nat} {cc : ByteArray} {pc : Nat} {lv : List (Nat × Value)} {rest : List Value} {D : va_G} {cy : Nat → ClassId} {Ts : List Cond} {own : String} {A : Nat → Prop} {ws : va_W} {a : Nat}
theorem rw_obj {nm : String} (X : CR p s m args meth c D cy cc nL Ts own A nm) {idx : Nat} (h1 : Cond.methodLink own idx Lib.objectInit ∈ Ts) (h2 : Cond.instanceMethod Lib.objectInit ∈ Ts) (h3 : Cond.code Lib.objectInit ⟨#[0xb1]⟩ 1 none ∈ Ts) (hd : decode cc pc = .ok (.invokespecial idx, 3)) (hf : 1 ≤ R.frames) (hlo : (rest.map fun v => v.category).sum + 12 ≤ R.locals) (kk : SW p l e R s m args below meth c cells slots Q nL (RH D ws A s) (pc + 3) lv rest) : SW p l e R s m args below meth c cells slots Q nL (RH D ws A s) pc lv (.ref a :: rest) := by
  intro H locs ls hΦ hl
  obtain ⟨hx, hb, hml, hown, hts, hK, hA, hlk, hin, hAO⟩ := X
  exact W.objInit hx hb hown (hts _ h1) (hts _ h2) (hts _ h3) rfl (by rw [hml]; exact hl.1) rfl hd hf (by show 2 * 0 + _ + 12 ≤ _; omega) (kk H locs ls hΦ hl)
theorem rw_get {nm : String} (X : CR p s m args meth c D cy cc nL Ts own A nm) {C : String} {T : u_T} {N ci index : Nat} {fs : List Value} {v : Value} (hin : ∀ w ∈ u_ws C T N, w ∈ Ts) (q0 : Nat) (he : ws[q0]? = some (a, .inr (ci, fs))) (hc : vwCl[ci]? = some (C, T, N)) (k : Nat) (hk : k < N) (hlink : (Cond.fieldLink own index (T k).1 (T k).2.1 (T k).2.2.1) ∈ Ts) (hv : fs[k]? = some v) (hdg : decode cc pc = .ok (.getfield index, 3)) (kk : SW p l e R s m args below meth c cells slots Q nL (RH D ws A s) (pc + 3) lv (v :: rest)) : SW p l e R s m args below meth c cells slots Q nL (RH D ws A s) pc lv (.ref a :: rest) := by
  intro H locs ls hΦ hl
  obtain ⟨hx, hb, hml, hown, hts, hK, hA, hlk, hini, hAO⟩ := X
  exact va_get (D := D) hx hb hts hin hown hK hΦ.1 q0 he hc k hk (hts _ hlink) (fun _ h9 => h9) hv hdg (kk H locs ls hΦ hl)
theorem rw_put {nm : String} (X : CR p s m args meth c D cy cc nL Ts own A nm) {C : String} {T : u_T} {N ci index : Nat} {fs : List Value} {ty : FieldType} {v : Value} (ws1 : va_W) (ty0 : Nat → FieldType) (hty : ∀ k, k < N → parseFieldDescriptor (T k).2.2.1 = some (ty0 k)) (hnm : ∀ a, a < N → ∀ b, b < N → a ≠ b → (T a).2.1 ≠ (T b).2.1) (hin : ∀ w ∈ u_ws C T N, w ∈ Ts) (q0 : Nat) (he : ws[q0]? = some (a, .inr (ci, fs))) (hc : vwCl[ci]? = some (C, T, N)) (k : Nat) (hk : k < N) (hlink : (Cond.fieldLink own index (T k).1 (T k).2.1 (T k).2.2.1) ∈ Ts) (hfin : (T k).2.2.2 = false) (hd : parseFieldDescriptor (T k).2.2.1 = some ty) (hn : narrow ty v = v) (hfit : fits ty v = true) (hl0 : k < fs.length) (hset : ws.set q0 (a, .inr (ci, fs.set k v)) = ws1) (hdg : decode cc pc = .ok (.putfield index, 3)) (kk : SW p l e R s m args below meth c cells slots Q nL (RH D ws1 A s) (pc + 3) lv rest) : SW p l e R s m args below meth c cells slots Q nL (RH D ws A s) pc lv (v :: .ref a :: rest) := by
  intro H locs ls hΦ hl
  obtain ⟨hx, hb, hml, hown, hts, hK, hA, hlk, hini, hAO⟩ := X
  subst hset
  exact va_put (D := D) (A := A) hx hb hts hin ty0 hty hnm hown hK hΦ.1 hΦ.2.1 hΦ.2.2 q0 he hc k hk (hts _ hlink) (fun _ h9 => h9) hfin hd hn hfit hl0 hdg (fun H1 locs1 hP1 hD1 hS1 => kk H1 locs1 ls ⟨hP1, hD1, hS1⟩ hl)
theorem rw_putF (X : CR p s m args meth c D cy cc nL Ts own A "<init>") {C : String} {T : u_T} {N ci index : Nat} {fs : List Value} {ty : FieldType} {v : Value} (ws1 : va_W) (ty0 : Nat → FieldType) (hty : ∀ k, k < N → parseFieldDescriptor (T k).2.2.1 = some (ty0 k)) (hnm : ∀ a, a < N → ∀ b, b < N → a ≠ b → (T a).2.1 ≠ (T b).2.1) (hin : ∀ w ∈ u_ws C T N, w ∈ Ts) (q0 : Nat) (he : ws[q0]? = some (a, .inr (ci, fs))) (hc : vwCl[ci]? = some (C, T, N)) (k : Nat) (hk : k < N) (hlink : (Cond.fieldLink own index (T k).1 (T k).2.1 (T k).2.2.1) ∈ Ts) (hfin : (T k).2.2.2 = true) (hdecl : (T k).1 = own) (hd : parseFieldDescriptor (T k).2.2.1 = some ty) (hn : narrow ty v = v) (hfit : fits ty v = true) (hl0 : k < fs.length) (hset : ws.set q0 (a, .inr (ci, fs.set k v)) = ws1) (hdg : decode cc pc = .ok (.putfield index, 3)) (kk : SW p l e R s m args below meth c cells slots Q nL (RH D ws1 A s) (pc + 3) lv rest) : SW p l e R s m args below meth c cells slots Q nL (RH D ws A s) pc lv (v :: .ref a :: rest) := by
  intro H locs ls hΦ hl
  obtain ⟨hx, hb, hml, hown, hts, hK, hA, hlk, hini, hAO⟩ := X
  subst hset
  exact va_putF (D := D) (A := A) hx hb hts hin ty0 hty hnm hown hK hΦ.1 hΦ.2.1 hΦ.2.2 q0 he hc k hk (hts _ hlink) (fun _ h9 => h9) hfin hini hdecl hd hn hfit hl0 hdg (fun H1 locs1 hP1 hD1 hS1 => kk H1 locs1 ls ⟨hP1, hD1, hS1⟩ hl)
theorem rw_new {nm : String} (X : CR p s m args meth c D cy cc nL Ts own A nm) {C : String} {T : u_T} {N ci index : Nat} {fs : List Value} (ty : Nat → FieldType) (hty : ∀ k, k < N → parseFieldDescriptor (T k).2.2.1 = some (ty k)) (hin : ∀ w ∈ u_ws C T N, w ∈ Ts) (hcl : Cond.classLink own index C ∈ Ts) (hinst : Cond.instantiable C N ∈ Ts) (hini : Cond.initialized C ∈ Ts) (hc : vwCl[ci]? = some (C, T, N)) (fs0 : fs = fs) (hfs : ∀ j, j < N → defaultValue (ty j) = vp_V fs j) (hcells : cells + 1 ≤ R.cells) (hslots : slots + N ≤ R.slots) (hdg : decode cc pc = .ok (.new index, 3)) (kk : ∀ q : Nat, SW p l e R s m args below meth c (cells + 1) (slots + N) Q nL (RH D (ws ++ [(q, .inr (ci, fs))]) A s) (pc + 3) lv (.ref q :: rest)) : SW p l e R s m args below meth c cells slots Q nL (RH D ws A s) pc lv rest := by
  intro H locs ls hΦ hl
  obtain ⟨hx, hb, hml, hown, hts, hK, hA, hlk, hinn, hAO⟩ := X
  exact va_new (D := D) (A := A) hx hb hts hin ty hty hown (hts _ hcl) (hts _ hinst) (hts _ hini) hK hΦ.1 hΦ.2.1 hΦ.2.2 hA hc hfs hcells hslots hdg (fun q H1 hP1 hD1 hS1 => kk q H1 locs ls ⟨hP1, hD1, hS1⟩ hl)
theorem rw_newaB {nm : String} (X : CR p s m args meth c D cy cc nL Ts own A nm) {n : Int32} (N1 : Nat) (harr : Cond.arrayClass .byte ∈ Ts) (hn : ¬ n < 0) (hN : n.toNatClampNeg = N1) (hbytes : N1 * componentBytes .byte ≤ 536870912) (hcells : cells + 1 ≤ R.cells) (hslots : slots + N1 ≤ R.slots) {at0 : ArrayType} (hty : newarray.typeOf at0 = .byte) (hdg : decode cc pc = .ok (.newarray at0, 2)) (kk : ∀ q : Nat, SW p l e R s m args below meth c (cells + 1) (slots + N1) Q nL (RH D (ws ++ [(q, .inl (cy 0, N1, .inl (fun _ => (0 : Int32))))]) A s) (pc + 2) lv (.ref q :: rest)) : SW p l e R s m args below meth c cells slots Q nL (RH D ws A s) pc lv (.int n :: rest) := by
  intro H locs ls hΦ hl
  obtain ⟨hx, hb, hml, hown, hts, hK, hA, hlk, hin, hAO⟩ := X
  refine va_newa (D := D) (A := A) (tys := tyL cy) (a0 := (N1, .inl (fun _ => (0 : Int32)))) hx hb (by rw [hty]; exact hts _ harr) hty hK hΦ.1 hΦ.2.1 hΦ.2.2 hA (fun cA => by rfl) hn hN hbytes hcells hslots hdg (fun q cA H1 hK1 hP1 hD1 hS1 => ?_)
  have e1 := (hK1.2 5 _ rfl).2
  have e2 := (hK.2 0 _ rfl).2
  have e3 : cA = cy 0 := Option.some.inj ((show s.vm.findClass _ = some cA from e1).symm.trans (show s.vm.findClass _ = some (cy 0) from e2))
  subst e3
  exact kk q H1 locs ls ⟨hP1, hD1, hS1⟩ hl
theorem rw_newaI {nm : String} (X : CR p s m args meth c D cy cc nL Ts own A nm) {n : Int32} (N1 : Nat) (harr : Cond.arrayClass .int ∈ Ts) (hn : ¬ n < 0) (hN : n.toNatClampNeg = N1) (hbytes : N1 * componentBytes .int ≤ 536870912) (hcells : cells + 1 ≤ R.cells) (hslots : slots + N1 ≤ R.slots) {at0 : ArrayType} (hty : newarray.typeOf at0 = .int) (hdg : decode cc pc = .ok (.newarray at0, 2)) (kk : ∀ q : Nat, SW p l e R s m args below meth c (cells + 1) (slots + N1) Q nL (RH D (ws ++ [(q, .inl (cy 1, N1, .inl (fun _ => (0 : Int32))))]) A s) (pc + 2) lv (.ref q :: rest)) : SW p l e R s m args below meth c cells slots Q nL (RH D ws A s) pc lv (.int n :: rest) := by
  intro H locs ls hΦ hl
  obtain ⟨hx, hb, hml, hown, hts, hK, hA, hlk, hin, hAO⟩ := X
  refine va_newa (D := D) (A := A) (tys := tyL cy) (a0 := (N1, .inl (fun _ => (0 : Int32)))) hx hb (by rw [hty]; exact hts _ harr) hty hK hΦ.1 hΦ.2.1 hΦ.2.2 hA (fun cA => by rfl) hn hN hbytes hcells hslots hdg (fun q cA H1 hK1 hP1 hD1 hS1 => ?_)
  have e1 := (hK1.2 5 _ rfl).2
  have e2 := (hK.2 1 _ rfl).2
  have e3 : cA = cy 1 := Option.some.inj ((show s.vm.findClass _ = some cA from e1).symm.trans (show s.vm.findClass _ = some (cy 1) from e2))
  subst e3
  exact kk q H1 locs ls ⟨hP1, hD1, hS1⟩ hl
theorem rw_newaZ {nm : String} (X : CR p s m args meth c D cy cc nL Ts own A nm) {n : Int32} (N1 : Nat) (harr : Cond.arrayClass .boolean ∈ Ts) (hn : ¬ n < 0) (hN : n.toNatClampNeg = N1) (hbytes : N1 * componentBytes .boolean ≤ 536870912) (hcells : cells + 1 ≤ R.cells) (hslots : slots + N1 ≤ R.slots) {at0 : ArrayType} (hty : newarray.typeOf at0 = .boolean) (hdg : decode cc pc = .ok (.newarray at0, 2)) (kk : ∀ q : Nat, SW p l e R s m args below meth c (cells + 1) (slots + N1) Q nL (RH D (ws ++ [(q, .inl (cy 3, N1, .inl (fun _ => (0 : Int32))))]) A s) (pc + 2) lv (.ref q :: rest)) : SW p l e R s m args below meth c cells slots Q nL (RH D ws A s) pc lv (.int n :: rest) := by
  intro H locs ls hΦ hl
  obtain ⟨hx, hb, hml, hown, hts, hK, hA, hlk, hin, hAO⟩ := X
  refine va_newa (D := D) (A := A) (tys := tyL cy) (a0 := (N1, .inl (fun _ => (0 : Int32)))) hx hb (by rw [hty]; exact hts _ harr) hty hK hΦ.1 hΦ.2.1 hΦ.2.2 hA (fun cA => by rfl) hn hN hbytes hcells hslots hdg (fun q cA H1 hK1 hP1 hD1 hS1 => ?_)
  have e1 := (hK1.2 5 _ rfl).2
  have e2 := (hK.2 3 _ rfl).2
  have e3 : cA = cy 3 := Option.some.inj ((show s.vm.findClass _ = some cA from e1).symm.trans (show s.vm.findClass _ = some (cy 3) from e2))
  subst e3
  exact kk q H1 locs ls ⟨hP1, hD1, hS1⟩ hl
theorem rw_newaJ {nm : String} (X : CR p s m args meth c D cy cc nL Ts own A nm) {n : Int32} (N1 : Nat) (harr : Cond.arrayClass .long ∈ Ts) (hn : ¬ n < 0) (hN : n.toNatClampNeg = N1) (hbytes : N1 * componentBytes .long ≤ 536870912) (hcells : cells + 1 ≤ R.cells) (hslots : slots + N1 ≤ R.slots) {at0 : ArrayType} (hty : newarray.typeOf at0 = .long) (hdg : decode cc pc = .ok (.newarray at0, 2)) (kk : ∀ q : Nat, SW p l e R s m args below meth c (cells + 1) (slots + N1) Q nL (RH D (ws ++ [(q, .inl (cy 2, N1, .inr (.inl (fun _ => (0 : Int64)))))]) A s) (pc + 2) lv (.ref q :: rest)) : SW p l e R s m args below meth c cells slots Q nL (RH D ws A s) pc lv (.int n :: rest) := by
  intro H locs ls hΦ hl
  obtain ⟨hx, hb, hml, hown, hts, hK, hA, hlk, hin, hAO⟩ := X
  refine va_newa (D := D) (A := A) (tys := tyL cy) (a0 := (N1, .inr (.inl (fun _ => (0 : Int64))))) hx hb (by rw [hty]; exact hts _ harr) hty hK hΦ.1 hΦ.2.1 hΦ.2.2 hA (fun cA => by rfl) hn hN hbytes hcells hslots hdg (fun q cA H1 hK1 hP1 hD1 hS1 => ?_)
  have e1 := (hK1.2 5 _ rfl).2
  have e2 := (hK.2 2 _ rfl).2
  have e3 : cA = cy 2 := Option.some.inj ((show s.vm.findClass _ = some cA from e1).symm.trans (show s.vm.findClass _ = some (cy 2) from e2))
  subst e3
  exact kk q H1 locs ls ⟨hP1, hD1, hS1⟩ hl
theorem rw_newq {nm : String} (X : CR p s m args meth c D cy cc nL Ts own A nm) {n : Int32} {index : Nat} (N1 : Nat) (hcl : Cond.classLink own index RX3 ∈ Ts) (hn : ¬ n < 0) (hN : n.toNatClampNeg = N1) (hbytes : N1 * 4 ≤ 536870912) (hcells : cells + 1 ≤ R.cells) (hslots : slots + N1 ≤ R.slots) (hdg : decode cc pc = .ok (.anewarray index, 3)) (kk : ∀ q : Nat, SW p l e R s m args below meth c (cells + 1) (slots + N1) Q nL (RH D (ws ++ [(q, .inl (cy 4, N1, .inr (.inr (.inr (.inr (fun _ => none))))))]) A s) (pc + 3) lv (.ref q :: rest)) : SW p l e R s m args below meth c cells slots Q nL (RH D ws A s) pc lv (.int n :: rest) := by
  intro H locs ls hΦ hl
  obtain ⟨hx, hb, hml, hown, hts, hK, hA, hlk, hin, hAO⟩ := X
  refine va_newq (D := D) (A := A) (tys := tyL cy) hx hb hown (hts _ hcl) hAO hK hΦ.1 hΦ.2.1 hΦ.2.2 hA hn hN hbytes hcells hslots hdg (fun q cA H1 hK1 hP1 hD1 hS1 => ?_)
  obtain ⟨_, _, _, _, _, e1⟩ := (hK1.2 5 _ rfl).2
  obtain ⟨_, _, _, _, _, e2⟩ := (hK.2 4 _ rfl).2
  have e3 : cA = cy 4 := Option.some.inj (e1.symm.trans e2)
  subst e3
  exact kk q H1 locs ls ⟨hP1, hD1, hS1⟩ hl
theorem rw_ast {nm : String} (X : CR p s m args meth c D cy cc nL Ts own A nm) {r : vw_C} {n v ci : Nat} {vs : List Value} {f : Nat → Option Nat} {i : Int32} (ws1 : va_W) (q0 qk : Nat) (ha : ws[q0]? = some (a, .inl (cy 4, n, .inr (.inr (.inr (.inr f)))))) (hv : ws[qk]? = some (v, .inr (ci, vs))) (hc : vwCl[ci]? = some r) (hr : r.1 = RX3) (hi : vp_in i n) (hset : ws.set q0 (a, .inl (cy 4, n, .inr (.inr (.inr (.inr (va_up f i.toNatClampNeg (some v))))))) = ws1) (hdg : decode cc pc = .ok (.aastore, 1)) (kk : SW p l e R s m args below meth c cells slots Q nL (RH D ws1 A s) (pc + 1) lv rest) : SW p l e R s m args below meth c cells slots Q nL (RH D ws A s) pc lv (.ref v :: .int i :: .ref a :: rest) := by
  intro H locs ls hΦ hl
  obtain ⟨hx, hb, hml, hown, hts, hK, hA, hlk, hin, hAO⟩ := X
  subst hset
  exact va_astq (D := D) (A := A) hx hb hK hΦ.1 hΦ.2.1 hΦ.2.2 q0 4 qk ci ha (by rw [hr]; rfl) hv hc hi hdg (fun H1 locs1 hP1 hD1 hS1 => kk H1 locs1 ls ⟨hP1, hD1, hS1⟩ hl)
end RW
/-- what a constructor does: the cell gets its fields, further cells come -/
def CTC (l : Launch) (y : MethodName) (wy : List Cond) (rm : Room) (D : va_G) (cy : Nat → ClassId) (b : Nat) (e0 : va_E) (Wf : (Nat → Nat) → va_W) (mc ms : Nat) (av : List Value) : Prop := ∀ sz : Nat, Met l y wy rm (va_Pc (.ref b :: av) (fun U => U.heap.size = sz ∧ va_P D vwCl [(b, e0)] U.heap ∧ va_K D vwCl (tyL cy) U ∧ va_AO RX3 U)) (va_Qv (fun _ : Nat → Nat => True) (fun u t => va_P D vwCl (Wf u) t.heap ∧ va_D (va_A [(b, e0)] sz) (Wf u)) (va_A [(b, e0)] sz)) mc ms (va_A [(b, e0)] sz)
theorem ctc_blind {D : va_G} {cy : Nat → ClassId} {b sz : Nat} {e0 : va_E} {av : List Value} : FrameBlind (va_Pc av (fun U => U.heap.size = sz ∧ va_P D vwCl [(b, e0)] U.heap ∧ va_K D vwCl (tyL cy) U ∧ va_AO RX3 U)) := by
  intro a U g mk q
  obtain ⟨q0, q1, qP, qK, qN⟩ := q
  exact ⟨q0, q1, qP, va_K.moved (u := U) (U := U.calling g mk a) (Vm.Alike.refl U.vm) qK, va_AO.moved (u := U) (U := U.calling g mk a) (Vm.Alike.refl U.vm) qN⟩
section RW
variable {p : Program} {l : Launch} {e : Env} {R : Room} {s : State} {m : MethodId} {args : Array Value} {below : List Frame} {meth : Method} {c : Code} {cells slots : Nat} {Q : State → Prop} {nL : Nat} {cc : ByteArray} {pc : Nat} {lv : List (Nat × Value)} {rest : List Value} {D : va_G} {cy : Nat → ClassId} {Ts : List Cond} {own : String} {A : Nat → Prop} {ws : va_W} {a : Nat} {b : Nat} {e0 : va_E} {Wf : (Nat → Nat) → va_W} {mc ms : Nat}
theorem rw_callI {nm : String} (X : CR p s m args meth c D cy cc nL Ts own A nm) {y : MethodName} {bytes : ByteArray} {maxL n index : Nat} {wy : List Cond} {rm : Room} {As st0 : List Value} {wr : va_W} (q0 : Nat) (isR : List Nat) (hM : CTC l y wy rm D cy b e0 Wf mc ms As) (cw : CallB R s args own index y bytes maxL none wy rm mc ms n ∧ y.name = "<init>" ∧ (Cond.instanceMethod y).before args s = true) (hC0 : [q0].map (fun i => ws[i]?) = [((b, e0) : Nat × va_E)].map some) (hR : isR.map (fun i => ws[i]?) = wr.map some) (hnd : va_nd isR = true) (hdis : ∀ i ∈ isR, i ∉ [q0]) (hn : As.length = n) (hst : st0 = As.reverse ++ .ref b :: rest) (hW : (rest.map fun v => v.category).sum ≤ 8) (hdg : decode cc pc = .ok (.invokespecial index, 3)) (hf : cells + mc ≤ R.cells ∧ slots + ms ≤ R.slots) (kk : ∀ u : Nat → Nat, SW p l e R s m args below meth c (cells + mc) (slots + ms) Q nL (RH D (wr ++ Wf u) A s) (pc + 3) lv rest) : SW p l e R s m args below meth c cells slots Q nL (RH D ws A s) pc lv st0 := by
  intro H locs ls hΦ hl
  obtain ⟨hx, hb, hml, hown, hts, hK, hA, hlk, hin, hAO⟩ := X
  obtain ⟨hP, hD, hS⟩ := hΦ
  have hFc := va_free (wc := [(b, e0)]) hD hS hA [q0] hC0
  have hPc : va_P D vwCl [(b, e0)] H := hP.sub [q0] (by
    have h9 : ws[q0]? = some (b, e0) := by simpa using hC0
    simp [h9])
  have hrun := va_runI (g := F0 m pc ls st0) (As := As) (rest := rest) (cells := cells) (slots := slots) (H := H) (locs := locs) (below := below) (meth := meth) (e := e) ⟨hx, hb, hml, hown, hts⟩ (hM H.size) cw ⟨ctc_blind, fun U hU hW => ⟨rfl, by rw [hU], by rw [hU]; exact hPc, va_K.moved hW.alike hK, va_AO.moved hW.alike hAO⟩⟩ rfl hn hl.1 hst (lv_room hW) hdg hf
  refine va_callv hrun hS (fun q _ h => hFc q h) hFc (fun u t H1 locs1 ht hvm hw hB hz1 hk1 hS1 => ?_)
  subst ht
  obtain ⟨hP2, hD2⟩ := va_join (wr := wr) (w1 := Wf u) hP hD [q0] isR hC0 hR hnd hdis hk1 hFc hB.1 hB.2
  exact kk u t.heap locs1 ls ⟨hP2, hD2, hS1⟩ hl
theorem rw_callV {nm : String} (X : CR p s m args meth c D cy cc nL Ts own A nm) {y : MethodName} {bytes : ByteArray} {maxL n index : Nat} {wy : List Cond} {rm : Room} {As st0 : List Value} {wr : va_W} (q0 : Nat) (isR : List Nat) {C : String} {ci : Nat} {q : vw_C} {fs : List Value} (hfs : e0 = .inr (ci, fs)) (hc : vwCl[ci]? = some q) (hC : q.1 = C) (hM : CTC l y wy rm D cy b e0 Wf mc ms As) (cw : CallW R s args own C index y bytes maxL none wy rm mc ms n) (hC0 : [q0].map (fun i => ws[i]?) = [((b, e0) : Nat × va_E)].map some) (hR : isR.map (fun i => ws[i]?) = wr.map some) (hnd : va_nd isR = true) (hdis : ∀ i ∈ isR, i ∉ [q0]) (hn : As.length = n) (hst : st0 = As.reverse ++ .ref b :: rest) (hW : (rest.map fun v => v.category).sum ≤ 8) (hdg : decode cc pc = .ok (.invokevirtual index, 3)) (hf : cells + mc ≤ R.cells ∧ slots + ms ≤ R.slots) (kk : ∀ u : Nat → Nat, SW p l e R s m args below meth c (cells + mc) (slots + ms) Q nL (RH D (wr ++ Wf u) A s) (pc + 3) lv rest) : SW p l e R s m args below meth c cells slots Q nL (RH D ws A s) pc lv st0 := by
  intro H locs ls hΦ hl
  obtain ⟨hx, hb, hml, hown, hts, hK, hA, hlk, hin, hAO⟩ := X
  obtain ⟨hP, hD, hS⟩ := hΦ
  have hFc := va_free (wc := [(b, e0)]) hD hS hA [q0] hC0
  have hPc : va_P D vwCl [(b, e0)] H := hP.sub [q0] (by
    have h9 : ws[q0]? = some (b, e0) := by simpa using hC0
    simp [h9])
  have hr := va_recv (tys := tyL cy) (q0 := 0) hK hPc hc (by rw [hfs]; rfl)
  rw [hC] at hr
  have hrun := va_runV (g := F0 m pc ls st0) (As := As) (rest := rest) (cells := cells) (slots := slots) (H := H) (locs := locs) (below := below) (meth := meth) (e := e) ⟨hx, hb, hml, hown, hts⟩ (hM H.size) cw ⟨ctc_blind, hr, fun U hU hW => ⟨rfl, by rw [hU], by rw [hU]; exact hPc, va_K.moved hW.alike hK, va_AO.moved hW.alike hAO⟩⟩ rfl hn hl.1 hst (lv_room hW) hdg hf
  refine va_callv hrun hS (fun q _ h => hFc q h) hFc (fun u t H1 locs1 ht hvm hw hB hz1 hk1 hS1 => ?_)
  subst ht
  obtain ⟨hP2, hD2⟩ := va_join (wr := wr) (w1 := Wf u) hP hD [q0] isR hC0 hR hnd hdis hk1 hFc hB.1 hB.2
  exact kk u t.heap locs1 ls ⟨hP2, hD2, hS1⟩ hl
theorem rw_vret {nm : String} (X : CR p s m args meth c D cy cc nL Ts own A nm) {sz : Nat} (u : Nat → Nat) (is : List Nat) (hAe : A = va_A [(b, e0)] sz) (hr : meth.sig.returnType = none) (hdg : decode cc pc = .ok (.return_, 1)) (hnd : va_nd is = true) (h1 : is.map (fun i => ws[i]?) = (Wf u).map some) : SW p l e R s m args below meth c mc ms (MQ below (va_Qv (fun _ : Nat → Nat => True) (fun u t => va_P D vwCl (Wf u) t.heap ∧ va_D (va_A [(b, e0)] sz) (Wf u)) (va_A [(b, e0)] sz)) args s mc ms (va_A [(b, e0)] sz)) nL (RH D ws A s) pc lv [] := by
  intro H locs ls hΦ hl
  obtain ⟨hx, hb, hml, hown, hts, hK, hA, hlk, hin, hAO⟩ := X
  subst hAe
  obtain ⟨hP, hD, hS⟩ := hΦ
  have hP2 : va_P D vwCl (Wf u) H := by
    intro k q hk
    have h2 : (is.map (fun i => ws[i]?))[k]? = some (some q) := by rw [h1]; simp [hk]
    rw [List.getElem?_map] at h2
    cases hi : is[k]? with
    | none => rw [hi] at h2; cases h2
    | some i =>
      rw [hi] at h2
      exact hP i q (Option.some.inj h2)
  exact W.vret hx hb hr (fun t ht hW => ⟨⟨u, rfl, trivial, by rw [ht]; exact hP2, hD.sub is hnd h1⟩, hS.F ht⟩) hS.2.2 hdg hlk
theorem ctc_of {y : MethodName} {wy ws0 : List Cond} {rm : Room} {cc : ByteArray} {maxL : Nat} {av : List Value} (hy : plainName y.cls = true) (hini : y.name = "<init>" ∨ True) (hw : wy = Cond.code y cc maxL none :: ws0) (hyo : y.cls = own) (hlen : (lg_sl (.ref b :: av)).length ≤ maxL)
  (body : ∀ (p : Program) (e : Env) (s : State) (m : MethodId) (below : List Frame) (meth : Method) (c : Code) (A : Nat → Prop) (hAe : A = va_A [(b, e0)] s.heap.size), (p.tables.exec = Jvm.exec ∧ c.code = cc ∧ c.maxLocals = maxL ∧ s.vm.findClass own = some m.cls ∧ (∀ w ∈ wy, w.before (Value.ref b :: av).toArray s = true) ∧ va_K D vwCl (tyL cy) s ∧ (∀ q, s.heap.size ≤ q → A q) ∧ meth.locks = false ∧ meth.name = y.name ∧ va_AO RX3 s) → meth.sig.returnType = none → SW p l e rm s m (Value.ref b :: av).toArray below meth c 0 0 (MQ below (va_Qv (fun _ : Nat → Nat => True) (fun u t => va_P D vwCl (Wf u) t.heap ∧ va_D (va_A [(b, e0)] s.heap.size) (Wf u)) (va_A [(b, e0)] s.heap.size)) (Value.ref b :: av).toArray s mc ms (va_A [(b, e0)] s.heap.size)) maxL (RH D [(b, e0)] A s) 0 (lv_args 0 (.ref b :: av)) []) :
  CTC l y wy rm D cy b e0 Wf mc ms av := by
  intro sz
  refine Met.ofW (cc := cc) (maxL := maxL) (ret := none) hy hw ?_
  intro p e s m args below meth c s₁ B hml hv
  obtain ⟨rfl, rfl, hP, hK, hAO⟩ := hv
  have hts := atoms_spec (ws := wy) B.pre
  have hown : s.vm.findClass y.cls = some m.cls := findClass_of_methodNamed B.named
  have hnm : meth.name = y.name := (name_of_methodNamed B.named B.method).1
  have hl := lv_entry (.ref b :: av) (n := maxL) hlen
  rw [lg_entry_eq]
  have hD0 : va_D (va_A [(b, e0)] s.heap.size) [(b, e0)] := by
    refine ⟨fun i j p q hp hq _ => ?_, fun k q hk => va_A.in hk⟩
    have h1 : i < 1 := (List.getElem?_eq_some_iff.mp hp).1
    have h2 : j < 1 := (List.getElem?_eq_some_iff.mp hq).1
    omega
  exact body p e s m below meth c _ rfl ⟨B.exec, B.bytes, hml, hyo ▸ hown, hts, hK, fun q h => Or.inr h, B.notSynchronized, hnm, hAO⟩ B.returns s.heap [] _ ⟨hP, hD0, va_S.rf⟩ hl
end RW
section RWB
variable {p : Program} {l : Launch} {e : Env} {R : Room} {s : State} {m : MethodId} {args : Array Value} {below : List Frame} {meth : Method} {c : Code} {cells slots : Nat} {Q : State → Prop} {nL : Nat} {Φ : Heap → List Loc → Prop} {cc : ByteArray} {pc : Nat} {lv : List (Nat × Value)} {rest : List Value}
theorem sw_gtF (hx : p.tables.exec = Jvm.exec) (hb : c.code = cc) {x y : Int32} {off : Int} (tgt : Nat) (hdg : decode cc pc = .ok (.if_icmp .gt off, 3)) (ht : (pc : Int) + off = (tgt : Int)) (hc : ¬ y < x) (kk : SW p l e R s m args below meth c cells slots Q nL Φ (pc + 3) lv rest) : SW p l e R s m args below meth c cells slots Q nL Φ pc lv (.int y :: .int x :: rest) := fun H locs ls hΦ hl => lv_icmp_gt hx hb hdg ht (fun h => absurd h hc) (fun _ => kk H locs ls hΦ hl)
theorem sw_gtT (hx : p.tables.exec = Jvm.exec) (hb : c.code = cc) {x y : Int32} {off : Int} (tgt : Nat) (hdg : decode cc pc = .ok (.if_icmp .gt off, 3)) (ht : (pc : Int) + off = (tgt : Int)) (hc : y < x) (kk : SW p l e R s m args below meth c cells slots Q nL Φ tgt lv rest) : SW p l e R s m args below meth c cells slots Q nL Φ pc lv (.int y :: .int x :: rest) := fun H locs ls hΦ hl => lv_icmp_gt hx hb hdg ht (fun _ => kk H locs ls hΦ hl) (fun h => absurd hc h)
theorem sw_wid {k n : Nat} (h1 : cells ≤ k) (h2 : slots ≤ n) (kk : SW p l e R s m args below meth c k n Q nL Φ pc lv rest) : SW p l e R s m args below meth c cells slots Q nL Φ pc lv rest := fun H locs ls hΦ hl => W.widen h1 h2 (kk H locs ls hΦ hl)
theorem sw_cs {k n : Nat} (h1 : cells = k) (h2 : slots = n) (kk : SW p l e R s m args below meth c k n Q nL Φ pc lv rest) : SW p l e R s m args below meth c cells slots Q nL Φ pc lv rest := by subst h1; subst h2; exact kk
end RWB
