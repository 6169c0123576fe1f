/-! the law's and the JDK's methods: the class's cells, other cells at their addresses, and what stands at the launch; a judgement over any predicate of the heap -/
abbrev C4 : Type := va_G × (ClassId × ClassId × ClassId) × (Nat × Nat) × (Nat → Nat) × (Nat → Nat)
abbrev Z4 : Type := Nat × Nat × Nat × (Nat → Int32)
abbrev Q4 : Type := Nat × Nat × Nat × (Nat → Int32)
def tyE (K : C4) : List (ClassId × FieldType) := [(K.2.1.1, .int), (K.2.1.2.1, .object RX8), (K.2.1.2.2, .byte)]
def A0 (B0 : Nat) : Nat → Prop := fun q => B0 ≤ q
/-- the cells: the class's object from B on, and E -/
def WLE (K : C4) (B : Nat) (σ : SS) (E : va_W) : va_W := WL B K.2.1.1 K.2.1.2.1 95 σ ++ E
def PE (K : C4) (B0 B : Nat) (σ : SS) (E : va_W) (H : Heap) : Prop := B0 ≤ B ∧ RS σ ∧ va_P K.1 vwCl (WLE K B σ E) H ∧ va_D (A0 B0) (WLE K B σ E)
/-- a text: the String's cell, her array, how long, the bytes -/
def SV (q : Q4) (A : Nat → Prop) (U : State) (H : Heap) : Prop := va_O RJ0 q.1 A U H ∧ va_OF RJ0 "coder" "B" (.int 0) q.1 A U H ∧ va_OF RJ0 "value" "[B" (.ref q.2.1) q.1 A U H ∧ va_T .byte q.2.1 q.2.2.1 (fun j => .int (q.2.2.2 j)) A U H
def NA : Nat → Prop := fun _ => False
def SK (o : Option Q4) (U : State) (H : Heap) : Prop := match o with
  | none => True
  | some q => SV q NA U H
/-- statics that the run reads -/
def ST (B0 : Nat) (d : Nat × Nat) (U : State) (H : Heap) : Prop := va_Z RJ0 "COMPACT_STRINGS" "Z" (.int 1) (A0 B0) U H ∧ va_Z RJ6 "DigitOnes" "[B" (.ref d.1) (A0 B0) U H ∧ va_T .byte d.1 100 (fun j => .int (nI (48 + j % 10))) (A0 B0) U H ∧ va_Z RJ6 "DigitTens" "[B" (.ref d.2) (A0 B0) U H ∧ va_T .byte d.2 100 (fun j => .int (nI (48 + j / 10))) (A0 B0) U H ∧ va_Zq RJ3 "SIOOBE_FORMATTER" "Ljava/util/function/BiFunction;" (A0 B0) U H
def txI : List Nat := [67, 75, 77, 79, 81, 87]
def txT : List String := ["p", "<", ">", ";w", ";m", ";h"]
def txL : List Nat := [1, 1, 1, 2, 2, 2]
def txB : List (List Int32) := [[112], [60], [62], [59, 119], [59, 109], [59, 104]]
/-- private methods of the builder's superclass, asked of a builder: selected as they are -/
def PVL : List MethodName := [yJ5_ensureCapacityInternal_d00df, yJ5_putStringAt_47b60, yJ5_inflateIfNeededFor_a7421]
def PV (U : State) : Prop := ∀ y ∈ PVL, va_Nw (.selects RJ4 y y) U
theorem PV.same {u U : State} (h : u.vm = U.vm) (hP : PV u) : PV U := fun y hy => va_Nw.same rfl h (hP y hy)
theorem PV.warm {s U : State} (hW : s.WarmedH U.vm) (hP : PV s) : PV U := fun y hy => pay_in (big := [.selects RJ4 y y]) (ws := [.selects RJ4 y y]) (args := #[]) (fun w hw => by
  rw [List.mem_singleton.mp hw]
  exact hP y hy) (fun w hw => ⟨hw, good_of_word (by rw [List.mem_singleton.mp hw]; rfl)⟩) _ (List.mem_singleton.mpr rfl) #[] U hW
def CX (K : C4) (z : Z4) (U : State) (H : Heap) : Prop := va_K K.1 vwCl (tyE K) U ∧ NW U ∧ va_AO RX8 U ∧ ST z.1 K.2.2.1 U H ∧ vk_S 6 txL txB K.2.2.2.1 K.2.2.2.2 (A0 z.1) U H ∧ (∀ i, i < 6 → vk_R RL (txI.getD i 0) (txT.getD i "") (K.2.2.2.1 i) U) ∧ va_X z.2.1 z.2.2.1 z.2.2.2 U H ∧ z.2.1 < z.1 ∧ z.2.2.1 ≤ 260 ∧ z.2.1 < H.size ∧ PV U
theorem SV.moved {q : Q4} {A : Nat → Prop} {u U : State} {H : Heap} (hv : u.vm.Alike U.vm) (h : SV q A u H) : SV q A U H := ⟨va_O.moved hv h.1, va_OF.moved hv h.2.1, va_OF.moved hv h.2.2.1, va_T.moved hv h.2.2.2⟩
theorem SV.kept {q : Q4} {A : Nat → Prop} {U : State} {H H1 : Heap} (h : SV q A U H) (hq : ∀ a : Nat, a < H.size → ¬ A a → H1[a]? = H[a]?) : SV q A U H1 := ⟨va_O.kept h.1 hq, va_OF.kept h.2.1 hq, va_OF.kept h.2.2.1 hq, va_T.kept h.2.2.2 hq⟩
theorem SV.narrow {q : Q4} {A B : Nat → Prop} {U : State} {H : Heap} (h : SV q A U H) (hAB : ∀ q, B q → A q) : SV q B U H := ⟨va_O.narrow h.1 hAB, va_OF.narrow h.2.1 hAB, va_OF.narrow h.2.2.1 hAB, va_T.narrow h.2.2.2 hAB⟩
theorem SK.moved {o : Option Q4} {u U : State} {H : Heap} (hv : u.vm.Alike U.vm) (h : SK o u H) : SK o U H := by
  cases o with
  | none => trivial
  | some q => exact SV.moved hv h
theorem ST.moved {B0 : Nat} {d : Nat × Nat} {u U : State} {H : Heap} (hv : u.vm.Alike U.vm) (h : ST B0 d u H) : ST B0 d U H := ⟨va_Z.moved hv h.1, va_Z.moved hv h.2.1, va_T.moved hv h.2.2.1, va_Z.moved hv h.2.2.2.1, va_T.moved hv h.2.2.2.2.1, va_Zq.moved hv h.2.2.2.2.2⟩
theorem ST.kept {B0 : Nat} {d : Nat × Nat} {U : State} {H H1 : Heap} (h : ST B0 d U H) (hq : ∀ a : Nat, a < H.size → ¬ A0 B0 a → H1[a]? = H[a]?) : ST B0 d U H1 := ⟨va_Z.kept h.1 hq, va_Z.kept h.2.1 hq, va_T.kept h.2.2.1 hq, va_Z.kept h.2.2.2.1 hq, va_T.kept h.2.2.2.2.1 hq, va_Zq.kept h.2.2.2.2.2 hq⟩
theorem CX.go {K : C4} {z : Z4} {s U : State} {H : Heap} {A : Nat → Prop} {locs : List Loc} (h : CX K z s s.heap) (hS : va_S A s.heap H locs) (hA : ∀ q, A q → z.1 ≤ q) (hU : U.heap = H) (hW : s.WarmedH U.vm) : CX K z U U.heap := by
  obtain ⟨h1, h2, h3, h4, h5, h6, h7, h8, h9, h10, h11⟩ := h
  have hq : ∀ a : Nat, a < s.heap.size → ¬ A0 z.1 a → H[a]? = s.heap[a]? := fun a h1 h2 => hS.2.1 a h1 (fun q => h2 (hA a q))
  rw [hU]
  exact ⟨va_K.moved hW.alike h1, h2.warm hW, va_AO.moved hW.alike h3, (h4.kept hq).moved hW.alike, (h5.kept hq).moved hW.alike, fun i hi => (h6 i hi).warm hW, va_X.moved hW.alike (h7.kept (hq _ h10 (fun q => Nat.not_le.mpr h8 q))), h8, h9, Nat.lt_of_lt_of_le h10 hS.1, h11.warm hW⟩
theorem CX.same {K : C4} {z : Z4} {u U : State} (hv : u.vm = U.vm) (hh : u.heap = U.heap) (h : CX K z u u.heap) : CX K z U U.heap := by
  obtain ⟨h1, h2, h3, h4, h5, h6, h7, h8, h9, h10, h11⟩ := h
  have ha : u.vm.Alike U.vm := hv ▸ Vm.Alike.refl u.vm
  rw [← hh]
  exact ⟨va_K.moved ha h1, NW.same hv h2, va_AO.moved ha h3, h4.moved ha, h5.moved ha, fun i hi => vk_R.same hv.symm (h6 i hi), va_X.moved ha h7, h8, h9, h10, PV.same hv h11⟩
abbrev XE : Type := Program × Launch × Env × Room × State × MethodId × Array Value × List Frame × Method × Code × C4 × (Nat → Prop) × (State → Prop)
def kX (X : XE) : C4 := X.2.2.2.2.2.2.2.2.2.2.1
def sX (X : XE) : State := X.2.2.2.2.1
def aX (X : XE) : Nat → Prop := X.2.2.2.2.2.2.2.2.2.2.2.1
/-- the machine stands at pc, the heap is as P says: the run comes to its end Q -/
def G (X : XE) (nL : Nat) (P : Heap → Prop) (cn sn : Nat) (lv : List (Nat × Value)) (pc : Nat) (st : List Value) : Prop := match X with
  | (p, l, e, R, s, m, args, below, meth, c, K, A, Q) => ∀ (H : Heap) (locs : List Loc) (ls : Array Slot), P H → va_S A s.heap H locs → lv_has ls nL lv → W p l e R s m args below meth c H locs cn sn Q (F0 m pc ls st)
def CE (X : XE) (z : Z4) (nL : Nat) (cc : ByteArray) (own : String) (R0 : Room) : Prop := match X with
  | (p, l, e, R, s, m, args, below, meth, c, K, A, Q) => p.tables.exec = Jvm.exec ∧ c.code = cc ∧ c.maxLocals = nL ∧ s.vm.findClass own = some m.cls ∧ (∀ w ∈ TB, w.before args s = true) ∧ R = R0 ∧ CX K z s s.heap ∧ z.1 ≤ s.heap.size ∧ (∀ q, A q → z.1 ≤ q)
section GR
variable {X : XE} {z : Z4} {nL cn sn : Nat} {P : Heap → Prop} {lv : List (Nat × Value)} {cc : ByteArray} {own : String} {R0 : Room} {st : List Value}
theorem e_iconst (pc : Nat) (hC : CE X z nL cc own R0) {z : Int} {v : Int32} (hd : decode cc pc = .ok (.iconst z, 1)) (hv : Int32.ofInt z = v) (k : G X nL P cn sn lv (pc + 1) (.int v :: st)) : G X nL P cn sn lv pc (st) := by
  obtain ⟨p, l, e, R, s, m, args, below, meth, c, K, A, Q⟩ := X
  exact fun H locs ls hW hS hl => lv_iconst hC.1 hC.2.1 hd hv (k H locs ls hW hS hl)

theorem e_bipush (pc : Nat) (hC : CE X z nL cc own R0) {z : Int} {v : Int32} (hd : decode cc pc = .ok (.bipush z, 2)) (hv : (Int8.ofInt z).toInt32 = v) (k : G X nL P cn sn lv (pc + 2) (.int v :: st)) : G X nL P cn sn lv pc (st) := by
  obtain ⟨p, l, e, R, s, m, args, below, meth, c, K, A, Q⟩ := X
  exact fun H locs ls hW hS hl => lv_bipush hC.1 hC.2.1 hd hv (k H locs ls hW hS hl)

theorem e_sipush (pc : Nat) (hC : CE X z nL cc own R0) {z : Int} {v : Int32} (hd : decode cc pc = .ok (.sipush z, 3)) (hv : (Int16.ofInt z).toInt32 = v) (k : G X nL P cn sn lv (pc + 3) (.int v :: st)) : G X nL P cn sn lv pc (st) := by
  obtain ⟨p, l, e, R, s, m, args, below, meth, c, K, A, Q⟩ := X
  exact fun H locs ls hW hS hl => lv_sipush hC.1 hC.2.1 hd hv (k H locs ls hW hS hl)

theorem e_iload_n (pc : Nat) (hC : CE X z nL cc own R0) {kk : Fin 4} {i : Nat} {x : Int32} (q : Nat) (hd : decode cc pc = .ok (.iload_n kk, 1)) (hq : lv[q]? = some (i, .int x)) (hi : (kk : Nat) = i) (k : G X nL P cn sn lv (pc + 1) (.int x :: st)) : G X nL P cn sn lv pc st := by
  obtain ⟨p, l, e, R, s, m, args, below, meth, c, K, A, Q⟩ := X
  exact fun H locs ls hW hS hl => lv_iload_n hC.1 hC.2.1 hd hi (lv_at hl q hq) (k H locs ls hW hS hl)

theorem e_iload (pc : Nat) (hC : CE X z nL cc own R0) {i : Nat} {x : Int32} (q : Nat) (hd : decode cc pc = .ok (.iload i, 2)) (hq : lv[q]? = some (i, .int x)) (k : G X nL P cn sn lv (pc + 2) (.int x :: st)) : G X nL P cn sn lv pc st := by
  obtain ⟨p, l, e, R, s, m, args, below, meth, c, K, A, Q⟩ := X
  exact fun H locs ls hW hS hl => lv_iload hC.1 hC.2.1 hd (lv_at hl q hq) (k H locs ls hW hS hl)

theorem e_aload_n (pc : Nat) (hC : CE X z nL cc own R0) {kk : Fin 4} {i : Nat} {x : Nat} (q : Nat) (hd : decode cc pc = .ok (.aload_n kk, 1)) (hq : lv[q]? = some (i, .ref x)) (hi : (kk : Nat) = i) (k : G X nL P cn sn lv (pc + 1) (.ref x :: st)) : G X nL P cn sn lv pc st := by
  obtain ⟨p, l, e, R, s, m, args, below, meth, c, K, A, Q⟩ := X
  exact fun H locs ls hW hS hl => lv_aload_n hC.1 hC.2.1 hd hi (lv_at hl q hq) (k H locs ls hW hS hl)

theorem e_aload (pc : Nat) (hC : CE X z nL cc own R0) {i : Nat} {x : Nat} (q : Nat) (hd : decode cc pc = .ok (.aload i, 2)) (hq : lv[q]? = some (i, .ref x)) (k : G X nL P cn sn lv (pc + 2) (.ref x :: st)) : G X nL P cn sn lv pc st := by
  obtain ⟨p, l, e, R, s, m, args, below, meth, c, K, A, Q⟩ := X
  exact fun H locs ls hW hS hl => lv_aload hC.1 hC.2.1 hd (lv_at hl q hq) (k H locs ls hW hS hl)

theorem e_fload_n (pc : Nat) (hC : CE X z nL cc own R0) {kk : Fin 4} {i : Nat} {x : UInt32} (q : Nat) (hd : decode cc pc = .ok (.fload_n kk, 1)) (hq : lv[q]? = some (i, .float x)) (hi : (kk : Nat) = i) (k : G X nL P cn sn lv (pc + 1) (.float x :: st)) : G X nL P cn sn lv pc st := by
  obtain ⟨p, l, e, R, s, m, args, below, meth, c, K, A, Q⟩ := X
  exact fun H locs ls hW hS hl => lv_fload_n hC.1 hC.2.1 hd hi (lv_at hl q hq) (k H locs ls hW hS hl)

theorem e_fload (pc : Nat) (hC : CE X z nL cc own R0) {i : Nat} {x : UInt32} (q : Nat) (hd : decode cc pc = .ok (.fload i, 2)) (hq : lv[q]? = some (i, .float x)) (k : G X nL P cn sn lv (pc + 2) (.float x :: st)) : G X nL P cn sn lv pc st := by
  obtain ⟨p, l, e, R, s, m, args, below, meth, c, K, A, Q⟩ := X
  exact fun H locs ls hW hS hl => lv_fload hC.1 hC.2.1 hd (lv_at hl q hq) (k H locs ls hW hS hl)

theorem e_lload_n (pc : Nat) (hC : CE X z nL cc own R0) {kk : Fin 4} {i : Nat} {x : Int64} (q : Nat) (hd : decode cc pc = .ok (.lload_n kk, 1)) (hq : lv[q]? = some (i, .long x)) (hi : (kk : Nat) = i) (k : G X nL P cn sn lv (pc + 1) (.long x :: st)) : G X nL P cn sn lv pc st := by
  obtain ⟨p, l, e, R, s, m, args, below, meth, c, K, A, Q⟩ := X
  exact fun H locs ls hW hS hl => lv_lload_n hC.1 hC.2.1 hd hi (lv_at hl q hq) (k H locs ls hW hS hl)

theorem e_lload (pc : Nat) (hC : CE X z nL cc own R0) {i : Nat} {x : Int64} (q : Nat) (hd : decode cc pc = .ok (.lload i, 2)) (hq : lv[q]? = some (i, .long x)) (k : G X nL P cn sn lv (pc + 2) (.long x :: st)) : G X nL P cn sn lv pc st := by
  obtain ⟨p, l, e, R, s, m, args, below, meth, c, K, A, Q⟩ := X
  exact fun H locs ls hW hS hl => lv_lload hC.1 hC.2.1 hd (lv_at hl q hq) (k H locs ls hW hS hl)

theorem e_istore_n (pc : Nat) (hC : CE X z nL cc own R0) {kk : Fin 4} {i : Nat} {x : Int32} (lv' : List (Nat × Value)) (hd : decode cc pc = .ok (.istore_n kk, 1)) (hi : (kk : Nat) = i) (hn : i < nL) (hv : (i, Value.int x) :: lv.filter (fun q => !(q.1 == i) && !(q.1 + 1 == i && q.2.category == 2)) = lv') (k : G X nL P cn sn lv' (pc + 1) st) : G X nL P cn sn lv pc (.int x :: st) := by
  obtain ⟨p, l, e, R, s, m, args, below, meth, c, K, A, Q⟩ := X
  exact fun H locs ls hW hS hl => lv_istore_n hC.1 hC.2.1 hd hi hl hn hv (fun ls hl => k H locs ls hW hS hl)

theorem e_istore (pc : Nat) (hC : CE X z nL cc own R0) {i : Nat} {x : Int32} (lv' : List (Nat × Value)) (hd : decode cc pc = .ok (.istore i, 2)) (hn : i < nL) (hv : (i, Value.int x) :: lv.filter (fun q => !(q.1 == i) && !(q.1 + 1 == i && q.2.category == 2)) = lv') (k : G X nL P cn sn lv' (pc + 2) st) : G X nL P cn sn lv pc (.int x :: st) := by
  obtain ⟨p, l, e, R, s, m, args, below, meth, c, K, A, Q⟩ := X
  exact fun H locs ls hW hS hl => lv_istore hC.1 hC.2.1 hd hl hn hv (fun ls hl => k H locs ls hW hS hl)

theorem e_astore_n (pc : Nat) (hC : CE X z nL cc own R0) {kk : Fin 4} {i : Nat} {x : Nat} (lv' : List (Nat × Value)) (hd : decode cc pc = .ok (.astore_n kk, 1)) (hi : (kk : Nat) = i) (hn : i < nL) (hv : (i, Value.ref x) :: lv.filter (fun q => !(q.1 == i) && !(q.1 + 1 == i && q.2.category == 2)) = lv') (k : G X nL P cn sn lv' (pc + 1) st) : G X nL P cn sn lv pc (.ref x :: st) := by
  obtain ⟨p, l, e, R, s, m, args, below, meth, c, K, A, Q⟩ := X
  exact fun H locs ls hW hS hl => lv_astore_n hC.1 hC.2.1 hd hi hl hn hv (fun ls hl => k H locs ls hW hS hl)

theorem e_astore (pc : Nat) (hC : CE X z nL cc own R0) {i : Nat} {x : Nat} (lv' : List (Nat × Value)) (hd : decode cc pc = .ok (.astore i, 2)) (hn : i < nL) (hv : (i, Value.ref x) :: lv.filter (fun q => !(q.1 == i) && !(q.1 + 1 == i && q.2.category == 2)) = lv') (k : G X nL P cn sn lv' (pc + 2) st) : G X nL P cn sn lv pc (.ref x :: st) := by
  obtain ⟨p, l, e, R, s, m, args, below, meth, c, K, A, Q⟩ := X
  exact fun H locs ls hW hS hl => lv_astore hC.1 hC.2.1 hd hl hn hv (fun ls hl => k H locs ls hW hS hl)

theorem e_fstore_n (pc : Nat) (hC : CE X z nL cc own R0) {kk : Fin 4} {i : Nat} {x : UInt32} (lv' : List (Nat × Value)) (hd : decode cc pc = .ok (.fstore_n kk, 1)) (hi : (kk : Nat) = i) (hn : i < nL) (hv : (i, Value.float x) :: lv.filter (fun q => !(q.1 == i) && !(q.1 + 1 == i && q.2.category == 2)) = lv') (k : G X nL P cn sn lv' (pc + 1) st) : G X nL P cn sn lv pc (.float x :: st) := by
  obtain ⟨p, l, e, R, s, m, args, below, meth, c, K, A, Q⟩ := X
  exact fun H locs ls hW hS hl => lv_fstore_n hC.1 hC.2.1 hd hi hl hn hv (fun ls hl => k H locs ls hW hS hl)

theorem e_fstore (pc : Nat) (hC : CE X z nL cc own R0) {i : Nat} {x : UInt32} (lv' : List (Nat × Value)) (hd : decode cc pc = .ok (.fstore i, 2)) (hn : i < nL) (hv : (i, Value.float x) :: lv.filter (fun q => !(q.1 == i) && !(q.1 + 1 == i && q.2.category == 2)) = lv') (k : G X nL P cn sn lv' (pc + 2) st) : G X nL P cn sn lv pc (.float x :: st) := by
  obtain ⟨p, l, e, R, s, m, args, below, meth, c, K, A, Q⟩ := X
  exact fun H locs ls hW hS hl => lv_fstore hC.1 hC.2.1 hd hl hn hv (fun ls hl => k H locs ls hW hS hl)

theorem e_lstore_n (pc : Nat) (hC : CE X z nL cc own R0) {kk : Fin 4} {i : Nat} {x : Int64} (lv' : List (Nat × Value)) (hd : decode cc pc = .ok (.lstore_n kk, 1)) (hi : (kk : Nat) = i) (hn : i + 1 < nL) (hv : (i, Value.long x) :: lv.filter (fun q => !(q.1 == i) && (!(q.1 == i + 1) && !(q.1 + 1 == i && q.2.category == 2))) = lv') (k : G X nL P cn sn lv' (pc + 1) st) : G X nL P cn sn lv pc (.long x :: st) := by
  obtain ⟨p, l, e, R, s, m, args, below, meth, c, K, A, Q⟩ := X
  exact fun H locs ls hW hS hl => lv_lstore_n hC.1 hC.2.1 hd hi hl hn hv (fun ls hl => k H locs ls hW hS hl)
theorem e_iinc (pc : Nat) (hC : CE X z nL cc own R0) {i : Nat} {z : Int} {x : Int32} (q : Nat) (v : Int32) (lv' : List (Nat × Value)) (hd : decode cc pc = .ok (.iinc i z, 3)) (hq : lv[q]? = some (i, .int x)) (hx : x + Int32.ofInt z = v) (hn : i < nL) (hv : (i, Value.int v) :: lv.filter (fun q => !(q.1 == i) && !(q.1 + 1 == i && q.2.category == 2)) = lv') (k : G X nL P cn sn lv' (pc + 3) st) : G X nL P cn sn lv pc st := by
  obtain ⟨p, l, e, R, s, m, args, below, meth, c, K, A, Q⟩ := X
  exact fun H locs ls hW hS hl => lv_iinc hC.1 hC.2.1 hd hl hq hx hn hv (fun ls hl => k H locs ls hW hS hl)
theorem e_lv (ks : List Nat) {lv' : List (Nat × Value)} {pc : Nat} (hl : lv_pick lv ks = lv') (k : G X nL P cn sn lv' pc st) : G X nL P cn sn lv pc st := by
  obtain ⟨p, l, e, R, s, m, args, below, meth, c, K, A, Q⟩ := X
  exact fun H locs ls hW hS h => k H locs ls hW hS (lv_sub h ks hl)

theorem e_iadd (pc : Nat) (hC : CE X z nL cc own R0) {x y : Int32} (hd : decode cc pc = .ok (.iadd, 1)) (k : G X nL P cn sn lv (pc + 1) (.int (x + y) :: st)) : G X nL P cn sn lv pc (.int y :: .int x :: st) := by
  obtain ⟨p, l, e, R, s, m, args, below, meth, c, K, A, Q⟩ := X
  exact fun H locs ls hW hS hl => lv_iadd hC.1 hC.2.1 hd (k H locs ls hW hS hl)

theorem e_isub (pc : Nat) (hC : CE X z nL cc own R0) {x y : Int32} (hd : decode cc pc = .ok (.isub, 1)) (k : G X nL P cn sn lv (pc + 1) (.int (x - y) :: st)) : G X nL P cn sn lv pc (.int y :: .int x :: st) := by
  obtain ⟨p, l, e, R, s, m, args, below, meth, c, K, A, Q⟩ := X
  exact fun H locs ls hW hS hl => lv_isub hC.1 hC.2.1 hd (k H locs ls hW hS hl)

theorem e_imul (pc : Nat) (hC : CE X z nL cc own R0) {x y : Int32} (hd : decode cc pc = .ok (.imul, 1)) (k : G X nL P cn sn lv (pc + 1) (.int (x * y) :: st)) : G X nL P cn sn lv pc (.int y :: .int x :: st) := by
  obtain ⟨p, l, e, R, s, m, args, below, meth, c, K, A, Q⟩ := X
  exact fun H locs ls hW hS hl => lv_imul hC.1 hC.2.1 hd (k H locs ls hW hS hl)

theorem e_iand (pc : Nat) (hC : CE X z nL cc own R0) {x y : Int32} (hd : decode cc pc = .ok (.iand, 1)) (k : G X nL P cn sn lv (pc + 1) (.int (x &&& y) :: st)) : G X nL P cn sn lv pc (.int y :: .int x :: st) := by
  obtain ⟨p, l, e, R, s, m, args, below, meth, c, K, A, Q⟩ := X
  exact fun H locs ls hW hS hl => lv_iand hC.1 hC.2.1 hd (k H locs ls hW hS hl)

theorem e_ior (pc : Nat) (hC : CE X z nL cc own R0) {x y : Int32} (hd : decode cc pc = .ok (.ior, 1)) (k : G X nL P cn sn lv (pc + 1) (.int (x ||| y) :: st)) : G X nL P cn sn lv pc (.int y :: .int x :: st) := by
  obtain ⟨p, l, e, R, s, m, args, below, meth, c, K, A, Q⟩ := X
  exact fun H locs ls hW hS hl => lv_ior hC.1 hC.2.1 hd (k H locs ls hW hS hl)

theorem e_ixor (pc : Nat) (hC : CE X z nL cc own R0) {x y : Int32} (hd : decode cc pc = .ok (.ixor, 1)) (k : G X nL P cn sn lv (pc + 1) (.int (x ^^^ y) :: st)) : G X nL P cn sn lv pc (.int y :: .int x :: st) := by
  obtain ⟨p, l, e, R, s, m, args, below, meth, c, K, A, Q⟩ := X
  exact fun H locs ls hW hS hl => lv_ixor hC.1 hC.2.1 hd (k H locs ls hW hS hl)

theorem e_ishl (pc : Nat) (hC : CE X z nL cc own R0) {x y : Int32} (hd : decode cc pc = .ok (.ishl, 1)) (k : G X nL P cn sn lv (pc + 1) (.int (x <<< (y &&& 31)) :: st)) : G X nL P cn sn lv pc (.int y :: .int x :: st) := by
  obtain ⟨p, l, e, R, s, m, args, below, meth, c, K, A, Q⟩ := X
  exact fun H locs ls hW hS hl => lv_ishl hC.1 hC.2.1 hd (k H locs ls hW hS hl)

theorem e_ishr (pc : Nat) (hC : CE X z nL cc own R0) {x y : Int32} (hd : decode cc pc = .ok (.ishr, 1)) (k : G X nL P cn sn lv (pc + 1) (.int (x >>> (y &&& 31)) :: st)) : G X nL P cn sn lv pc (.int y :: .int x :: st) := by
  obtain ⟨p, l, e, R, s, m, args, below, meth, c, K, A, Q⟩ := X
  exact fun H locs ls hW hS hl => lv_ishr hC.1 hC.2.1 hd (k H locs ls hW hS hl)

theorem e_iushr (pc : Nat) (hC : CE X z nL cc own R0) {x y : Int32} (hd : decode cc pc = .ok (.iushr, 1)) (k : G X nL P cn sn lv (pc + 1) (.int ((x.toUInt32 >>> (y.toUInt32 &&& Int32.toUInt32 31)).toInt32) :: st)) : G X nL P cn sn lv pc (.int y :: .int x :: st) := by
  obtain ⟨p, l, e, R, s, m, args, below, meth, c, K, A, Q⟩ := X
  exact fun H locs ls hW hS hl => lv_iushr hC.1 hC.2.1 hd rfl (k H locs ls hW hS hl)

theorem e_ineg (pc : Nat) (hC : CE X z nL cc own R0) {x : Int32} (hd : decode cc pc = .ok (.ineg, 1)) (k : G X nL P cn sn lv (pc + 1) (.int (-x) :: st)) : G X nL P cn sn lv pc (.int x :: st) := by
  obtain ⟨p, l, e, R, s, m, args, below, meth, c, K, A, Q⟩ := X
  exact fun H locs ls hW hS hl => lv_ineg hC.1 hC.2.1 hd (k H locs ls hW hS hl)

theorem e_idiv (pc : Nat) (hC : CE X z nL cc own R0) {x y : Int32} (hd : decode cc pc = .ok (.idiv, 1)) (hne : ¬ y = 0) (k : G X nL P cn sn lv (pc + 1) (.int (x / y) :: st)) : G X nL P cn sn lv pc (.int y :: .int x :: st) := by
  obtain ⟨p, l, e, R, s, m, args, below, meth, c, K, A, Q⟩ := X
  exact fun H locs ls hW hS hl => lv_idiv hC.1 hC.2.1 hd hne (k H locs ls hW hS hl)

theorem e_irem (pc : Nat) (hC : CE X z nL cc own R0) {x y : Int32} (hd : decode cc pc = .ok (.irem, 1)) (hne : ¬ y = 0) (k : G X nL P cn sn lv (pc + 1) (.int (x - x / y * y) :: st)) : G X nL P cn sn lv pc (.int y :: .int x :: st) := by
  obtain ⟨p, l, e, R, s, m, args, below, meth, c, K, A, Q⟩ := X
  exact fun H locs ls hW hS hl => lv_irem hC.1 hC.2.1 hd hne (k H locs ls hW hS hl)

theorem e_dup (pc : Nat) (hC : CE X z nL cc own R0) {va : Value} (hd : decode cc pc = .ok (.dup, 1)) (hva : va.category = 1) (k : G X nL P cn sn lv (pc + 1) (va :: va :: st)) : G X nL P cn sn lv pc (va :: st) := by
  obtain ⟨p, l, e, R, s, m, args, below, meth, c, K, A, Q⟩ := X
  exact fun H locs ls hW hS hl => lv_dup hC.1 hC.2.1 hd hva (k H locs ls hW hS hl)

theorem e_pop (pc : Nat) (hC : CE X z nL cc own R0) {va : Value} (hd : decode cc pc = .ok (.pop, 1)) (hva : va.category = 1) (k : G X nL P cn sn lv (pc + 1) (st)) : G X nL P cn sn lv pc (va :: st) := by
  obtain ⟨p, l, e, R, s, m, args, below, meth, c, K, A, Q⟩ := X
  exact fun H locs ls hW hS hl => lv_pop hC.1 hC.2.1 hd hva (k H locs ls hW hS hl)

theorem e_dup2 (pc : Nat) (hC : CE X z nL cc own R0) {va vb : Value} (hd : decode cc pc = .ok (.dup2, 1)) (hva : va.category = 1) (hvb : vb.category = 1) (k : G X nL P cn sn lv (pc + 1) (va :: vb :: va :: vb :: st)) : G X nL P cn sn lv pc (va :: vb :: st) := by
  obtain ⟨p, l, e, R, s, m, args, below, meth, c, K, A, Q⟩ := X
  exact fun H locs ls hW hS hl => lv_dup2_11 hC.1 hC.2.1 hd hva hvb (k H locs ls hW hS hl)

theorem e_lconst (pc : Nat) (hC : CE X z nL cc own R0) {z : Fin 2} {v : Int64} (hd : decode cc pc = .ok (.lconst z, 1)) (hv : Int64.ofNat (z : Nat) = v) (k : G X nL P cn sn lv (pc + 1) (.long v :: st)) : G X nL P cn sn lv pc (st) := by
  obtain ⟨p, l, e, R, s, m, args, below, meth, c, K, A, Q⟩ := X
  exact fun H locs ls hW hS hl => lv_lconst hC.1 hC.2.1 hd hv (k H locs ls hW hS hl)

theorem e_lshl (pc : Nat) (hC : CE X z nL cc own R0) {x : Int64} {y : Int32} (hd : decode cc pc = .ok (.lshl, 1)) (k : G X nL P cn sn lv (pc + 1) (.long (x <<< (y.toInt64 &&& 63)) :: st)) : G X nL P cn sn lv pc (.int y :: .long x :: st) := by
  obtain ⟨p, l, e, R, s, m, args, below, meth, c, K, A, Q⟩ := X
  exact fun H locs ls hW hS hl => lv_lshl hC.1 hC.2.1 hd rfl (k H locs ls hW hS hl)

theorem e_lushr (pc : Nat) (hC : CE X z nL cc own R0) {x : Int64} {y : Int32} (hd : decode cc pc = .ok (.lushr, 1)) (k : G X nL P cn sn lv (pc + 1) (.long ((x.toUInt64 >>> (y.toInt64.toUInt64 &&& Int64.toUInt64 63)).toInt64) :: st)) : G X nL P cn sn lv pc (.int y :: .long x :: st) := by
  obtain ⟨p, l, e, R, s, m, args, below, meth, c, K, A, Q⟩ := X
  exact fun H locs ls hW hS hl => lv_lushr hC.1 hC.2.1 hd rfl (k H locs ls hW hS hl)

theorem e_lsub (pc : Nat) (hC : CE X z nL cc own R0) {x y : Int64} (hd : decode cc pc = .ok (.lsub, 1)) (k : G X nL P cn sn lv (pc + 1) (.long (x - y) :: st)) : G X nL P cn sn lv pc (.long y :: .long x :: st) := by
  obtain ⟨p, l, e, R, s, m, args, below, meth, c, K, A, Q⟩ := X
  exact fun H locs ls hW hS hl => lv_lsub hC.1 hC.2.1 hd (k H locs ls hW hS hl)

theorem e_lor (pc : Nat) (hC : CE X z nL cc own R0) {x y : Int64} (hd : decode cc pc = .ok (.lor, 1)) (k : G X nL P cn sn lv (pc + 1) (.long (x ||| y) :: st)) : G X nL P cn sn lv pc (.long y :: .long x :: st) := by
  obtain ⟨p, l, e, R, s, m, args, below, meth, c, K, A, Q⟩ := X
  exact fun H locs ls hW hS hl => lv_lor hC.1 hC.2.1 hd (k H locs ls hW hS hl)

theorem e_land (pc : Nat) (hC : CE X z nL cc own R0) {x y : Int64} (hd : decode cc pc = .ok (.land, 1)) (k : G X nL P cn sn lv (pc + 1) (.long (x &&& y) :: st)) : G X nL P cn sn lv pc (.long y :: .long x :: st) := by
  obtain ⟨p, l, e, R, s, m, args, below, meth, c, K, A, Q⟩ := X
  exact fun H locs ls hW hS hl => lv_land hC.1 hC.2.1 hd (k H locs ls hW hS hl)

theorem e_l2i (pc : Nat) (hC : CE X z nL cc own R0) {x : Int64} (hd : decode cc pc = .ok (.l2i, 1)) (k : G X nL P cn sn lv (pc + 1) (.int x.toInt32 :: st)) : G X nL P cn sn lv pc (.long x :: st) := by
  obtain ⟨p, l, e, R, s, m, args, below, meth, c, K, A, Q⟩ := X
  exact fun H locs ls hW hS hl => lv_l2i hC.1 hC.2.1 hd rfl (k H locs ls hW hS hl)

theorem e_i2f (pc : Nat) (hC : CE X z nL cc own R0) {x : Int32} (hd : decode cc pc = .ok (.i2f, 1)) (k : G X nL P cn sn lv (pc + 1) (.float (FP.i2f x) :: st)) : G X nL P cn sn lv pc (.int x :: st) := by
  obtain ⟨p, l, e, R, s, m, args, below, meth, c, K, A, Q⟩ := X
  exact fun H locs ls hW hS hl => lv_i2f hC.1 hC.2.1 hd (k H locs ls hW hS hl)

theorem e_f2i (pc : Nat) (hC : CE X z nL cc own R0) {x : UInt32} (hd : decode cc pc = .ok (.f2i, 1)) (k : G X nL P cn sn lv (pc + 1) (.int (FP.f2i x) :: st)) : G X nL P cn sn lv pc (.float x :: st) := by
  obtain ⟨p, l, e, R, s, m, args, below, meth, c, K, A, Q⟩ := X
  exact fun H locs ls hW hS hl => lv_f2i hC.1 hC.2.1 hd (k H locs ls hW hS hl)

theorem e_fcmp (pc : Nat) (hC : CE X z nL cc own R0) {x y : UInt32} {op : CmpOp} (hd : decode cc pc = .ok (.fcmp op, 1)) (k : G X nL P cn sn lv (pc + 1) (.int (Op.cmpValue (FP.fcmp x y) op) :: st)) : G X nL P cn sn lv pc (.float y :: .float x :: st) := by
  obtain ⟨p, l, e, R, s, m, args, below, meth, c, K, A, Q⟩ := X
  exact fun H locs ls hW hS hl => lv_fcmp hC.1 hC.2.1 hd (k H locs ls hW hS hl)

theorem e_fdiv (pc : Nat) (hC : CE X z nL cc own R0) {x y : UInt32} (hd : decode cc pc = .ok (.fdiv, 1)) (hne : vf_n32 (FP.fdiv x y)) (k : G X nL P cn sn lv (pc + 1) (.float (FP.fdiv x y) :: st)) : G X nL P cn sn lv pc (.float y :: .float x :: st) := by
  obtain ⟨p, l, e, R, s, m, args, below, meth, c, K, A, Q⟩ := X
  exact fun H locs ls hW hS hl => lv_fdiv hC.1 hC.2.1 hd hne (k H locs ls hW hS hl)

theorem e_fmul (pc : Nat) (hC : CE X z nL cc own R0) {x y : UInt32} (hd : decode cc pc = .ok (.fmul, 1)) (hne : vf_n32 (FP.fmul x y)) (k : G X nL P cn sn lv (pc + 1) (.float (FP.fmul x y) :: st)) : G X nL P cn sn lv pc (.float y :: .float x :: st) := by
  obtain ⟨p, l, e, R, s, m, args, below, meth, c, K, A, Q⟩ := X
  exact fun H locs ls hW hS hl => lv_fmul hC.1 hC.2.1 hd hne (k H locs ls hW hS hl)

theorem e_fsub (pc : Nat) (hC : CE X z nL cc own R0) {x y : UInt32} (hd : decode cc pc = .ok (.fsub, 1)) (hne : vf_n32 (FP.fsub x y)) (k : G X nL P cn sn lv (pc + 1) (.float (FP.fsub x y) :: st)) : G X nL P cn sn lv pc (.float y :: .float x :: st) := by
  obtain ⟨p, l, e, R, s, m, args, below, meth, c, K, A, Q⟩ := X
  exact fun H locs ls hW hS hl => lv_fsub hC.1 hC.2.1 hd hne (k H locs ls hW hS hl)

theorem e_fconst0 (pc : Nat) (hC : CE X z nL cc own R0) (hd : decode cc pc = .ok (.fconst 0, 1)) (k : G X nL P cn sn lv (pc + 1) (.float FP.fconst0 :: st)) : G X nL P cn sn lv pc (st) := by
  obtain ⟨p, l, e, R, s, m, args, below, meth, c, K, A, Q⟩ := X
  exact fun H locs ls hW hS hl => lv_fconst0 hC.1 hC.2.1 hd (k H locs ls hW hS hl)

theorem e_fconst1 (pc : Nat) (hC : CE X z nL cc own R0) (hd : decode cc pc = .ok (.fconst 1, 1)) (k : G X nL P cn sn lv (pc + 1) (.float FP.fconst1 :: st)) : G X nL P cn sn lv pc (st) := by
  obtain ⟨p, l, e, R, s, m, args, below, meth, c, K, A, Q⟩ := X
  exact fun H locs ls hW hS hl => lv_fconst1 hC.1 hC.2.1 hd (k H locs ls hW hS hl)

theorem e_fconst2 (pc : Nat) (hC : CE X z nL cc own R0) (hd : decode cc pc = .ok (.fconst 2, 1)) (k : G X nL P cn sn lv (pc + 1) (.float FP.fconst2 :: st)) : G X nL P cn sn lv pc (st) := by
  obtain ⟨p, l, e, R, s, m, args, below, meth, c, K, A, Q⟩ := X
  exact fun H locs ls hW hS hl => lv_fconst2 hC.1 hC.2.1 hd (k H locs ls hW hS hl)

theorem e_ldc (pc : Nat) (hC : CE X z nL cc own R0) {ix : Nat} {v : Int32} (hd : decode cc pc = .ok (.ldc ix, 2)) (hw : Cond.constant own ix v ∈ TB) (k : G X nL P cn sn lv (pc + 2) (.int v :: st)) : G X nL P cn sn lv pc st := by
  obtain ⟨p, l, e, R, s, m, args, below, meth, c, K, A, Q⟩ := X
  exact fun H locs ls hW hS hl => lv_ldc hC.1 hC.2.1 hC.2.2.2.1 (hC.2.2.2.2.1 _ hw) hd (k H locs ls hW hS hl)
theorem e_ldcw (pc : Nat) (hC : CE X z nL cc own R0) {ix : Nat} {v : Int32} (hd : decode cc pc = .ok (.ldc_w ix, 3)) (hw : Cond.constant own ix v ∈ TB) (k : G X nL P cn sn lv (pc + 3) (.int v :: st)) : G X nL P cn sn lv pc st := by
  obtain ⟨p, l, e, R, s, m, args, below, meth, c, K, A, Q⟩ := X
  exact fun H locs ls hW hS hl => lv_ldcw hC.1 hC.2.1 hC.2.2.2.1 (hC.2.2.2.2.1 _ hw) hd (k H locs ls hW hS hl)
theorem e_ldcf (pc : Nat) (hC : CE X z nL cc own R0) {ix : Nat} {v : UInt32} (hd : decode cc pc = .ok (.ldc ix, 2)) (hw : Cond.constantFloat own ix v ∈ TB) (k : G X nL P cn sn lv (pc + 2) (.float v :: st)) : G X nL P cn sn lv pc st := by
  obtain ⟨p, l, e, R, s, m, args, below, meth, c, K, A, Q⟩ := X
  exact fun H locs ls hW hS hl => lv_ldcf hC.1 hC.2.1 hC.2.2.2.1 (hC.2.2.2.2.1 _ hw) hd (k H locs ls hW hS hl)
theorem e_ldc2 (pc : Nat) (hC : CE X z nL cc own R0) {ix : Nat} {v : Int64} (hd : decode cc pc = .ok (.ldc2_w ix, 3)) (hw : Cond.constantLong own ix v ∈ TB) (k : G X nL P cn sn lv (pc + 3) (.long v :: st)) : G X nL P cn sn lv pc st := by
  obtain ⟨p, l, e, R, s, m, args, below, meth, c, K, A, Q⟩ := X
  exact fun H locs ls hW hS hl => lv_ldc2 hC.1 hC.2.1 hC.2.2.2.1 (hC.2.2.2.2.1 _ hw) hd (k H locs ls hW hS hl)

theorem e_icmp_eq (pc tgt : Nat) (hC : CE X z nL cc own R0) {x y : Int32} {off : Int} (hd : decode cc pc = .ok (.if_icmp .eq off, 3)) (ht : (pc : Int) + off = (tgt : Int)) (kt : x = y → G X nL P cn sn lv tgt st) (kf : ¬ (x = y) → G X nL P cn sn lv (pc + 3) st) : G X nL P cn sn lv pc (.int y :: .int x :: st) := by
  obtain ⟨p, l, e, R, s, m, args, below, meth, c, K, A, Q⟩ := X
  exact fun H locs ls hW hS hl => lv_icmp_eq hC.1 hC.2.1 hd ht (fun h => kt h H locs ls hW hS hl) (fun h => kf h H locs ls hW hS hl)

theorem e_icmp_ne (pc tgt : Nat) (hC : CE X z nL cc own R0) {x y : Int32} {off : Int} (hd : decode cc pc = .ok (.if_icmp .ne off, 3)) (ht : (pc : Int) + off = (tgt : Int)) (kt : ¬ x = y → G X nL P cn sn lv tgt st) (kf : x = y → G X nL P cn sn lv (pc + 3) st) : G X nL P cn sn lv pc (.int y :: .int x :: st) := by
  obtain ⟨p, l, e, R, s, m, args, below, meth, c, K, A, Q⟩ := X
  exact fun H locs ls hW hS hl => lv_icmp_ne hC.1 hC.2.1 hd ht (fun h => kt h H locs ls hW hS hl) (fun h => kf h H locs ls hW hS hl)

theorem e_icmp_lt (pc tgt : Nat) (hC : CE X z nL cc own R0) {x y : Int32} {off : Int} (hd : decode cc pc = .ok (.if_icmp .lt off, 3)) (ht : (pc : Int) + off = (tgt : Int)) (kt : x < y → G X nL P cn sn lv tgt st) (kf : ¬ (x < y) → G X nL P cn sn lv (pc + 3) st) : G X nL P cn sn lv pc (.int y :: .int x :: st) := by
  obtain ⟨p, l, e, R, s, m, args, below, meth, c, K, A, Q⟩ := X
  exact fun H locs ls hW hS hl => lv_icmp_lt hC.1 hC.2.1 hd ht (fun h => kt h H locs ls hW hS hl) (fun h => kf h H locs ls hW hS hl)

theorem e_icmp_ge (pc tgt : Nat) (hC : CE X z nL cc own R0) {x y : Int32} {off : Int} (hd : decode cc pc = .ok (.if_icmp .ge off, 3)) (ht : (pc : Int) + off = (tgt : Int)) (kt : y ≤ x → G X nL P cn sn lv tgt st) (kf : ¬ (y ≤ x) → G X nL P cn sn lv (pc + 3) st) : G X nL P cn sn lv pc (.int y :: .int x :: st) := by
  obtain ⟨p, l, e, R, s, m, args, below, meth, c, K, A, Q⟩ := X
  exact fun H locs ls hW hS hl => lv_icmp_ge hC.1 hC.2.1 hd ht (fun h => kt h H locs ls hW hS hl) (fun h => kf h H locs ls hW hS hl)

theorem e_icmp_gt (pc tgt : Nat) (hC : CE X z nL cc own R0) {x y : Int32} {off : Int} (hd : decode cc pc = .ok (.if_icmp .gt off, 3)) (ht : (pc : Int) + off = (tgt : Int)) (kt : y < x → G X nL P cn sn lv tgt st) (kf : ¬ (y < x) → G X nL P cn sn lv (pc + 3) st) : G X nL P cn sn lv pc (.int y :: .int x :: st) := by
  obtain ⟨p, l, e, R, s, m, args, below, meth, c, K, A, Q⟩ := X
  exact fun H locs ls hW hS hl => lv_icmp_gt hC.1 hC.2.1 hd ht (fun h => kt h H locs ls hW hS hl) (fun h => kf h H locs ls hW hS hl)

theorem e_icmp_le (pc tgt : Nat) (hC : CE X z nL cc own R0) {x y : Int32} {off : Int} (hd : decode cc pc = .ok (.if_icmp .le off, 3)) (ht : (pc : Int) + off = (tgt : Int)) (kt : x ≤ y → G X nL P cn sn lv tgt st) (kf : ¬ (x ≤ y) → G X nL P cn sn lv (pc + 3) st) : G X nL P cn sn lv pc (.int y :: .int x :: st) := by
  obtain ⟨p, l, e, R, s, m, args, below, meth, c, K, A, Q⟩ := X
  exact fun H locs ls hW hS hl => lv_icmp_le hC.1 hC.2.1 hd ht (fun h => kt h H locs ls hW hS hl) (fun h => kf h H locs ls hW hS hl)

theorem e_if_eq (pc tgt : Nat) (hC : CE X z nL cc own R0) {x : Int32} {off : Int} (hd : decode cc pc = .ok (.ifCond .eq off, 3)) (ht : (pc : Int) + off = (tgt : Int)) (kt : x = 0 → G X nL P cn sn lv tgt st) (kf : ¬ (x = 0) → G X nL P cn sn lv (pc + 3) st) : G X nL P cn sn lv pc (.int x :: st) := by
  obtain ⟨p, l, e, R, s, m, args, below, meth, c, K, A, Q⟩ := X
  exact fun H locs ls hW hS hl => lv_if_eq hC.1 hC.2.1 hd ht (fun h => kt h H locs ls hW hS hl) (fun h => kf h H locs ls hW hS hl)

theorem e_if_ne (pc tgt : Nat) (hC : CE X z nL cc own R0) {x : Int32} {off : Int} (hd : decode cc pc = .ok (.ifCond .ne off, 3)) (ht : (pc : Int) + off = (tgt : Int)) (kt : ¬ x = 0 → G X nL P cn sn lv tgt st) (kf : x = 0 → G X nL P cn sn lv (pc + 3) st) : G X nL P cn sn lv pc (.int x :: st) := by
  obtain ⟨p, l, e, R, s, m, args, below, meth, c, K, A, Q⟩ := X
  exact fun H locs ls hW hS hl => lv_if_ne hC.1 hC.2.1 hd ht (fun h => kt h H locs ls hW hS hl) (fun h => kf h H locs ls hW hS hl)

theorem e_if_lt (pc tgt : Nat) (hC : CE X z nL cc own R0) {x : Int32} {off : Int} (hd : decode cc pc = .ok (.ifCond .lt off, 3)) (ht : (pc : Int) + off = (tgt : Int)) (kt : x < 0 → G X nL P cn sn lv tgt st) (kf : ¬ (x < 0) → G X nL P cn sn lv (pc + 3) st) : G X nL P cn sn lv pc (.int x :: st) := by
  obtain ⟨p, l, e, R, s, m, args, below, meth, c, K, A, Q⟩ := X
  exact fun H locs ls hW hS hl => lv_if_lt hC.1 hC.2.1 hd ht (fun h => kt h H locs ls hW hS hl) (fun h => kf h H locs ls hW hS hl)

theorem e_if_ge (pc tgt : Nat) (hC : CE X z nL cc own R0) {x : Int32} {off : Int} (hd : decode cc pc = .ok (.ifCond .ge off, 3)) (ht : (pc : Int) + off = (tgt : Int)) (kt : 0 ≤ x → G X nL P cn sn lv tgt st) (kf : ¬ (0 ≤ x) → G X nL P cn sn lv (pc + 3) st) : G X nL P cn sn lv pc (.int x :: st) := by
  obtain ⟨p, l, e, R, s, m, args, below, meth, c, K, A, Q⟩ := X
  exact fun H locs ls hW hS hl => lv_if_ge hC.1 hC.2.1 hd ht (fun h => kt h H locs ls hW hS hl) (fun h => kf h H locs ls hW hS hl)

theorem e_if_gt (pc tgt : Nat) (hC : CE X z nL cc own R0) {x : Int32} {off : Int} (hd : decode cc pc = .ok (.ifCond .gt off, 3)) (ht : (pc : Int) + off = (tgt : Int)) (kt : 0 < x → G X nL P cn sn lv tgt st) (kf : ¬ (0 < x) → G X nL P cn sn lv (pc + 3) st) : G X nL P cn sn lv pc (.int x :: st) := by
  obtain ⟨p, l, e, R, s, m, args, below, meth, c, K, A, Q⟩ := X
  exact fun H locs ls hW hS hl => lv_if_gt hC.1 hC.2.1 hd ht (fun h => kt h H locs ls hW hS hl) (fun h => kf h H locs ls hW hS hl)

theorem e_if_le (pc tgt : Nat) (hC : CE X z nL cc own R0) {x : Int32} {off : Int} (hd : decode cc pc = .ok (.ifCond .le off, 3)) (ht : (pc : Int) + off = (tgt : Int)) (kt : x ≤ 0 → G X nL P cn sn lv tgt st) (kf : ¬ (x ≤ 0) → G X nL P cn sn lv (pc + 3) st) : G X nL P cn sn lv pc (.int x :: st) := by
  obtain ⟨p, l, e, R, s, m, args, below, meth, c, K, A, Q⟩ := X
  exact fun H locs ls hW hS hl => lv_if_le hC.1 hC.2.1 hd ht (fun h => kt h H locs ls hW hS hl) (fun h => kf h H locs ls hW hS hl)

theorem e_goto (pc tgt : Nat) (hC : CE X z nL cc own R0) {off : Int} (hd : decode cc pc = .ok (.goto off, 3)) (ht : (pc : Int) + off = (tgt : Int)) (k : G X nL P cn sn lv tgt st) : G X nL P cn sn lv pc st := by
  obtain ⟨p, l, e, R, s, m, args, below, meth, c, K, A, Q⟩ := X
  exact fun H locs ls hW hS hl => lv_goto hC.1 hC.2.1 hd ht (k H locs ls hW hS hl)
theorem e_ifnull (pc : Nat) (hC : CE X z nL cc own R0) {x : Nat} {off : Int} (hd : decode cc pc = .ok (.ifnull off, 3)) (k : G X nL P cn sn lv (pc + 3) st) : G X nL P cn sn lv pc (.ref x :: st) := by
  obtain ⟨p, l, e, R, s, m, args, below, meth, c, K, A, Q⟩ := X
  exact fun H locs ls hW hS hl => lv_ifnull hC.1 hC.2.1 hd (k H locs ls hW hS hl)
theorem e_lookup (pc tgt : Nat) (hC : CE X z nL cc own R0) {dflt : Int} {ps : Array (Int × Int)} {len : Nat} {x : Int32} {off : Int} (hd : decode cc pc = .ok (.lookupswitch dflt ps, len)) (hp : (ps.toList.zip (ps.toList.drop 1)).all (fun (a, next) => a.1 < next.1) = true) (ho : Op.lookupswitch.offset ps.toList dflt x.toInt = off) (ht : (pc : Int) + off = (tgt : Int)) (k : G X nL P cn sn lv tgt st) : G X nL P cn sn lv pc (.int x :: st) := by
  obtain ⟨p, l, e, R, s, m, args, below, meth, c, K, A, Q⟩ := X
  exact fun H locs ls hW hS hl => lv_lookup hC.1 hC.2.1 hd hp ho ht (k H locs ls hW hS hl)
theorem e_tableOut (pc tgt : Nat) (hC : CE X z nL cc own R0) {dflt lo hi : Int} {offs : Array Int} {len : Nat} {x : Int32} (hd : decode cc pc = .ok (.tableswitch dflt lo hi offs, len)) (h : x.toInt < lo ∨ hi < x.toInt) (ht : (pc : Int) + dflt = (tgt : Int)) (k : G X nL P cn sn lv tgt st) : G X nL P cn sn lv pc (.int x :: st) := by
  obtain ⟨p, l, e, R, s, m, args, below, meth, c, K, A, Q⟩ := X
  exact fun H locs ls hW hS hl => lv_tableOut hC.1 hC.2.1 hd h ht (k H locs ls hW hS hl)
theorem e_tableIn (pc tgt : Nat) (hC : CE X z nL cc own R0) {dflt lo hi : Int} {offs : Array Int} {len : Nat} {x : Int32} {off : Int} (hd : decode cc pc = .ok (.tableswitch dflt lo hi offs, len)) (h1 : ¬ x.toInt < lo) (h2 : ¬ hi < x.toInt) (ho : offs[(x.toInt - lo).toNat]? = some off) (ht : (pc : Int) + off = (tgt : Int)) (k : G X nL P cn sn lv tgt st) : G X nL P cn sn lv pc (.int x :: st) := by
  obtain ⟨p, l, e, R, s, m, args, below, meth, c, K, A, Q⟩ := X
  exact fun H locs ls hW hS hl => lv_tableIn hC.1 hC.2.1 hd h1 h2 ho ht (k H locs ls hW hS hl)

end GR
theorem WL_len {B : Nat} {cI cW : ClassId} {n : Nat} {σ : SS} : (WL B cI cW n σ).length = n := by simp [WL]
theorem WLE_at {K : C4} {B i : Nat} {σ : SS} {E : va_W} {q : Nat × va_E} (h : E[i]? = some q) : (WLE K B σ E)[95 + i]? = some q := by
  unfold WLE
  rw [List.getElem?_append_right (by rw [WL_len]; omega), WL_len, show 95 + i - 95 = i by omega]
  exact h
theorem WLE_set {K : C4} {B i : Nat} {σ : SS} {E : va_W} {q : Nat × va_E} : (WLE K B σ E).set (95 + i) q = WLE K B σ (E.set i q) := by
  unfold WLE
  rw [List.set_append_right _ _ (by rw [WL_len]; omega), WL_len, show 95 + i - 95 = i by omega]
theorem WLE_push {K : C4} {B : Nat} {σ : SS} {E : va_W} {q : Nat × va_E} : WLE K B σ E ++ [q] = WLE K B σ (E ++ [q]) := List.append_assoc _ _ _
theorem WLE_lo {K : C4} {B k : Nat} {σ : SS} {E : va_W} (h : k < 95) : (WLE K B σ E)[k]? = some (B + k, ent B K.2.1.1 K.2.1.2.1 k (σ k)) := by
  unfold WLE
  rw [List.getElem?_append_left (by rw [WL_len]; exact h), WL_get h]
theorem PE.wd {K : C4} {B0 B : Nat} {σ : SS} {E : va_W} {s : State} {H : Heap} (h : PE K B0 B σ E H) (hK : va_K K.1 vwCl (tyE K) s) : Wd K.1 K.2.1.1 K.2.1.2.1 B 95 σ s H := by
  obtain ⟨h1, h2, h3, h4⟩ := h
  have hz : B + 94 < H.size := (h3 94 _ (WLE_lo (by decide))).lt
  refine ⟨⟨Nat.le_refl _, fun z => absurd z (by decide), by omega⟩, fun k q hk => ?_, hK.sub [0, 1] rfl⟩
  obtain ⟨hk2, rfl⟩ := WL_at hk
  exact h3 k _ (WLE_lo hk2)
/-- what a method of the class leaves -/
theorem PE.cls {K : C4} {B0 B : Nat} {σ τ : SS} {E : va_W} {s : State} {H H1 : Heap} (h : PE K B0 B σ E H) (hW : Wd K.1 K.2.1.1 K.2.1.2.1 B 95 τ s H1) (hR : RS τ) (hk : ∀ q : Nat, q < H.size → ¬ RA B q → H1[q]? = H[q]?) : PE K B0 B τ E H1 := by
  obtain ⟨h1, h2, h3, h4⟩ := h
  have ad : ∀ (i : Nat) (q : Nat × va_E), (WLE K B τ E)[i]? = some q → ∃ e, (WLE K B σ E)[i]? = some (q.1, e) := by
    intro i q hq
    by_cases hi : i < 95
    · rw [WLE_lo hi] at hq
      cases hq
      exact ⟨_, WLE_lo hi⟩
    · have e : i = 95 + (i - 95) := by omega
      rw [e]
      refine ⟨q.2, WLE_at ?_⟩
      unfold WLE at hq
      rw [List.getElem?_append_right (by rw [WL_len]; omega), WL_len] at hq
      exact hq
  refine ⟨h1, hR, fun i q hq => ?_, fun i j p q hp hq e => ?_, fun i q hq => ?_⟩
  · by_cases hi : i < 95
    · rw [WLE_lo hi] at hq
      cases hq
      exact hW.2.1 i _ (WL_get hi)
    · have e : i = 95 + (i - 95) := by omega
      have hE : E[i - 95]? = some q := by
        unfold WLE at hq
        rw [List.getElem?_append_right (by rw [WL_len]; omega), WL_len] at hq
        exact hq
      have h5 := h3 (95 + (i - 95)) q (WLE_at hE)
      refine h5.kept (hk q.1 h5.lt fun ha => ?_)
      have h6 := h4.1 (q.1 - B) (95 + (i - 95)) _ q (WLE_lo (by unfold RA at ha; omega)) (WLE_at hE) (by show B + (q.1 - B) = q.1; unfold RA at ha; omega)
      unfold RA at ha
      omega
  · obtain ⟨e1, g1⟩ := ad i p hp
    obtain ⟨e2, g2⟩ := ad j q hq
    exact h4.1 i j _ _ g1 g2 e
  · obtain ⟨e1, g1⟩ := ad i q hq
    exact h4.2 i (q.1, e1) g1
/-- arraycopy of bytes, the source as it stands now -/
theorem my_copyS {p : Program} {l : Launch} {e : Env} {R : Room} {s : State} {m : MethodId} {args : Array Value} {below : List Frame} {meth : Method} {c : Code} {H : Heap} {locs : List Loc} {cells slots : Nat} {Q : State → Prop} {cc : ByteArray} {pc : Nat} {ls : Array Slot} {rest : List Value} {D : va_G} {cl : List vw_C} {A : Nat → Prop} {a : Nat} {tys : List (ClassId × FieldType)} {ws : va_W} (hexec : p.tables.exec = Jvm.exec) (hb : c.code = cc) (hml : c.maxLocals = ls.size) {own : String} {index : Nat} (hown : s.vm.findClass own = some m.cls) (hlink : (Cond.methodLink own index arraycopyName).before args s = true) (hnat : (Cond.native arraycopyName).before args s = true) (hstat : (Cond.static arraycopyName).before args s = true) (hini : (Cond.initialized "java/lang/System").before args s = true)
    (hK : va_K D cl tys s) (hP : va_P D cl ws H) (hD : va_D A ws) (hS : va_S A s.heap H locs) {b0 n0 : Nat} {f : Nat → Int32} {scr : Cell} (hs1 : H[b0]? = some scr) (hs2 : s.isArrayOf scr .byte) (hs3 : scr.vm ≠ .unknown) (hs4 : n0 ≤ scr.slots.size) (hs5 : ∀ j : Nat, j < n0 → scr.slots[j]? = some (.int (f j))) (q1 t1 : Nat) {c1 : ClassId} {n1 : Nat} {g : Nat → Int32} (ha1 : ws[q1]? = some (a, .inl (c1, n1, .inl g))) (ht1 : tys[t1]? = some (c1, .byte))
    {sp dp n : Int32} (h1 : ¬ sp < 0) (h2 : ¬ dp < 0) (h3 : ¬ n < 0) (h4 : sp.toNatClampNeg + n.toNatClampNeg ≤ n0) (h5 : dp.toNatClampNeg + n.toNatClampNeg ≤ n1) (hfit : ∀ i : Nat, i < n.toNatClampNeg → fits .byte (.int (f (sp.toNatClampNeg + i))) = true)
    (hframes : 1 ≤ R.frames) (hlocals : (rest.map fun v => v.category).sum + (nativeFrameWords "java/lang/System" "arraycopy" 5 + 11) ≤ R.locals) (hdg : decode cc pc = .ok (.invokestatic index, 3))
    (kk : ∀ (H1 : Heap) (locs1 : List Loc), va_P D cl (ws.set q1 (a, .inl (c1, n1, .inl (va_cpy f g sp.toNatClampNeg dp.toNatClampNeg n.toNatClampNeg)))) H1 → va_D A (ws.set q1 (a, .inl (c1, n1, .inl (va_cpy f g sp.toNatClampNeg dp.toNatClampNeg n.toNatClampNeg)))) → va_S A s.heap H1 locs1 → W p l e R s m args below meth c H1 locs1 cells slots Q (F0 m (pc + 3) ls rest)) : W p l e R s m args below meth c H locs cells slots Q (F0 m pc ls (.int n :: .int dp :: .ref a :: .int sp :: .ref b0 :: rest)) := by
  have big : ∀ x : Int32, ¬ x < 0 → x.toInt = (x.toNatClampNeg : Int) := fun x hx => by
    have h0 : (0 : Int) ≤ x.toInt := by simpa using Int32.le_iff_toInt_le.mp (Int32.not_lt.mp hx)
    show x.toInt = ((x.toInt.toNat : Nat) : Int)
    omega
  intro T hT X
  have hd1 : H[a]? = some (vp_cell c1 (n1, .inl g)) := hP q1 _ ha1
  obtain ⟨ho, k0, hk0, cm0, hkk0⟩ := hs2
  obtain ⟨-, k1, hk1, cm1, hkk1⟩ := (hK.2 t1 _ ht1).1 n1 (fun j => .int (g j))
  obtain ⟨vm', X', step⟩ := X.arraycopy hexec hown hlink hnat hstat hini (src := b0) (dst := a) (cs := scr) (cd := vp_cell c1 (n1, .inl g)) (srcPos := sp) (destPos := dp) (n := n) (by rw [hT]; exact hs1) (by rw [hT]; exact hd1) ho (fun _ h => by cases h) hs3 (fun h => by cases h) hk0 hk1 hkk0 hkk1 (by simp [refKind]) h1 h2 h3
    (by rw [big sp h1, big n h3]; omega)
    (by rw [big dp h2, big n h3]; show ¬ _ > ((arrV c1 n1 (fun j => .int (g j))).slots.size : Int); rw [arrV_size]; omega)
    (fun vm₁ _ i hi => by
      have e1 : scr.slots.getD (sp.toNatClampNeg + i) .null = .int (f (sp.toNatClampNeg + i)) := by
        rw [Array.getD_eq_getD_getElem?, hs5 _ (by omega)]
        rfl
      rw [e1]
      exact ⟨hfit i hi, trivial⟩)
    (g := F0 m pc ls (.int n :: .int dp :: .ref a :: .int sp :: .ref b0 :: rest)) rfl (by rw [hml]) (rest := rest) rfl (by rw [hb]; exact hdg) hframes (by show 2 * 0 + _ + _ ≤ _; omega)
  have e2 : copied scr (vp_cell c1 (n1, .inl g)) sp dp n = vp_cell c1 (n1, .inl (va_cpy f g sp.toNatClampNeg dp.toNatClampNeg n.toNatClampNeg)) := va_copiedX (fun x => .int x) scr c1 f g hs5 h4
  rw [e2] at X' step
  have hlt : a < H.size := (Array.getElem?_eq_some_iff.mp hd1).1
  generalize hY : vp_cell c1 (n1, .inl (va_cpy f g sp.toNatClampNeg dp.toNatClampNeg n.toNatClampNeg)) = Y at *
  have hheap : ((T.setVm vm').setCell a Y).heap = H.setIfInBounds a Y := by rw [← hT]; rfl
  have oq : ∀ q : Nat, q ≠ a → (H.setIfInBounds a Y)[q]? = H[q]? := fun q hq => by simp [Array.getElem?_setIfInBounds, Ne.symm hq]
  have at' : (H.setIfInBounds a Y)[a]? = some Y := by simp [Array.getElem?_setIfInBounds, hlt]
  obtain ⟨t, a1, b1⟩ := kk _ _ (hP.set hD ha1 (show (H.setIfInBounds a Y)[a]? = some (vp_cell c1 (n1, .inl (va_cpy f g sp.toNatClampNeg dp.toNatClampNeg n.toNatClampNeg))) by rw [hY]; exact at') oq) (hD.set ha1) ⟨by simp; exact hS.1, fun q g1 g2 => (oq q (fun e => g2 (by rw [e]; exact hD.2 q1 _ ha1))).trans (hS.2.1 q g1 g2), fun q hq => by
      rcases List.mem_append.mp hq with h | h
      · exact hS.2.2 q h
      · obtain ⟨w, -, hw⟩ := List.mem_map.mp h
        rw [← hw]
        exact hD.2 q1 _ ha1⟩ _ hheap X'
  exact ⟨t, step t a1, b1⟩
section GR
variable {X : XE} {z : Z4} {nL cn sn : Nat} {P : Heap → Prop} {lv : List (Nat × Value)} {cc : ByteArray} {own : String} {R0 : Room} {st : List Value} {B : Nat} {σ : SS} {E : va_W}
theorem e_pure {pc : Nat} {φ : Prop} (h : ∀ H, P H → φ) (k : φ → G X nL P cn sn lv pc st) : G X nL P cn sn lv pc st := by
  obtain ⟨p, l, e, R, s, m, args, below, meth, c, K, A, Q⟩ := X
  exact fun H locs ls hW hS hl => k (h H hW) H locs ls hW hS hl
theorem e_imp {pc : Nat} {P' : Heap → Prop} (h : ∀ H, P H → P' H) (k : G X nL P' cn sn lv pc st) : G X nL P cn sn lv pc st := by
  obtain ⟨p, l, e, R, s, m, args, below, meth, c, K, A, Q⟩ := X
  exact fun H locs ls hW hS hl => k H locs ls (h H hW) hS hl
theorem e_ex {pc : Nat} {α : Type} {F : α → Heap → Prop} (k : ∀ a, G X nL (F a) cn sn lv pc st) : G X nL (fun H => ∃ a, F a H) cn sn lv pc st := by
  obtain ⟨p, l, e, R, s, m, args, below, meth, c, K, A, Q⟩ := X
  exact fun H locs ls ⟨a, hW⟩ hS hl => k a H locs ls hW hS hl
theorem e_wid {pc cn' sn' : Nat} (h1 : cn ≤ cn') (h2 : sn ≤ sn') (k : G X nL P cn' sn' lv pc st) : G X nL P cn sn lv pc st := by
  obtain ⟨p, l, e, R, s, m, args, below, meth, c, K, A, Q⟩ := X
  exact fun H locs ls hW hS hl => W.widen h1 h2 (k H locs ls hW hS hl)
theorem e_cs {pc cn' sn' : Nat} (h1 : cn = cn') (h2 : sn = sn') (k : G X nL P cn' sn' lv pc st) : G X nL P cn sn lv pc st := by
  subst h1 h2
  exact k
theorem e_null (pc : Nat) (hC : CE X z nL cc own R0) (hd : decode cc pc = .ok (.aconst_null, 1)) (k : G X nL P cn sn lv (pc + 1) (.null :: st)) : G X nL P cn sn lv pc st := by
  obtain ⟨p, l, e, R, s, m, args, below, meth, c, K, A, Q⟩ := X
  exact fun H locs ls hW hS hl => lv_null hC.1 hC.2.1 hd (k H locs ls hW hS hl)
theorem e_ifnonnull (pc tgt : Nat) (hC : CE X z nL cc own R0) {x : Nat} {off : Int} (hd : decode cc pc = .ok (.ifnonnull off, 3)) (ht : (pc : Int) + off = (tgt : Int)) (k : G X nL P cn sn lv tgt st) : G X nL P cn sn lv pc (.ref x :: st) := by
  obtain ⟨p, l, e, R, s, m, args, below, meth, c, K, A, Q⟩ := X
  exact fun H locs ls hW hS hl => lv_ifnonnull hC.1 hC.2.1 hd ht (k H locs ls hW hS hl)
theorem e_i2c (pc : Nat) (hC : CE X z nL cc own R0) {x v : Int32} (hd : decode cc pc = .ok (.i2c, 1)) (hv : (x.toUInt32 % 65536).toInt32 = v) (k : G X nL P cn sn lv (pc + 1) (.int v :: st)) : G X nL P cn sn lv pc (.int x :: st) := by
  obtain ⟨p, l, e, R, s, m, args, below, meth, c, K, A, Q⟩ := X
  exact fun H locs ls hW hS hl => lv_i2c hC.1 hC.2.1 hd hv (k H locs ls hW hS hl)
theorem e_eq {pc : Nat} {x y : Int32} (h : x = y) (k : G X nL P cn sn lv pc (.int y :: st)) : G X nL P cn sn lv pc (.int x :: st) := h ▸ k
theorem e_top {pc : Nat} {x : Int32} (k : ∀ y : Int32, y = x → G X nL P cn sn lv pc (.int y :: st)) : G X nL P cn sn lv pc (.int x :: st) := k x rfl
-- statics
theorem e_cmp (pc : Nat) {idx : Nat} (hC : CE X z nL cc own R0) (hw : Cond.fieldLink own idx RJ0 "COMPACT_STRINGS" "Z" ∈ TB) (hd : decode cc pc = .ok (.getstatic idx, 3)) (k : G X nL P cn sn lv (pc + 3) (.int 1 :: st)) : G X nL P cn sn lv pc st := by
  obtain ⟨p, l, e, R, s, m, args, below, meth, c, K, A, Q⟩ := X
  obtain ⟨hx, hb, hml, hown, hts, rfl, hX, hz, hA⟩ := hC
  exact fun H locs ls hW hS hl => va_gets hx hb (hX.2.2.2.1.1.narrow hA) hS hown (hts _ hw) (fun _ h => h) hd (k H locs ls hW hS hl)
theorem e_ones (pc : Nat) {idx : Nat} (hC : CE X z nL cc own R0) (hw : Cond.fieldLink own idx RJ6 "DigitOnes" "[B" ∈ TB) (hd : decode cc pc = .ok (.getstatic idx, 3)) (k : G X nL P cn sn lv (pc + 3) (.ref (kX X).2.2.1.1 :: st)) : G X nL P cn sn lv pc st := by
  obtain ⟨p, l, e, R, s, m, args, below, meth, c, K, A, Q⟩ := X
  obtain ⟨hx, hb, hml, hown, hts, rfl, hX, hz, hA⟩ := hC
  exact fun H locs ls hW hS hl => va_gets hx hb (hX.2.2.2.1.2.1.narrow hA) hS hown (hts _ hw) (fun _ h => h) hd (k H locs ls hW hS hl)
theorem e_tens (pc : Nat) {idx : Nat} (hC : CE X z nL cc own R0) (hw : Cond.fieldLink own idx RJ6 "DigitTens" "[B" ∈ TB) (hd : decode cc pc = .ok (.getstatic idx, 3)) (k : G X nL P cn sn lv (pc + 3) (.ref (kX X).2.2.1.2 :: st)) : G X nL P cn sn lv pc st := by
  obtain ⟨p, l, e, R, s, m, args, below, meth, c, K, A, Q⟩ := X
  obtain ⟨hx, hb, hml, hown, hts, rfl, hX, hz, hA⟩ := hC
  exact fun H locs ls hW hS hl => va_gets hx hb (hX.2.2.2.1.2.2.2.1.narrow hA) hS hown (hts _ hw) (fun _ h => h) hd (k H locs ls hW hS hl)
theorem e_onesAt (pc j : Nat) (hC : CE X z nL cc own R0) {i : Int32} (hj : i = nI j) (h : j < 100) (hd : decode cc pc = .ok (.baload, 1)) (k : G X nL P cn sn lv (pc + 1) (.int (nI (48 + j % 10)) :: st)) : G X nL P cn sn lv pc (.int i :: .ref (kX X).2.2.1.1 :: st) := by
  obtain ⟨p, l, e, R, s, m, args, below, meth, c, K, A, Q⟩ := X
  obtain ⟨hx, hb, hml, hown, hts, rfl, hX, hz, hA⟩ := hC
  subst hj
  exact fun H locs ls hW hS hl => va_tb hx hb (hX.2.2.2.1.2.2.1.narrow hA) hS (vp_in_nI h (by decide)) (by rw [nI_clamp (by omega)]) hd (k H locs ls hW hS hl)
theorem e_tensAt (pc j : Nat) (hC : CE X z nL cc own R0) {i : Int32} (hj : i = nI j) (h : j < 100) (hd : decode cc pc = .ok (.baload, 1)) (k : G X nL P cn sn lv (pc + 1) (.int (nI (48 + j / 10)) :: st)) : G X nL P cn sn lv pc (.int i :: .ref (kX X).2.2.1.2 :: st) := by
  obtain ⟨p, l, e, R, s, m, args, below, meth, c, K, A, Q⟩ := X
  obtain ⟨hx, hb, hml, hown, hts, rfl, hX, hz, hA⟩ := hC
  subst hj
  exact fun H locs ls hW hS hl => va_tb hx hb (hX.2.2.2.1.2.2.2.2.1.narrow hA) hS (vp_in_nI h (by decide)) (by rw [nI_clamp (by omega)]) hd (k H locs ls hW hS hl)
theorem e_fmt (pc : Nat) {idx : Nat} (hC : CE X z nL cc own R0) (hw : Cond.fieldLink own idx RJ3 "SIOOBE_FORMATTER" "Ljava/util/function/BiFunction;" ∈ TB) (hd : decode cc pc = .ok (.getstatic idx, 3)) (k : ∀ v : Value, (v = .null ∨ ∃ t, v = .ref t) → G X nL P cn sn lv (pc + 3) (v :: st)) : G X nL P cn sn lv pc st := by
  obtain ⟨p, l, e, R, s, m, args, below, meth, c, K, A, Q⟩ := X
  obtain ⟨hx, hb, hml, hown, hts, rfl, hX, hz, hA⟩ := hC
  intro H locs ls hW hS hl
  rcases hX.2.2.2.1.2.2.2.2.2 with h | ⟨t, h⟩
  · exact va_gets hx hb (h.narrow hA) hS hown (hts _ hw) (fun _ h => h) hd (k .null (Or.inl rfl) H locs ls hW hS hl)
  · exact va_gets hx hb (h.narrow hA) hS hown (hts _ hw) (fun _ h => h) hd (k (.ref t) (Or.inr ⟨t, rfl⟩) H locs ls hW hS hl)
theorem e_ldcS (pc i : Nat) {idx : Nat} (hC : CE X z nL cc RL R0) (hi : i < 6) (hx : txI.getD i 0 = idx) (hd : decode cc pc = .ok (.ldc idx, 2)) (k : G X nL P cn sn lv (pc + 2) (.ref ((kX X).2.2.2.1 i) :: st)) : G X nL P cn sn lv pc st := by
  obtain ⟨p, l, e, R, s, m, args, below, meth, c, K, A, Q⟩ := X
  obtain ⟨hx1, hb, hml, hown, hts, rfl, hX, hz, hA⟩ := hC
  subst hx
  exact fun H locs ls hW hS hl => va_ldcS hx1 hb hown (hX.2.2.2.2.2.1 i hi) hd (k H locs ls hW hS hl)
-- the script
theorem e_sld (pc q : Nat) {i : Int32} (hC : CE X z nL cc own R0) (hq : i = nI q) (hlt : q < z.2.2.1) (hd : decode cc pc = .ok (.iaload, 1)) (k : G X nL P cn sn lv (pc + 1) (.int (z.2.2.2 q) :: st)) : G X nL P cn sn lv pc (.int i :: .ref z.2.1 :: st) := by
  obtain ⟨p, l, e, R, s, m, args, below, meth, c, K, A, Q⟩ := X
  obtain ⟨hx, hb, hml, hown, hts, rfl, hX, hz, hA⟩ := hC
  subst hq
  intro H locs ls hW hS hl
  have h9 := hX.2.2.2.2.2.2.2.2.1
  refine va_sld hx hb hX.2.2.2.2.2.2.1 hX.2.2.2.2.2.2.2.2.2.1 (fun q => Nat.not_le.mpr hX.2.2.2.2.2.2.2.1 (hA _ q)) hS (vp_in_nI hlt (by omega)) hd ?_
  rw [nI_clamp (by omega)]
  exact k H locs ls hW hS hl
theorem e_slen (pc : Nat) (hC : CE X z nL cc own R0) (hd : decode cc pc = .ok (.arraylength, 1)) (k : G X nL P cn sn lv (pc + 1) (.int (nI z.2.2.1) :: st)) : G X nL P cn sn lv pc (.ref z.2.1 :: st) := by
  obtain ⟨p, l, e, R, s, m, args, below, meth, c, K, A, Q⟩ := X
  obtain ⟨hx, hb, hml, hown, hts, rfl, hX, hz, hA⟩ := hC
  exact fun H locs ls hW hS hl => va_slen hx hb hX.2.2.2.2.2.2.1 hX.2.2.2.2.2.2.2.2.2.1 (fun q => Nat.not_le.mpr hX.2.2.2.2.2.2.2.1 (hA _ q)) hS hd (k H locs ls hW hS hl)
-- a text's parts
theorem e_sval (pc : Nat) {idx : Nat} {q : Q4} (hC : CE X z nL cc own R0) (hw : Cond.fieldLink own idx RJ0 "value" "[B" ∈ TB) (hK : ∀ H, P H → SK (some q) (sX X) H) (hd : decode cc pc = .ok (.getfield idx, 3)) (k : G X nL P cn sn lv (pc + 3) (.ref q.2.1 :: st)) : G X nL P cn sn lv pc (.ref q.1 :: st) := by
  obtain ⟨p, l, e, R, s, m, args, below, meth, c, K, A, Q⟩ := X
  obtain ⟨hx, hb, hml, hown, hts, rfl, hX, hz, hA⟩ := hC
  intro H locs ls hW hS hl
  obtain ⟨cf, kk, fi, f, cell, h1, h2, h3, h4, h5, h6⟩ := (hK H hW).2.2.1
  exact W.getf hx hb hown (hts _ hw) h1 h2 h3 h4 h5 rfl rfl hd (k H locs ls hW hS hl)
theorem e_scod (pc : Nat) {idx : Nat} {q : Q4} (hC : CE X z nL cc own R0) (hw : Cond.fieldLink own idx RJ0 "coder" "B" ∈ TB) (hK : ∀ H, P H → SK (some q) (sX X) H) (hd : decode cc pc = .ok (.getfield idx, 3)) (k : G X nL P cn sn lv (pc + 3) (.int 0 :: st)) : G X nL P cn sn lv pc (.ref q.1 :: st) := by
  obtain ⟨p, l, e, R, s, m, args, below, meth, c, K, A, Q⟩ := X
  obtain ⟨hx, hb, hml, hown, hts, rfl, hX, hz, hA⟩ := hC
  intro H locs ls hW hS hl
  obtain ⟨cf, kk, fi, f, cell, h1, h2, h3, h4, h5, h6⟩ := (hK H hW).2.1
  exact W.getf hx hb hown (hts _ hw) h1 h2 h3 h4 h5 rfl rfl hd (k H locs ls hW hS hl)
theorem e_salen (pc : Nat) {q : Q4} {v : Int32} (hC : CE X z nL cc own R0) (hK : ∀ H, P H → SK (some q) (sX X) H) (hv : Int32.ofNat q.2.2.1 = v) (hd : decode cc pc = .ok (.arraylength, 1)) (k : G X nL P cn sn lv (pc + 1) (.int v :: st)) : G X nL P cn sn lv pc (.ref q.2.1 :: st) := by
  obtain ⟨p, l, e, R, s, m, args, below, meth, c, K, A, Q⟩ := X
  obtain ⟨hx, hb, hml, hown, hts, rfl, hX, hz, hA⟩ := hC
  intro H locs ls hW hS hl
  obtain ⟨cell, h1, h2, h3, h4, h5, h6⟩ := (hK H hW).2.2.2
  exact W.alen hx hb h1 h2 (h5.trans hv) rfl rfl hd (k H locs ls hW hS hl)
theorem e_sbld (pc j : Nat) {q : Q4} {i : Int32} (hC : CE X z nL cc own R0) (hK : ∀ H, P H → SK (some q) (sX X) H) (hj : i = nI j) (hlt : j < q.2.2.1) (h31 : j < 2 ^ 31) (hd : decode cc pc = .ok (.baload, 1)) (k : G X nL P cn sn lv (pc + 1) (.int (q.2.2.2 j) :: st)) : G X nL P cn sn lv pc (.int i :: .ref q.2.1 :: st) := by
  obtain ⟨p, l, e, R, s, m, args, below, meth, c, K, A, Q⟩ := X
  obtain ⟨hx, hb, hml, hown, hts, rfl, hX, hz, hA⟩ := hC
  subst hj
  intro H locs ls hW hS hl
  obtain ⟨cell, h1, h2, h3, h4, h5, h6, -⟩ := (hK H hW).2.2.2
  have e : (nI j).toNatClampNeg = j := nI_clamp h31
  exact W.bald hx hb h1 h2 h3 (by rw [e]; exact fun z => z.elim (fun z => nI_pos h31 z) (fun z => by omega)) (by rw [e]; exact h6 j hlt) rfl rfl hd (k H locs ls hW hS hl)
-- cells of E
/-- field j of class number t, as the code of 'own' names it -/
def Fd9 (own : String) (idx t j : Nat) : Prop := ∃ (C : String) (T : u_T) (N : Nat) (ty : Nat → FieldType), vwCl[t]? = some (C, T, N) ∧ (∀ w ∈ u_ws C T N, w ∈ TB) ∧ (∀ k, k < N → parseFieldDescriptor (T k).2.2.1 = some (ty k)) ∧ (∀ a, a < N → ∀ b, b < N → a ≠ b → (T a).2.1 ≠ (T b).2.1) ∧ j < N ∧ Cond.fieldLink own idx (T j).1 (T j).2.1 (T j).2.2.1 ∈ TB
theorem e_get (pc i : Nat) {idx t j a : Nat} {fs : List Value} {v : Value} (hC : CE X z nL cc own R0) (hF : Fd9 own idx t j) (hP : ∀ H, P H → PE (kX X) z.1 B σ E H) (hE : E[i]? = some (a, .inr (t, fs))) (hv : fs[j]? = some v) (hd : decode cc pc = .ok (.getfield idx, 3)) (k : G X nL P cn sn lv (pc + 3) (v :: st)) : G X nL P cn sn lv pc (.ref a :: st) := by
  obtain ⟨p, l, e, R, s, m, args, below, meth, c, K, A, Q⟩ := X
  obtain ⟨hx, hb, hml, hown, hts, rfl, hX, hz, hA⟩ := hC
  obtain ⟨C, T, N, ty, hc, hin, hty, hnm, hj, hlk⟩ := hF
  intro H locs ls hW hS hl
  exact va_get hx hb hts hin hown hX.1 (hP H hW).2.2.1 (95 + i) (WLE_at hE) hc j hj (hts _ hlk) (fun _ h => h) hv hd (k H locs ls hW hS hl)
theorem e_put (pc i : Nat) {idx t j a : Nat} {fs : List Value} {ty : FieldType} {v : Value} (hC : CE X z nL cc own R0) (hA0 : aX X = A0 z.1) (hF : Fd9 own idx t j) (hfin : ∀ C T N', vwCl[t]? = some (C, T, N') → (T j).2.2.2 = false ∧ parseFieldDescriptor (T j).2.2.1 = some ty) (hP : ∀ H, P H → PE (kX X) z.1 B σ E H) (hE : E[i]? = some (a, .inr (t, fs))) (hn : narrow ty v = v) (hfit : fits ty v = true) (hl : j < fs.length) (hd : decode cc pc = .ok (.putfield idx, 3)) (k : G X nL (PE (kX X) z.1 B σ (E.set i (a, .inr (t, fs.set j v)))) cn sn lv (pc + 3) st) : G X nL P cn sn lv pc (v :: .ref a :: st) := by
  obtain ⟨p, l, e, R, s, m, args, below, meth, c, K, A, Q⟩ := X
  obtain ⟨hx, hb, hml, hown, hts, rfl, hX, hz, hA⟩ := hC
  obtain ⟨C, T, N, ty', hc, hin, hty, hnm, hj, hlk⟩ := hF
  have hA0 : A = A0 z.1 := hA0
  subst hA0
  intro H locs ls hW hS hl2
  obtain ⟨h1, h2, h3, h4⟩ := hP H hW
  refine va_put hx hb hts hin ty' hty hnm hown hX.1 h3 h4 hS (95 + i) (WLE_at hE) hc j hj (hts _ hlk) (fun _ h => h) (hfin _ _ _ hc).1 (hfin _ _ _ hc).2 hn hfit hl hd fun H1 locs1 g1 g2 g3 => ?_
  rw [WLE_set] at g1 g2
  exact k H1 locs1 ls ⟨h1, h2, g1, g2⟩ g3 hl2
def IniX (X : XE) : Prop := match X with
  | (p, l, e, R, s, m, args, below, meth, c, K, A, Q) => meth.name = "<init>"
theorem e_putF (pc i : Nat) {idx t j a : Nat} {fs : List Value} {ty : FieldType} {v : Value} (hC : CE X z nL cc own R0) (hA0 : aX X = A0 z.1) (hIn : IniX X) (hF : Fd9 own idx t j) (hfin : ∀ C T N', vwCl[t]? = some (C, T, N') → (T j).2.2.2 = true ∧ parseFieldDescriptor (T j).2.2.1 = some ty ∧ (T j).1 = own) (hP : ∀ H, P H → PE (kX X) z.1 B σ E H) (hE : E[i]? = some (a, .inr (t, fs))) (hn : narrow ty v = v) (hfit : fits ty v = true) (hl : j < fs.length) (hd : decode cc pc = .ok (.putfield idx, 3)) (k : G X nL (PE (kX X) z.1 B σ (E.set i (a, .inr (t, fs.set j v)))) cn sn lv (pc + 3) st) : G X nL P cn sn lv pc (v :: .ref a :: st) := by
  obtain ⟨p, l, e, R, s, m, args, below, meth, c, K, A, Q⟩ := X
  obtain ⟨hx, hb, hml, hown, hts, rfl, hX, hz, hA⟩ := hC
  obtain ⟨C, T, N, ty', hc, hin, hty, hnm, hj, hlk⟩ := hF
  have hA0 : A = A0 z.1 := hA0
  subst hA0
  intro H locs ls hW hS hl2
  obtain ⟨h1, h2, h3, h4⟩ := hP H hW
  refine va_putF hx hb hts hin ty' hty hnm hown hX.1 h3 h4 hS (95 + i) (WLE_at hE) hc j hj (hts _ hlk) (fun _ h => h) (hfin _ _ _ hc).1 hIn (hfin _ _ _ hc).2.2 (hfin _ _ _ hc).2.1 hn hfit hl hd fun H1 locs1 g1 g2 g3 => ?_
  rw [WLE_set] at g1 g2
  exact k H1 locs1 ls ⟨h1, h2, g1, g2⟩ g3 hl2
theorem e_alenI (pc i : Nat) {a N : Nat} {f : Nat → Int32} {v : Int32} (hC : CE X z nL cc own R0) (hP : ∀ H, P H → PE (kX X) z.1 B σ E H) (hE : E[i]? = some (a, .inl ((kX X).2.1.1, (N, .inl f)))) (hv : Int32.ofNat N = v) (hd : decode cc pc = .ok (.arraylength, 1)) (k : G X nL P cn sn lv (pc + 1) (.int v :: st)) : G X nL P cn sn lv pc (.ref a :: st) := by
  obtain ⟨p, l, e, R, s, m, args, below, meth, c, K, A, Q⟩ := X
  obtain ⟨hx, hb, hml, hown, hts, rfl, hX, hz, hA⟩ := hC
  exact fun H locs ls hW hS hl => va_alen (x := (N, .inl f)) hx hb hX.1 (hP H hW).2.2.1 (95 + i) 0 (WLE_at hE) rfl hv hd (k H locs ls hW hS hl)
theorem e_alenB (pc i : Nat) {a N : Nat} {f : Nat → Int32} {v : Int32} (hC : CE X z nL cc own R0) (hP : ∀ H, P H → PE (kX X) z.1 B σ E H) (hE : E[i]? = some (a, .inl ((kX X).2.1.2.2, (N, .inl f)))) (hv : Int32.ofNat N = v) (hd : decode cc pc = .ok (.arraylength, 1)) (k : G X nL P cn sn lv (pc + 1) (.int v :: st)) : G X nL P cn sn lv pc (.ref a :: st) := by
  obtain ⟨p, l, e, R, s, m, args, below, meth, c, K, A, Q⟩ := X
  obtain ⟨hx, hb, hml, hown, hts, rfl, hX, hz, hA⟩ := hC
  exact fun H locs ls hW hS hl => va_alen (x := (N, .inl f)) hx hb hX.1 (hP H hW).2.2.1 (95 + i) 2 (WLE_at hE) rfl hv hd (k H locs ls hW hS hl)
theorem e_iald (pc i j : Nat) {a N : Nat} {f : Nat → Int32} {x : Int32} (hC : CE X z nL cc own R0) (hP : ∀ H, P H → PE (kX X) z.1 B σ E H) (hE : E[i]? = some (a, .inl ((kX X).2.1.1, (N, .inl f)))) (hx : x = nI j) (hj : j < N) (hN : N < 2 ^ 31) (hd : decode cc pc = .ok (.iaload, 1)) (k : G X nL P cn sn lv (pc + 1) (.int (f j) :: st)) : G X nL P cn sn lv pc (.int x :: .ref a :: st) := by
  obtain ⟨p, l, e, R, s, m, args, below, meth, c, K, A, Q⟩ := X
  obtain ⟨hx1, hb, hml, hown, hts, rfl, hX, hz, hA⟩ := hC
  subst hx
  intro H locs ls hW hS hl
  refine va_iald hx1 hb hX.1 (hP H hW).2.2.1 (95 + i) 0 (WLE_at hE) rfl (vp_in_nI hj hN) hd ?_
  rw [nI_clamp (by omega)]
  exact k H locs ls hW hS hl
theorem e_iast (pc i j : Nat) {a N : Nat} {f : Nat → Int32} {x y : Int32} (hC : CE X z nL cc own R0) (hA0 : aX X = A0 z.1) (hP : ∀ H, P H → PE (kX X) z.1 B σ E H) (hE : E[i]? = some (a, .inl ((kX X).2.1.1, (N, .inl f)))) (hx : x = nI j) (hj : j < N) (hN : N < 2 ^ 31) (hd : decode cc pc = .ok (.iastore, 1)) (k : G X nL (PE (kX X) z.1 B σ (E.set i (a, .inl ((kX X).2.1.1, (N, .inl (upd f j y)))))) cn sn lv (pc + 1) st) : G X nL P cn sn lv pc (.int y :: .int x :: .ref a :: st) := by
  obtain ⟨p, l, e, R, s, m, args, below, meth, c, K, A, Q⟩ := X
  obtain ⟨hx1, hb, hml, hown, hts, rfl, hX, hz, hA⟩ := hC
  have hA0 : A = A0 z.1 := hA0
  subst hA0
  subst hx
  intro H locs ls hW hS hl
  obtain ⟨h1, h2, h3, h4⟩ := hP H hW
  refine va_iast hx1 hb hX.1 h3 h4 hS (95 + i) 0 (WLE_at hE) rfl (vp_in_nI hj hN) hd fun H1 locs1 g1 g2 g3 => ?_
  rw [WLE_set, nI_clamp (by omega)] at g1 g2
  exact k H1 locs1 ls ⟨h1, h2, g1, g2⟩ g3 hl
theorem e_bast (pc i j : Nat) {a N : Nat} {f : Nat → Int32} {x y : Int32} (hC : CE X z nL cc own R0) (hA0 : aX X = A0 z.1) (hP : ∀ H, P H → PE (kX X) z.1 B σ E H) (hE : E[i]? = some (a, .inl ((kX X).2.1.2.2, (N, .inl f)))) (hx : x = nI j) (hj : j < N) (hN : N < 2 ^ 31) (hy : vp_nar .byte y = y) (hd : decode cc pc = .ok (.bastore, 1)) (k : G X nL (PE (kX X) z.1 B σ (E.set i (a, .inl ((kX X).2.1.2.2, (N, .inl (upd f j y)))))) cn sn lv (pc + 1) st) : G X nL P cn sn lv pc (.int y :: .int x :: .ref a :: st) := by
  obtain ⟨p, l, e, R, s, m, args, below, meth, c, K, A, Q⟩ := X
  obtain ⟨hx1, hb, hml, hown, hts, rfl, hX, hz, hA⟩ := hC
  have hA0 : A = A0 z.1 := hA0
  subst hA0
  subst hx
  intro H locs ls hW hS hl
  obtain ⟨h1, h2, h3, h4⟩ := hP H hW
  refine va_bast hx1 hb hX.1 h3 h4 hS (95 + i) 2 (WLE_at hE) rfl (vp_in_nI hj hN) hd fun H1 locs1 g1 g2 g3 => ?_
  rw [WLE_set, nI_clamp (by omega), hy] at g1 g2
  exact k H1 locs1 ls ⟨h1, h2, g1, g2⟩ g3 hl
theorem e_newI (pc N : Nat) {v : Int32} (hC : CE X z nL cc own R0) (hA0 : aX X = A0 z.1) (w1 : Cond.arrayClass .int ∈ TB) (hP : ∀ H, P H → PE (kX X) z.1 B σ E H) (hv : ¬ v < 0) (hN : v.toNatClampNeg = N) (hN2 : N ≤ 1000) (hcn : cn + 1 ≤ R0.cells) (hsn : sn + N ≤ R0.slots) (hd : decode cc pc = .ok (.newarray .int, 2)) (k : ∀ a, G X nL (PE (kX X) z.1 B σ (E ++ [(a, .inl ((kX X).2.1.1, (N, .inl (fun _ => 0))))])) (cn + 1) (sn + N) lv (pc + 2) (.ref a :: st)) : G X nL P cn sn lv pc (.int v :: st) := by
  obtain ⟨p, l, e, R, s, m, args, below, meth, c, K, A, Q⟩ := X
  obtain ⟨hx1, hb, hml, hown, hts, rfl, hX, hz, hA⟩ := hC
  have hA0 : A = A0 z.1 := hA0
  subst hA0
  intro H locs ls hW hS hl
  obtain ⟨h1, h2, h3, h4⟩ := hP H hW
  refine va_newa (atype := .int) (ty := .int) (N' := N) (a0 := (N, .inl (fun _ => 0))) hx1 hb (hts _ w1) rfl hX.1 h3 h4 hS (fun q hq => Nat.le_trans hz hq) (fun cA => by rw [vp_cell_i]; rfl) hv hN (by show N * 4 ≤ _; omega) hcn hsn hd fun q cA H1 g0 g1 g2 g3 => ?_
  have e1 : cA = K.2.1.1 := Option.some.inj (((g0.2 3 _ rfl).2).symm.trans (hX.1.2 0 _ rfl).2)
  subst e1
  rw [WLE_push] at g1 g2
  exact k q H1 locs ls ⟨h1, h2, g1, g2⟩ g3 hl
theorem e_newB (pc N : Nat) {v : Int32} (hC : CE X z nL cc own R0) (hA0 : aX X = A0 z.1) (w1 : Cond.arrayClass .byte ∈ TB) (hP : ∀ H, P H → PE (kX X) z.1 B σ E H) (hv : ¬ v < 0) (hN : v.toNatClampNeg = N) (hN2 : N ≤ 1000) (hcn : cn + 1 ≤ R0.cells) (hsn : sn + N ≤ R0.slots) (hd : decode cc pc = .ok (.newarray .byte, 2)) (k : ∀ a, G X nL (PE (kX X) z.1 B σ (E ++ [(a, .inl ((kX X).2.1.2.2, (N, .inl (fun _ => 0))))])) (cn + 1) (sn + N) lv (pc + 2) (.ref a :: st)) : G X nL P cn sn lv pc (.int v :: st) := by
  obtain ⟨p, l, e, R, s, m, args, below, meth, c, K, A, Q⟩ := X
  obtain ⟨hx1, hb, hml, hown, hts, rfl, hX, hz, hA⟩ := hC
  have hA0 : A = A0 z.1 := hA0
  subst hA0
  intro H locs ls hW hS hl
  obtain ⟨h1, h2, h3, h4⟩ := hP H hW
  refine va_newa (atype := .byte) (ty := .byte) (N' := N) (a0 := (N, .inl (fun _ => 0))) hx1 hb (hts _ w1) rfl hX.1 h3 h4 hS (fun q hq => Nat.le_trans hz hq) (fun cA => by rw [vp_cell_i]; rfl) hv hN (by show N * 1 ≤ _; omega) hcn hsn hd fun q cA H1 g0 g1 g2 g3 => ?_
  have e1 : cA = K.2.1.2.2 := Option.some.inj (((g0.2 3 _ rfl).2).symm.trans (hX.1.2 2 _ rfl).2)
  subst e1
  rw [WLE_push] at g1 g2
  exact k q H1 locs ls ⟨h1, h2, g1, g2⟩ g3 hl
theorem e_new (pc : Nat) {t N idx : Nat} {C : String} {T : u_T} {tyf : Nat → FieldType} {fs : List Value} (hC : CE X z nL cc own R0) (hA0 : aX X = A0 z.1) (hc : vwCl[t]? = some (C, T, N)) (hin : ∀ w ∈ u_ws C T N, w ∈ TB) (hty : ∀ k, k < N → parseFieldDescriptor (T k).2.2.1 = some (tyf k)) (w1 : Cond.classLink own idx C ∈ TB) (w2 : Cond.instantiable C N ∈ TB) (w3 : Cond.initialized C ∈ TB) (hfs : ∀ j, j < N → defaultValue (tyf j) = vp_V fs j) (hP : ∀ H, P H → PE (kX X) z.1 B σ E H) (hcn : cn + 1 ≤ R0.cells) (hsn : sn + N ≤ R0.slots) (hd : decode cc pc = .ok (.new idx, 3)) (k : ∀ a, G X nL (PE (kX X) z.1 B σ (E ++ [(a, .inr (t, fs))])) (cn + 1) (sn + N) lv (pc + 3) (.ref a :: st)) : G X nL P cn sn lv pc st := by
  obtain ⟨p, l, e, R, s, m, args, below, meth, c, K, A, Q⟩ := X
  obtain ⟨hx1, hb, hml, hown, hts, rfl, hX, hz, hA⟩ := hC
  have hA0 : A = A0 z.1 := hA0
  subst hA0
  intro H locs ls hW hS hl
  obtain ⟨h1, h2, h3, h4⟩ := hP H hW
  refine va_new hx1 hb hts hin tyf hty hown (hts _ w1) (hts _ w2) (hts _ w3) hX.1 h3 h4 hS (fun q hq => Nat.le_trans hz hq) hc hfs hcn hsn hd fun q H1 g1 g2 g3 => ?_
  rw [WLE_push] at g1 g2
  exact k q H1 locs ls ⟨h1, h2, g1, g2⟩ g3 hl
theorem e_ini {a idx : Nat} (pc : Nat) (hC : CE X z nL cc own R0) (w1 : Cond.methodLink own idx Lib.objectInit ∈ TB) (w2 : Cond.instanceMethod Lib.objectInit ∈ TB) (w3 : Cond.code Lib.objectInit ⟨#[0xb1]⟩ 1 none ∈ TB) (hfr : 1 ≤ R0.frames) (hlo : (st.map fun v => v.category).sum + 12 ≤ R0.locals) (hd : decode cc pc = .ok (.invokespecial idx, 3)) (k : G X nL P cn sn lv (pc + 3) st) : G X nL P cn sn lv pc (.ref a :: st) := by
  obtain ⟨p, l, e, R, s, m, args, below, meth, c, K, A, Q⟩ := X
  obtain ⟨hx, hb, hml, hown, hts, rfl, hX, hz, hA⟩ := hC
  intro H locs ls hW hS hl
  refine W.objInit hx hb hown (hts _ w1) (hts _ w2) (hts _ w3) rfl (hl.1.trans hml.symm) rfl hd hfr (by show 2 * 0 + _ + 12 ≤ _; omega) ?_
  exact W.eq (g2 := F0 m (pc + 3) ls st) rfl (k H locs ls hW hS hl)
theorem e_mmin (pc : Nat) {idx : Nat} (hC : CE X z nL cc own R0) {x y : Int32} (w1 : Cond.methodLink own idx Lib.Math.min.name ∈ TB) (w2 : Cond.static Lib.Math.min.name ∈ TB) (w3 : Cond.initialized "java/lang/Math" ∈ TB) (w4 : Cond.code Lib.Math.min.name Lib.Math.min.code 2 (some .int) ∈ TB) (hf : 1 ≤ R0.frames) (hlo : (st.map fun v => v.category).sum + 13 ≤ R0.locals) (hcn : cn ≤ R0.cells) (hsn : sn ≤ R0.slots) (hd : decode cc pc = .ok (.invokestatic idx, 3)) (k : G X nL P cn sn lv (pc + 3) (.int (if y < x then y else x) :: st)) : G X nL P cn sn lv pc (.int y :: .int x :: st) := by
  obtain ⟨p, l, e, R, s, m, args, below, meth, c, K, A, Q⟩ := X
  obtain ⟨hx, hb, hml, hown, hts, rfl, hX, hz, hA⟩ := hC
  exact fun H locs ls hW hS hl => va_mmin hx hb (hml.trans hl.1.symm) hown (hts _ w1) (hts _ w2) (hts _ w3) (hts _ w4) hf hlo hcn hsn hd (k H locs ls hW hS hl)
/-- a text's bytes into an array of E -/
theorem e_copyS (pc i s0 d0 n0 : Nat) {q : Q4} {a N1 idx : Nat} {g : Nat → Int32} {sp dp n : Int32} (hC : CE X z nL cc own R0) (hA0 : aX X = A0 z.1) (w1 : Cond.methodLink own idx arraycopyName ∈ TB) (w2 : Cond.native arraycopyName ∈ TB) (w3 : Cond.static arraycopyName ∈ TB) (w4 : Cond.initialized "java/lang/System" ∈ TB) (hP : ∀ H, P H → PE (kX X) z.1 B σ E H) (hK : ∀ H, P H → SK (some q) (sX X) H) (hE : E[i]? = some (a, .inl ((kX X).2.1.2.2, (N1, .inl g)))) (h1 : sp = nI s0) (h2 : dp = nI d0) (h3 : n = nI n0) (h4 : s0 + n0 ≤ q.2.2.1) (h5 : d0 + n0 ≤ N1) (hbig : s0 < 2 ^ 31 ∧ d0 < 2 ^ 31 ∧ n0 < 2 ^ 31) (hfit : ∀ i : Nat, i < n0 → fits .byte (.int (q.2.2.2 (s0 + i))) = true) (hf : 1 ≤ R0.frames) (hlo : (st.map fun v => v.category).sum + (nativeFrameWords "java/lang/System" "arraycopy" 5 + 11) ≤ R0.locals) (hd : decode cc pc = .ok (.invokestatic idx, 3)) (k : G X nL (PE (kX X) z.1 B σ (E.set i (a, .inl ((kX X).2.1.2.2, (N1, .inl (va_cpy q.2.2.2 g s0 d0 n0)))))) cn sn lv (pc + 3) st) : G X nL P cn sn lv pc (.int n :: .int dp :: .ref a :: .int sp :: .ref q.2.1 :: st) := by
  obtain ⟨p, l, e, R, s, m, args, below, meth, c, K, A, Q⟩ := X
  obtain ⟨hx, hb, hml, hown, hts, rfl, hX, hz, hA⟩ := hC
  have hA0 : A = A0 z.1 := hA0
  subst hA0
  subst h1 h2 h3
  intro H locs ls hW hS hl
  obtain ⟨p1, p2, p3, p4⟩ := hP H hW
  obtain ⟨cell, c1, c2, c3, c4, c5, c6, -⟩ := (hK H hW).2.2.2
  refine my_copyS hx hb (hml.trans hl.1.symm) hown (hts _ w1) (hts _ w2) (hts _ w3) (hts _ w4) hX.1 p3 p4 hS c1 c2 c3 c4 c6 (95 + i) 2 (WLE_at hE) rfl (nI_pos hbig.1) (nI_pos hbig.2.1) (nI_pos hbig.2.2) (by rw [nI_clamp hbig.1, nI_clamp hbig.2.2]; exact h4) (by rw [nI_clamp hbig.2.1, nI_clamp hbig.2.2]; exact h5) (by rw [nI_clamp hbig.1, nI_clamp hbig.2.2]; exact hfit) hf hlo hd fun H1 locs1 g1 g2 g3 => ?_
  rw [WLE_set, nI_clamp hbig.1, nI_clamp hbig.2.1, nI_clamp hbig.2.2] at g1 g2
  exact k H1 locs1 ls ⟨p1, p2, g1, g2⟩ g3 hl
/-- an array of E into another -/
theorem e_copyB (pc i0 i s0 d0 n0 : Nat) {a0 a N0 N1 idx : Nat} {f g : Nat → Int32} {sp dp n : Int32} (hC : CE X z nL cc own R0) (hA0 : aX X = A0 z.1) (w1 : Cond.methodLink own idx arraycopyName ∈ TB) (w2 : Cond.native arraycopyName ∈ TB) (w3 : Cond.static arraycopyName ∈ TB) (w4 : Cond.initialized "java/lang/System" ∈ TB) (hP : ∀ H, P H → PE (kX X) z.1 B σ E H) (hE0 : E[i0]? = some (a0, .inl ((kX X).2.1.2.2, (N0, .inl f)))) (hE : E[i]? = some (a, .inl ((kX X).2.1.2.2, (N1, .inl g)))) (h1 : sp = nI s0) (h2 : dp = nI d0) (h3 : n = nI n0) (h4 : s0 + n0 ≤ N0) (h5 : d0 + n0 ≤ N1) (hbig : s0 < 2 ^ 31 ∧ d0 < 2 ^ 31 ∧ n0 < 2 ^ 31) (hfit : ∀ i : Nat, i < n0 → fits .byte (.int (f (s0 + i))) = true) (hf : 1 ≤ R0.frames) (hlo : (st.map fun v => v.category).sum + (nativeFrameWords "java/lang/System" "arraycopy" 5 + 11) ≤ R0.locals) (hd : decode cc pc = .ok (.invokestatic idx, 3)) (k : G X nL (PE (kX X) z.1 B σ (E.set i (a, .inl ((kX X).2.1.2.2, (N1, .inl (va_cpy f g s0 d0 n0)))))) cn sn lv (pc + 3) st) : G X nL P cn sn lv pc (.int n :: .int dp :: .ref a :: .int sp :: .ref a0 :: st) := by
  obtain ⟨p, l, e, R, s, m, args, below, meth, c, K, A, Q⟩ := X
  obtain ⟨hx, hb, hml, hown, hts, rfl, hX, hz, hA⟩ := hC
  have hA0 : A = A0 z.1 := hA0
  subst hA0
  subst h1 h2 h3
  intro H locs ls hW hS hl
  obtain ⟨p1, p2, p3, p4⟩ := hP H hW
  refine va_copyi (ty := .byte) hx hb (hml.trans hl.1.symm) hown (hts _ w1) (hts _ w2) (hts _ w3) (hts _ w4) hX.1 p3 p4 hS (95 + i0) (95 + i) 2 2 (WLE_at hE0) (WLE_at hE) rfl rfl rfl (nI_pos hbig.1) (nI_pos hbig.2.1) (nI_pos hbig.2.2) (by rw [nI_clamp hbig.1, nI_clamp hbig.2.2]; exact h4) (by rw [nI_clamp hbig.2.1, nI_clamp hbig.2.2]; exact h5) (by rw [nI_clamp hbig.1, nI_clamp hbig.2.2]; exact hfit) hf hlo hd fun H1 locs1 g1 g2 g3 => ?_
  rw [WLE_set, nI_clamp hbig.1, nI_clamp hbig.2.1, nI_clamp hbig.2.2] at g1 g2
  exact k H1 locs1 ls ⟨p1, p2, g1, g2⟩ g3 hl
-- ends
end GR
