/-! the claim's own world: all cells of the class and of the reference, by numbers in the order in which they are made; a judgement over it -/
theorem tb_in {ws : List Cond} (h : ∀ w ∈ ws, w ∈ TB) : GoodIn TB ws := fun w hw => ⟨h w hw, good_of_word (List.all_eq_true.mp tb_good w (h w hw))⟩
abbrev SS : Type := Nat → Nat → Int32
def u2 (σ : SS) (k j : Nat) (x : Int32) : SS := fun a => if a = k then upd (σ k) j x else σ a
abbrev vwCl : List vw_C := [(RX0, TX0, 5), (RX1, TX1, 3), (RX2, TX2, 2), (RX3, TX3, 1), (RX4, TX4, 3), (RX5, TX5, 3), (RX6, TX6, 3), (RX7, TX7, 7), (RX8, TX8, 11), (RX9, TX9, 13), (RJ0, TJ0, 4), (RJ4, TJ4, 4)]
def KT : List (Nat × Nat × List (Option Nat)) := [(11, 13, [.some 1, .some 8, .some 15, .some 22, .some 80, .some 82, .some 85, .some 88, .some 90, .some 92, .some 94, .none, .none]), (10, 11, [.some 2, .some 3, .some 4, .some 5, .some 6, .some 7, .none, .none, .none, .none, .none]), (0, 9, []), (0, 9, []), (0, 9, []), (0, 9, []), (0, 9, []), (0, 9, []), (10, 11, [.some 9, .some 10, .some 11, .some 12, .some 13, .some 14, .none, .none, .none, .none, .none]), (0, 9, []), (0, 9, []), (0, 9, []), (0, 9, []), (0, 9, []), (0, 9, []), (10, 11, [.some 16, .some 17, .some 18, .some 19, .some 20, .some 21, .none, .none, .none, .none, .none]), (0, 9, []), (0, 9, []), (0, 9, []), (0, 9, []), (0, 9, []), (0, 9, []), (6, 3, [.some 23, .none, .none]), (1, 8, []), (10, 11, [.some 25, .some 26, .some 27, .some 28, .some 29, .some 30, .none, .none, .none, .none, .none]), (0, 9, []), (0, 9, []), (0, 9, []), (0, 9, []), (0, 9, []), (0, 9, []), (10, 11, [.some 32, .some 33, .some 34, .some 35, .some 36, .some 37, .none, .none, .none, .none, .none]), (0, 9, []), (0, 9, []), (0, 9, []), (0, 9, []), (0, 9, []), (0, 9, []), (10, 11, [.some 39, .some 40, .some 41, .some 42, .some 43, .some 44, .none, .none, .none, .none, .none]), (0, 9, []), (0, 9, []), (0, 9, []), (0, 9, []), (0, 9, []), (0, 9, []), (10, 11, [.some 46, .some 47, .some 48, .some 49, .some 50, .some 51, .none, .none, .none, .none, .none]), (0, 9, []), (0, 9, []), (0, 9, []), (0, 9, []), (0, 9, []), (0, 9, []), (10, 11, [.some 53, .some 54, .some 55, .some 56, .some 57, .some 58, .none, .none, .none, .none, .none]), (0, 9, []), (0, 9, []), (0, 9, []), (0, 9, []), (0, 9, []), (0, 9, []), (10, 11, [.some 60, .some 61, .some 62, .some 63, .some 64, .some 65, .none, .none, .none, .none, .none]), (0, 9, []), (0, 9, []), (0, 9, []), (0, 9, []), (0, 9, []), (0, 9, []), (10, 11, [.some 67, .some 68, .some 69, .some 70, .some 71, .some 72, .none, .none, .none, .none, .none]), (0, 9, []), (0, 9, []), (0, 9, []), (0, 9, []), (0, 9, []), (0, 9, []), (10, 11, [.some 74, .some 75, .some 76, .some 77, .some 78, .some 79, .none, .none, .none, .none, .none]), (0, 9, []), (0, 9, []), (0, 9, []), (0, 9, []), (0, 9, []), (0, 9, []), (8, 3, [.some 81, .none, .none]), (0, 9, []), (2, 5, [.some 83, .some 84, .none, .none, .none]), (0, 512, []), (0, 24, []), (3, 3, [.some 86, .some 87, .none]), (0, 12, []), (0, 12, []), (5, 1, [.some 89]), (0, 9, []), (9, 7, [.some 91, .none, .none, .none, .none, .none, .none]), (0, 70, []), (4, 2, [.some 93, .none]), (0, 24, []), (7, 3, [.none, .none, .none])]
def kt (k : Nat) : Nat × Nat × List (Option Nat) := KT.getD k (0, 0, [])
def rv (B : Nat) (o : Option Nat) (x : Int32) : Value := match o with
  | none => .int x
  | some t => if x = 0 then .null else .ref (B + t)
def entO (B : Nat) (cI cW : ClassId) (q : Nat × Nat × List (Option Nat)) (f : Nat → Int32) : va_E := match q with
  | (0, n, _) => .inl (cI, (n, .inl f))
  | (1, n, _) => .inl (cW, (n, .inr (.inr (.inr (.inr (fun j => if f j = 0 then none else some (B + (24 + 7 * j))))))))
  | (t + 2, n, fl) => .inr (t, (List.range n).map (fun j => rv B (fl.getD j none) (f j)))
def ent (B : Nat) (cI cW : ClassId) (k : Nat) (f : Nat → Int32) : va_E := entO B cI cW (kt k) f
def WL (B : Nat) (cI cW : ClassId) (n : Nat) (σ : SS) : va_W := (List.range n).map (fun k => (B + k, ent B cI cW k (σ k)))
def tyA (cI cW : ClassId) : List (ClassId × FieldType) := [(cI, .int), (cW, .object RX8)]
/-- while the class's cells are made, the heap ends with them; then it may go on -/
def Sz (B n z : Nat) : Prop := n ≤ 95 ∧ (n < 95 → z = B + n) ∧ B + n ≤ z
def Wd (D : va_G) (cI cW : ClassId) (B n : Nat) (σ : SS) (s : State) (H : Heap) : Prop := Sz B n H.size ∧ va_P D vwCl (WL B cI cW n σ) H ∧ va_K D vwCl (tyA cI cW) s
def RA (B : Nat) : Nat → Prop := fun q => B ≤ q ∧ q < B + 95
theorem RA_in {B a n : Nat} (ha : a < n) (h : n ≤ 95) : RA B (B + a) := ⟨Nat.le_add_right _ _, by omega⟩
def isRef (k j : Nat) : Bool := (match (kt k).2.2.getD j none with | none => false | some _ => true) || (k == 23 && j < 8)
def RS (σ : SS) : Prop := ∀ k j : Nat, isRef k j = true → σ k j = 1
theorem WL_get {B : Nat} {cI cW : ClassId} {n k : Nat} {σ : SS} (h : k < n) : (WL B cI cW n σ)[k]? = some (B + k, ent B cI cW k (σ k)) := by
  simp [WL, h]
theorem WL_at {B : Nat} {cI cW : ClassId} {n k : Nat} {σ : SS} {q : Nat × va_E} (h : (WL B cI cW n σ)[k]? = some q) : k < n ∧ q = (B + k, ent B cI cW k (σ k)) := by
  have hk : k < n := by
    have h1 := (List.getElem?_eq_some_iff.mp h).1
    simpa [WL] using h1
  rw [WL_get hk] at h
  exact ⟨hk, (Option.some.inj h).symm⟩
theorem u2_at (σ : SS) (k j : Nat) (x : Int32) : u2 σ k j x k = upd (σ k) j x := by simp [u2]
theorem u2_ne (σ : SS) {a k : Nat} (j : Nat) (x : Int32) (h : a ≠ k) : u2 σ k j x a = σ a := by simp [u2, h]
theorem WL_set {B : Nat} {cI cW : ClassId} {n k j : Nat} {x : Int32} {σ : SS} (h : k < n) : (WL B cI cW n σ).set k (B + k, ent B cI cW k (upd (σ k) j x)) = WL B cI cW n (u2 σ k j x) := by
  refine List.ext_getElem? fun i => ?_
  by_cases hi : i < n
  · rw [WL_get hi]
    by_cases e : i = k
    · subst e
      rw [List.getElem?_set_self (by simp [WL, hi]), u2_at]
    · rw [List.getElem?_set_ne (fun q => e q.symm), WL_get hi, u2_ne σ j x e]
  · rw [List.getElem?_eq_none (by simp [WL]; omega), List.getElem?_eq_none (by simp [WL]; omega)]
theorem WL_push {B : Nat} {cI cW : ClassId} {n : Nat} {σ : SS} {f : Nat → Int32} : WL B cI cW n σ ++ [(B + n, ent B cI cW n f)] = WL B cI cW (n + 1) (fun a => if a = n then f else σ a) := by
  refine List.ext_getElem? fun i => ?_
  by_cases hi : i < n
  · rw [List.getElem?_append_left (by simp [WL, hi]), WL_get hi, WL_get (by omega)]
    simp [Nat.ne_of_lt hi]
  · by_cases e : i = n
    · subst e
      rw [List.getElem?_append_right (by simp [WL]), WL_get (by omega)]
      simp [WL]
    · rw [List.getElem?_eq_none (by simp [WL]; omega), List.getElem?_eq_none (by simp [WL]; omega)]
theorem WL_D {B : Nat} {cI cW : ClassId} {n : Nat} {σ : SS} (hn : n ≤ 95) : va_D (RA B) (WL B cI cW n σ) := by
  refine ⟨fun i j p q hi hj h => ?_, fun k q hk => ?_⟩
  · obtain ⟨-, rfl⟩ := WL_at hi
    obtain ⟨-, rfl⟩ := WL_at hj
    have h : B + i = B + j := h
    omega
  · obtain ⟨hk2, rfl⟩ := WL_at hk
    exact RA_in hk2 hn
theorem ent_arr {B : Nat} {cI cW : ClassId} {k n : Nat} {fl : List (Option Nat)} {f : Nat → Int32} (h : kt k = (0, n, fl)) : ent B cI cW k f = .inl (cI, (n, .inl f)) := by
  simp only [ent, h, entO]
theorem ent_wal {B : Nat} {cI cW : ClassId} {k n : Nat} {fl : List (Option Nat)} {f : Nat → Int32} (h : kt k = (1, n, fl)) : ent B cI cW k f = .inl (cW, (n, .inr (.inr (.inr (.inr (fun j => if f j = 0 then none else some (B + (24 + 7 * j)))))))) := by
  simp only [ent, h, entO]
theorem ent_obj {B : Nat} {cI cW : ClassId} {k t n : Nat} {fl : List (Option Nat)} {f : Nat → Int32} (h : kt k = (t + 2, n, fl)) : ent B cI cW k f = .inr (t, (List.range n).map (fun j => rv B (fl.getD j none) (f j))) := by
  simp only [ent, h, entO]
theorem ent_set {B : Nat} {n j : Nat} {fl : List (Option Nat)} {f : Nat → Int32} {x : Int32} (hj : j < n) : ((List.range n).map (fun i => rv B (fl.getD i none) (f i))).set j (rv B (fl.getD j none) x) = (List.range n).map (fun i => rv B (fl.getD i none) (upd f j x i)) := by
  refine List.ext_getElem? fun i => ?_
  by_cases hi : i < n
  · by_cases e : i = j
    · subst e
      rw [List.getElem?_set_self (by simp [hi])]
      simp [hi, upd]
    · rw [List.getElem?_set_ne (fun q => e q.symm)]
      simp [hi, upd, e]
  · rw [List.getElem?_eq_none (by simp; omega), List.getElem?_eq_none (by simp; omega)]
abbrev XT : Type := Program × Launch × Env × Room × State × MethodId × Array Value × List Frame × Method × Code × va_G × ClassId × ClassId × (State → Prop)
/-- the machine stands at pc, the heap holds σ: the run comes to its end Q -/
def J (X : XT) (nL B n : Nat) (I : SS → Prop) (cn sn : Nat) (σ : SS) (lv : List (Nat × Value)) (pc : Nat) (st : List Value) : Prop := match X with
  | (p, l, e, R, s, m, args, below, meth, c, D, cI, cW, Q) => ∀ (H : Heap) (locs : List Loc) (ls : Array Slot), Wd D cI cW B n σ s H → I σ → va_S (RA B) s.heap H locs → lv_has ls nL lv → W p l e R s m args below meth c H locs cn sn Q (F0 m pc ls st)
def NL : List (String × Nat × MethodName × String) := [(RX8, 71, yX9_stretch, RX9), (RX6, 43, yX9_isIn, RX9), (RX1, 26, yX9_turned, RX9), (RX1, 30, yX9_isIn, RX9), (RX9, 31, yX6_init, RX9), (RX9, 38, yX0_init, RX9), (RX9, 45, yX1_init, RX9), (RX9, 52, yX3_init, RX9), (RX9, 59, yX7_init, RX9), (RX9, 66, yX2_init, RX9), (RX9, 73, yX5_init, RX9), (RX0, 62, yX9_isIn, RX9)]
/-- the links to a nest mate's private methods: they stay as they are, but the kit carries them by hand -/
def NW (U : State) : Prop := ∀ q ∈ NL, va_Nw (.methodLinkNest q.1 q.2.1 q.2.2.1 q.2.2.2) U
theorem NW.same {u U : State} (h : u.vm = U.vm) (hN : NW u) : NW U := fun q hq => va_Nw.same rfl h (hN q hq)
theorem NW.warm {s U : State} (h : s.WarmedH U.vm) (hN : NW s) : NW U := fun q hq => va_Nw.warmM h (hN q hq)
def Cx (X : XT) (nL : Nat) (cc : ByteArray) (own : String) (R0 : Room) : Prop := match X with
  | (p, l, e, R, s, m, args, below, meth, c, D, cI, cW, Q) => p.tables.exec = Jvm.exec ∧ c.code = cc ∧ c.maxLocals = nL ∧ s.vm.findClass own = some m.cls ∧ (∀ w ∈ TB, w.before args s = true) ∧ R = R0 ∧ NW s
section JR
variable {X : XT} {nL B n cn sn : Nat} {I : SS → Prop} {σ : SS} {lv : List (Nat × Value)} {cc : ByteArray} {own : String} {R0 : Room} {st : List Value}

theorem j_iconst (pc : Nat) (hC : Cx X nL cc own R0) {z : Int} {v : Int32} (hd : decode cc pc = .ok (.iconst z, 1)) (hv : Int32.ofInt z = v) (k : J X nL B n I cn sn σ lv (pc + 1) (.int v :: st)) : J X nL B n I cn sn σ lv pc (st) := by
  obtain ⟨p, l, e, R, s, m, args, below, meth, c, D, cI, cW, Q⟩ := X
  exact fun H locs ls hW hI hS hl => lv_iconst hC.1 hC.2.1 hd hv (k H locs ls hW hI hS hl)

theorem j_bipush (pc : Nat) (hC : Cx X nL cc own R0) {z : Int} {v : Int32} (hd : decode cc pc = .ok (.bipush z, 2)) (hv : (Int8.ofInt z).toInt32 = v) (k : J X nL B n I cn sn σ lv (pc + 2) (.int v :: st)) : J X nL B n I cn sn σ lv pc (st) := by
  obtain ⟨p, l, e, R, s, m, args, below, meth, c, D, cI, cW, Q⟩ := X
  exact fun H locs ls hW hI hS hl => lv_bipush hC.1 hC.2.1 hd hv (k H locs ls hW hI hS hl)

theorem j_sipush (pc : Nat) (hC : Cx X nL cc own R0) {z : Int} {v : Int32} (hd : decode cc pc = .ok (.sipush z, 3)) (hv : (Int16.ofInt z).toInt32 = v) (k : J X nL B n I cn sn σ lv (pc + 3) (.int v :: st)) : J X nL B n I cn sn σ lv pc (st) := by
  obtain ⟨p, l, e, R, s, m, args, below, meth, c, D, cI, cW, Q⟩ := X
  exact fun H locs ls hW hI hS hl => lv_sipush hC.1 hC.2.1 hd hv (k H locs ls hW hI hS hl)

theorem j_iload_n (pc : Nat) (hC : Cx X nL cc own R0) {kk : Fin 4} {i : Nat} {x : Int32} (q : Nat) (hd : decode cc pc = .ok (.iload_n kk, 1)) (hq : lv[q]? = some (i, .int x)) (hi : (kk : Nat) = i) (k : J X nL B n I cn sn σ lv (pc + 1) (.int x :: st)) : J X nL B n I cn sn σ lv pc st := by
  obtain ⟨p, l, e, R, s, m, args, below, meth, c, D, cI, cW, Q⟩ := X
  exact fun H locs ls hW hI hS hl => lv_iload_n hC.1 hC.2.1 hd hi (lv_at hl q hq) (k H locs ls hW hI hS hl)

theorem j_iload (pc : Nat) (hC : Cx X nL cc own R0) {i : Nat} {x : Int32} (q : Nat) (hd : decode cc pc = .ok (.iload i, 2)) (hq : lv[q]? = some (i, .int x)) (k : J X nL B n I cn sn σ lv (pc + 2) (.int x :: st)) : J X nL B n I cn sn σ lv pc st := by
  obtain ⟨p, l, e, R, s, m, args, below, meth, c, D, cI, cW, Q⟩ := X
  exact fun H locs ls hW hI hS hl => lv_iload hC.1 hC.2.1 hd (lv_at hl q hq) (k H locs ls hW hI hS hl)

theorem j_aload_n (pc : Nat) (hC : Cx X nL cc own R0) {kk : Fin 4} {i : Nat} {x : Nat} (q : Nat) (hd : decode cc pc = .ok (.aload_n kk, 1)) (hq : lv[q]? = some (i, .ref x)) (hi : (kk : Nat) = i) (k : J X nL B n I cn sn σ lv (pc + 1) (.ref x :: st)) : J X nL B n I cn sn σ lv pc st := by
  obtain ⟨p, l, e, R, s, m, args, below, meth, c, D, cI, cW, Q⟩ := X
  exact fun H locs ls hW hI hS hl => lv_aload_n hC.1 hC.2.1 hd hi (lv_at hl q hq) (k H locs ls hW hI hS hl)

theorem j_aload (pc : Nat) (hC : Cx X nL cc own R0) {i : Nat} {x : Nat} (q : Nat) (hd : decode cc pc = .ok (.aload i, 2)) (hq : lv[q]? = some (i, .ref x)) (k : J X nL B n I cn sn σ lv (pc + 2) (.ref x :: st)) : J X nL B n I cn sn σ lv pc st := by
  obtain ⟨p, l, e, R, s, m, args, below, meth, c, D, cI, cW, Q⟩ := X
  exact fun H locs ls hW hI hS hl => lv_aload hC.1 hC.2.1 hd (lv_at hl q hq) (k H locs ls hW hI hS hl)

theorem j_fload_n (pc : Nat) (hC : Cx X nL cc own R0) {kk : Fin 4} {i : Nat} {x : UInt32} (q : Nat) (hd : decode cc pc = .ok (.fload_n kk, 1)) (hq : lv[q]? = some (i, .float x)) (hi : (kk : Nat) = i) (k : J X nL B n I cn sn σ lv (pc + 1) (.float x :: st)) : J X nL B n I cn sn σ lv pc st := by
  obtain ⟨p, l, e, R, s, m, args, below, meth, c, D, cI, cW, Q⟩ := X
  exact fun H locs ls hW hI hS hl => lv_fload_n hC.1 hC.2.1 hd hi (lv_at hl q hq) (k H locs ls hW hI hS hl)

theorem j_fload (pc : Nat) (hC : Cx X nL cc own R0) {i : Nat} {x : UInt32} (q : Nat) (hd : decode cc pc = .ok (.fload i, 2)) (hq : lv[q]? = some (i, .float x)) (k : J X nL B n I cn sn σ lv (pc + 2) (.float x :: st)) : J X nL B n I cn sn σ lv pc st := by
  obtain ⟨p, l, e, R, s, m, args, below, meth, c, D, cI, cW, Q⟩ := X
  exact fun H locs ls hW hI hS hl => lv_fload hC.1 hC.2.1 hd (lv_at hl q hq) (k H locs ls hW hI hS hl)

theorem j_lload_n (pc : Nat) (hC : Cx X nL cc own R0) {kk : Fin 4} {i : Nat} {x : Int64} (q : Nat) (hd : decode cc pc = .ok (.lload_n kk, 1)) (hq : lv[q]? = some (i, .long x)) (hi : (kk : Nat) = i) (k : J X nL B n I cn sn σ lv (pc + 1) (.long x :: st)) : J X nL B n I cn sn σ lv pc st := by
  obtain ⟨p, l, e, R, s, m, args, below, meth, c, D, cI, cW, Q⟩ := X
  exact fun H locs ls hW hI hS hl => lv_lload_n hC.1 hC.2.1 hd hi (lv_at hl q hq) (k H locs ls hW hI hS hl)

theorem j_lload (pc : Nat) (hC : Cx X nL cc own R0) {i : Nat} {x : Int64} (q : Nat) (hd : decode cc pc = .ok (.lload i, 2)) (hq : lv[q]? = some (i, .long x)) (k : J X nL B n I cn sn σ lv (pc + 2) (.long x :: st)) : J X nL B n I cn sn σ lv pc st := by
  obtain ⟨p, l, e, R, s, m, args, below, meth, c, D, cI, cW, Q⟩ := X
  exact fun H locs ls hW hI hS hl => lv_lload hC.1 hC.2.1 hd (lv_at hl q hq) (k H locs ls hW hI hS hl)

theorem j_istore_n (pc : Nat) (hC : Cx X nL cc own R0) {kk : Fin 4} {i : Nat} {x : Int32} (lv' : List (Nat × Value)) (hd : decode cc pc = .ok (.istore_n kk, 1)) (hi : (kk : Nat) = i) (hn : i < nL) (hv : (i, Value.int x) :: lv.filter (fun q => !(q.1 == i) && !(q.1 + 1 == i && q.2.category == 2)) = lv') (k : J X nL B n I cn sn σ lv' (pc + 1) st) : J X nL B n I cn sn σ lv pc (.int x :: st) := by
  obtain ⟨p, l, e, R, s, m, args, below, meth, c, D, cI, cW, Q⟩ := X
  exact fun H locs ls hW hI hS hl => lv_istore_n hC.1 hC.2.1 hd hi hl hn hv (fun ls hl => k H locs ls hW hI hS hl)

theorem j_istore (pc : Nat) (hC : Cx X nL cc own R0) {i : Nat} {x : Int32} (lv' : List (Nat × Value)) (hd : decode cc pc = .ok (.istore i, 2)) (hn : i < nL) (hv : (i, Value.int x) :: lv.filter (fun q => !(q.1 == i) && !(q.1 + 1 == i && q.2.category == 2)) = lv') (k : J X nL B n I cn sn σ lv' (pc + 2) st) : J X nL B n I cn sn σ lv pc (.int x :: st) := by
  obtain ⟨p, l, e, R, s, m, args, below, meth, c, D, cI, cW, Q⟩ := X
  exact fun H locs ls hW hI hS hl => lv_istore hC.1 hC.2.1 hd hl hn hv (fun ls hl => k H locs ls hW hI hS hl)

theorem j_astore_n (pc : Nat) (hC : Cx X nL cc own R0) {kk : Fin 4} {i : Nat} {x : Nat} (lv' : List (Nat × Value)) (hd : decode cc pc = .ok (.astore_n kk, 1)) (hi : (kk : Nat) = i) (hn : i < nL) (hv : (i, Value.ref x) :: lv.filter (fun q => !(q.1 == i) && !(q.1 + 1 == i && q.2.category == 2)) = lv') (k : J X nL B n I cn sn σ lv' (pc + 1) st) : J X nL B n I cn sn σ lv pc (.ref x :: st) := by
  obtain ⟨p, l, e, R, s, m, args, below, meth, c, D, cI, cW, Q⟩ := X
  exact fun H locs ls hW hI hS hl => lv_astore_n hC.1 hC.2.1 hd hi hl hn hv (fun ls hl => k H locs ls hW hI hS hl)

theorem j_astore (pc : Nat) (hC : Cx X nL cc own R0) {i : Nat} {x : Nat} (lv' : List (Nat × Value)) (hd : decode cc pc = .ok (.astore i, 2)) (hn : i < nL) (hv : (i, Value.ref x) :: lv.filter (fun q => !(q.1 == i) && !(q.1 + 1 == i && q.2.category == 2)) = lv') (k : J X nL B n I cn sn σ lv' (pc + 2) st) : J X nL B n I cn sn σ lv pc (.ref x :: st) := by
  obtain ⟨p, l, e, R, s, m, args, below, meth, c, D, cI, cW, Q⟩ := X
  exact fun H locs ls hW hI hS hl => lv_astore hC.1 hC.2.1 hd hl hn hv (fun ls hl => k H locs ls hW hI hS hl)

theorem j_fstore_n (pc : Nat) (hC : Cx X nL cc own R0) {kk : Fin 4} {i : Nat} {x : UInt32} (lv' : List (Nat × Value)) (hd : decode cc pc = .ok (.fstore_n kk, 1)) (hi : (kk : Nat) = i) (hn : i < nL) (hv : (i, Value.float x) :: lv.filter (fun q => !(q.1 == i) && !(q.1 + 1 == i && q.2.category == 2)) = lv') (k : J X nL B n I cn sn σ lv' (pc + 1) st) : J X nL B n I cn sn σ lv pc (.float x :: st) := by
  obtain ⟨p, l, e, R, s, m, args, below, meth, c, D, cI, cW, Q⟩ := X
  exact fun H locs ls hW hI hS hl => lv_fstore_n hC.1 hC.2.1 hd hi hl hn hv (fun ls hl => k H locs ls hW hI hS hl)

theorem j_fstore (pc : Nat) (hC : Cx X nL cc own R0) {i : Nat} {x : UInt32} (lv' : List (Nat × Value)) (hd : decode cc pc = .ok (.fstore i, 2)) (hn : i < nL) (hv : (i, Value.float x) :: lv.filter (fun q => !(q.1 == i) && !(q.1 + 1 == i && q.2.category == 2)) = lv') (k : J X nL B n I cn sn σ lv' (pc + 2) st) : J X nL B n I cn sn σ lv pc (.float x :: st) := by
  obtain ⟨p, l, e, R, s, m, args, below, meth, c, D, cI, cW, Q⟩ := X
  exact fun H locs ls hW hI hS hl => lv_fstore hC.1 hC.2.1 hd hl hn hv (fun ls hl => k H locs ls hW hI hS hl)

theorem j_lstore_n (pc : Nat) (hC : Cx X nL cc own R0) {kk : Fin 4} {i : Nat} {x : Int64} (lv' : List (Nat × Value)) (hd : decode cc pc = .ok (.lstore_n kk, 1)) (hi : (kk : Nat) = i) (hn : i + 1 < nL) (hv : (i, Value.long x) :: lv.filter (fun q => !(q.1 == i) && (!(q.1 == i + 1) && !(q.1 + 1 == i && q.2.category == 2))) = lv') (k : J X nL B n I cn sn σ lv' (pc + 1) st) : J X nL B n I cn sn σ lv pc (.long x :: st) := by
  obtain ⟨p, l, e, R, s, m, args, below, meth, c, D, cI, cW, Q⟩ := X
  exact fun H locs ls hW hI hS hl => lv_lstore_n hC.1 hC.2.1 hd hi hl hn hv (fun ls hl => k H locs ls hW hI hS hl)
theorem j_iinc (pc : Nat) (hC : Cx X nL cc own R0) {i : Nat} {z : Int} {x : Int32} (q : Nat) (v : Int32) (lv' : List (Nat × Value)) (hd : decode cc pc = .ok (.iinc i z, 3)) (hq : lv[q]? = some (i, .int x)) (hx : x + Int32.ofInt z = v) (hn : i < nL) (hv : (i, Value.int v) :: lv.filter (fun q => !(q.1 == i) && !(q.1 + 1 == i && q.2.category == 2)) = lv') (k : J X nL B n I cn sn σ lv' (pc + 3) st) : J X nL B n I cn sn σ lv pc st := by
  obtain ⟨p, l, e, R, s, m, args, below, meth, c, D, cI, cW, Q⟩ := X
  exact fun H locs ls hW hI hS hl => lv_iinc hC.1 hC.2.1 hd hl hq hx hn hv (fun ls hl => k H locs ls hW hI hS hl)
theorem j_lv (ks : List Nat) {lv' : List (Nat × Value)} {pc : Nat} (hl : lv_pick lv ks = lv') (k : J X nL B n I cn sn σ lv' pc st) : J X nL B n I cn sn σ lv pc st := by
  obtain ⟨p, l, e, R, s, m, args, below, meth, c, D, cI, cW, Q⟩ := X
  exact fun H locs ls hW hI hS h => k H locs ls hW hI hS (lv_sub h ks hl)

theorem j_iadd (pc : Nat) (hC : Cx X nL cc own R0) {x y : Int32} (hd : decode cc pc = .ok (.iadd, 1)) (k : J X nL B n I cn sn σ lv (pc + 1) (.int (x + y) :: st)) : J X nL B n I cn sn σ lv pc (.int y :: .int x :: st) := by
  obtain ⟨p, l, e, R, s, m, args, below, meth, c, D, cI, cW, Q⟩ := X
  exact fun H locs ls hW hI hS hl => lv_iadd hC.1 hC.2.1 hd (k H locs ls hW hI hS hl)

theorem j_isub (pc : Nat) (hC : Cx X nL cc own R0) {x y : Int32} (hd : decode cc pc = .ok (.isub, 1)) (k : J X nL B n I cn sn σ lv (pc + 1) (.int (x - y) :: st)) : J X nL B n I cn sn σ lv pc (.int y :: .int x :: st) := by
  obtain ⟨p, l, e, R, s, m, args, below, meth, c, D, cI, cW, Q⟩ := X
  exact fun H locs ls hW hI hS hl => lv_isub hC.1 hC.2.1 hd (k H locs ls hW hI hS hl)

theorem j_imul (pc : Nat) (hC : Cx X nL cc own R0) {x y : Int32} (hd : decode cc pc = .ok (.imul, 1)) (k : J X nL B n I cn sn σ lv (pc + 1) (.int (x * y) :: st)) : J X nL B n I cn sn σ lv pc (.int y :: .int x :: st) := by
  obtain ⟨p, l, e, R, s, m, args, below, meth, c, D, cI, cW, Q⟩ := X
  exact fun H locs ls hW hI hS hl => lv_imul hC.1 hC.2.1 hd (k H locs ls hW hI hS hl)

theorem j_iand (pc : Nat) (hC : Cx X nL cc own R0) {x y : Int32} (hd : decode cc pc = .ok (.iand, 1)) (k : J X nL B n I cn sn σ lv (pc + 1) (.int (x &&& y) :: st)) : J X nL B n I cn sn σ lv pc (.int y :: .int x :: st) := by
  obtain ⟨p, l, e, R, s, m, args, below, meth, c, D, cI, cW, Q⟩ := X
  exact fun H locs ls hW hI hS hl => lv_iand hC.1 hC.2.1 hd (k H locs ls hW hI hS hl)

theorem j_ior (pc : Nat) (hC : Cx X nL cc own R0) {x y : Int32} (hd : decode cc pc = .ok (.ior, 1)) (k : J X nL B n I cn sn σ lv (pc + 1) (.int (x ||| y) :: st)) : J X nL B n I cn sn σ lv pc (.int y :: .int x :: st) := by
  obtain ⟨p, l, e, R, s, m, args, below, meth, c, D, cI, cW, Q⟩ := X
  exact fun H locs ls hW hI hS hl => lv_ior hC.1 hC.2.1 hd (k H locs ls hW hI hS hl)

theorem j_ixor (pc : Nat) (hC : Cx X nL cc own R0) {x y : Int32} (hd : decode cc pc = .ok (.ixor, 1)) (k : J X nL B n I cn sn σ lv (pc + 1) (.int (x ^^^ y) :: st)) : J X nL B n I cn sn σ lv pc (.int y :: .int x :: st) := by
  obtain ⟨p, l, e, R, s, m, args, below, meth, c, D, cI, cW, Q⟩ := X
  exact fun H locs ls hW hI hS hl => lv_ixor hC.1 hC.2.1 hd (k H locs ls hW hI hS hl)

theorem j_ishl (pc : Nat) (hC : Cx X nL cc own R0) {x y : Int32} (hd : decode cc pc = .ok (.ishl, 1)) (k : J X nL B n I cn sn σ lv (pc + 1) (.int (x <<< (y &&& 31)) :: st)) : J X nL B n I cn sn σ lv pc (.int y :: .int x :: st) := by
  obtain ⟨p, l, e, R, s, m, args, below, meth, c, D, cI, cW, Q⟩ := X
  exact fun H locs ls hW hI hS hl => lv_ishl hC.1 hC.2.1 hd (k H locs ls hW hI hS hl)

theorem j_ishr (pc : Nat) (hC : Cx X nL cc own R0) {x y : Int32} (hd : decode cc pc = .ok (.ishr, 1)) (k : J X nL B n I cn sn σ lv (pc + 1) (.int (x >>> (y &&& 31)) :: st)) : J X nL B n I cn sn σ lv pc (.int y :: .int x :: st) := by
  obtain ⟨p, l, e, R, s, m, args, below, meth, c, D, cI, cW, Q⟩ := X
  exact fun H locs ls hW hI hS hl => lv_ishr hC.1 hC.2.1 hd (k H locs ls hW hI hS hl)

theorem j_iushr (pc : Nat) (hC : Cx X nL cc own R0) {x y : Int32} (hd : decode cc pc = .ok (.iushr, 1)) (k : J X nL B n I cn sn σ lv (pc + 1) (.int ((x.toUInt32 >>> (y.toUInt32 &&& Int32.toUInt32 31)).toInt32) :: st)) : J X nL B n I cn sn σ lv pc (.int y :: .int x :: st) := by
  obtain ⟨p, l, e, R, s, m, args, below, meth, c, D, cI, cW, Q⟩ := X
  exact fun H locs ls hW hI hS hl => lv_iushr hC.1 hC.2.1 hd rfl (k H locs ls hW hI hS hl)

theorem j_ineg (pc : Nat) (hC : Cx X nL cc own R0) {x : Int32} (hd : decode cc pc = .ok (.ineg, 1)) (k : J X nL B n I cn sn σ lv (pc + 1) (.int (-x) :: st)) : J X nL B n I cn sn σ lv pc (.int x :: st) := by
  obtain ⟨p, l, e, R, s, m, args, below, meth, c, D, cI, cW, Q⟩ := X
  exact fun H locs ls hW hI hS hl => lv_ineg hC.1 hC.2.1 hd (k H locs ls hW hI hS hl)

theorem j_idiv (pc : Nat) (hC : Cx X nL cc own R0) {x y : Int32} (hd : decode cc pc = .ok (.idiv, 1)) (hne : ¬ y = 0) (k : J X nL B n I cn sn σ lv (pc + 1) (.int (x / y) :: st)) : J X nL B n I cn sn σ lv pc (.int y :: .int x :: st) := by
  obtain ⟨p, l, e, R, s, m, args, below, meth, c, D, cI, cW, Q⟩ := X
  exact fun H locs ls hW hI hS hl => lv_idiv hC.1 hC.2.1 hd hne (k H locs ls hW hI hS hl)

theorem j_irem (pc : Nat) (hC : Cx X nL cc own R0) {x y : Int32} (hd : decode cc pc = .ok (.irem, 1)) (hne : ¬ y = 0) (k : J X nL B n I cn sn σ lv (pc + 1) (.int (x - x / y * y) :: st)) : J X nL B n I cn sn σ lv pc (.int y :: .int x :: st) := by
  obtain ⟨p, l, e, R, s, m, args, below, meth, c, D, cI, cW, Q⟩ := X
  exact fun H locs ls hW hI hS hl => lv_irem hC.1 hC.2.1 hd hne (k H locs ls hW hI hS hl)

theorem j_dup (pc : Nat) (hC : Cx X nL cc own R0) {va : Value} (hd : decode cc pc = .ok (.dup, 1)) (hva : va.category = 1) (k : J X nL B n I cn sn σ lv (pc + 1) (va :: va :: st)) : J X nL B n I cn sn σ lv pc (va :: st) := by
  obtain ⟨p, l, e, R, s, m, args, below, meth, c, D, cI, cW, Q⟩ := X
  exact fun H locs ls hW hI hS hl => lv_dup hC.1 hC.2.1 hd hva (k H locs ls hW hI hS hl)

theorem j_pop (pc : Nat) (hC : Cx X nL cc own R0) {va : Value} (hd : decode cc pc = .ok (.pop, 1)) (hva : va.category = 1) (k : J X nL B n I cn sn σ lv (pc + 1) (st)) : J X nL B n I cn sn σ lv pc (va :: st) := by
  obtain ⟨p, l, e, R, s, m, args, below, meth, c, D, cI, cW, Q⟩ := X
  exact fun H locs ls hW hI hS hl => lv_pop hC.1 hC.2.1 hd hva (k H locs ls hW hI hS hl)

theorem j_dup2 (pc : Nat) (hC : Cx X nL cc own R0) {va vb : Value} (hd : decode cc pc = .ok (.dup2, 1)) (hva : va.category = 1) (hvb : vb.category = 1) (k : J X nL B n I cn sn σ lv (pc + 1) (va :: vb :: va :: vb :: st)) : J X nL B n I cn sn σ lv pc (va :: vb :: st) := by
  obtain ⟨p, l, e, R, s, m, args, below, meth, c, D, cI, cW, Q⟩ := X
  exact fun H locs ls hW hI hS hl => lv_dup2_11 hC.1 hC.2.1 hd hva hvb (k H locs ls hW hI hS hl)

theorem j_lconst (pc : Nat) (hC : Cx X nL cc own R0) {z : Fin 2} {v : Int64} (hd : decode cc pc = .ok (.lconst z, 1)) (hv : Int64.ofNat (z : Nat) = v) (k : J X nL B n I cn sn σ lv (pc + 1) (.long v :: st)) : J X nL B n I cn sn σ lv pc (st) := by
  obtain ⟨p, l, e, R, s, m, args, below, meth, c, D, cI, cW, Q⟩ := X
  exact fun H locs ls hW hI hS hl => lv_lconst hC.1 hC.2.1 hd hv (k H locs ls hW hI hS hl)

theorem j_lshl (pc : Nat) (hC : Cx X nL cc own R0) {x : Int64} {y : Int32} (hd : decode cc pc = .ok (.lshl, 1)) (k : J X nL B n I cn sn σ lv (pc + 1) (.long (x <<< (y.toInt64 &&& 63)) :: st)) : J X nL B n I cn sn σ lv pc (.int y :: .long x :: st) := by
  obtain ⟨p, l, e, R, s, m, args, below, meth, c, D, cI, cW, Q⟩ := X
  exact fun H locs ls hW hI hS hl => lv_lshl hC.1 hC.2.1 hd rfl (k H locs ls hW hI hS hl)

theorem j_lushr (pc : Nat) (hC : Cx X nL cc own R0) {x : Int64} {y : Int32} (hd : decode cc pc = .ok (.lushr, 1)) (k : J X nL B n I cn sn σ lv (pc + 1) (.long ((x.toUInt64 >>> (y.toInt64.toUInt64 &&& Int64.toUInt64 63)).toInt64) :: st)) : J X nL B n I cn sn σ lv pc (.int y :: .long x :: st) := by
  obtain ⟨p, l, e, R, s, m, args, below, meth, c, D, cI, cW, Q⟩ := X
  exact fun H locs ls hW hI hS hl => lv_lushr hC.1 hC.2.1 hd rfl (k H locs ls hW hI hS hl)

theorem j_lsub (pc : Nat) (hC : Cx X nL cc own R0) {x y : Int64} (hd : decode cc pc = .ok (.lsub, 1)) (k : J X nL B n I cn sn σ lv (pc + 1) (.long (x - y) :: st)) : J X nL B n I cn sn σ lv pc (.long y :: .long x :: st) := by
  obtain ⟨p, l, e, R, s, m, args, below, meth, c, D, cI, cW, Q⟩ := X
  exact fun H locs ls hW hI hS hl => lv_lsub hC.1 hC.2.1 hd (k H locs ls hW hI hS hl)

theorem j_lor (pc : Nat) (hC : Cx X nL cc own R0) {x y : Int64} (hd : decode cc pc = .ok (.lor, 1)) (k : J X nL B n I cn sn σ lv (pc + 1) (.long (x ||| y) :: st)) : J X nL B n I cn sn σ lv pc (.long y :: .long x :: st) := by
  obtain ⟨p, l, e, R, s, m, args, below, meth, c, D, cI, cW, Q⟩ := X
  exact fun H locs ls hW hI hS hl => lv_lor hC.1 hC.2.1 hd (k H locs ls hW hI hS hl)

theorem j_land (pc : Nat) (hC : Cx X nL cc own R0) {x y : Int64} (hd : decode cc pc = .ok (.land, 1)) (k : J X nL B n I cn sn σ lv (pc + 1) (.long (x &&& y) :: st)) : J X nL B n I cn sn σ lv pc (.long y :: .long x :: st) := by
  obtain ⟨p, l, e, R, s, m, args, below, meth, c, D, cI, cW, Q⟩ := X
  exact fun H locs ls hW hI hS hl => lv_land hC.1 hC.2.1 hd (k H locs ls hW hI hS hl)

theorem j_l2i (pc : Nat) (hC : Cx X nL cc own R0) {x : Int64} (hd : decode cc pc = .ok (.l2i, 1)) (k : J X nL B n I cn sn σ lv (pc + 1) (.int x.toInt32 :: st)) : J X nL B n I cn sn σ lv pc (.long x :: st) := by
  obtain ⟨p, l, e, R, s, m, args, below, meth, c, D, cI, cW, Q⟩ := X
  exact fun H locs ls hW hI hS hl => lv_l2i hC.1 hC.2.1 hd rfl (k H locs ls hW hI hS hl)

theorem j_i2f (pc : Nat) (hC : Cx X nL cc own R0) {x : Int32} (hd : decode cc pc = .ok (.i2f, 1)) (k : J X nL B n I cn sn σ lv (pc + 1) (.float (FP.i2f x) :: st)) : J X nL B n I cn sn σ lv pc (.int x :: st) := by
  obtain ⟨p, l, e, R, s, m, args, below, meth, c, D, cI, cW, Q⟩ := X
  exact fun H locs ls hW hI hS hl => lv_i2f hC.1 hC.2.1 hd (k H locs ls hW hI hS hl)

theorem j_f2i (pc : Nat) (hC : Cx X nL cc own R0) {x : UInt32} (hd : decode cc pc = .ok (.f2i, 1)) (k : J X nL B n I cn sn σ lv (pc + 1) (.int (FP.f2i x) :: st)) : J X nL B n I cn sn σ lv pc (.float x :: st) := by
  obtain ⟨p, l, e, R, s, m, args, below, meth, c, D, cI, cW, Q⟩ := X
  exact fun H locs ls hW hI hS hl => lv_f2i hC.1 hC.2.1 hd (k H locs ls hW hI hS hl)

theorem j_fcmp (pc : Nat) (hC : Cx X nL cc own R0) {x y : UInt32} {op : CmpOp} (hd : decode cc pc = .ok (.fcmp op, 1)) (k : J X nL B n I cn sn σ lv (pc + 1) (.int (Op.cmpValue (FP.fcmp x y) op) :: st)) : J X nL B n I cn sn σ lv pc (.float y :: .float x :: st) := by
  obtain ⟨p, l, e, R, s, m, args, below, meth, c, D, cI, cW, Q⟩ := X
  exact fun H locs ls hW hI hS hl => lv_fcmp hC.1 hC.2.1 hd (k H locs ls hW hI hS hl)

theorem j_fdiv (pc : Nat) (hC : Cx X nL cc own R0) {x y : UInt32} (hd : decode cc pc = .ok (.fdiv, 1)) (hne : vf_n32 (FP.fdiv x y)) (k : J X nL B n I cn sn σ lv (pc + 1) (.float (FP.fdiv x y) :: st)) : J X nL B n I cn sn σ lv pc (.float y :: .float x :: st) := by
  obtain ⟨p, l, e, R, s, m, args, below, meth, c, D, cI, cW, Q⟩ := X
  exact fun H locs ls hW hI hS hl => lv_fdiv hC.1 hC.2.1 hd hne (k H locs ls hW hI hS hl)

theorem j_fmul (pc : Nat) (hC : Cx X nL cc own R0) {x y : UInt32} (hd : decode cc pc = .ok (.fmul, 1)) (hne : vf_n32 (FP.fmul x y)) (k : J X nL B n I cn sn σ lv (pc + 1) (.float (FP.fmul x y) :: st)) : J X nL B n I cn sn σ lv pc (.float y :: .float x :: st) := by
  obtain ⟨p, l, e, R, s, m, args, below, meth, c, D, cI, cW, Q⟩ := X
  exact fun H locs ls hW hI hS hl => lv_fmul hC.1 hC.2.1 hd hne (k H locs ls hW hI hS hl)

theorem j_fsub (pc : Nat) (hC : Cx X nL cc own R0) {x y : UInt32} (hd : decode cc pc = .ok (.fsub, 1)) (hne : vf_n32 (FP.fsub x y)) (k : J X nL B n I cn sn σ lv (pc + 1) (.float (FP.fsub x y) :: st)) : J X nL B n I cn sn σ lv pc (.float y :: .float x :: st) := by
  obtain ⟨p, l, e, R, s, m, args, below, meth, c, D, cI, cW, Q⟩ := X
  exact fun H locs ls hW hI hS hl => lv_fsub hC.1 hC.2.1 hd hne (k H locs ls hW hI hS hl)

theorem j_fconst0 (pc : Nat) (hC : Cx X nL cc own R0) (hd : decode cc pc = .ok (.fconst 0, 1)) (k : J X nL B n I cn sn σ lv (pc + 1) (.float FP.fconst0 :: st)) : J X nL B n I cn sn σ lv pc (st) := by
  obtain ⟨p, l, e, R, s, m, args, below, meth, c, D, cI, cW, Q⟩ := X
  exact fun H locs ls hW hI hS hl => lv_fconst0 hC.1 hC.2.1 hd (k H locs ls hW hI hS hl)

theorem j_fconst1 (pc : Nat) (hC : Cx X nL cc own R0) (hd : decode cc pc = .ok (.fconst 1, 1)) (k : J X nL B n I cn sn σ lv (pc + 1) (.float FP.fconst1 :: st)) : J X nL B n I cn sn σ lv pc (st) := by
  obtain ⟨p, l, e, R, s, m, args, below, meth, c, D, cI, cW, Q⟩ := X
  exact fun H locs ls hW hI hS hl => lv_fconst1 hC.1 hC.2.1 hd (k H locs ls hW hI hS hl)

theorem j_fconst2 (pc : Nat) (hC : Cx X nL cc own R0) (hd : decode cc pc = .ok (.fconst 2, 1)) (k : J X nL B n I cn sn σ lv (pc + 1) (.float FP.fconst2 :: st)) : J X nL B n I cn sn σ lv pc (st) := by
  obtain ⟨p, l, e, R, s, m, args, below, meth, c, D, cI, cW, Q⟩ := X
  exact fun H locs ls hW hI hS hl => lv_fconst2 hC.1 hC.2.1 hd (k H locs ls hW hI hS hl)

theorem j_ldc (pc : Nat) (hC : Cx X nL cc own R0) {ix : Nat} {v : Int32} (hd : decode cc pc = .ok (.ldc ix, 2)) (hw : Cond.constant own ix v ∈ TB) (k : J X nL B n I cn sn σ lv (pc + 2) (.int v :: st)) : J X nL B n I cn sn σ lv pc st := by
  obtain ⟨p, l, e, R, s, m, args, below, meth, c, D, cI, cW, Q⟩ := X
  exact fun H locs ls hW hI hS hl => lv_ldc hC.1 hC.2.1 hC.2.2.2.1 (hC.2.2.2.2.1 _ hw) hd (k H locs ls hW hI hS hl)
theorem j_ldcw (pc : Nat) (hC : Cx X nL cc own R0) {ix : Nat} {v : Int32} (hd : decode cc pc = .ok (.ldc_w ix, 3)) (hw : Cond.constant own ix v ∈ TB) (k : J X nL B n I cn sn σ lv (pc + 3) (.int v :: st)) : J X nL B n I cn sn σ lv pc st := by
  obtain ⟨p, l, e, R, s, m, args, below, meth, c, D, cI, cW, Q⟩ := X
  exact fun H locs ls hW hI hS hl => lv_ldcw hC.1 hC.2.1 hC.2.2.2.1 (hC.2.2.2.2.1 _ hw) hd (k H locs ls hW hI hS hl)
theorem j_ldcf (pc : Nat) (hC : Cx X nL cc own R0) {ix : Nat} {v : UInt32} (hd : decode cc pc = .ok (.ldc ix, 2)) (hw : Cond.constantFloat own ix v ∈ TB) (k : J X nL B n I cn sn σ lv (pc + 2) (.float v :: st)) : J X nL B n I cn sn σ lv pc st := by
  obtain ⟨p, l, e, R, s, m, args, below, meth, c, D, cI, cW, Q⟩ := X
  exact fun H locs ls hW hI hS hl => lv_ldcf hC.1 hC.2.1 hC.2.2.2.1 (hC.2.2.2.2.1 _ hw) hd (k H locs ls hW hI hS hl)
theorem j_ldc2 (pc : Nat) (hC : Cx X nL cc own R0) {ix : Nat} {v : Int64} (hd : decode cc pc = .ok (.ldc2_w ix, 3)) (hw : Cond.constantLong own ix v ∈ TB) (k : J X nL B n I cn sn σ lv (pc + 3) (.long v :: st)) : J X nL B n I cn sn σ lv pc st := by
  obtain ⟨p, l, e, R, s, m, args, below, meth, c, D, cI, cW, Q⟩ := X
  exact fun H locs ls hW hI hS hl => lv_ldc2 hC.1 hC.2.1 hC.2.2.2.1 (hC.2.2.2.2.1 _ hw) hd (k H locs ls hW hI hS hl)

theorem j_icmp_eq (pc tgt : Nat) (hC : Cx X nL cc own R0) {x y : Int32} {off : Int} (hd : decode cc pc = .ok (.if_icmp .eq off, 3)) (ht : (pc : Int) + off = (tgt : Int)) (kt : x = y → J X nL B n I cn sn σ lv tgt st) (kf : ¬ (x = y) → J X nL B n I cn sn σ lv (pc + 3) st) : J X nL B n I cn sn σ lv pc (.int y :: .int x :: st) := by
  obtain ⟨p, l, e, R, s, m, args, below, meth, c, D, cI, cW, Q⟩ := X
  exact fun H locs ls hW hI hS hl => lv_icmp_eq hC.1 hC.2.1 hd ht (fun h => kt h H locs ls hW hI hS hl) (fun h => kf h H locs ls hW hI hS hl)

theorem j_icmp_ne (pc tgt : Nat) (hC : Cx X nL cc own R0) {x y : Int32} {off : Int} (hd : decode cc pc = .ok (.if_icmp .ne off, 3)) (ht : (pc : Int) + off = (tgt : Int)) (kt : ¬ x = y → J X nL B n I cn sn σ lv tgt st) (kf : x = y → J X nL B n I cn sn σ lv (pc + 3) st) : J X nL B n I cn sn σ lv pc (.int y :: .int x :: st) := by
  obtain ⟨p, l, e, R, s, m, args, below, meth, c, D, cI, cW, Q⟩ := X
  exact fun H locs ls hW hI hS hl => lv_icmp_ne hC.1 hC.2.1 hd ht (fun h => kt h H locs ls hW hI hS hl) (fun h => kf h H locs ls hW hI hS hl)

theorem j_icmp_lt (pc tgt : Nat) (hC : Cx X nL cc own R0) {x y : Int32} {off : Int} (hd : decode cc pc = .ok (.if_icmp .lt off, 3)) (ht : (pc : Int) + off = (tgt : Int)) (kt : x < y → J X nL B n I cn sn σ lv tgt st) (kf : ¬ (x < y) → J X nL B n I cn sn σ lv (pc + 3) st) : J X nL B n I cn sn σ lv pc (.int y :: .int x :: st) := by
  obtain ⟨p, l, e, R, s, m, args, below, meth, c, D, cI, cW, Q⟩ := X
  exact fun H locs ls hW hI hS hl => lv_icmp_lt hC.1 hC.2.1 hd ht (fun h => kt h H locs ls hW hI hS hl) (fun h => kf h H locs ls hW hI hS hl)

theorem j_icmp_ge (pc tgt : Nat) (hC : Cx X nL cc own R0) {x y : Int32} {off : Int} (hd : decode cc pc = .ok (.if_icmp .ge off, 3)) (ht : (pc : Int) + off = (tgt : Int)) (kt : y ≤ x → J X nL B n I cn sn σ lv tgt st) (kf : ¬ (y ≤ x) → J X nL B n I cn sn σ lv (pc + 3) st) : J X nL B n I cn sn σ lv pc (.int y :: .int x :: st) := by
  obtain ⟨p, l, e, R, s, m, args, below, meth, c, D, cI, cW, Q⟩ := X
  exact fun H locs ls hW hI hS hl => lv_icmp_ge hC.1 hC.2.1 hd ht (fun h => kt h H locs ls hW hI hS hl) (fun h => kf h H locs ls hW hI hS hl)

theorem j_icmp_gt (pc tgt : Nat) (hC : Cx X nL cc own R0) {x y : Int32} {off : Int} (hd : decode cc pc = .ok (.if_icmp .gt off, 3)) (ht : (pc : Int) + off = (tgt : Int)) (kt : y < x → J X nL B n I cn sn σ lv tgt st) (kf : ¬ (y < x) → J X nL B n I cn sn σ lv (pc + 3) st) : J X nL B n I cn sn σ lv pc (.int y :: .int x :: st) := by
  obtain ⟨p, l, e, R, s, m, args, below, meth, c, D, cI, cW, Q⟩ := X
  exact fun H locs ls hW hI hS hl => lv_icmp_gt hC.1 hC.2.1 hd ht (fun h => kt h H locs ls hW hI hS hl) (fun h => kf h H locs ls hW hI hS hl)

theorem j_icmp_le (pc tgt : Nat) (hC : Cx X nL cc own R0) {x y : Int32} {off : Int} (hd : decode cc pc = .ok (.if_icmp .le off, 3)) (ht : (pc : Int) + off = (tgt : Int)) (kt : x ≤ y → J X nL B n I cn sn σ lv tgt st) (kf : ¬ (x ≤ y) → J X nL B n I cn sn σ lv (pc + 3) st) : J X nL B n I cn sn σ lv pc (.int y :: .int x :: st) := by
  obtain ⟨p, l, e, R, s, m, args, below, meth, c, D, cI, cW, Q⟩ := X
  exact fun H locs ls hW hI hS hl => lv_icmp_le hC.1 hC.2.1 hd ht (fun h => kt h H locs ls hW hI hS hl) (fun h => kf h H locs ls hW hI hS hl)

theorem j_if_eq (pc tgt : Nat) (hC : Cx X nL cc own R0) {x : Int32} {off : Int} (hd : decode cc pc = .ok (.ifCond .eq off, 3)) (ht : (pc : Int) + off = (tgt : Int)) (kt : x = 0 → J X nL B n I cn sn σ lv tgt st) (kf : ¬ (x = 0) → J X nL B n I cn sn σ lv (pc + 3) st) : J X nL B n I cn sn σ lv pc (.int x :: st) := by
  obtain ⟨p, l, e, R, s, m, args, below, meth, c, D, cI, cW, Q⟩ := X
  exact fun H locs ls hW hI hS hl => lv_if_eq hC.1 hC.2.1 hd ht (fun h => kt h H locs ls hW hI hS hl) (fun h => kf h H locs ls hW hI hS hl)

theorem j_if_ne (pc tgt : Nat) (hC : Cx X nL cc own R0) {x : Int32} {off : Int} (hd : decode cc pc = .ok (.ifCond .ne off, 3)) (ht : (pc : Int) + off = (tgt : Int)) (kt : ¬ x = 0 → J X nL B n I cn sn σ lv tgt st) (kf : x = 0 → J X nL B n I cn sn σ lv (pc + 3) st) : J X nL B n I cn sn σ lv pc (.int x :: st) := by
  obtain ⟨p, l, e, R, s, m, args, below, meth, c, D, cI, cW, Q⟩ := X
  exact fun H locs ls hW hI hS hl => lv_if_ne hC.1 hC.2.1 hd ht (fun h => kt h H locs ls hW hI hS hl) (fun h => kf h H locs ls hW hI hS hl)

theorem j_if_lt (pc tgt : Nat) (hC : Cx X nL cc own R0) {x : Int32} {off : Int} (hd : decode cc pc = .ok (.ifCond .lt off, 3)) (ht : (pc : Int) + off = (tgt : Int)) (kt : x < 0 → J X nL B n I cn sn σ lv tgt st) (kf : ¬ (x < 0) → J X nL B n I cn sn σ lv (pc + 3) st) : J X nL B n I cn sn σ lv pc (.int x :: st) := by
  obtain ⟨p, l, e, R, s, m, args, below, meth, c, D, cI, cW, Q⟩ := X
  exact fun H locs ls hW hI hS hl => lv_if_lt hC.1 hC.2.1 hd ht (fun h => kt h H locs ls hW hI hS hl) (fun h => kf h H locs ls hW hI hS hl)

theorem j_if_ge (pc tgt : Nat) (hC : Cx X nL cc own R0) {x : Int32} {off : Int} (hd : decode cc pc = .ok (.ifCond .ge off, 3)) (ht : (pc : Int) + off = (tgt : Int)) (kt : 0 ≤ x → J X nL B n I cn sn σ lv tgt st) (kf : ¬ (0 ≤ x) → J X nL B n I cn sn σ lv (pc + 3) st) : J X nL B n I cn sn σ lv pc (.int x :: st) := by
  obtain ⟨p, l, e, R, s, m, args, below, meth, c, D, cI, cW, Q⟩ := X
  exact fun H locs ls hW hI hS hl => lv_if_ge hC.1 hC.2.1 hd ht (fun h => kt h H locs ls hW hI hS hl) (fun h => kf h H locs ls hW hI hS hl)

theorem j_if_gt (pc tgt : Nat) (hC : Cx X nL cc own R0) {x : Int32} {off : Int} (hd : decode cc pc = .ok (.ifCond .gt off, 3)) (ht : (pc : Int) + off = (tgt : Int)) (kt : 0 < x → J X nL B n I cn sn σ lv tgt st) (kf : ¬ (0 < x) → J X nL B n I cn sn σ lv (pc + 3) st) : J X nL B n I cn sn σ lv pc (.int x :: st) := by
  obtain ⟨p, l, e, R, s, m, args, below, meth, c, D, cI, cW, Q⟩ := X
  exact fun H locs ls hW hI hS hl => lv_if_gt hC.1 hC.2.1 hd ht (fun h => kt h H locs ls hW hI hS hl) (fun h => kf h H locs ls hW hI hS hl)

theorem j_if_le (pc tgt : Nat) (hC : Cx X nL cc own R0) {x : Int32} {off : Int} (hd : decode cc pc = .ok (.ifCond .le off, 3)) (ht : (pc : Int) + off = (tgt : Int)) (kt : x ≤ 0 → J X nL B n I cn sn σ lv tgt st) (kf : ¬ (x ≤ 0) → J X nL B n I cn sn σ lv (pc + 3) st) : J X nL B n I cn sn σ lv pc (.int x :: st) := by
  obtain ⟨p, l, e, R, s, m, args, below, meth, c, D, cI, cW, Q⟩ := X
  exact fun H locs ls hW hI hS hl => lv_if_le hC.1 hC.2.1 hd ht (fun h => kt h H locs ls hW hI hS hl) (fun h => kf h H locs ls hW hI hS hl)

theorem j_goto (pc tgt : Nat) (hC : Cx X nL cc own R0) {off : Int} (hd : decode cc pc = .ok (.goto off, 3)) (ht : (pc : Int) + off = (tgt : Int)) (k : J X nL B n I cn sn σ lv tgt st) : J X nL B n I cn sn σ lv pc st := by
  obtain ⟨p, l, e, R, s, m, args, below, meth, c, D, cI, cW, Q⟩ := X
  exact fun H locs ls hW hI hS hl => lv_goto hC.1 hC.2.1 hd ht (k H locs ls hW hI hS hl)
theorem j_ifnull (pc : Nat) (hC : Cx X nL cc own R0) {x : Nat} {off : Int} (hd : decode cc pc = .ok (.ifnull off, 3)) (k : J X nL B n I cn sn σ lv (pc + 3) st) : J X nL B n I cn sn σ lv pc (.ref x :: st) := by
  obtain ⟨p, l, e, R, s, m, args, below, meth, c, D, cI, cW, Q⟩ := X
  exact fun H locs ls hW hI hS hl => lv_ifnull hC.1 hC.2.1 hd (k H locs ls hW hI hS hl)
theorem j_lookup (pc tgt : Nat) (hC : Cx X nL cc own R0) {dflt : Int} {ps : Array (Int × Int)} {len : Nat} {x : Int32} {off : Int} (hd : decode cc pc = .ok (.lookupswitch dflt ps, len)) (hp : (ps.toList.zip (ps.toList.drop 1)).all (fun (a, next) => a.1 < next.1) = true) (ho : Op.lookupswitch.offset ps.toList dflt x.toInt = off) (ht : (pc : Int) + off = (tgt : Int)) (k : J X nL B n I cn sn σ lv tgt st) : J X nL B n I cn sn σ lv pc (.int x :: st) := by
  obtain ⟨p, l, e, R, s, m, args, below, meth, c, D, cI, cW, Q⟩ := X
  exact fun H locs ls hW hI hS hl => lv_lookup hC.1 hC.2.1 hd hp ho ht (k H locs ls hW hI hS hl)
theorem j_tableOut (pc tgt : Nat) (hC : Cx X nL cc own R0) {dflt lo hi : Int} {offs : Array Int} {len : Nat} {x : Int32} (hd : decode cc pc = .ok (.tableswitch dflt lo hi offs, len)) (h : x.toInt < lo ∨ hi < x.toInt) (ht : (pc : Int) + dflt = (tgt : Int)) (k : J X nL B n I cn sn σ lv tgt st) : J X nL B n I cn sn σ lv pc (.int x :: st) := by
  obtain ⟨p, l, e, R, s, m, args, below, meth, c, D, cI, cW, Q⟩ := X
  exact fun H locs ls hW hI hS hl => lv_tableOut hC.1 hC.2.1 hd h ht (k H locs ls hW hI hS hl)
theorem j_tableIn (pc tgt : Nat) (hC : Cx X nL cc own R0) {dflt lo hi : Int} {offs : Array Int} {len : Nat} {x : Int32} {off : Int} (hd : decode cc pc = .ok (.tableswitch dflt lo hi offs, len)) (h1 : ¬ x.toInt < lo) (h2 : ¬ hi < x.toInt) (ho : offs[(x.toInt - lo).toNat]? = some off) (ht : (pc : Int) + off = (tgt : Int)) (k : J X nL B n I cn sn σ lv tgt st) : J X nL B n I cn sn σ lv pc (.int x :: st) := by
  obtain ⟨p, l, e, R, s, m, args, below, meth, c, D, cI, cW, Q⟩ := X
  exact fun H locs ls hW hI hS hl => lv_tableIn hC.1 hC.2.1 hd h1 h2 ho ht (k H locs ls hW hI hS hl)

/-- field j of class number t, as the code of 'own' names it by its pool's entry idx -/
def Fd8 (own : String) (idx t j : Nat) : Prop := ∃ (C : String) (T : u_T) (N : Nat), vwCl[t]? = some (C, T, N) ∧ (∀ w ∈ u_ws C T N, w ∈ TB) ∧ (∀ k, k < N → ∃ ty, parseFieldDescriptor (T k).2.2.1 = some ty) ∧ (∀ a, a < N → ∀ b, b < N → a ≠ b → (T a).2.1 ≠ (T b).2.1) ∧ j < N ∧ Cond.fieldLink own idx (T j).1 (T j).2.1 (T j).2.2.1 ∈ TB ∧ (T j).1 = C
theorem j_get {t j : Nat} {idx : Nat} {a N : Nat} {fl : List (Option Nat)} (pc : Nat) (hC : Cx X nL cc own R0) (hF : Fd8 own idx t j) (hk : kt a = (t + 2, N, fl)) (ha : a < n) (hj : j < N) (hd : decode cc pc = .ok (.getfield idx, 3)) (k : J X nL B n I cn sn σ lv (pc + 3) (rv B (fl.getD j none) (σ a j) :: st)) : J X nL B n I cn sn σ lv pc (.ref (B + a) :: st) := by
  obtain ⟨p, l, e, R, s, m, args, below, meth, c, D, cI, cW, Q⟩ := X
  obtain ⟨C, T, N', hc, hin, hty, hnm, hj', hlk, hT⟩ := hF
  intro H locs ls hW hI hS hl
  refine va_get (ws := WL B cI cW n σ) (D := D) (cl := vwCl) (C := C) (T := T) (N := N') hC.1 hC.2.1 hC.2.2.2.2.1 hin hC.2.2.2.1 hW.2.2 hW.2.1 a (by rw [WL_get ha, ent_obj hk]) hc j hj' (hC.2.2.2.2.1 _ hlk) (fun _ h => h) ?_ hd (k H locs ls hW hI hS hl)
  simp [hj]
theorem j_getI {t j : Nat} {idx : Nat} {a N : Nat} {fl : List (Option Nat)} (pc : Nat) (hC : Cx X nL cc own R0) (hF : Fd8 own idx t j) (hk : kt a = (t + 2, N, fl)) (ha : a < n) (hj : j < N) (hf : fl.getD j none = none) (hd : decode cc pc = .ok (.getfield idx, 3)) (k : J X nL B n I cn sn σ lv (pc + 3) (.int (σ a j) :: st)) : J X nL B n I cn sn σ lv pc (.ref (B + a) :: st) := by
  refine j_get pc hC hF hk ha hj hd ?_
  rw [hf]; exact k
theorem j_I {pc : Nat} (k : I σ → J X nL B n I cn sn σ lv pc st) : J X nL B n I cn sn σ lv pc st := by
  obtain ⟨p, l, e, R, s, m, args, below, meth, c, D, cI, cW, Q⟩ := X
  exact fun H locs ls hW hI hS hl => k hI H locs ls hW hI hS hl
theorem isRef_of {a j t : Nat} {q N : Nat} {fl : List (Option Nat)} (hk : kt a = (q, N, fl)) (hf : fl.getD j none = some t) : isRef a j = true := by
  simp only [isRef, hk, hf]; rfl
theorem j_getR {t j g : Nat} {idx : Nat} {a N : Nat} {fl : List (Option Nat)} (pc : Nat) (hC : Cx X nL cc own R0) (hF : Fd8 own idx t j) (hk : kt a = (t + 2, N, fl)) (ha : a < n) (hj : j < N) (hf : fl.getD j none = some g) (hd : decode cc pc = .ok (.getfield idx, 3)) (k : J X nL B n RS cn sn σ lv (pc + 3) (.ref (B + g) :: st)) : J X nL B n RS cn sn σ lv pc (.ref (B + a) :: st) := by
  refine j_I (fun hI => j_get pc hC hF hk ha hj hd ?_)
  rw [hf, hI a j (isRef_of hk hf)]; exact k
theorem RS_put {a j : Nat} {x : Int32} (h : RS σ) (hr : isRef a j = false) : RS (u2 σ a j x) := by
  intro k i hi
  by_cases e : k = a
  · subst e
    rw [u2_at]
    by_cases e2 : i = j
    · subst e2; rw [hr] at hi; cases hi
    · simp only [upd, if_neg e2]; exact h k i hi
  · rw [u2_ne σ j x e]; exact h k i hi
theorem Wd_put {D : va_G} {cI cW : ClassId} {s : State} {H H1 : Heap} {a j : Nat} {x : Int32} (h : Wd D cI cW B n σ s H) (ha : a < n) (z : H1.size = H.size) (oq : ∀ q : Nat, q ≠ B + a → H1[q]? = H[q]?) (he : va_at D vwCl (B + a, ent B cI cW a (upd (σ a) j x)) H1) : Wd D cI cW B n (u2 σ a j x) s H1 := by
  refine ⟨by rw [z]; exact h.1, ?_, h.2.2⟩
  have h1 := h.2.1.set (WL_D (B := B) (cI := cI) (cW := cW) (n := n) (σ := σ) h.1.1) (WL_get ha) he oq
  rw [WL_set ha] at h1
  exact h1
theorem j_put {t j : Nat} {idx : Nat} {a N : Nat} {fl : List (Option Nat)} {ty : FieldType} {x : Int32} {v : Value} (pc : Nat) (hC : Cx X nL cc own R0) (hF : Fd8 own idx t j) (hk : kt a = (t + 2, N, fl)) (ha : a < n) (hj : j < N) (hfin : ∀ C T N', vwCl[t]? = some (C, T, N') → (T j).2.2.2 = false ∧ parseFieldDescriptor (T j).2.2.1 = some ty) (hv : rv B (fl.getD j none) x = v) (hn : narrow ty v = v) (hfit : fits ty v = true) (hI2 : I σ → I (u2 σ a j x)) (hd : decode cc pc = .ok (.putfield idx, 3)) (k : J X nL B n I cn sn (u2 σ a j x) lv (pc + 3) st) : J X nL B n I cn sn σ lv pc (v :: .ref (B + a) :: st) := by
  obtain ⟨p, l, e, R, s, m, args, below, meth, c, D, cI, cW, Q⟩ := X
  obtain ⟨C, T, N', hc, hin, hty, hnm, hj', hlk, hT⟩ := hF
  intro H locs ls hW hI hS hl
  obtain ⟨tyf, htyf⟩ : ∃ tyf : Nat → FieldType, ∀ k, k < N' → parseFieldDescriptor (T k).2.2.1 = some (tyf k) := ⟨fun k => if h : k < N' then (hty k h).choose else .int, fun k hk => by simp only [dif_pos hk]; exact (hty k hk).choose_spec⟩
  have hap := va_apart (own := own) hC.2.2.2.2.1 hin tyf htyf hnm hW.2.2 hc
  obtain ⟨r, h1, cell, q1, q2, q3, q4⟩ := hW.2.1 a _ (by rw [WL_get ha, ent_obj hk])
  have hr : r = (C, T, N') := Option.some.inj (h1.symm.trans hc)
  subst hr
  obtain ⟨hSl, hfc, kC, hkC, hkind⟩ := hW.2.2.1 t _ hc
  obtain ⟨cf, kf, fi, f, hi, hsl⟩ := hSl j hj'
  have hlay := hC.2.2.2.2.1 _ (hin _ (u_in_lay hj'))
  unfold u_lay at hlay
  rw [if_neg (by rw [(hfin _ _ _ hc).1]; decide)] at hlay
  have hst := (u_facts hfc hkC (u_lays hC.2.2.2.2.1 hin hj') hi).1
  have h6 := u_store hfc hkC hkind hlay hi (hfin _ _ _ hc).2 hn hfit
  refine W.putK hC.1 hC.2.1 (f := f) ⟨hC.2.2.2.1, hC.2.2.2.2.1 _ hlk, ⟨_, _, _, hi⟩, hst⟩ (by rw [q2]; exact h6) q1 q3 (by rw [hsl]; exact k2_hasslot (q4 j hj')) rfl rfl hd fun H' e1 e2 e3 => ?_
  rw [hsl] at e1 ⊢
  refine k H' _ ls (Wd_put hW ha e2 e3 ?_) (hI2 hI) (hS.put e2 e3 (RA_in ha hW.1.1)) hl
  rw [ent_obj hk, ← ent_set hj, hv]
  exact ⟨_, hc, t_OB.to (V := updV (vp_V _) j v) ⟨_, e1, q2, q3, t_set q4 hap hj' v⟩ (fun i _ => vp_updV_set (by simp [hj]) v i)⟩
theorem j_putI {t j : Nat} {idx : Nat} {a N : Nat} {fl : List (Option Nat)} {x : Int32} (pc : Nat) (hC : Cx X nL cc own R0) (hF : Fd8 own idx t j) (hk : kt a = (t + 2, N, fl)) (ha : a < n) (hj : j < N) (hf : fl.getD j none = none) (hfin : ∀ C T N', vwCl[t]? = some (C, T, N') → (T j).2.2.2 = false ∧ parseFieldDescriptor (T j).2.2.1 = some .int) (hr : isRef a j = false) (hd : decode cc pc = .ok (.putfield idx, 3)) (k : J X nL B n RS cn sn (u2 σ a j x) lv (pc + 3) st) : J X nL B n RS cn sn σ lv pc (.int x :: .ref (B + a) :: st) :=
  j_put (x := x) pc hC hF hk ha hj hfin (by rw [hf]; rfl) rfl rfl (fun h => RS_put h hr) hd k
theorem j_putZ {t j : Nat} {idx : Nat} {a N : Nat} {fl : List (Option Nat)} {x : Int32} (pc : Nat) (hC : Cx X nL cc own R0) (hF : Fd8 own idx t j) (hk : kt a = (t + 2, N, fl)) (ha : a < n) (hj : j < N) (hf : fl.getD j none = none) (hfin : ∀ C T N', vwCl[t]? = some (C, T, N') → (T j).2.2.2 = false ∧ parseFieldDescriptor (T j).2.2.1 = some .boolean) (hx : narrow .boolean (.int x) = .int x) (hfi : fits .boolean (.int x) = true) (hr : isRef a j = false) (hd : decode cc pc = .ok (.putfield idx, 3)) (k : J X nL B n RS cn sn (u2 σ a j x) lv (pc + 3) st) : J X nL B n RS cn sn σ lv pc (.int x :: .ref (B + a) :: st) :=
  j_put (x := x) pc hC hF hk ha hj hfin (by rw [hf]; rfl) hx hfi (fun h => RS_put h hr) hd k

-- arrays
theorem j_iald {a N : Nat} {fl : List (Option Nat)} {i : Int32} (pc : Nat) (hC : Cx X nL cc own R0) (hk : kt a = (0, N, fl)) (ha : a < n) (hin : vp_in i N) (hd : decode cc pc = .ok (.iaload, 1)) (k : J X nL B n I cn sn σ lv (pc + 1) (.int (σ a i.toNatClampNeg) :: st)) : J X nL B n I cn sn σ lv pc (.int i :: .ref (B + a) :: st) := by
  obtain ⟨p, l, e, R, s, m, args, below, meth, c, D, cI, cW, Q⟩ := X
  exact fun H locs ls hW hI hS hl => va_iald (ws := WL B cI cW n σ) hC.1 hC.2.1 hW.2.2 hW.2.1 a 0 (by rw [WL_get ha, ent_arr hk]) rfl hin hd (k H locs ls hW hI hS hl)
theorem j_ast {a N : Nat} {fl : List (Option Nat)} {i x : Int32} (pc : Nat) (hC : Cx X nL cc own R0) (hk : kt a = (0, N, fl)) (ha : a < n) (hin : vp_in i N) (hI2 : I σ → I (u2 σ a i.toNatClampNeg x)) (hd : decode cc pc = .ok (.iastore, 1)) (k : J X nL B n I cn sn (u2 σ a i.toNatClampNeg x) lv (pc + 1) st) : J X nL B n I cn sn σ lv pc (.int x :: .int i :: .ref (B + a) :: st) := by
  obtain ⟨p, l, e, R, s, m, args, below, meth, c, D, cI, cW, Q⟩ := X
  intro H locs ls hW hI hS hl
  have h0 : va_at D vwCl (B + a, .inl (cI, (N, .inl (σ a)))) H := by
    have h := hW.2.1 a _ (WL_get ha)
    rw [ent_arr hk] at h
    exact h
  refine W.iast hC.1 hC.2.1 h0 ((hW.2.2.2 0 _ rfl).1 N (fun j => .int (σ a j))) (fun q => by cases q) (by show ¬ (i < 0 ∨ (arrV _ _ _).slots.size ≤ _); rw [arrV_size]; exact hin) rfl rfl hd fun H1 e z oq => ?_
  refine k H1 _ ls (Wd_put hW ha z oq ?_) (hI2 hI) (hS.put z oq (RA_in ha hW.1.1)) hl
  rw [ent_arr hk]
  show H1[B + a]? = some (vp_cell _ _)
  rw [e]
  rw [vp_cell_i, vp_cell_i, arrV_store]
  congr 2
  funext q
  by_cases hq : q = i.toNatClampNeg
  · subst hq
    simp [updV, upd]
  · simp [updV, upd, hq]
theorem isRef_arr {a j N : Nat} {fl : List (Option Nat)} (hk : kt a = (0, N, [])) (h : a ≠ 23) : isRef a j = false := by
  simp [isRef, hk, h]
theorem j_iast {a N : Nat} {i x : Int32} (pc : Nat) (hC : Cx X nL cc own R0) (hk : kt a = (0, N, [])) (ha : a < n) (hin : vp_in i N) (hd : decode cc pc = .ok (.iastore, 1)) (k : J X nL B n RS cn sn (u2 σ a i.toNatClampNeg x) lv (pc + 1) st) : J X nL B n RS cn sn σ lv pc (.int x :: .int i :: .ref (B + a) :: st) := by
  refine j_ast pc hC hk ha hin (fun h => RS_put h (isRef_arr (fl := []) hk ?_)) hd k
  rintro rfl
  cases hk
theorem j_aald {i : Int32} (pc : Nat) (hC : Cx X nL cc own R0) (ha : 23 < n) (hin : vp_in i 8) (hd : decode cc pc = .ok (.aaload, 1)) (k : J X nL B n RS cn sn σ lv (pc + 1) (.ref (B + (24 + 7 * i.toNatClampNeg)) :: st)) : J X nL B n RS cn sn σ lv pc (.int i :: .ref (B + 23) :: st) := by
  obtain ⟨p, l, e, R, s, m, args, below, meth, c, D, cI, cW, Q⟩ := X
  intro H locs ls hW hI hS hl
  refine va_aldq (ws := WL B cI cW n σ) (C := RX8) hC.1 hC.2.1 hW.2.2 hW.2.1 23 1 (by rw [WL_get ha, ent_wal (fl := []) rfl]) rfl hin hd ?_
  have hlt : i.toNatClampNeg < 8 := Nat.not_le.mp fun q => hin (Or.inr q)
  have h1 := hI 23 i.toNatClampNeg (by simp [isRef, hlt])
  simp only [h1]
  exact k H locs ls hW hI hS hl

-- what the heap holds at a call's two ends
def Pw (D : va_G) (cI cW : ClassId) (B n : Nat) (I : SS → Prop) (σ : SS) (U : State) : Prop := Wd D cI cW B n σ U U.heap ∧ I σ
def Pp (D : va_G) (cI cW : ClassId) (B n : Nat) (I : SS → Prop) (σ : SS) (U : State) : Prop := Pw D cI cW B n I σ U ∧ NW U
def TW (y : MethodName) (cc : ByteArray) (mL : Nat) (ret : Option FieldType) : List Cond := .code y cc mL ret :: TB
def rmN (fr lo : Nat) : Room := { frames := fr, cells := 0, slots := 0, locals := lo }
/-- a contract of a method that answers an int or a boolean and makes nothing -/
def MI (y : MethodName) (cc : ByteArray) (mL : Nat) (ret : Option FieldType) (fr lo B n : Nat) (I : SS → Prop) (av : List Value) (σ : SS) (Q : Int32 → SS → Prop) : Prop := ∀ (l : Launch) (D : va_G) (cI cW : ClassId), Met l y (TW y cc mL ret) (rmN fr lo) (va_Pc av (Pp D cI cW B n I σ)) (va_Qi Q (fun τ t => Pw D cI cW B n I τ t) (RA B)) 0 0 (RA B)
/-- a contract of a void method that makes nothing -/
def MV (y : MethodName) (cc : ByteArray) (mL : Nat) (fr lo B n : Nat) (I : SS → Prop) (av : List Value) (σ : SS) (Q : SS → Prop) : Prop := ∀ (l : Launch) (D : va_G) (cI cW : ClassId), Met l y (TW y cc mL none) (rmN fr lo) (va_Pc av (Pp D cI cW B n I σ)) (va_Qv Q (fun τ t => Pw D cI cW B n I τ t) (RA B)) 0 0 (RA B)
theorem Pw_blind {av : List Value} {D : va_G} {cI cW : ClassId} : FrameBlind (va_Pc av (Pp D cI cW B n I σ)) := by
  intro a U g mk q
  obtain ⟨e, ⟨⟨h1, h2, h3⟩, h4⟩, h5⟩ := q
  exact ⟨e, ⟨⟨h1, h2, va_K.moved (u := U) (U := U.calling g mk a) (Vm.Alike.refl U.vm) h3⟩, h4⟩, NW.same rfl h5⟩
/-- what the tables say of a call: by the class's own methods (V), static (S); of a nest mate's private ones (N) -/
def WV (own : String) (idx : Nat) (C : String) (y : MethodName) (cc : ByteArray) (mL : Nat) (ret : Option FieldType) (na : Nat) : Prop := Cond.code y cc mL ret ∈ TB ∧ Cond.methodLink own idx y ∈ TB ∧ Cond.instanceMethod y ∈ TB ∧ Cond.selects C y y ∈ TB ∧ Cond.initialized C ∈ TB ∧ (y.cls = C ∧ y.cls ≠ "java/lang/invoke/MethodHandle" ∧ y.cls ≠ "java/lang/invoke/VarHandle" ∧ (parseMethodDescriptor y.desc).map (fun d => d.parameters.length) = some na)
def WS (own : String) (idx : Nat) (y : MethodName) (cc : ByteArray) (mL : Nat) (ret : Option FieldType) (na : Nat) : Prop := Cond.code y cc mL ret ∈ TB ∧ Cond.methodLink own idx y ∈ TB ∧ Cond.static y ∈ TB ∧ Cond.initialized y.cls ∈ TB ∧ (y.cls ≠ "java/lang/invoke/MethodHandle" ∧ y.cls ≠ "java/lang/invoke/VarHandle" ∧ (parseMethodDescriptor y.desc).map (fun d => d.parameters.length) = some na)
def WSN (own : String) (idx : Nat) (host : String) (y : MethodName) (cc : ByteArray) (mL : Nat) (ret : Option FieldType) (na : Nat) : Prop := Cond.code y cc mL ret ∈ TB ∧ (own, idx, y, host) ∈ NL ∧ Cond.static y ∈ TB ∧ Cond.initialized y.cls ∈ TB ∧ (y.cls ≠ "java/lang/invoke/MethodHandle" ∧ y.cls ≠ "java/lang/invoke/VarHandle" ∧ (parseMethodDescriptor y.desc).map (fun d => d.parameters.length) = some na)
theorem tw_in {y : MethodName} {cc : ByteArray} {mL : Nat} {ret : Option FieldType} (h : Cond.code y cc mL ret ∈ TB) : GoodIn TB (TW y cc mL ret) := tb_in (fun w hw => by
  rcases List.mem_cons.mp hw with rfl | h2
  · exact h
  · exact h2)
/-- the room that a callee wants -/
def RmOk (R0 : Room) (fr lo mL cn sn : Nat) : Prop := (fr + 1 ≤ R0.frames ∧ 8 + (mL + 11) + lo ≤ R0.locals) ∧ cn + 0 ≤ R0.cells ∧ sn + 0 ≤ R0.slots
variable {y : MethodName} {bytes : ByteArray} {mL fr lo idx na : Nat} {ret : Option FieldType} {C host : String} {As av : List Value}
theorem Wd_moved {D : va_G} {cI cW : ClassId} {s t : State} {H : Heap} (h : Wd D cI cW B n σ t H) (hv : s.vm.Alike t.vm) : Wd D cI cW B n σ s H := ⟨h.1, h.2.1, va_K.moved hv.symm h.2.2⟩
theorem j_Vi {Q' : Int32 → SS → Prop} {a t N : Nat} {fl : List (Option Nat)} {st0 : List Value} (pc : Nat) (hC : Cx X nL cc own R0) (hM : MI y bytes mL ret fr lo B n I (.ref (B + a) :: As) σ Q') (hw : WV own idx C y bytes mL ret na) (hk : kt a = (t + 2, N, fl)) (ha : a < n) (hc : ∃ T M, vwCl[t]? = some (C, T, M)) (hR : RmOk R0 fr lo mL cn sn) (hn : As.length = na) (hst : st0 = As.reverse ++ .ref (B + a) :: st) (hcat : (st.map fun v => v.category).sum ≤ 8) (hd : decode cc pc = .ok (.invokevirtual idx, 3)) (kk : ∀ r τ, Q' r τ → J X nL B n I cn sn τ lv (pc + 3) (.int r :: st)) : J X nL B n I cn sn σ lv pc st0 := by
  obtain ⟨p, l, e, R, s, m, args, below, meth, c, D, cI, cW, Q⟩ := X
  obtain ⟨hx, hb, hml, hown, hts, rfl, hN⟩ := hC
  obtain ⟨T, M, hc⟩ := hc
  obtain ⟨w1, w2, w3, w4, w5, w6⟩ := hw
  intro H locs ls hW hI hS hl
  refine va_calli (A1 := RA B) (free := RA B) (va_runV (As := As) (rest := st) ⟨hx, hb, hml, hown, hts⟩ (hM l D cI cW) (cwV na hts (tb_in (fun w h => ?_)) rfl rfl rfl w6 hR.1) ⟨Pw_blind, va_recv hW.2.2 hW.2.1 (q0 := a) (ci := t) hc (by rw [WL_get ha, ent_obj hk]), fun U hU hWm => ⟨rfl, ⟨⟨by rw [hU]; exact hW.1, by rw [hU]; exact hW.2.1, va_K.moved hWm.alike hW.2.2⟩, hI⟩, hN.warm hWm⟩⟩ rfl hn hl.1 hst (lv_room hcat) hd hR.2) hS (fun q _ h => h) (fun q h => h) (fun r u t H1 locs ht hvm hw hB hz1 hk1 hS => ?_)
  · unfold wsV at h
    rcases List.mem_append.mp h with h | h
    · simp only [List.mem_cons, List.not_mem_nil, or_false] at h
      rcases h with rfl | rfl | rfl | rfl
      · exact w2
      · exact w3
      · exact w4
      · exact w5
    · exact (tw_in w1 w h).1
  · subst ht
    exact kk r u hw _ locs ls (Wd_moved hB.1 hvm) hB.2 hS hl
theorem j_Vv {Q' : SS → Prop} {a t N : Nat} {fl : List (Option Nat)} {st0 : List Value} (pc : Nat) (hC : Cx X nL cc own R0) (hM : MV y bytes mL fr lo B n I (.ref (B + a) :: As) σ Q') (hw : WV own idx C y bytes mL none na) (hk : kt a = (t + 2, N, fl)) (ha : a < n) (hc : ∃ T M, vwCl[t]? = some (C, T, M)) (hR : RmOk R0 fr lo mL cn sn) (hn : As.length = na) (hst : st0 = As.reverse ++ .ref (B + a) :: st) (hcat : (st.map fun v => v.category).sum ≤ 8) (hd : decode cc pc = .ok (.invokevirtual idx, 3)) (kk : ∀ τ, Q' τ → J X nL B n I cn sn τ lv (pc + 3) st) : J X nL B n I cn sn σ lv pc st0 := by
  obtain ⟨p, l, e, R, s, m, args, below, meth, c, D, cI, cW, Q⟩ := X
  obtain ⟨hx, hb, hml, hown, hts, rfl, hN⟩ := hC
  obtain ⟨T, M, hc⟩ := hc
  obtain ⟨w1, w2, w3, w4, w5, w6⟩ := hw
  intro H locs ls hW hI hS hl
  refine va_callv (A1 := RA B) (free := RA B) (va_runV (As := As) (rest := st) ⟨hx, hb, hml, hown, hts⟩ (hM l D cI cW) (cwV na hts (tb_in (fun w h => ?_)) rfl rfl rfl w6 hR.1) ⟨Pw_blind, va_recv hW.2.2 hW.2.1 (q0 := a) (ci := t) hc (by rw [WL_get ha, ent_obj hk]), fun U hU hWm => ⟨rfl, ⟨⟨by rw [hU]; exact hW.1, by rw [hU]; exact hW.2.1, va_K.moved hWm.alike hW.2.2⟩, hI⟩, hN.warm hWm⟩⟩ rfl hn hl.1 hst (lv_room hcat) hd hR.2) hS (fun q _ h => h) (fun q h => h) (fun u t H1 locs ht hvm hw hB hz1 hk1 hS => ?_)
  · unfold wsV at h
    rcases List.mem_append.mp h with h | h
    · simp only [List.mem_cons, List.not_mem_nil, or_false] at h
      rcases h with rfl | rfl | rfl | rfl
      · exact w2
      · exact w3
      · exact w4
      · exact w5
    · exact (tw_in w1 w h).1
  · subst ht
    exact kk u hw _ locs ls (Wd_moved hB.1 hvm) hB.2 hS hl
theorem ws_cb {args : Array Value} {s : State} {R : Room} (hts : ∀ w ∈ TB, w.before args s = true) (hw : WS own idx y bytes mL ret na) (hR : fr + 1 ≤ R.frames ∧ 8 + (mL + 11) + lo ≤ R.locals) : CallB R s args own idx y bytes mL ret (TW y bytes mL ret) (rmN fr lo) 0 0 na ∧ (Cond.static y).before args s = true := by
  obtain ⟨w1, w2, w3, w4, w6⟩ := hw
  exact ⟨callB_of na hts (tw_in w1) rfl rfl rfl (hts _ w4) (hts _ w2) w6 hR, hts _ w3⟩
theorem j_Si {Q' : Int32 → SS → Prop} {st0 : List Value} (pc : Nat) (hC : Cx X nL cc own R0) (hM : MI y bytes mL ret fr lo B n I As σ Q') (hw : WS own idx y bytes mL ret na) (hR : RmOk R0 fr lo mL cn sn) (hn : As.length = na) (hst : st0 = As.reverse ++ st) (hcat : (st.map fun v => v.category).sum ≤ 8) (hd : decode cc pc = .ok (.invokestatic idx, 3)) (kk : ∀ r τ, Q' r τ → J X nL B n I cn sn τ lv (pc + 3) (.int r :: st)) : J X nL B n I cn sn σ lv pc st0 := by
  obtain ⟨p, l, e, R, s, m, args, below, meth, c, D, cI, cW, Q⟩ := X
  obtain ⟨hx, hb, hml, hown, hts, rfl, hN⟩ := hC
  intro H locs ls hW hI hS hl
  refine va_calli (A1 := RA B) (free := RA B) (va_runS (As := As) (rest := st) ⟨hx, hb, hml, hown, hts⟩ (hM l D cI cW) (ws_cb hts hw hR.1) ⟨Pw_blind, fun U hU hWm => ⟨rfl, ⟨⟨by rw [hU]; exact hW.1, by rw [hU]; exact hW.2.1, va_K.moved hWm.alike hW.2.2⟩, hI⟩, hN.warm hWm⟩⟩ rfl hn hl.1 hst (lv_room hcat) hd hR.2) hS (fun q _ h => h) (fun q h => h) (fun r u t H1 locs ht hvm hw hB hz1 hk1 hS => ?_)
  subst ht
  exact kk r u hw _ locs ls (Wd_moved hB.1 hvm) hB.2 hS hl
theorem j_Sv {Q' : SS → Prop} {st0 : List Value} (pc : Nat) (hC : Cx X nL cc own R0) (hM : MV y bytes mL fr lo B n I As σ Q') (hw : WS own idx y bytes mL none na) (hR : RmOk R0 fr lo mL cn sn) (hn : As.length = na) (hst : st0 = As.reverse ++ st) (hcat : (st.map fun v => v.category).sum ≤ 8) (hd : decode cc pc = .ok (.invokestatic idx, 3)) (kk : ∀ τ, Q' τ → J X nL B n I cn sn τ lv (pc + 3) st) : J X nL B n I cn sn σ lv pc st0 := by
  obtain ⟨p, l, e, R, s, m, args, below, meth, c, D, cI, cW, Q⟩ := X
  obtain ⟨hx, hb, hml, hown, hts, rfl, hN⟩ := hC
  intro H locs ls hW hI hS hl
  refine va_callv (A1 := RA B) (free := RA B) (va_runS (As := As) (rest := st) ⟨hx, hb, hml, hown, hts⟩ (hM l D cI cW) (ws_cb hts hw hR.1) ⟨Pw_blind, fun U hU hWm => ⟨rfl, ⟨⟨by rw [hU]; exact hW.1, by rw [hU]; exact hW.2.1, va_K.moved hWm.alike hW.2.2⟩, hI⟩, hN.warm hWm⟩⟩ rfl hn hl.1 hst (lv_room hcat) hd hR.2) hS (fun q _ h => h) (fun q h => h) (fun u t H1 locs ht hvm hw hB hz1 hk1 hS => ?_)
  subst ht
  exact kk u hw _ locs ls (Wd_moved hB.1 hvm) hB.2 hS hl
theorem j_SNi {Q' : Int32 → SS → Prop} {st0 : List Value} (pc : Nat) (hC : Cx X nL cc own R0) (hM : MI y bytes mL ret fr lo B n I As σ Q') (hw : WSN own idx host y bytes mL ret na) (hR : RmOk R0 fr lo mL cn sn) (hn : As.length = na) (hst : st0 = As.reverse ++ st) (hcat : (st.map fun v => v.category).sum ≤ 8) (hd : decode cc pc = .ok (.invokestatic idx, 3)) (kk : ∀ r τ, Q' r τ → J X nL B n I cn sn τ lv (pc + 3) (.int r :: st)) : J X nL B n I cn sn σ lv pc st0 := by
  obtain ⟨p, l, e, R, s, m, args, below, meth, c, D, cI, cW, Q⟩ := X
  obtain ⟨hx, hb, hml, hown, hts, rfl, hN⟩ := hC
  obtain ⟨w1, w2, w3, w4, w6⟩ := hw
  intro H locs ls hW hI hS hl
  refine va_calli (A1 := RA B) (free := RA B) (va_runSN (As := As) (rest := st) ⟨hx, hb, hml, hown, hts⟩ (hM l D cI cW) ⟨va_cnB na hts (tw_in w1) rfl rfl rfl (hN _ w2) (hts _ w4) w6 hR.1, hts _ w3, trivial⟩ ⟨Pw_blind, fun U hU hWm => ⟨rfl, ⟨⟨by rw [hU]; exact hW.1, by rw [hU]; exact hW.2.1, va_K.moved hWm.alike hW.2.2⟩, hI⟩, hN.warm hWm⟩⟩ rfl hn hl.1 hst (lv_room hcat) hd hR.2) hS (fun q _ h => h) (fun q h => h) (fun r u t H1 locs ht hvm hw hB hz1 hk1 hS => ?_)
  subst ht
  exact kk r u hw _ locs ls (Wd_moved hB.1 hvm) hB.2 hS hl
theorem j_raw (pc : Nat) (hC : Cx X nL cc own R0) {b : UInt32} (w1 : Cond.methodLink own idx ⟨"java/lang/Float", "floatToRawIntBits", "(F)I"⟩ ∈ TB) (w2 : Cond.native ⟨"java/lang/Float", "floatToRawIntBits", "(F)I"⟩ ∈ TB) (w3 : Cond.static ⟨"java/lang/Float", "floatToRawIntBits", "(F)I"⟩ ∈ TB) (w4 : Cond.initialized "java/lang/Float" ∈ TB) (hf : 1 ≤ R0.frames) (hlo : (st.map fun v => v.category).sum + 15 ≤ R0.locals) (hd : decode cc pc = .ok (.invokestatic idx, 3)) (k : J X nL B n I cn sn σ lv (pc + 3) (.int b.toInt32 :: st)) : J X nL B n I cn sn σ lv pc (.float b :: st) := by
  obtain ⟨p, l, e, R, s, m, args, below, meth, c, D, cI, cW, Q⟩ := X
  obtain ⟨hx, hb, hml, hown, hts, rfl, hN⟩ := hC
  exact fun H locs ls hW hI hS hl => vn_f2i hx hb (hml.trans hl.1.symm) hown (hts _ w1) (hts _ w2) (hts _ w3) (hts _ w4) hf hlo hd (k H locs ls hW hI hS hl)
theorem j_iald0 {a N : Nat} {fl : List (Option Nat)} {i : Int32} (pc j : Nat) (hC : Cx X nL cc own R0) (hk : kt a = (0, N, fl)) (ha : a < n) (hin : vp_in i N) (hj : i.toNatClampNeg = j) (hd : decode cc pc = .ok (.iaload, 1)) (k : J X nL B n I cn sn σ lv (pc + 1) (.int (σ a j) :: st)) : J X nL B n I cn sn σ lv pc (.int i :: .ref (B + a) :: st) := by
  subst hj
  exact j_iald pc hC hk ha hin hd k
theorem j_iast0 {a N : Nat} {i x : Int32} (pc j : Nat) (hC : Cx X nL cc own R0) (hk : kt a = (0, N, [])) (ha : a < n) (hin : vp_in i N) (hj : i.toNatClampNeg = j) (hd : decode cc pc = .ok (.iastore, 1)) (k : J X nL B n RS cn sn (u2 σ a j x) lv (pc + 1) st) : J X nL B n RS cn sn σ lv pc (.int x :: .int i :: .ref (B + a) :: st) := by
  subst hj
  exact j_iast pc hC hk ha hin hd k
theorem j_alen {a N : Nat} {fl : List (Option Nat)} {v : Int32} (pc : Nat) (hC : Cx X nL cc own R0) (hk : kt a = (0, N, fl)) (ha : a < n) (hv : Int32.ofNat N = v) (hd : decode cc pc = .ok (.arraylength, 1)) (k : J X nL B n I cn sn σ lv (pc + 1) (.int v :: st)) : J X nL B n I cn sn σ lv pc (.ref (B + a) :: st) := by
  obtain ⟨p, l, e, R, s, m, args, below, meth, c, D, cI, cW, Q⟩ := X
  exact fun H locs ls hW hI hS hl => va_alen (ws := WL B cI cW n σ) (x := (N, .inl (σ a))) hC.1 hC.2.1 hW.2.2 hW.2.1 a 0 (by rw [WL_get ha, ent_arr hk]) rfl hv hd (k H locs ls hW hI hS hl)
theorem j_mmax (pc : Nat) (hC : Cx X nL cc own R0) {x y : Int32} (w1 : Cond.methodLink own idx Lib.Math.max.name ∈ TB) (w2 : Cond.static Lib.Math.max.name ∈ TB) (w3 : Cond.initialized "java/lang/Math" ∈ TB) (w4 : Cond.code Lib.Math.max.name Lib.Math.max.code 2 (some .int) ∈ TB) (hf : 1 ≤ R0.frames) (hlo : (st.map fun v => v.category).sum + 13 ≤ R0.locals) (hcn : cn ≤ R0.cells) (hsn : sn ≤ R0.slots) (hd : decode cc pc = .ok (.invokestatic idx, 3)) (k : J X nL B n I cn sn σ lv (pc + 3) (.int (if x < y then y else x) :: st)) : J X nL B n I cn sn σ lv pc (.int y :: .int x :: st) := by
  obtain ⟨p, l, e, R, s, m, args, below, meth, c, D, cI, cW, Q⟩ := X
  obtain ⟨hx, hb, hml, hown, hts, rfl, hN⟩ := hC
  exact fun H locs ls hW hI hS hl => va_mmax hx hb (hml.trans hl.1.symm) hown (hts _ w1) (hts _ w2) (hts _ w3) (hts _ w4) hf hlo hcn hsn hd (k H locs ls hW hI hS hl)
theorem j_mmin (pc : Nat) (hC : Cx X nL cc own R0) {x y : Int32} (w1 : Cond.methodLink own idx Lib.Math.min.name ∈ TB) (w2 : Cond.static Lib.Math.min.name ∈ TB) (w3 : Cond.initialized "java/lang/Math" ∈ TB) (w4 : Cond.code Lib.Math.min.name Lib.Math.min.code 2 (some .int) ∈ TB) (hf : 1 ≤ R0.frames) (hlo : (st.map fun v => v.category).sum + 13 ≤ R0.locals) (hcn : cn ≤ R0.cells) (hsn : sn ≤ R0.slots) (hd : decode cc pc = .ok (.invokestatic idx, 3)) (k : J X nL B n I cn sn σ lv (pc + 3) (.int (if y < x then y else x) :: st)) : J X nL B n I cn sn σ lv pc (.int y :: .int x :: st) := by
  obtain ⟨p, l, e, R, s, m, args, below, meth, c, D, cI, cW, Q⟩ := X
  obtain ⟨hx, hb, hml, hown, hts, rfl, hN⟩ := hC
  exact fun H locs ls hW hI hS hl => va_mmin hx hb (hml.trans hl.1.symm) hown (hts _ w1) (hts _ w2) (hts _ w3) (hts _ w4) hf hlo hcn hsn hd (k H locs ls hW hI hS hl)
theorem j_sg {pc : Nat} (k : ∀ τ : SS, τ = σ → J X nL B n I cn sn τ lv pc st) : J X nL B n I cn sn σ lv pc st := k σ rfl
theorem j_top {pc : Nat} {x : Int32} (k : ∀ y : Int32, y = x → J X nL B n I cn sn σ lv pc (.int y :: st)) : J X nL B n I cn sn σ lv pc (.int x :: st) := k x rfl

end JR

theorem my_ofW {l : Launch} {y : MethodName} {ws ws' : List Cond} {rm : Room} {Pc : Array Value → State → Prop} {Qc : Array Value → State → Outcome → State → Prop} {mc ms : Nat} {free : Addr → Prop} {cc : ByteArray} {maxL : Nat} {ret : Option FieldType}
    (hy : plainFor y = true) (hw : ws = Cond.code y cc maxL ret :: ws')
    (body : ∀ p e s m args below meth c s₁, BodyLoose p l y (headSpec ws rm) cc maxL ret e s m args below meth c s₁ → c.maxLocals = maxL → Pc args s →
      W p l e (headSpec ws rm).room s m args below meth c s.heap [] 0 0 (MQ below Qc args s mc ms free) (entryFrame m args maxL)) : Met l y ws rm Pc Qc mc ms free := by
  refine MetFree.of_bodySF (code := cc) (maxLocals := maxL) (ret := ret) hy ?_ ?_
  · intro args s m h hn
    obtain ⟨meth, c, h1, h2, h3, h4, h5, h6, -, -⟩ := Cond.code_spec hn (atoms_spec (ws := ws) h _ (by rw [hw]; exact List.mem_cons_self))
    exact ⟨meth, c, h1, h2, h3, h4, h5, h6⟩
  · intro p e s m args below meth c s₁ B hml hP _
    have hh0 : s₁.heap = s.heap := by rw [B.state]; rfl
    obtain ⟨t, a1, o, b1, b2, b3⟩ := body p e s m args below meth c s₁ B hml hP s₁ hh0 (Stand.of_body B)
    exact ⟨t, o, a1, b1, b2, ⟨b3.1, b3.2⟩⟩
theorem my_ldcwF {p : Program} {l : Launch} {e : Env} {R : Room} {s : State} {m : MethodId} {args : Array Value} {below : List Frame} {meth : Method} {c : Code} {locs : List Loc} {cells slots : Nat} {T : State} (Y : Stand p l e R s m args below meth c T locs cells slots) (hexec : p.tables.exec = Jvm.exec) {own : String} {index : Nat} {v : UInt32} (hown : s.vm.findClass own = some m.cls)
    (hconst : (Cond.constantFloat own index v).before args s = true) {g : JFrame} (hg : g.method = m) (hdg : decode c.code g.pc = .ok (.ldc_w index, 3)) :
    ∀ target, Steps p.tables e below (T.setTop { g with pc := g.pc + 3, stack := .float v :: g.stack }) target → Steps p.tables e below (T.setTop g) target := by
  obtain ⟨k, cf, hk, hcf, hcp⟩ := Cond.constantFloat_spec hown hconst
  obtain ⟨k', hk', he⟩ := Y.warmed.alike.2.2 _ _ hk
  intro target hrest
  subst hg
  jvm_step Y.here [hexec, hdg, ldc_w.wp_float (s := T) (f := g) Y.here.top hk' (by rw [he]; exact hcf) hcp]
  exact hrest
theorem j_ldcwf {X : XT} {nL B n cn sn : Nat} {I : SS → Prop} {σ : SS} {lv : List (Nat × Value)} {cc : ByteArray} {own : String} {R0 : Room} {st : List Value} (pc : Nat) (hC : Cx X nL cc own R0) {ix : Nat} {v : UInt32} (hd : decode cc pc = .ok (.ldc_w ix, 3)) (hw : Cond.constantFloat own ix v ∈ TB) (k : J X nL B n I cn sn σ lv (pc + 3) (.float v :: st)) : J X nL B n I cn sn σ lv pc st := by
  obtain ⟨p, l, e, R, s, m, args, below, meth, c, D, cI, cW, Q⟩ := X
  intro H locs ls hW hI hS hl T hT Y
  obtain ⟨t, a, b⟩ := k H locs ls hW hI hS hl T hT Y
  exact ⟨t, my_ldcwF Y hC.1 hC.2.2.2.1 (hC.2.2.2.2.1 _ hw) (g := F0 m pc ls st) rfl (by rw [hC.2.1]; exact hd) t a, b⟩
/-- a method's ends: an int (I), a boolean (Z), nothing (V) -/
def RtI (X : XT) (nL B n : Nat) (I : SS → Prop) (cc : ByteArray) (Q' : Int32 → SS → Prop) : Prop := ∀ (pc : Nat) (v : Int32) (σ : SS) (lv : List (Nat × Value)), decode cc pc = .ok (.ireturn, 1) → Q' v σ → J X nL B n I 0 0 σ lv pc [.int v]
def RtZ (X : XT) (nL B n : Nat) (I : SS → Prop) (cc : ByteArray) (Q' : Int32 → SS → Prop) : Prop := ∀ (pc : Nat) (v : Int32) (σ : SS) (lv : List (Nat × Value)), decode cc pc = .ok (.ireturn, 1) → (v = 0 ∨ v = 1) ∧ Q' v σ → J X nL B n I 0 0 σ lv pc [.int v]
def RtV (X : XT) (nL B n : Nat) (I : SS → Prop) (cc : ByteArray) (Q' : SS → Prop) : Prop := ∀ (pc : Nat) (σ : SS) (lv : List (Nat × Value)), decode cc pc = .ok (.return_, 1) → Q' σ → J X nL B n I 0 0 σ lv pc []
theorem narrow_01 {v : Int32} (h : v = 0 ∨ v = 1) : narrow .boolean (.int v) = .int v := by rcases h with rfl | rfl <;> rfl
section MK
variable {y : MethodName} {cc : ByteArray} {mL fr lo B n : Nat} {I : SS → Prop} {av : List Value} {σ : SS}
theorem MI.mk {Q' : Int32 → SS → Prop} (hy : plainFor y = true) (hlen : (lg_sl av).length ≤ mL) (h : ∀ X, Cx X mL cc y.cls (rmN fr lo) → RtI X mL B n I cc Q' → J X mL B n I 0 0 σ (lv_args 0 av) 0 []) : MI y cc mL (some .int) fr lo B n I av σ Q' := by
  intro l D cI cW
  refine my_ofW (cc := cc) (maxL := mL) (ret := some .int) hy rfl ?_
  intro p e s m args below meth c s₁ Bd hml hv
  obtain ⟨rfl, ⟨hW, hI⟩, hN⟩ := hv
  have hts := atoms_spec (ws := TW y cc mL (some .int)) Bd.pre
  have hlocks := Bd.notSynchronized
  rw [lg_entry_eq]
  refine h (p, l, e, _, s, m, _, below, meth, c, D, cI, cW, _) ⟨Bd.exec, Bd.bytes, hml, findClass_of_methodNamed Bd.named, fun w hw => hts w (List.mem_cons_of_mem _ hw), rfl, hN⟩ ?_ s.heap [] _ hW hI va_S.rf (lv_entry av hlen)
  intro pc v σ lv hd hq H locs ls hW hI hS hl
  exact W.iret (v := v) Bd.exec Bd.bytes Bd.returns (fun t ht hWm => ⟨⟨v, σ, rfl, hq, ⟨by rw [ht]; exact hW.1, by rw [ht]; exact hW.2.1, va_K.moved hWm.alike hW.2.2⟩, hI⟩, hS.F ht⟩) hS.2.2 hd
theorem MI.mkZ {Q' : Int32 → SS → Prop} (hy : plainFor y = true) (hlen : (lg_sl av).length ≤ mL) (h : ∀ X, Cx X mL cc y.cls (rmN fr lo) → RtZ X mL B n I cc Q' → J X mL B n I 0 0 σ (lv_args 0 av) 0 []) : MI y cc mL (some .boolean) fr lo B n I av σ Q' := by
  intro l D cI cW
  refine my_ofW (cc := cc) (maxL := mL) (ret := some .boolean) hy rfl ?_
  intro p e s m args below meth c s₁ Bd hml hv
  obtain ⟨rfl, ⟨hW, hI⟩, hN⟩ := hv
  have hts := atoms_spec (ws := TW y cc mL (some .boolean)) Bd.pre
  have hlocks := Bd.notSynchronized
  rw [lg_entry_eq]
  refine h (p, l, e, _, s, m, _, below, meth, c, D, cI, cW, _) ⟨Bd.exec, Bd.bytes, hml, findClass_of_methodNamed Bd.named, fun w hw => hts w (List.mem_cons_of_mem _ hw), rfl, hN⟩ ?_ s.heap [] _ hW hI va_S.rf (lv_entry av hlen)
  intro pc v σ lv hd hq H locs ls hW hI hS hl
  exact W.zret (v := v) (ty := .boolean) Bd.exec Bd.bytes Bd.returns (narrow_01 hq.1) (fun t ht hWm => ⟨⟨v, σ, rfl, hq.2, ⟨by rw [ht]; exact hW.1, by rw [ht]; exact hW.2.1, va_K.moved hWm.alike hW.2.2⟩, hI⟩, hS.F ht⟩) hS.2.2 hd
theorem MV.mk {Q' : SS → Prop} (hy : plainFor y = true) (hlen : (lg_sl av).length ≤ mL) (h : ∀ X, Cx X mL cc y.cls (rmN fr lo) → RtV X mL B n I cc Q' → J X mL B n I 0 0 σ (lv_args 0 av) 0 []) : MV y cc mL fr lo B n I av σ Q' := by
  intro l D cI cW
  refine my_ofW (cc := cc) (maxL := mL) (ret := none) hy rfl ?_
  intro p e s m args below meth c s₁ Bd hml hv
  obtain ⟨rfl, ⟨hW, hI⟩, hN⟩ := hv
  have hts := atoms_spec (ws := TW y cc mL none) Bd.pre
  have hlocks := Bd.notSynchronized
  rw [lg_entry_eq]
  refine h (p, l, e, _, s, m, _, below, meth, c, D, cI, cW, _) ⟨Bd.exec, Bd.bytes, hml, findClass_of_methodNamed Bd.named, fun w hw => hts w (List.mem_cons_of_mem _ hw), rfl, hN⟩ ?_ s.heap [] _ hW hI va_S.rf (lv_entry av hlen)
  intro pc σ lv hd hq H locs ls hW hI hS hl
  exact W.vret Bd.exec Bd.bytes Bd.returns (fun t ht hWm => ⟨⟨σ, rfl, hq, ⟨by rw [ht]; exact hW.1, by rw [ht]; exact hW.2.1, va_K.moved hWm.alike hW.2.2⟩, hI⟩, hS.F ht⟩) hS.2.2 hd
end MK
