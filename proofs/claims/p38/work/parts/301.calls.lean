/-! contracts over G, calls in five ways -/
def PRE (K : C4) (z : Z4) (P : Heap → Prop) (o : Option Q4) (U : State) : Prop := P U.heap ∧ SK o U U.heap ∧ CX K z U U.heap ∧ z.1 ≤ U.heap.size
def QG (z : Z4) (Qc : Option Value → Heap → Prop) : State → Outcome → State → Prop := fun st oc t => (∃ v, oc = .returned v ∧ Qc v t.heap) ∧ va_F (A0 z.1) st t
def QH (post : Option Value → Prop) : State → Outcome → State → Prop := fun st oc t => (∃ v, oc = .returned v ∧ post v) ∧ t.heap = st.heap
/-- a method that may write and make cells above z.1 -/
def GC (y : MethodName) (cc : ByteArray) (mL : Nat) (ret : Option FieldType) (fr lo dc ds : Nat) (z : Z4) (av : List Value) (P : C4 → Heap → Prop) (o : Option Q4) (Qc : C4 → Option Value → Heap → Prop) : Prop := ∀ (l : Launch) (K : C4), Met l y (TW y cc mL ret) (rmC fr dc ds lo) (va_Pc av (PRE K z (P K) o)) (fun _ => QG z (Qc K)) dc ds (A0 z.1)
/-- a method that only reads -/
def HC2 (y : MethodName) (cc : ByteArray) (mL : Nat) (ret : Option FieldType) (fr lo : Nat) (z : Z4) (av : List Value) (P : C4 → Heap → Prop) (o : Option Q4) (post : Option Value → Prop) : Prop := ∀ (l : Launch) (K : C4), Met l y (TW y cc mL ret) (rmC fr 0 0 lo) (va_Pc av (PRE K z (P K) o)) (fun _ => QH post) 0 0 NA
theorem SK.kept0 {o : Option Q4} {U : State} {H H1 : Heap} (h : SK o U H) (e : H1 = H) : SK o U H1 := e ▸ h
theorem PRE_blind {av : List Value} {K : C4} {z : Z4} {P : Heap → Prop} {o : Option Q4} : FrameBlind (va_Pc av (PRE K z P o)) := by
  intro a U g mk q
  obtain ⟨e, h1, h2, h3, h4⟩ := q
  exact ⟨e, h1, h2.moved (u := U) (U := U.calling g mk a) (Vm.Alike.refl U.vm), CX.same (u := U) (U := U.calling g mk a) rfl rfl h3, h4⟩
section MK
variable {y : MethodName} {cc : ByteArray} {mL fr lo dc ds : Nat} {z : Z4} {av : List Value} {P : C4 → Heap → Prop} {o : Option Q4}
def EndI (X : XE) (mL : Nat) (cc : ByteArray) (dc ds : Nat) (rt : FieldType) (Qc : Option Value → Heap → Prop) : Prop := ∀ (pc : Nat) (v : Int32) (lv : List (Nat × Value)) (P : Heap → Prop), decode cc pc = .ok (.ireturn, 1) → narrow rt (.int v) = .int v → (∀ H, P H → Qc (some (.int v)) H) → G X mL P dc ds lv pc [.int v]
def EndR (X : XE) (mL : Nat) (cc : ByteArray) (dc ds : Nat) (Qc : Option Value → Heap → Prop) : Prop := ∀ (pc : Nat) (a : Nat) (lv : List (Nat × Value)) (P : Heap → Prop), decode cc pc = .ok (.areturn, 1) → (∀ H, P H → Qc (some (.ref a)) H) → G X mL P dc ds lv pc [.ref a]
def EndV (X : XE) (mL : Nat) (cc : ByteArray) (dc ds : Nat) (Qc : Option Value → Heap → Prop) : Prop := ∀ (pc : Nat) (lv : List (Nat × Value)) (P : Heap → Prop), decode cc pc = .ok (.return_, 1) → (∀ H, P H → Qc none H) → G X mL P dc ds lv pc []
theorem GC.mkI {rt : FieldType} {Qc : C4 → Option Value → Heap → Prop} (hy : plainFor y = true) (hlen : (lg_sl av).length ≤ mL) (h : ∀ X, CE X z mL cc y.cls (rmC fr dc ds lo) → aX X = A0 z.1 → EndI X mL cc dc ds rt (Qc (kX X)) → G X mL (fun H => P (kX X) H ∧ SK o (sX X) H) 0 0 (lv_args 0 av) 0 []) : GC y cc mL (some rt) fr lo dc ds z av P o Qc := by
  intro l K
  refine my_ofW (cc := cc) (maxL := mL) (ret := some rt) hy rfl ?_
  intro p e s m args below meth c s₁ Bd hml hv
  obtain ⟨rfl, h1, h2, h3, h4⟩ := hv
  have hts := atoms_spec (ws := TW y cc mL (some rt)) Bd.pre
  have hlocks := Bd.notSynchronized
  rw [lg_entry_eq]
  refine h (p, l, e, _, s, m, _, below, meth, c, K, A0 z.1, _) ⟨Bd.exec, Bd.bytes, hml, findClass_of_methodNamed Bd.named, fun w hw => hts w (List.mem_cons_of_mem _ hw), rfl, h3, h4, fun q hq => hq⟩ rfl ?_ s.heap [] _ ⟨h1, h2⟩ va_S.rf (lv_entry av hlen)
  intro pc v lv P' hd hn hq H locs ls hW hS hl
  exact W.zret (v := v) (ty := rt) Bd.exec Bd.bytes Bd.returns hn (fun t ht hWm => ⟨⟨_, rfl, by rw [ht]; exact hq H hW⟩, hS.F ht⟩) hS.2.2 hd
theorem GC.mkR {rt : FieldType} {Qc : C4 → Option Value → Heap → Prop} (hy : plainFor y = true) (hlen : (lg_sl av).length ≤ mL) (hrt : (∃ n, rt = .object n) ∨ ∃ t, rt = .array t) (h : ∀ X, CE X z mL cc y.cls (rmC fr dc ds lo) → aX X = A0 z.1 → EndR X mL cc dc ds (Qc (kX X)) → G X mL (fun H => P (kX X) H ∧ SK o (sX X) H) 0 0 (lv_args 0 av) 0 []) : GC y cc mL (some rt) fr lo dc ds z av P o Qc := by
  intro l K
  refine my_ofW (cc := cc) (maxL := mL) (ret := some rt) hy rfl ?_
  intro p e s m args below meth c s₁ Bd hml hv
  obtain ⟨rfl, h1, h2, h3, h4⟩ := hv
  have hts := atoms_spec (ws := TW y cc mL (some rt)) Bd.pre
  have hlocks := Bd.notSynchronized
  rw [lg_entry_eq]
  refine h (p, l, e, _, s, m, _, below, meth, c, K, A0 z.1, _) ⟨Bd.exec, Bd.bytes, hml, findClass_of_methodNamed Bd.named, fun w hw => hts w (List.mem_cons_of_mem _ hw), rfl, h3, h4, fun q hq => hq⟩ rfl ?_ s.heap [] _ ⟨h1, h2⟩ va_S.rf (lv_entry av hlen)
  intro pc a lv P' hd hq H locs ls hW hS hl
  exact W.aret (v := .ref a) Bd.exec Bd.bytes Bd.returns hrt (Or.inr ⟨a, rfl⟩) (fun t ht hWm => ⟨⟨_, rfl, by rw [ht]; exact hq H hW⟩, hS.F ht⟩) hS.2.2 hd
theorem GC.mkV {Qc : C4 → Option Value → Heap → Prop} (hy : plainFor y = true) (hlen : (lg_sl av).length ≤ mL) (h : ∀ X, CE X z mL cc y.cls (rmC fr dc ds lo) → aX X = A0 z.1 → (y.name = "<init>" → IniX X) → EndV X mL cc dc ds (Qc (kX X)) → G X mL (fun H => P (kX X) H ∧ SK o (sX X) H) 0 0 (lv_args 0 av) 0 []) : GC y cc mL none fr lo dc ds z av P o Qc := by
  intro l K
  refine my_ofW (cc := cc) (maxL := mL) (ret := none) hy rfl ?_
  intro p e s m args below meth c s₁ Bd hml hv
  obtain ⟨rfl, h1, h2, h3, h4⟩ := hv
  have hts := atoms_spec (ws := TW y cc mL none) Bd.pre
  have hlocks := Bd.notSynchronized
  have hin : meth.name = y.name := (name_of_methodNamed Bd.named Bd.method).1
  rw [lg_entry_eq]
  refine h (p, l, e, _, s, m, _, below, meth, c, K, A0 z.1, _) ⟨Bd.exec, Bd.bytes, hml, findClass_of_methodNamed Bd.named, fun w hw => hts w (List.mem_cons_of_mem _ hw), rfl, h3, h4, fun q hq => hq⟩ rfl (fun e => hin.trans e) ?_ s.heap [] _ ⟨h1, h2⟩ va_S.rf (lv_entry av hlen)
  intro pc lv P' hd hq H locs ls hW hS hl
  exact W.vret Bd.exec Bd.bytes Bd.returns (fun t ht hWm => ⟨⟨_, rfl, by rw [ht]; exact hq H hW⟩, hS.F ht⟩) hS.2.2 hd
/-- the ends of a method that only reads: the heap is the start's -/
def EndQ (X : XE) (post : Option Value → Prop) : Option Value → Heap → Prop := fun v H => H = (sX X).heap ∧ post v
theorem HC2.mkI {rt : FieldType} {post : Option Value → Prop} (hy : plainFor y = true) (hlen : (lg_sl av).length ≤ mL) (h : ∀ X, CE X z mL cc y.cls (rmC fr 0 0 lo) → EndI X mL cc 0 0 rt (EndQ X post) → G X mL (fun H => H = (sX X).heap ∧ P (kX X) H ∧ SK o (sX X) H) 0 0 (lv_args 0 av) 0 []) : HC2 y cc mL (some rt) fr lo z av P o post := by
  intro l K
  refine my_ofW (cc := cc) (maxL := mL) (ret := some rt) hy rfl ?_
  intro p e s m args below meth c s₁ Bd hml hv
  obtain ⟨rfl, h1, h2, h3, h4⟩ := hv
  have hts := atoms_spec (ws := TW y cc mL (some rt)) Bd.pre
  have hlocks := Bd.notSynchronized
  rw [lg_entry_eq]
  refine h (p, l, e, _, s, m, _, below, meth, c, K, NA, _) ⟨Bd.exec, Bd.bytes, hml, findClass_of_methodNamed Bd.named, fun w hw => hts w (List.mem_cons_of_mem _ hw), rfl, h3, h4, fun q hq => hq.elim⟩ ?_ s.heap [] _ ⟨rfl, h1, h2⟩ va_S.rf (lv_entry av hlen)
  intro pc v lv P' hd hn hq H locs ls hW hS hl
  exact W.zret (v := v) (ty := rt) Bd.exec Bd.bytes Bd.returns hn (fun t ht hWm => ⟨⟨_, rfl, (hq H hW).2⟩, ht.trans (hq H hW).1⟩) hS.2.2 hd
theorem HC2.mkR {rt : FieldType} {post : Option Value → Prop} (hy : plainFor y = true) (hlen : (lg_sl av).length ≤ mL) (hrt : (∃ n, rt = .object n) ∨ ∃ t, rt = .array t) (h : ∀ X, CE X z mL cc y.cls (rmC fr 0 0 lo) → EndR X mL cc 0 0 (EndQ X post) → G X mL (fun H => H = (sX X).heap ∧ P (kX X) H ∧ SK o (sX X) H) 0 0 (lv_args 0 av) 0 []) : HC2 y cc mL (some rt) fr lo z av P o post := by
  intro l K
  refine my_ofW (cc := cc) (maxL := mL) (ret := some rt) hy rfl ?_
  intro p e s m args below meth c s₁ Bd hml hv
  obtain ⟨rfl, h1, h2, h3, h4⟩ := hv
  have hts := atoms_spec (ws := TW y cc mL (some rt)) Bd.pre
  have hlocks := Bd.notSynchronized
  rw [lg_entry_eq]
  refine h (p, l, e, _, s, m, _, below, meth, c, K, NA, _) ⟨Bd.exec, Bd.bytes, hml, findClass_of_methodNamed Bd.named, fun w hw => hts w (List.mem_cons_of_mem _ hw), rfl, h3, h4, fun q hq => hq.elim⟩ ?_ s.heap [] _ ⟨rfl, h1, h2⟩ va_S.rf (lv_entry av hlen)
  intro pc a lv P' hd hq H locs ls hW hS hl
  exact W.aret (v := .ref a) Bd.exec Bd.bytes Bd.returns hrt (Or.inr ⟨a, rfl⟩) (fun t ht hWm => ⟨⟨_, rfl, (hq H hW).2⟩, ht.trans (hq H hW).1⟩) hS.2.2 hd
theorem HC2.mkV {post : Option Value → Prop} (hy : plainFor y = true) (hlen : (lg_sl av).length ≤ mL) (h : ∀ X, CE X z mL cc y.cls (rmC fr 0 0 lo) → EndV X mL cc 0 0 (EndQ X post) → G X mL (fun H => H = (sX X).heap ∧ P (kX X) H ∧ SK o (sX X) H) 0 0 (lv_args 0 av) 0 []) : HC2 y cc mL none fr lo z av P o post := by
  intro l K
  refine my_ofW (cc := cc) (maxL := mL) (ret := none) hy rfl ?_
  intro p e s m args below meth c s₁ Bd hml hv
  obtain ⟨rfl, h1, h2, h3, h4⟩ := hv
  have hts := atoms_spec (ws := TW y cc mL none) Bd.pre
  have hlocks := Bd.notSynchronized
  rw [lg_entry_eq]
  refine h (p, l, e, _, s, m, _, below, meth, c, K, NA, _) ⟨Bd.exec, Bd.bytes, hml, findClass_of_methodNamed Bd.named, fun w hw => hts w (List.mem_cons_of_mem _ hw), rfl, h3, h4, fun q hq => hq.elim⟩ ?_ s.heap [] _ ⟨rfl, h1, h2⟩ va_S.rf (lv_entry av hlen)
  intro pc lv P' hd hq H locs ls hW hS hl
  exact W.vret Bd.exec Bd.bytes Bd.returns (fun t ht hWm => ⟨⟨_, rfl, (hq H hW).2⟩, ht.trans (hq H hW).1⟩) hS.2.2 hd
end MK
-- calls
def RunK (X : XE) (nL cn sn dc ds : Nat) (P : Heap → Prop) (pc : Nat) (st0 st : List Value) (Qf : State → Outcome → State → Prop) (free : Addr → Prop) : Prop := match X with
  | (p, l, e, R, s, m, args, below, meth, c, K, A, Q) => ∀ (H : Heap) (locs : List Loc) (ls : Array Slot), P H → va_S A s.heap H locs → ls.size = nL → va_Run p l e R s m args below meth c H locs cn sn dc ds (F0 m pc ls st0) st Qf free
section GK
variable {X : XE} {z : Z4} {nL cn sn : Nat} {P : Heap → Prop} {lv : List (Nat × Value)} {cc : ByteArray} {own : String} {R0 : Room} {st st0 : List Value}
theorem g_run {dc ds pc : Nat} {Qc : Option Value → Heap → Prop} (hA0 : aX X = A0 z.1) (hr : RunK X nL cn sn dc ds P pc st0 st (QG z Qc) (A0 z.1)) (kk : ∀ v : Option Value, G X nL (Qc v) (cn + dc) (sn + ds) lv (pc + 3) (v.toList ++ st)) : G X nL P cn sn lv pc st0 := by
  obtain ⟨p, l, e, R, s, m, args, below, meth, c, K, A, Q⟩ := X
  have hA0 : A = A0 z.1 := hA0
  subst hA0
  intro H locs ls hW hS hl T hT Y
  obtain ⟨v, st₀, t, T', L, h0, X', hL, e1, e2, ⟨⟨w, hv, hq⟩, hz, hk⟩, st'⟩ := hr H locs ls hW hS hl.1 T hT Y
  cases hv
  rw [h0] at hz hk
  obtain ⟨t2, a1, b1⟩ := kk v T'.heap (locs ++ L) ls (by rw [e1]; exact hq) ⟨Nat.le_trans hS.1 (by rw [e1]; exact hz), fun q h1 h2 => by rw [e1, hk q (Nat.lt_of_lt_of_le h1 hS.1) h2]; exact hS.2.1 q h1 h2, fun q hq => by
      rcases List.mem_append.mp hq with h | h
      · exact hS.2.2 q h
      · exact hL q h⟩ hl T' rfl X'
  exact ⟨t2, st' t2 a1, b1⟩
theorem h_run {pc : Nat} {post : Option Value → Prop} (hr : RunK X nL cn sn 0 0 P pc st0 st (QH post) NA) (kk : ∀ v : Option Value, post v → G X nL P cn sn lv (pc + 3) (v.toList ++ st)) : G X nL P cn sn lv pc st0 := by
  obtain ⟨p, l, e, R, s, m, args, below, meth, c, K, A, Q⟩ := X
  intro H locs ls hW hS hl T hT Y
  obtain ⟨v, st₀, t, T', L, h0, X', hL, e1, e2, ⟨⟨w, hv, hq⟩, hz⟩, st'⟩ := hr H locs ls hW hS hl.1 T hT Y
  cases hv
  obtain ⟨t2, a1, b1⟩ := kk v hq H locs ls hW hS hl T' (by rw [e1, hz, h0]) (Stand.forget X' (fun q h => (hL q h).elim))
  exact ⟨t2, st' t2 a1, b1⟩
/-- the stack's new top -/
theorem g_int {pc : Nat} {F : Int32 → Heap → Prop} (k : ∀ r, G X nL (F r) cn sn lv pc (.int r :: st)) : ∀ v : Option Value, G X nL (fun H => ∃ r, v = some (.int r) ∧ F r H) cn sn lv pc (v.toList ++ st) := by
  obtain ⟨p, l, e, R, s, m, args, below, meth, c, K, A, Q⟩ := X
  intro v H locs ls hW hS hl
  obtain ⟨r, rfl, hq⟩ := hW
  exact k r H locs ls hq hS hl
theorem g_ref {pc : Nat} {F : Nat → Heap → Prop} (k : ∀ a, G X nL (F a) cn sn lv pc (.ref a :: st)) : ∀ v : Option Value, G X nL (fun H => ∃ a, v = some (.ref a) ∧ F a H) cn sn lv pc (v.toList ++ st) := by
  obtain ⟨p, l, e, R, s, m, args, below, meth, c, K, A, Q⟩ := X
  intro v H locs ls hW hS hl
  obtain ⟨r, rfl, hq⟩ := hW
  exact k r H locs ls hq hS hl
theorem g_void {pc : Nat} {F : Heap → Prop} (k : G X nL F cn sn lv pc st) : ∀ v : Option Value, G X nL (fun H => v = none ∧ F H) cn sn lv pc (v.toList ++ st) := by
  obtain ⟨p, l, e, R, s, m, args, below, meth, c, K, A, Q⟩ := X
  intro v H locs ls hW hS hl
  obtain ⟨rfl, hq⟩ := hW
  exact k H locs ls hq hS hl
theorem h_int {pc : Nat} {F : Int32 → Prop} (k : ∀ r, F r → G X nL P cn sn lv pc (.int r :: st)) : ∀ v : Option Value, (∃ r, v = some (.int r) ∧ F r) → G X nL P cn sn lv pc (v.toList ++ st) := by
  rintro v ⟨r, rfl, hq⟩
  exact k r hq
theorem h_ref {pc : Nat} {F : Nat → Prop} (k : ∀ a, F a → G X nL P cn sn lv pc (.ref a :: st)) : ∀ v : Option Value, (∃ a, v = some (.ref a) ∧ F a) → G X nL P cn sn lv pc (v.toList ++ st) := by
  rintro v ⟨r, rfl, hq⟩
  exact k r hq
theorem h_void {pc : Nat} (k : G X nL P cn sn lv pc st) : ∀ v : Option Value, v = none → G X nL P cn sn lv pc (v.toList ++ st) := by
  rintro v rfl
  exact k
variable {y : MethodName} {bytes : ByteArray} {mL fr lo dc ds idx na : Nat} {ret : Option FieldType} {As : List Value} {Pc : C4 → Heap → Prop} {o : Option Q4} {Qf : C4 → State → Outcome → State → Prop} {free : Addr → Prop}
/-- what a callee asks of the room -/
def RmK (R0 : Room) (fr lo mL dc ds cn sn : Nat) : Prop := (fr + 1 ≤ R0.frames ∧ 8 + (mL + 11) + lo ≤ R0.locals) ∧ cn + dc ≤ R0.cells ∧ sn + ds ≤ R0.slots
def MetK (y : MethodName) (cc : ByteArray) (mL : Nat) (ret : Option FieldType) (fr lo dc ds : Nat) (z : Z4) (av : List Value) (P : C4 → Heap → Prop) (o : Option Q4) (Qf : C4 → State → Outcome → State → Prop) (free : Addr → Prop) : Prop := ∀ (l : Launch) (K : C4), Met l y (TW y cc mL ret) (rmC fr dc ds lo) (va_Pc av (PRE K z (P K) o)) (fun _ => Qf K) dc ds free
def SKX (X : XE) (o : Option Q4) (H : Heap) : Prop := SK o (sX X) H
theorem run_S (pc : Nat) (hC : CE X z nL cc own R0) (hM : MetK y bytes mL ret fr lo dc ds z As Pc o Qf free) (hw : WS own idx y bytes mL ret na) (hR : RmK R0 fr lo mL dc ds cn sn) (hn : As.length = na) (hst : st0 = As.reverse ++ st) (hcat : (st.map fun v => v.category).sum ≤ 8) (hd : decode cc pc = .ok (.invokestatic idx, 3)) (hP : ∀ H, P H → Pc (kX X) H ∧ SK o (sX X) H) : RunK X nL cn sn dc ds P pc st0 st (Qf (kX X)) free := by
  obtain ⟨p, l, e, R, s, m, args, below, meth, c, K, A, Q⟩ := X
  obtain ⟨hx, hb, hml, hown, hts, rfl, hX, hz, hA⟩ := hC
  obtain ⟨w1, w2, w3, w4, w6⟩ := hw
  intro H locs ls hW hS hl
  exact va_runS (As := As) (rest := st) ⟨hx, hb, hml, hown, hts⟩ (hM l K) ⟨callB_of na hts (tw_in w1) rfl rfl rfl (hts _ w4) (hts _ w2) w6 hR.1, hts _ w3⟩ ⟨PRE_blind, fun U hU hWm => ⟨rfl, by rw [hU]; exact (hP H hW).1, by rw [hU]; exact (hP H hW).2.moved hWm.alike, hX.go hS hA hU hWm, by rw [hU]; exact Nat.le_trans hz hS.1⟩⟩ rfl hn hl hst (lv_room hcat) hd hR.2
def Recv (X : XE) (C : String) (b : Nat) (H : Heap) : Prop := ∃ cellB : Cell, H[b]? = some cellB ∧ cellB.vm.isStatics = false ∧ (sX X).vm.findClass C = some cellB.cls
theorem recE {B i t b : Nat} {σ : SS} {E : va_W} {fs : List Value} {q : vw_C} (hC : CE X z nL cc own R0) (hE : E[i]? = some (b, .inr (t, fs))) (hc : vwCl[t]? = some q) {H : Heap} (hP : PE (kX X) z.1 B σ E H) : Recv X q.1 b H := by
  obtain ⟨p, l, e, R, s, m, args, below, meth, c, K, A, Q⟩ := X
  exact va_recv hC.2.2.2.2.2.2.1.1 hP.2.2.1 hc (WLE_at hE)
theorem recC {B : Nat} {σ : SS} {E : va_W} (hC : CE X z nL cc own R0) {H : Heap} (hP : PE (kX X) z.1 B σ E H) : Recv X RX9 (B + 0) H := by
  obtain ⟨p, l, e, R, s, m, args, below, meth, c, K, A, Q⟩ := X
  exact va_recv (ci := 9) (q := (RX9, TX9, 13)) hC.2.2.2.2.2.2.1.1 hP.2.2.1 rfl ((WLE_lo (k := 0) (by decide)).trans (by rw [ent_obj (k := 0) rfl]))
theorem recS {q : Q4} {H : Heap} (h : SK (some q) (sX X) H) : Recv X RJ0 q.1 H := by
  obtain ⟨cell, h1, h2, h3, -⟩ := h.1
  exact ⟨cell, h1, h2, h3⟩
theorem run_V {C : String} {b : Nat} (pc : Nat) (hC : CE X z nL cc own R0) (hM : MetK y bytes mL ret fr lo dc ds z (.ref b :: As) Pc o Qf free) (hw : WV own idx C y bytes mL ret na) (hR : RmK R0 fr lo mL dc ds cn sn) (hn : As.length = na) (hst : st0 = As.reverse ++ .ref b :: st) (hcat : (st.map fun v => v.category).sum ≤ 8) (hd : decode cc pc = .ok (.invokevirtual idx, 3)) (hP : ∀ H, P H → Pc (kX X) H ∧ SK o (sX X) H ∧ Recv X C b H) : RunK X nL cn sn dc ds P pc st0 st (Qf (kX X)) free := by
  obtain ⟨p, l, e, R, s, m, args, below, meth, c, K, A, Q⟩ := X
  obtain ⟨hx, hb, hml, hown, hts, rfl, hX, hz, hA⟩ := hC
  obtain ⟨w1, w2, w3, w4, w5, w6⟩ := hw
  intro H locs ls hW hS hl
  refine va_runV (As := As) (rest := st) ⟨hx, hb, hml, hown, hts⟩ (hM l K) (cwV na hts (tb_in (fun w h => ?_)) rfl rfl rfl w6 hR.1) ⟨PRE_blind, (hP H hW).2.2, fun U hU hWm => ⟨rfl, by rw [hU]; exact (hP H hW).1, by rw [hU]; exact (hP H hW).2.1.moved hWm.alike, hX.go hS hA hU hWm, by rw [hU]; exact Nat.le_trans hz hS.1⟩⟩ rfl hn hl hst (lv_room hcat) hd hR.2
  unfold wsV at h
  rcases List.mem_append.mp h with h | h
  · simp only [List.mem_cons, List.not_mem_nil, or_false] at h
    rcases h with rfl | rfl | rfl | rfl
    · exact w2
    · exact w3
    · exact w4
    · exact w5
  · exact (tw_in w1 w h).1
theorem run_I {b : Nat} (pc : Nat) (hC : CE X z nL cc own R0) (hM : MetK y bytes mL none fr lo dc ds z (.ref b :: As) Pc o Qf free) (hw : Cond.code y bytes mL none ∈ TB ∧ Cond.methodLink own idx y ∈ TB ∧ Cond.instanceMethod y ∈ TB ∧ Cond.initialized y.cls ∈ TB ∧ y.name = "<init>" ∧ (y.cls ≠ "java/lang/invoke/MethodHandle" ∧ y.cls ≠ "java/lang/invoke/VarHandle" ∧ (parseMethodDescriptor y.desc).map (fun d => d.parameters.length) = some na)) (hR : RmK R0 fr lo mL dc ds cn sn) (hn : As.length = na) (hst : st0 = As.reverse ++ .ref b :: st) (hcat : (st.map fun v => v.category).sum ≤ 8) (hd : decode cc pc = .ok (.invokespecial idx, 3)) (hP : ∀ H, P H → Pc (kX X) H ∧ SK o (sX X) H) : RunK X nL cn sn dc ds P pc st0 st (Qf (kX X)) free := by
  obtain ⟨p, l, e, R, s, m, args, below, meth, c, K, A, Q⟩ := X
  obtain ⟨hx, hb, hml, hown, hts, rfl, hX, hz, hA⟩ := hC
  obtain ⟨w1, w2, w3, w4, w5, w6⟩ := hw
  intro H locs ls hW hS hl
  exact va_runI (As := As) (rest := st) ⟨hx, hb, hml, hown, hts⟩ (hM l K) (cwI na hts (tw_in w1) rfl rfl rfl (hts _ w4) (hts _ w2) (hts _ w3) w5 w6 hR.1) ⟨PRE_blind, fun U hU hWm => ⟨rfl, by rw [hU]; exact (hP H hW).1, by rw [hU]; exact (hP H hW).2.moved hWm.alike, hX.go hS hA hU hWm, by rw [hU]; exact Nat.le_trans hz hS.1⟩⟩ rfl hn hl hst (lv_room hcat) hd hR.2
/-- an inherited method, on a receiver whose class is number t -/
def WU (own : String) (idx t : Nat) (x y : MethodName) (cc : ByteArray) (mL : Nat) (ret : Option FieldType) (na : Nat) : Prop := (∃ C T N, vwCl[t]? = some (C, T, N) ∧ (Cond.selects C x y ∈ TB ∨ (x = y ∧ y ∈ PVL ∧ C = RJ4))) ∧ Cond.code y cc mL ret ∈ TB ∧ Cond.methodLink own idx x ∈ TB ∧ Cond.sameMethod x.cls x.cls x.name x.desc ∈ TB ∧ Cond.instanceMethod x ∈ TB ∧ (∃ b0 m0 r0, Cond.code x b0 m0 r0 ∈ TB) ∧ Cond.instanceMethod y ∈ TB ∧ Cond.initialized y.cls ∈ TB ∧ (x.cls ≠ "java/lang/invoke/MethodHandle" ∧ x.cls ≠ "java/lang/invoke/VarHandle" ∧ (parseMethodDescriptor x.desc).map (fun d => d.parameters.length) = some na)
theorem sel_priv {C : String} {cC : ClassId} {y : MethodName} {s : State} {args : Array Value} (hc : s.vm.findClass C = some cC) (h1 : (Cond.sameMethod y.cls y.cls y.name y.desc).before args s = true) (h2 : (Cond.privateMethod y).before args s = true) (h3 : (Cond.instanceMethod y).before args s = true) : (Cond.selects C y y).before args s = true := by
  obtain ⟨c, ck, r, hc2, hck, hni, hf, hn⟩ := Cond.sameMethod_found h1
  have hn : s.methodNamed? y = some r := hn
  obtain ⟨mk, methM, hnamed, hmethM, -, -⟩ := Cond.instanceMethod_spec h3
  obtain rfl : mk = r := Option.some.inj (hnamed.symm.trans hn)
  have hcls : mk.cls = c := Option.some.inj ((findClass_of_methodNamed hnamed).symm.trans hc2)
  have hsel : selectMethod {} s.vm cC mk = .method mk := selectMethod_private hmethM (Cond.privateMethod_at h2 mk methM hnamed hmethM)
  simp only [Cond.before, Cond.holds, Cond.value, hc, hf, hn, hsel, hcls, hck]
  simp; exact hni
theorem run_U {t b : Nat} {x : MethodName} {q : vw_C} (pc : Nat) (hC : CE X z nL cc own R0) (hM : MetK y bytes mL ret fr lo dc ds z (.ref b :: As) Pc o Qf free) (hw : WU own idx t x y bytes mL ret na) (hR : RmK R0 fr lo mL dc ds cn sn) (hn : As.length = na) (hst : st0 = As.reverse ++ .ref b :: st) (hcat : (st.map fun v => v.category).sum ≤ 8) (hd : decode cc pc = .ok (.invokevirtual idx, 3)) (hq : vwCl[t]? = some q) (hP : ∀ H, P H → Pc (kX X) H ∧ SK o (sX X) H ∧ Recv X q.1 b H) : RunK X nL cn sn dc ds P pc st0 st (Qf (kX X)) free := by
  obtain ⟨p, l, e, R, s, m, args, below, meth, c, K, A, Q⟩ := X
  obtain ⟨hx, hb, hml, hown, hts, rfl, hX, hz, hA⟩ := hC
  obtain ⟨⟨C, T, N, hc, hsel⟩, w1, w2, w3, w4, ⟨b0, m0, r0, w5⟩, w6, w7, w8⟩ := hw
  obtain rfl : q = (C, T, N) := Option.some.inj (hq.symm.trans hc)
  have hfc := (hX.1.1 t _ hc).2.1
  have hs : (Cond.selects C x y).before args s = true := by
    rcases hsel with h | ⟨rfl, h, rfl⟩
    · exact hts _ h
    · exact va_Nw.use rfl (hX.2.2.2.2.2.2.2.2.2.2 _ h)
  intro H locs ls hW hS hl
  exact va_runU (x := x) (owner := x.cls) (C := C) (As := As) (rest := st) ⟨hx, hb, hml, hown, hts⟩ (hM l K) ⟨⟨rfl, rfl, hR.1.1, hR.1.2, pay_in hts (tw_in w1), List.mem_cons_self⟩, hts _ w1, hts _ w7, ⟨w8.1, w8.2.1⟩, fun sig h => by
      have h2 := w8.2.2
      rw [h] at h2
      exact (Option.some.inj h2).symm, hts _ w2, hts _ w3, va_Decl.of (hts _ w4) (hts _ w5), hs, hts _ w6⟩ ⟨PRE_blind, (hP H hW).2.2, fun U hU hWm => ⟨rfl, by rw [hU]; exact (hP H hW).1, by rw [hU]; exact (hP H hW).2.1.moved hWm.alike, hX.go hS hA hU hWm, by rw [hU]; exact Nat.le_trans hz hS.1⟩⟩ rfl hn hl hst (lv_room hcat) hd hR.2
/-- super's method -/
def WSU (own : String) (idx : Nat) (y : MethodName) (cc : ByteArray) (mL : Nat) (ret : Option FieldType) (na : Nat) : Prop := Cond.code y cc mL ret ∈ TB ∧ Cond.methodLink own idx y ∈ TB ∧ Cond.sameMethod y.cls y.cls y.name y.desc ∈ TB ∧ Cond.superclass own y.cls ∈ TB ∧ Cond.instanceMethod y ∈ TB ∧ Cond.initialized y.cls ∈ TB ∧ (y.name ≠ "<init>" ∧ (parseMethodDescriptor y.desc).map (fun d => d.parameters.length) = some na)
theorem run_SU {t b : Nat} {q : vw_C} (pc : Nat) (hC : CE X z nL cc own R0) (hM : MetK y bytes mL ret fr lo dc ds z (.ref b :: As) Pc o Qf free) (hw : WSU own idx y bytes mL ret na) (hR : RmK R0 fr lo mL dc ds cn sn) (hn : As.length = na) (hst : st0 = As.reverse ++ .ref b :: st) (hcat : (st.map fun v => v.category).sum ≤ 8) (hd : decode cc pc = .ok (.invokespecial idx, 3)) (hq : vwCl[t]? = some q) (hP : ∀ H, P H → Pc (kX X) H ∧ SK o (sX X) H ∧ Recv X q.1 b H) : RunK X nL cn sn dc ds P pc st0 st (Qf (kX X)) free := by
  obtain ⟨p, l, e, R, s, m, args, below, meth, c, K, A, Q⟩ := X
  obtain ⟨hx, hb, hml, hown, hts, rfl, hX, hz, hA⟩ := hC
  obtain ⟨w1, w2, w3, w4, w5, w6, w7⟩ := hw
  intro H locs ls hW hS hl
  refine va_runSU (As := As) (rest := st) (hX.1.1 t _ hq).2 ⟨hx, hb, hml, hown, hts⟩ (hM l K) (va_cwSU na hts (tb_in (fun w h => ?_)) rfl rfl rfl w7 hR.1) ⟨PRE_blind, (hP H hW).2.2, fun U hU hWm => ⟨rfl, by rw [hU]; exact (hP H hW).1, by rw [hU]; exact (hP H hW).2.1.moved hWm.alike, hX.go hS hA hU hWm, by rw [hU]; exact Nat.le_trans hz hS.1⟩⟩ rfl hn hl hst (lv_room hcat) hd hR.2
  unfold va_wsSU at h
  rcases List.mem_append.mp h with h | h
  · simp only [List.mem_cons, List.not_mem_nil, or_false] at h
    rcases h with rfl | rfl | rfl | rfl | rfl
    · exact w2
    · exact w3
    · exact w4
    · exact w5
    · exact w6
  · exact (tw_in w1 w h).1
theorem Wd_vm {B : Nat} {D : va_G} {cI cW : ClassId} {σ : SS} {s t : State} {H : Heap} (h : Wd D cI cW B 95 σ t H) (hv : s.vm.Alike t.vm) : Wd D cI cW B 95 σ s H := ⟨h.1, h.2.1, va_K.moved hv.symm h.2.2⟩
/-- a method of the class, of an int -/
theorem g_cls {B n2 : Nat} {σ : SS} {E : va_W} {C : String} {Q' : Int32 → SS → Prop} (pc : Nat) (hC : CE X z nL cc own R0) (hA0 : aX X = A0 z.1) (hM : MI y bytes mL (some .int) fr lo B 95 RS (.ref (B + 0) :: As) σ Q') (hw : WV own idx RX9 y bytes mL (some .int) na) (hR : RmK R0 fr lo mL 0 0 cn sn) (hn : As.length = na) (hst : st0 = As.reverse ++ .ref (B + 0) :: st) (hcat : (st.map fun v => v.category).sum ≤ 8) (hd : decode cc pc = .ok (.invokevirtual idx, 3)) (hP : ∀ H, P H → PE (kX X) z.1 B σ E H) (kk : ∀ r τ, Q' r τ → G X nL (PE (kX X) z.1 B τ E) cn sn lv (pc + 3) (.int r :: st)) : G X nL P cn sn lv pc st0 := by
  have hrec := fun H hW => recC hC (hP H hW)
  obtain ⟨p, l, e, R, s, m, args, below, meth, c, K, A, Q⟩ := X
  obtain ⟨hx, hb, hml, hown, hts, rfl, hX, hz, hA⟩ := hC
  obtain ⟨w1, w2, w3, w4, w5, w6⟩ := hw
  have hA0 : A = A0 z.1 := hA0
  subst hA0
  intro H locs ls hW hS hl
  have hPE := hP H hW
  have hWd := hPE.wd hX.1
  have hB : ∀ q, RA B q → A0 z.1 q := fun q hq => Nat.le_trans hPE.1 hq.1
  refine va_calli (A1 := RA B) (free := RA B) (va_runV (As := As) (rest := st) ⟨hx, hb, hml, hown, hts⟩ (hM l K.1 K.2.1.1 K.2.1.2.1) (cwV na hts (tb_in (fun w h => ?_)) rfl rfl rfl w6 hR.1) ⟨Pw_blind, hrec H hW, fun U hU hWm => ⟨rfl, ⟨⟨by rw [hU]; exact hWd.1, by rw [hU]; exact hWd.2.1, va_K.moved hWm.alike hWd.2.2⟩, hPE.2.1⟩, hX.2.1.warm hWm⟩⟩ rfl hn hl.1 hst (lv_room hcat) hd hR.2) hS (fun q _ h => hB q h) hB (fun r u t H1 locs ht hvm hw hB2 hz1 hk1 hS => ?_)
  · unfold wsV at h
    rcases List.mem_append.mp h with h | h
    · simp only [List.mem_cons, List.not_mem_nil, or_false] at h
      rcases h with rfl | rfl | rfl | rfl
      · exact w2
      · exact w3
      · exact w4
      · exact w5
    · exact (tw_in w1 w h).1
  · subst ht
    exact kk r u hw _ locs ls (hPE.cls (Wd_vm hB2.1 hvm) hB2.2 hk1) hS hl
/-- a static of the law over the class's cells alone -/
theorem g_clsS {B : Nat} {σ : SS} {E : va_W} {Q' : Int32 → SS → Prop} (pc : Nat) (hC : CE X z nL cc own R0) (hA0 : aX X = A0 z.1) (hM : MI y bytes mL ret fr lo B 95 RS As σ Q') (hw : WS own idx y bytes mL ret na) (hR : RmK R0 fr lo mL 0 0 cn sn) (hn : As.length = na) (hst : st0 = As.reverse ++ st) (hcat : (st.map fun v => v.category).sum ≤ 8) (hd : decode cc pc = .ok (.invokestatic idx, 3)) (hP : ∀ H, P H → PE (kX X) z.1 B σ E H) (kk : ∀ r τ, Q' r τ → G X nL (PE (kX X) z.1 B τ E) cn sn lv (pc + 3) (.int r :: st)) : G X nL P cn sn lv pc st0 := by
  obtain ⟨p, l, e, R, s, m, args, below, meth, c, K, A, Q⟩ := X
  obtain ⟨hx, hb, hml, hown, hts, rfl, hX, hz, hA⟩ := hC
  have hA0 : A = A0 z.1 := hA0
  subst hA0
  intro H locs ls hW hS hl
  have hPE := hP H hW
  have hWd := hPE.wd hX.1
  have hB : ∀ q, RA B q → A0 z.1 q := fun q hq => Nat.le_trans hPE.1 hq.1
  refine va_calli (A1 := RA B) (free := RA B) (va_runS (As := As) (rest := st) ⟨hx, hb, hml, hown, hts⟩ (hM l K.1 K.2.1.1 K.2.1.2.1) (ws_cb hts hw hR.1) ⟨Pw_blind, fun U hU hWm => ⟨rfl, ⟨⟨by rw [hU]; exact hWd.1, by rw [hU]; exact hWd.2.1, va_K.moved hWm.alike hWd.2.2⟩, hPE.2.1⟩, hX.2.1.warm hWm⟩⟩ rfl hn hl.1 hst (lv_room hcat) hd hR.2) hS (fun q _ h => hB q h) hB (fun r u t H1 locs ht hvm hw hB2 hz1 hk1 hS => ?_)
  subst ht
  exact kk r u hw _ locs ls (hPE.cls (Wd_vm hB2.1 hvm) hB2.2 hk1) hS hl
end GK
