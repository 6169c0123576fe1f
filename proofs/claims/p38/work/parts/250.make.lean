/-! making: the rows of constructors -/
def Tr : SS → Prop := fun _ => True
/-- nothing has been written from the cell n on -/
def Z (n : Nat) (σ : SS) : Prop := ∀ k, n ≤ k → σ k = fun _ => 0
theorem Z.up {n m : Nat} {σ : SS} (h : Z n σ) (hm : n ≤ m) : Z m σ := fun k hk => h k (by omega)
theorem Z.u {n a j : Nat} {x : Int32} {σ : SS} (h : Z n σ) (ha : a < n) : Z n (u2 σ a j x) := fun k hk => by rw [u2_ne σ j x (by omega)]; exact h k hk
def Ini (X : XT) : Prop := match X with
  | (p, l, e, R, s, m, args, below, meth, c, D, cI, cW, Q) => meth.name = "<init>"
def AOX (X : XT) : Prop := match X with
  | (p, l, e, R, s, m, args, below, meth, c, D, cI, cW, Q) => va_AO RX8 s
def rmC (fr dc ds lo : Nat) : Room := { frames := fr, cells := dc, slots := ds, locals := lo }
/-- a contract of a constructor: cells from n to n' come -/
def MN (y : MethodName) (cc : ByteArray) (mL : Nat) (fr lo B n n' dc ds : Nat) (av : List Value) (σ : SS) (Q : SS → Prop) : Prop := ∀ (l : Launch) (D : va_G) (cI cW : ClassId), Met l y (TW y cc mL none) (rmC fr dc ds lo) (va_Pc av (fun U => Wd D cI cW B n σ U U.heap ∧ NW U ∧ va_AO RX8 U)) (va_Qv Q (fun τ t => Wd D cI cW B n' τ t t.heap) (RA B)) dc ds (RA B)
def RtN (X : XT) (nL B n' dc ds : Nat) (cc : ByteArray) (Q' : SS → Prop) : Prop := ∀ (pc : Nat) (σ : SS) (lv : List (Nat × Value)), decode cc pc = .ok (.return_, 1) → Q' σ → J X nL B n' Tr dc ds σ lv pc []
theorem MN.mk {y : MethodName} {cc : ByteArray} {mL fr lo B n n' dc ds : Nat} {av : List Value} {σ : SS} {Q' : SS → Prop} (hy : plainFor y = true) (hnm : y.name = "<init>") (hlen : (lg_sl av).length ≤ mL) (h : ∀ X, Cx X mL cc y.cls (rmC fr dc ds lo) → Ini X → AOX X → RtN X mL B n' dc ds cc Q' → J X mL B n Tr 0 0 σ (lv_args 0 av) 0 []) : MN y cc mL fr lo B n n' dc ds av σ Q' := by
  intro l D cI cW
  refine my_ofW (cc := cc) (maxL := mL) (ret := none) hy rfl ?_
  intro p e s m args below meth c s₁ Bd hml hv
  obtain ⟨rfl, hW, hN, hA⟩ := hv
  have hts := atoms_spec (ws := TW y cc mL none) Bd.pre
  have hlocks := Bd.notSynchronized
  have hin : meth.name = y.name := (name_of_methodNamed Bd.named Bd.method).1
  rw [lg_entry_eq]
  refine h (p, l, e, _, s, m, _, below, meth, c, D, cI, cW, _) ⟨Bd.exec, Bd.bytes, hml, findClass_of_methodNamed Bd.named, fun w hw => hts w (List.mem_cons_of_mem _ hw), rfl, hN⟩ (hin.trans hnm) hA ?_ s.heap [] _ hW trivial va_S.rf (lv_entry av hlen)
  intro pc σ lv hd hq H locs ls hW hI hS hl
  exact W.vret Bd.exec Bd.bytes Bd.returns (fun t ht hWm => ⟨⟨σ, rfl, hq, by rw [ht]; exact hW.1, by rw [ht]; exact hW.2.1, va_K.moved hWm.alike hW.2.2⟩, hS.F ht⟩) hS.2.2 hd
theorem kt_lt {n : Nat} {q : Nat × Nat × List (Option Nat)} (h : kt n = q) (hq : q ≠ (0, 0, [])) : n < 95 := by
  refine Nat.lt_of_not_le fun h9 => hq ?_
  rw [← h]
  unfold kt
  rw [List.getD_eq_getElem?_getD, List.getElem?_eq_none (by show 95 ≤ n; exact h9)]
  rfl
section JN
variable {X : XT} {nL B n cn sn : Nat} {σ : SS} {lv : List (Nat × Value)} {cc : ByteArray} {own : String} {R0 : Room} {st : List Value}
theorem WL_new {cI cW : ClassId} (hz : σ n = fun _ => 0) : WL B cI cW n σ ++ [(B + n, ent B cI cW n (fun _ => 0))] = WL B cI cW (n + 1) σ := by
  rw [WL_push]
  congr 1
  funext a
  by_cases e : a = n
  · subst e; rw [if_pos rfl, hz]
  · rw [if_neg e]
theorem Wd_new {D : va_G} {cI cW : ClassId} {s : State} {H H1 : Heap} (h : Wd D cI cW B n σ s H) (hn : n < 95) (hz : σ n = fun _ => 0) (z1 : H1.size = B + n + 1) (o1 : ∀ q, q < B + n → H1[q]? = H[q]?) (he : va_at D vwCl (B + n, ent B cI cW n (fun _ => 0)) H1) : Wd D cI cW B (n + 1) σ s H1 := by
  refine ⟨⟨hn, fun _ => by rw [z1]; omega, by rw [z1]; omega⟩, ?_, h.2.2⟩
  rw [← WL_new hz]
  refine va_P.app (h.2.1.kept fun k q hk => o1 q.1 ?_) fun k q hk => ?_
  · rw [← h.1.2.1 hn]; exact (h.2.1 k q hk).lt
  · have hz : k < 1 := (List.getElem?_eq_some_iff.mp hk).1
    rw [show k = 0 by omega] at hk
    cases hk
    exact he
theorem va_S.new {s : State} {H H1 : Heap} {locs : List Loc} (hS : va_S (RA B) s.heap H locs) (hh : H.size = B + n) (z1 : H1.size = B + n + 1) (o1 : ∀ q, q < B + n → H1[q]? = H[q]?) : va_S (RA B) s.heap H1 locs :=
  ⟨Nat.le_trans hS.1 (by omega), fun x h1 h2 => (o1 x (by have := hS.1; omega)).trans (hS.2.1 x h1 h2), hS.2.2⟩
theorem j_newO {t N idx : Nat} {C : String} {T : u_T} {fl : List (Option Nat)} {tyf : Nat → FieldType} (pc : Nat) (hC : Cx X nL cc own R0) (hc : vwCl[t]? = some (C, T, N)) (hin : ∀ w ∈ u_ws C T N, w ∈ TB) (hty : ∀ k, k < N → parseFieldDescriptor (T k).2.2.1 = some (tyf k)) (w1 : Cond.classLink own idx C ∈ TB) (w2 : Cond.instantiable C N ∈ TB) (w3 : Cond.initialized C ∈ TB) (hk : kt n = (t + 2, N, fl)) (hz : σ n = fun _ => 0) (hfs : ∀ j, j < N → defaultValue (tyf j) = rv B (fl.getD j none) 0) (hcn : cn + 1 ≤ R0.cells) (hsn : sn + N ≤ R0.slots) (hd : decode cc pc = .ok (.new idx, 3)) (k : J X nL B (n + 1) Tr (cn + 1) (sn + N) σ lv (pc + 3) (.ref (B + n) :: st)) : J X nL B n Tr cn sn σ lv pc st := by
  obtain ⟨p, l, e, R, s, m, args, below, meth, c, D, cI, cW, Q⟩ := X
  obtain ⟨hx, hb, hml, hown, hts, rfl, hN⟩ := hC
  intro H locs ls hW hI hS hl
  have hKn := hW.2.2.1 t _ hc
  have hn : n < 95 := kt_lt hk (by simp)
  have hH := hW.1.2.1 hn
  refine W.newcK hx hb hown (hts _ w1) (hts _ w2) (hts _ w3) rfl hd hcn hsn hKn.2.1 hH fun H1 kC hkC e1 z1 o1 => ?_
  refine k H1 locs ls (Wd_new hW hn hz z1 o1 ?_) trivial (hS.new hH z1 o1) hl
  rw [ent_obj hk]
  exact ⟨_, hc, (u_born tyf hts hin hKn hkC e1 hty).to (fun j hj => by rw [hfs j hj]; simp [vp_V, hj])⟩
theorem j_newI {N : Nat} {v : Int32} (pc : Nat) (hC : Cx X nL cc own R0) (w1 : Cond.arrayClass .int ∈ TB) (hk : kt n = (0, N, [])) (hz : σ n = fun _ => 0) (hv : ¬ v < 0) (hN : v.toNatClampNeg = N) (hN2 : 0 < N ∧ N ≤ 1000) (hcn : cn + 1 ≤ R0.cells) (hsn : sn + N ≤ R0.slots) (hd : decode cc pc = .ok (.newarray .int, 2)) (k : J X nL B (n + 1) Tr (cn + 1) (sn + N) σ lv (pc + 2) (.ref (B + n) :: st)) : J X nL B n Tr cn sn σ lv pc (.int v :: st) := by
  obtain ⟨p, l, e, R, s, m, args, below, meth, c, D, cI, cW, Q⟩ := X
  obtain ⟨hx, hb, hml, hown, hts, rfl, hN1⟩ := hC
  intro H locs ls hW hI hS hl
  have hn : n < 95 := kt_lt hk (by intro e; have e2 : N = 0 := congrArg (fun q => q.2.1) e; omega)
  have hH := hW.1.2.1 hn
  refine va_newaK (atype := .int) hx hb (hts _ w1) rfl hd rfl hv hN (by have := hN2.2; show N * 4 ≤ _; omega) hcn hsn hH fun H1 cA e1 z1 o1 hAr hNm => ?_
  have ecA : cA = cI := Option.some.inj (hNm.symm.trans (hW.2.2.2 0 _ rfl).2)
  subst ecA
  refine k H1 locs ls (Wd_new hW hn hz z1 o1 ?_) trivial (hS.new hH z1 o1) hl
  rw [ent_arr hk]
  show H1[B + n]? = some (vp_cell _ _)
  rw [e1, vp_cell_i]
  rfl
theorem j_newW {N idx : Nat} {v : Int32} (pc : Nat) (hC : Cx X nL cc own R0) (hA : AOX X) (w1 : Cond.classLink own idx RX8 ∈ TB) (hk : kt n = (1, N, [])) (hz : σ n = fun _ => 0) (hv : ¬ v < 0) (hN : v.toNatClampNeg = N) (hN2 : N ≤ 1000) (hcn : cn + 1 ≤ R0.cells) (hsn : sn + N ≤ R0.slots) (hd : decode cc pc = .ok (.anewarray idx, 3)) (k : J X nL B (n + 1) Tr (cn + 1) (sn + N) σ lv (pc + 3) (.ref (B + n) :: st)) : J X nL B n Tr cn sn σ lv pc (.int v :: st) := by
  obtain ⟨p, l, e, R, s, m, args, below, meth, c, D, cI, cW, Q⟩ := X
  obtain ⟨hx, hb, hml, hown, hts, rfl, hN1⟩ := hC
  intro H locs ls hW hI hS hl
  have hn : n < 95 := kt_lt hk (by simp)
  have hH := hW.1.2.1 hn
  subst hN
  refine W.anew (C := RX8) hx hb hown (hts _ w1) (va_AO.use hA) rfl hd rfl hv (by omega) hcn hsn fun cA kA comp f1 f2 f3 f4 => ?_
  generalize hH1 : H.push ({ cls := cA, slots := Array.replicate v.toNatClampNeg .null, vm := .none } : Cell) = H1
  have z1 : H1.size = B + n + 1 := by rw [← hH1, Array.size_push, hH]
  have e1 : H1[H.size]? = some (arrV cA v.toNatClampNeg (fun _ => .null)) := by rw [← hH1, Array.getElem?_push_size, ← arrV_new]
  have o1 : ∀ q : Nat, q < B + n → H1[q]? = H[q]? := fun q hq => by rw [← hH1, Array.getElem?_push, if_neg (by rw [hH]; omega)]
  have ecA : cA = cW := by
    obtain ⟨kA2, comp2, h1, h2, h3, h4⟩ := (hW.2.2.2 1 _ rfl).2
    exact Option.some.inj (f1.symm.trans h4)
  subst ecA
  rw [hH] at e1
  rw [hH]
  refine k H1 locs ls (Wd_new hW hn hz z1 o1 ?_) trivial (hS.new hH z1 o1) hl
  rw [ent_wal hk]
  show H1[B + n]? = some (vp_cell _ _)
  rw [e1, vp_cell_q]
  rfl
theorem j_getR1 {t j g idx a N : Nat} {fl : List (Option Nat)} (pc : Nat) (hC : Cx X nL cc own R0) (hF : Fd8 own idx t j) (hk : kt a = (t + 2, N, fl)) (ha : a < n) (hj : j < N) (hf : fl.getD j none = some g) (h1 : σ a j = 1) (hd : decode cc pc = .ok (.getfield idx, 3)) (k : J X nL B n Tr cn sn σ lv (pc + 3) (.ref (B + g) :: st)) : J X nL B n Tr cn sn σ lv pc (.ref (B + a) :: st) := by
  refine j_get pc hC hF hk ha hj hd ?_
  rw [hf, h1]
  exact k
theorem j_iast1 {a N : Nat} {fl : List (Option Nat)} {i x : Int32} (pc q : Nat) (hC : Cx X nL cc own R0) (hk : kt a = (0, N, fl)) (ha : a < n) (hin : vp_in i N) (hq : i.toNatClampNeg = q) (hd : decode cc pc = .ok (.iastore, 1)) (k : J X nL B n Tr cn sn (u2 σ a q x) lv (pc + 1) st) : J X nL B n Tr cn sn σ lv pc (.int x :: .int i :: .ref (B + a) :: st) := by
  subst hq
  exact j_ast pc hC hk ha hin (fun _ => trivial) hd k
theorem j_putF {t j g idx a N : Nat} {fl : List (Option Nat)} {ty : FieldType} (pc : Nat) (hC : Cx X nL cc own R0) (hIn : Ini X) (hF : Fd8 own idx t j) (hk : kt a = (t + 2, N, fl)) (ha : a < n) (hj : j < N) (hf : fl.getD j none = some g) (hfin : ∀ C T N', vwCl[t]? = some (C, T, N') → (T j).2.2.2 = true ∧ parseFieldDescriptor (T j).2.2.1 = some ty ∧ C = own) (hn : narrow ty (.ref (B + g)) = .ref (B + g)) (hfit : fits ty (.ref (B + g)) = true) (hd : decode cc pc = .ok (.putfield idx, 3)) (k : J X nL B n Tr cn sn (u2 σ a j 1) lv (pc + 3) st) : J X nL B n Tr cn sn σ lv pc (.ref (B + g) :: .ref (B + a) :: st) := by
  obtain ⟨p, l, e, R, s, m, args, below, meth, c, D, cI, cW, Q⟩ := X
  obtain ⟨C, T, N', hc, hin, hty, hnm, hj', hlk, hT⟩ := hF
  obtain ⟨hf1, hf2, hf3⟩ := hfin _ _ _ hc
  intro H locs ls hW hI hS hl
  have hts := hC.2.2.2.2.1
  obtain ⟨tyf, htyf⟩ : ∃ tyf : Nat → FieldType, ∀ k, k < N' → parseFieldDescriptor (T k).2.2.1 = some (tyf k) := ⟨fun k => if h : k < N' then (hty k h).choose else .int, fun k hk => by simp only [dif_pos hk]; exact (hty k hk).choose_spec⟩
  have hap := va_apart (own := own) hts hin tyf htyf hnm hW.2.2 hc
  obtain ⟨r, h1, cell, q1, q2, q3, q4⟩ := hW.2.1 a _ (by rw [WL_get ha, ent_obj hk])
  have hr : r = (C, T, N') := Option.some.inj (h1.symm.trans hc)
  subst hr
  obtain ⟨hSl, hfc, kC, hkC, hkind⟩ := hW.2.2.1 t _ hc
  obtain ⟨cf, kf, fi, f, hi, hsl⟩ := hSl j hj'
  have hlay := hts _ (hin _ (u_in_lay hj'))
  unfold u_lay at hlay
  rw [if_pos hf1] at hlay
  have hst := (u_facts hfc hkC (u_lays hts hin hj') hi).1
  have hcf : m.cls = cf := by
    obtain ⟨_, _, c', _, _, _, -, -, hf', -, -, -, hown2, -⟩ := Cond.laysFinal_spec hlay
    have e1 : c' = cf := by have := hi.symm.trans hf'; simp at this; exact this.1.symm
    rw [hT, hf3] at hown2
    rw [← e1]; exact Option.some.inj (hC.2.2.2.1.symm.trans hown2)
  have h6 := u_fits hfc hkC hkind (Or.inr hlay) hi hf2 hn hfit
  refine W.putFinK hC.1 hC.2.1 hC.2.2.2.1 (hts _ hlk) hi hst hcf hIn (by rw [q2]; exact h6) q1 q3 (by rw [hsl]; exact k2_hasslot (q4 j hj')) rfl rfl hd fun H' e1 e2 e3 => ?_
  rw [hsl] at e1 ⊢
  refine k H' _ ls (Wd_put hW ha e2 e3 ?_) trivial (hS.put e2 e3 (RA_in ha hW.1.1)) hl
  rw [ent_obj hk, ← ent_set hj, hf]
  exact ⟨_, hc, t_OB.to (V := updV (vp_V _) j (.ref (B + g))) ⟨_, e1, q2, q3, t_set q4 hap hj' (.ref (B + g))⟩ (fun i _ => vp_updV_set (by simp [hj]) (.ref (B + g)) i)⟩
theorem j_putI1 {t j idx a N : Nat} {fl : List (Option Nat)} {x : Int32} (pc : Nat) (hC : Cx X nL cc own R0) (hF : Fd8 own idx t j) (hk : kt a = (t + 2, N, fl)) (ha : a < n) (hj : j < N) (hf : fl.getD j none = none) (hfin : ∀ C T N', vwCl[t]? = some (C, T, N') → (T j).2.2.2 = false ∧ parseFieldDescriptor (T j).2.2.1 = some .int) (hd : decode cc pc = .ok (.putfield idx, 3)) (k : J X nL B n Tr cn sn (u2 σ a j x) lv (pc + 3) st) : J X nL B n Tr cn sn σ lv pc (.int x :: .ref (B + a) :: st) :=
  j_put (x := x) pc hC hF hk ha hj hfin (by rw [hf]; rfl) rfl rfl (fun _ => trivial) hd k
theorem j_putZ1 {t j idx a N : Nat} {fl : List (Option Nat)} {x : Int32} (pc : Nat) (hC : Cx X nL cc own R0) (hF : Fd8 own idx t j) (hk : kt a = (t + 2, N, fl)) (ha : a < n) (hj : j < N) (hf : fl.getD j none = none) (hfin : ∀ C T N', vwCl[t]? = some (C, T, N') → (T j).2.2.2 = false ∧ parseFieldDescriptor (T j).2.2.1 = some .boolean) (hx : narrow .boolean (.int x) = .int x) (hfi : fits .boolean (.int x) = true) (hd : decode cc pc = .ok (.putfield idx, 3)) (k : J X nL B n Tr cn sn (u2 σ a j x) lv (pc + 3) st) : J X nL B n Tr cn sn σ lv pc (.int x :: .ref (B + a) :: st) :=
  j_put (x := x) pc hC hF hk ha hj hfin (by rw [hf]; rfl) hx hfi (fun _ => trivial) hd k
theorem j_ini {a idx : Nat} (pc : Nat) (hC : Cx X nL cc own R0) (w1 : Cond.methodLink own idx Lib.objectInit ∈ TB) (w2 : Cond.instanceMethod Lib.objectInit ∈ TB) (w3 : Cond.code Lib.objectInit ⟨#[0xb1]⟩ 1 none ∈ TB) (hfr : 1 ≤ R0.frames) (hlo : (st.map fun v => v.category).sum + 12 ≤ R0.locals) (hd : decode cc pc = .ok (.invokespecial idx, 3)) (k : J X nL B n Tr cn sn σ lv (pc + 3) st) : J X nL B n Tr cn sn σ lv pc (.ref a :: st) := by
  obtain ⟨p, l, e, R, s, m, args, below, meth, c, D, cI, cW, Q⟩ := X
  obtain ⟨hx, hb, hml, hown, hts, rfl, hN1⟩ := hC
  intro H locs ls hW hI hS hl
  refine W.objInit hx hb hown (hts _ w1) (hts _ w2) (hts _ w3) rfl (hl.1.trans hml.symm) rfl hd hfr (by show 2 * 0 + _ + 12 ≤ _; omega) ?_
  exact W.eq (g2 := F0 m (pc + 3) ls st) rfl (k H locs ls hW hI hS hl)
theorem j_aastW {i : Nat} (pc : Nat) (hC : Cx X nL cc own R0) (h23 : 23 < n) (hi : i < 8) (hw : 24 + 7 * i < n) (hd : decode cc pc = .ok (.aastore, 1)) (k : J X nL B n Tr cn sn (u2 σ 23 i 1) lv (pc + 1) st) : J X nL B n Tr cn sn σ lv pc (.ref (B + (24 + 7 * i)) :: .int (nI i) :: .ref (B + 23) :: st) := by
  obtain ⟨p, l, e, R, s, m, args, below, meth, c, D, cI, cW, Q⟩ := X
  obtain ⟨hx, hb, hml, hown, hts, rfl, hN1⟩ := hC
  intro H locs ls hW hI hS hl
  have hiw : isW (24 + 7 * i) := by unfold isW; omega
  have h0 : va_at D vwCl (B + 23, .inl (cW, (8, .inr (.inr (.inr (.inr (fun j => if σ 23 j = 0 then none else some (B + (24 + 7 * j))))))))) H := by
    have h := hW.2.1 23 _ (WL_get h23)
    rw [ent_wal (fl := []) rfl] at h
    exact h
  obtain ⟨r', hr', cellV, g1, g2, g3, -⟩ := hW.2.1 (24 + 7 * i) _ (by rw [WL_get hw, ent_obj (kW hiw)])
  have hcls := (hW.2.2.1 8 r' hr').2
  have er : r' = (RX8, TX8, 11) := Option.some.inj (hr'.symm.trans rfl)
  subst er
  obtain ⟨kA, comp, k1, k2, k3, -⟩ := (hW.2.2.2 1 _ rfl).2
  have hcomp : comp = D.1 8 := Option.some.inj (k3.symm.trans hcls.1)
  subst hcomp
  have hcls2 := hcls
  obtain ⟨kC, hkC, -⟩ := hcls.2
  refine W.aast hx hb h0 (fun q h => by cases h) (fun h => by cases h) k1 k2 rfl hkC ⟨nI_n0 (by omega), by show _ < (arrV _ _ _).slots.size; rw [arrV_size, nI_clamp (by omega)]; exact hi⟩ g1 (fun q h => by rw [g3] at h; cases h) (by rw [g2]; exact hkC) (by rw [g2]; exact va_assign hcls2) rfl rfl hd fun H1 e z oq => ?_
  refine k H1 _ ls (Wd_put hW h23 z oq ?_) trivial (hS.put z oq (RA_in h23 hW.1.1)) hl
  rw [ent_wal (fl := []) rfl]
  show H1[B + 23]? = some (vp_cell _ _)
  rw [e]
  rw [vp_cell_q, vp_cell_q, arrV_store, nI_clamp (by omega)]
  congr 2
  funext q
  by_cases hq : q = i
  · subst hq
    simp [updV, upd, va_rf]
  · simp [updV, upd, hq]
/-- what the tables say of a constructor's call -/
def WI (own : String) (idx : Nat) (y : MethodName) (cc : ByteArray) (mL : Nat) : Prop := Cond.code y cc mL none ∈ TB ∧ Cond.methodLink own idx y ∈ TB ∧ Cond.instanceMethod y ∈ TB ∧ Cond.initialized y.cls ∈ TB ∧ y.name = "<init>" ∧ (y.cls ≠ "java/lang/invoke/MethodHandle" ∧ y.cls ≠ "java/lang/invoke/VarHandle" ∧ (parseMethodDescriptor y.desc).map (fun d => d.parameters.length) = some 0)
def WIN (own : String) (idx : Nat) (host : String) (y : MethodName) (cc : ByteArray) (mL : Nat) : Prop := Cond.code y cc mL none ∈ TB ∧ (own, idx, y, host) ∈ NL ∧ Cond.instanceMethod y ∈ TB ∧ Cond.initialized y.cls ∈ TB ∧ y.name = "<init>" ∧ (y.cls ≠ "java/lang/invoke/MethodHandle" ∧ y.cls ≠ "java/lang/invoke/VarHandle" ∧ (parseMethodDescriptor y.desc).map (fun d => d.parameters.length) = some 0)
variable {y : MethodName} {bytes : ByteArray} {mL fr lo n' dc ds idx a : Nat} {host : String} {Q' : SS → Prop}
theorem PN_blind {av : List Value} {D : va_G} {cI cW : ClassId} : FrameBlind (va_Pc av (fun U => Wd D cI cW B n σ U U.heap ∧ NW U ∧ va_AO RX8 U)) := by
  intro a U g mk q
  obtain ⟨e, ⟨h1, h2, h3⟩, h4, h5⟩ := q
  exact ⟨e, ⟨h1, h2, va_K.moved (u := U) (U := U.calling g mk a) (Vm.Alike.refl U.vm) h3⟩, NW.same rfl h4, va_AO.moved (u := U) (U := U.calling g mk a) (Vm.Alike.refl U.vm) h5⟩
theorem j_I0 (pc : Nat) (hC : Cx X nL cc own R0) (hA : AOX X) (hM : MN y bytes mL fr lo B n n' dc ds [.ref (B + a)] σ Q') (hw : WI own idx y bytes mL) (hR : fr + 1 ≤ R0.frames ∧ 8 + (mL + 11) + lo ≤ R0.locals) (hR2 : cn + dc ≤ R0.cells ∧ sn + ds ≤ R0.slots) (hcat : (st.map fun v => v.category).sum ≤ 8) (hd : decode cc pc = .ok (.invokespecial idx, 3)) (kk : ∀ τ, Q' τ → J X nL B n' Tr (cn + dc) (sn + ds) τ lv (pc + 3) st) : J X nL B n Tr cn sn σ lv pc (.ref (B + a) :: st) := by
  obtain ⟨p, l, e, R, s, m, args, below, meth, c, D, cI, cW, Q⟩ := X
  obtain ⟨hx, hb, hml, hown, hts, rfl, hN⟩ := hC
  obtain ⟨w1, w2, w3, w4, w5, w6⟩ := hw
  intro H locs ls hW hI hS hl
  refine va_callv (A1 := RA B) (free := RA B) (va_runI (As := []) (rest := st) ⟨hx, hb, hml, hown, hts⟩ (hM l D cI cW) (cwI 0 hts (tw_in w1) rfl rfl rfl (hts _ w4) (hts _ w2) (hts _ w3) w5 w6 hR) ⟨PN_blind, fun U hU hWm => ⟨rfl, ⟨by rw [hU]; exact hW.1, by rw [hU]; exact hW.2.1, va_K.moved hWm.alike hW.2.2⟩, hN.warm hWm, va_AO.moved hWm.alike hA⟩⟩ rfl rfl hl.1 rfl (lv_room hcat) hd hR2) hS (fun q _ h => h) (fun q h => h) (fun u t H1 locs ht hvm hw hB hz1 hk1 hS => ?_)
  subst ht
  exact kk u hw _ locs ls (Wd_moved hB hvm) trivial hS hl
theorem j_IN0 (pc : Nat) (hC : Cx X nL cc own R0) (hA : AOX X) (hM : MN y bytes mL fr lo B n n' dc ds [.ref (B + a)] σ Q') (hw : WIN own idx host y bytes mL) (hR : fr + 1 ≤ R0.frames ∧ 8 + (mL + 11) + lo ≤ R0.locals) (hR2 : cn + dc ≤ R0.cells ∧ sn + ds ≤ R0.slots) (hcat : (st.map fun v => v.category).sum ≤ 8) (hd : decode cc pc = .ok (.invokespecial idx, 3)) (kk : ∀ τ, Q' τ → J X nL B n' Tr (cn + dc) (sn + ds) τ lv (pc + 3) st) : J X nL B n Tr cn sn σ lv pc (.ref (B + a) :: st) := by
  obtain ⟨p, l, e, R, s, m, args, below, meth, c, D, cI, cW, Q⟩ := X
  obtain ⟨hx, hb, hml, hown, hts, rfl, hN⟩ := hC
  obtain ⟨w1, w2, w3, w4, w5, w6⟩ := hw
  intro H locs ls hW hI hS hl
  refine va_callv (A1 := RA B) (free := RA B) (va_runIN (As := []) (rest := st) ⟨hx, hb, hml, hown, hts⟩ (hM l D cI cW) ⟨va_cnB 0 hts (tw_in w1) rfl rfl rfl (hN _ w2) (hts _ w4) w6 hR, w5, hts _ w3⟩ ⟨PN_blind, fun U hU hWm => ⟨rfl, ⟨by rw [hU]; exact hW.1, by rw [hU]; exact hW.2.1, va_K.moved hWm.alike hW.2.2⟩, hN.warm hWm, va_AO.moved hWm.alike hA⟩⟩ rfl rfl hl.1 rfl (lv_room hcat) hd hR2) hS (fun q _ h => h) (fun q h => h) (fun u t H1 locs ht hvm hw hB hz1 hk1 hS => ?_)
  subst ht
  exact kk u hw _ locs ls (Wd_moved hB hvm) trivial hS hl
end JN
