/-! rows of the law's own methods, on: builders begun and ended; the object -/
section GL
variable {X : XE} {z : Z4} {nL cn sn : Nat} {P : Heap → Prop} {lv : List (Nat × Value)} {cc : ByteArray} {own : String} {R0 : Room} {st : List Value} {B : Nat} {σ : SS} {E : va_W}
theorem e_mkSB {E0 : C4 → va_W} {L ix iy : Nat} (pc : Nat) (hC : CE X z nL cc own R0) (hA : aX X = A0 z.1) (hL : ∀ K, (E0 K).length = L) (w1 : Cond.classLink own ix RJ4 ∈ TB) (w2 : Cond.instantiable RJ4 4 ∈ TB) (w3 : Cond.initialized RJ4 ∈ TB) (hw : Cond.code yJ4_init_da8c8 cJ4_init_da8c8 1 none ∈ TB ∧ Cond.methodLink own iy yJ4_init_da8c8 ∈ TB ∧ Cond.instanceMethod yJ4_init_da8c8 ∈ TB ∧ Cond.initialized yJ4_init_da8c8.cls ∈ TB ∧ yJ4_init_da8c8.name = "<init>" ∧ (yJ4_init_da8c8.cls ≠ "java/lang/invoke/MethodHandle" ∧ yJ4_init_da8c8.cls ≠ "java/lang/invoke/VarHandle" ∧ (parseMethodDescriptor yJ4_init_da8c8.desc).map (fun d => d.parameters.length) = some 0)) (hR : RmK R0 2 33 1 2 20 cn sn) (hcat : ∀ b, ((.ref b :: st : List Value).map fun v => v.category).sum ≤ 8) (hd1 : decode cc pc = .ok (.new ix, 3)) (hd2 : decode cc (pc + 3) = .ok (.dup, 1)) (hd3 : decode cc (pc + 3 + 1) = .ok (.invokespecial iy, 3)) (hP : ∀ H, P H → PE (kX X) z.1 B σ (E0 (kX X)) H) (k : ∀ b d E', BW E0 E' L (L + 2) L (L + 1) b d 0 (fun _ => 0) → G X nL (PE (kX X) z.1 B σ (E' (kX X))) (cn + 2) (sn + 20) lv (pc + 3 + 1 + 3) (.ref b :: st)) : G X nL P cn sn lv pc st := by
  obtain ⟨hR1, hR2, hR3⟩ := hR
  refine e_new (t := 11) pc hC hA rfl inJ4t tyJ4_ok w1 w2 w3 (fs := [.null, .int 0, .int 0, .int 0]) dfJ4 hP (by omega) (by omega) hd1 (fun b => ?_)
  refine e_dup (pc + 3) hC hd2 rfl ?_
  have hi : ∀ K : C4, (E0 K ++ [(b, (.inr (11, [.null, .int 0, .int 0, .int 0]) : va_E))])[L]? = some (b, .inr (11, [.null, .int 0, .int 0, .int 0])) := fun K => by rw [← hL K]; exact app_last
  refine g_run hA (run_I (o := none) (As := []) (pc + 3 + 1) hC (m_sb (E := fun K => E0 K ++ [(b, .inr (11, [.null, .int 0, .int 0, .int 0]))]) hi) hw ⟨hR1, by omega, by omega⟩ rfl rfl (hcat b) hd3 (fun H h => ⟨h, trivial⟩)) (g_void ?_)
  refine e_ex (fun d => ?_)
  refine e_cs (cn' := cn + 2) (sn' := sn + 20) (by omega) (by omega) (k b d (fun K => (E0 K ++ [(b, (.inr (11, [.null, .int 0, .int 0, .int 0]) : va_E))]).set L (b, bl d 0) ++ [(d, ba K 16 (fun _ => 0))]) ⟨fun K => ?_, Nat.le_refl _, by omega, by omega, by omega, by omega⟩)
  dsimp only
  have e1 : (E0 K ++ [(b, (.inr (11, [.null, .int 0, .int 0, .int 0]) : va_E))]).set L (b, bl d 0) = E0 K ++ [(b, bl d 0)] := by rw [← hL K]; exact set_last
  rw [e1]
  have e2 := hL K
  refine ⟨e2, ?_, by simp [e2], app_l (by rw [← e2]; exact app_last), ?_⟩
  · rw [List.append_assoc, tk_app (by omega), List.take_of_length_le (by omega)]
  · have : (E0 K ++ [(b, bl d 0)]).length = L + 1 := by simp [e2]
    rw [← this]
    exact app_last
theorem e_toStr {E0 E : C4 → va_W} {L len i j b d n idx : Nat} {f : Nat → Int32} (pc : Nat) (hC : CE X z nL cc own R0) (hA : aX X = A0 z.1) (hB : BW E0 E L len i j b d n f) (hT : Tx n f) (hn : n < 16) (hw : WV own idx RJ4 yJ4_toString_0e30d cJ4_toString_0e30d 1 (some (.object "java/lang/String")) 0) (hR : RmK R0 5 151 1 2 20 cn sn) (hcat : (st.map fun v => v.category).sum ≤ 8) (hd : decode cc pc = .ok (.invokevirtual idx, 3)) (hP : ∀ H, P H → PE (kX X) z.1 B σ (E (kX X)) H) (k : ∀ (s a : Nat) (E' : C4 → va_W) (f' : Nat → Int32), (∀ K, (E' K).take len = E K ∧ (E' K).length = len + 2 ∧ (E' K)[len]? = some (s, .inr (10, [.ref a, .int 0, .int 0, .int 0])) ∧ (E' K)[len + 1]? = some (a, ba K n f')) → Tx n f' → G X nL (PE (kX X) z.1 B σ (E' (kX X))) (cn + 2) (sn + 20) lv (pc + 3) (.ref s :: st)) : G X nL P cn sn lv pc (.ref b :: st) := by
  obtain ⟨h1, h3, h4, h5, h6, h7⟩ := hB
  obtain ⟨hR1, hR2, hR3⟩ := hR
  have hi := fun K => (h1 K).2.2.2.1
  have hj := fun K => (h1 K).2.2.2.2
  refine g_run hA (run_V (o := none) (As := []) pc hC (m_toStr (E := E) (fun K => (h1 K).2.2.1) h6 h7 hi hj hn hT.fit) hw ⟨hR1, by omega, by omega⟩ rfl rfl hcat hd (fun H h => ⟨hP H h, trivial, recE (q := (RJ4, TJ4, 4)) hC (hi _) rfl (hP H h)⟩)) (g_ref (fun s => ?_))
  refine e_ex (fun a => ?_)
  refine e_wid (cn' := cn + 2) (sn' := sn + 20) (by omega) (by omega) (k s a (fun K => E K ++ [(s, (.inr (10, [.ref a, .int 0, .int 0, .int 0]) : va_E)), (a, ba K n (va_cpy f (fun _ => 0) 0 0 n))]) (va_cpy f (fun _ => 0) 0 0 n) (fun K => ?_) (Tx.cpy0 (g := fun _ => 0) hT))
  have e2 := (h1 K).2.2.1
  refine ⟨by rw [tk_app (by omega), List.take_of_length_le (by omega)], by simp [e2], ?_, ?_⟩
  · rw [List.getElem?_append_right (by omega), e2, Nat.sub_self]; rfl
  · rw [List.getElem?_append_right (by omega), e2, show len + 1 - len = 1 by omega]; rfl
/-! the object -/
theorem df9 {B : Nat} : ∀ j, j < 13 → defaultValue (tyX9 j) = rv B (([.some 1, .some 8, .some 15, .some 22, .some 80, .some 82, .some 85, .some 88, .some 90, .some 92, .some 94, .none, .none] : List (Option Nat)).getD j none) 0 := fun j hj => by
  rcases (show j = 0 ∨ j = 1 ∨ j = 2 ∨ j = 3 ∨ j = 4 ∨ j = 5 ∨ j = 6 ∨ j = 7 ∨ j = 8 ∨ j = 9 ∨ j = 10 ∨ j = 11 ∨ j = 12 by omega) with rfl | rfl | rfl | rfl | rfl | rfl | rfl | rfl | rfl | rfl | rfl | rfl | rfl <;> rfl
def PN1 (X : XE) (B : Nat) (H : Heap) : Prop := Wd (kX X).1 (kX X).2.1.1 (kX X).2.1.2.1 B 1 sg0 (sX X) H
theorem e_newO {t N ix : Nat} {C : String} {T : u_T} {fl : List (Option Nat)} {tyf : Nat → FieldType} (pc : Nat) (hC : CE X z nL cc own R0) (hc : vwCl[t]? = some (C, T, N)) (hin : ∀ w ∈ u_ws C T N, w ∈ TB) (hty : ∀ k, k < N → parseFieldDescriptor (T k).2.2.1 = some (tyf k)) (w1 : Cond.classLink own ix C ∈ TB) (w2 : Cond.instantiable C N ∈ TB) (w3 : Cond.initialized C ∈ TB) (hk : kt 0 = (t + 2, N, fl)) (hfs : ∀ B : Nat, ∀ j, j < N → defaultValue (tyf j) = rv B (fl.getD j none) 0) (hcn : cn + 1 ≤ R0.cells) (hsn : sn + N ≤ R0.slots) (hd : decode cc pc = .ok (.new ix, 3)) (k : ∀ B, z.1 ≤ B → G X nL (PN1 X B) (cn + 1) (sn + N) lv (pc + 3) (.ref (B + 0) :: st)) : G X nL P cn sn lv pc st := by
  obtain ⟨p, l, e, R, s, m, args, below, meth, c, K, A, Q⟩ := X
  obtain ⟨hx, hb, hml, hown, hts, rfl, hX, hz, hA⟩ := hC
  intro H locs ls hW hS hl
  have hKn := hX.1.1 t _ hc
  have hK2 : va_K K.1 vwCl (tyA K.2.1.1 K.2.1.2.1) s := hX.1.sub [0, 1] rfl
  obtain ⟨B, hH⟩ : ∃ B, H.size = B := ⟨_, rfl⟩
  refine W.newcK hx hb hown (hts _ w1) (hts _ w2) (hts _ w3) rfl hd hcn hsn hKn.2.1 hH fun H1 kC hkC e1 z1 o1 => ?_
  have hS1 : va_S A s.heap H1 locs := ⟨Nat.le_trans hS.1 (by omega), fun x h1 h2 => (o1 x (by have := hS.1; omega)).trans (hS.2.1 x h1 h2), hS.2.2⟩
  refine k B (hH ▸ Nat.le_trans hz hS.1) H1 locs ls ⟨⟨by decide, fun _ => z1, by omega⟩, fun i q hq => ?_, hK2⟩ hS1 hl
  have hi : i < 1 := (WL_at hq).1
  obtain rfl : i = 0 := by omega
  rw [(WL_at hq).2, ent_obj hk]
  exact ⟨_, hc, (u_born tyf hts hin hKn hkC e1 hty).to (fun j hj => by rw [hfs B j hj]; simp [vp_V, hj, sg0])⟩
theorem e_initX {B iy : Nat} (pc : Nat) (hC : CE X z nL cc own R0) (hA : aX X = A0 z.1) (hB : z.1 ≤ B) (hw : Cond.code yX9_init cX9_init 1 none ∈ TB ∧ Cond.methodLink own iy yX9_init ∈ TB ∧ Cond.instanceMethod yX9_init ∈ TB ∧ Cond.initialized yX9_init.cls ∈ TB ∧ yX9_init.name = "<init>" ∧ (yX9_init.cls ≠ "java/lang/invoke/MethodHandle" ∧ yX9_init.cls ≠ "java/lang/invoke/VarHandle" ∧ (parseMethodDescriptor yX9_init.desc).map (fun d => d.parameters.length) = some 0)) (hR : RmK R0 3 63 1 94 1422 cn sn) (hcat : (st.map fun v => v.category).sum ≤ 8) (hd : decode cc pc = .ok (.invokespecial iy, 3)) (k : G X nL (PE (kX X) z.1 B sgF []) (cn + 94) (sn + 1422) lv (pc + 3) st) : G X nL (PN1 X B) cn sn lv pc (.ref (B + 0) :: st) := by
  obtain ⟨p, l, e, R, s, m, args, below, meth, c, K, A, Q⟩ := X
  obtain ⟨hx, hb, hml, hown, hts, rfl, hX, hz, hA2⟩ := hC
  obtain ⟨w1, w2, w3, w4, w5, w6⟩ := hw
  have hA : A = A0 z.1 := hA
  subst hA
  intro H locs ls hW hS hl
  have hBA : ∀ q, RA B q → A0 z.1 q := fun q hq => Nat.le_trans hB hq.1
  refine va_callv (A1 := RA B) (free := RA B) (va_runI (As := []) (rest := st) ⟨hx, hb, hml, hown, hts⟩ (c_X9_init (B := B) (σ := sg0) (fun _ _ => rfl) l K.1 K.2.1.1 K.2.1.2.1) (cwI 0 hts (tw_in w1) rfl rfl rfl (hts _ w4) (hts _ w2) (hts _ w3) w5 w6 hR.1) ⟨PN_blind, fun U hU hWm => ⟨rfl, ⟨by rw [hU]; exact hW.1, by rw [hU]; exact hW.2.1, va_K.moved hWm.alike hW.2.2⟩, hX.2.1.warm hWm, va_AO.moved hWm.alike hX.2.2.1⟩⟩ rfl rfl hl.1 rfl (lv_room hcat) hd hR.2) hS (fun q _ h => hBA q h) hBA (fun u t H1 locs ht hvm hw hB2 hz1 hk1 hS => ?_)
  subst ht
  subst hw
  refine k _ locs ls ⟨hB, RS_sgF, ?_, ?_⟩ hS hl
  · unfold WLE
    rw [List.append_nil]
    exact hB2.2.1
  · unfold WLE
    rw [List.append_nil]
    refine ⟨fun i j p q hp hq e => ?_, fun i q hq => ?_⟩
    · rw [(WL_at hp).2, (WL_at hq).2] at e
      have e : B + i = B + j := e
      omega
    · rw [(WL_at hq).2]
      exact Nat.le_trans hB (Nat.le_add_right _ _)
end GL
