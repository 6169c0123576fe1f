/-! rows of the law's own methods -/
theorem tk_set {E : va_W} {i L : Nat} {x : Nat × va_E} (h : L ≤ i) : (E.set i x).take L = E.take L := by
  apply List.ext_getElem?
  intro k
  rw [List.getElem?_take, List.getElem?_take]
  by_cases c : k < L
  · rw [if_pos c, if_pos c, List.getElem?_set_ne (by omega)]
  · rw [if_neg c, if_neg c]
theorem tk_app {E F : va_W} {L : Nat} (h : L ≤ E.length) : (E ++ F).take L = E.take L := List.take_append_of_le_length h
theorem tk_le {E E0 : va_W} {L M : Nat} (h : E.take M = E0) (hl : L ≤ M) : E.take L = E0.take L := by
  subst h
  rw [List.take_take, Nat.min_eq_left hl]
theorem tk_get {E E0 : va_W} {L i : Nat} {q : Nat × va_E} (h : E.take L = E0) (hi : E0[i]? = some q) : E[i]? = some q := by
  subst h
  rw [List.getElem?_take] at hi
  split at hi
  · exact hi
  · cases hi
theorem WLE_tk {K : C4} {B L i : Nat} {σ : SS} {E : va_W} {q : Nat × va_E} (h : (WLE K B σ (E.take L))[i]? = some q) : (WLE K B σ E)[i]? = some q := by
  by_cases hi : i < 95
  · rw [WLE_lo hi] at h ⊢; exact h
  · have e : i = 95 + (i - 95) := by omega
    have hE : (E.take L)[i - 95]? = some q := by
      unfold WLE at h
      rw [List.getElem?_append_right (by rw [WL_len]; omega), WL_len] at h
      exact h
    rw [e]
    exact WLE_at (tk_get rfl hE)
/-- cells that are not looked at any more -/
theorem PE.tk {K : C4} {B0 B : Nat} {σ : SS} {E : va_W} {H : Heap} (L : Nat) (h : PE K B0 B σ E H) : PE K B0 B σ (E.take L) H := by
  obtain ⟨h1, h2, h3, h4⟩ := h
  exact ⟨h1, h2, fun k q hk => h3 k q (WLE_tk hk), fun i j p q hp hq e => h4.1 i j p q (WLE_tk hp) (WLE_tk hq) e, fun k q hk => h4.2 k q (WLE_tk hk)⟩
theorem PE.nil {K : C4} {B0 B : Nat} {σ : SS} {E : va_W} {H : Heap} (h : PE K B0 B σ E H) : PE K B0 B σ [] H := h.tk 0
section GL
variable {X : XE} {z : Z4} {nL cn sn : Nat} {P : Heap → Prop} {lv : List (Nat × Value)} {cc : ByteArray} {own : String} {R0 : Room} {st : List Value} {B : Nat} {σ : SS} {E : va_W}
/-- a text among the cells -/
theorem SK_of {s a n i j : Nat} {f : Nat → Int32} (hC : CE X z nL cc own R0) (hi : E[i]? = some (s, .inr (10, [.ref a, .int 0, .int 0, .int 0]))) (hj : E[j]? = some (a, ba (kX X) n f)) {H : Heap} (hP : PE (kX X) z.1 B σ E H) : SK (some (s, a, n, f)) (sX X) H := by
  obtain ⟨p, l, e, R, st, m, args, below, meth, c, K, A, Q⟩ := X
  obtain ⟨hx, hb, hml, hown, hts, rfl, hX, hz, hA⟩ := hC
  obtain ⟨r, hr, cell, q1, q2, q3, q4⟩ := hP.2.2.1 _ _ (WLE_at hi)
  have e2 : r = (RJ0, TJ0, 4) := Option.some.inj (hr.symm.trans rfl)
  subst e2
  obtain ⟨hSl, hfc, kC, hkC, hkind⟩ := hX.1.1 10 _ hr
  have fld : ∀ k, k < 4 → va_OF (TJ0 k).1 (TJ0 k).2.1 (TJ0 k).2.2.1 (vp_V [.ref a, .int 0, .int 0, .int 0] k) s NA st H := fun k hk => by
    obtain ⟨cf, kf, fi, f', h1, h2⟩ := hSl k hk
    exact ⟨cf, kf, fi, f', cell, h1, (u_facts hfc hkC (u_lays hts inJ0t hk) h1).1, q1, by rw [q3]; exact (fun z => by cases z), by rw [h2]; exact q4 k hk, fun z => z⟩
  have ha := hP.2.2.1 _ _ (WLE_at hj)
  have ha : H[a]? = some (arrV K.2.1.2.2 n (fun j => .int (f j))) := ha
  refine ⟨⟨cell, q1, by rw [q3]; rfl, by rw [q2]; exact hfc, fun z => z⟩, fld 1 (by decide), fld 0 (by decide), ⟨_, ha, (hX.1.2 2 _ rfl).1 n _, (fun z => by cases z), by rw [arrV_size]; exact Nat.le_refl _, by rw [arrV_size], fun j hj => by rw [arrV_read _ _ hj], fun z => z⟩⟩
/-- the law's constant texts -/
def qL (X : XE) (i : Nat) : Q4 := ((kX X).2.2.2.1 i, (kX X).2.2.2.2 i, txL.getD i 0, fun j => (txB.getD i []).getD j 0)
theorem e_lit {pc : Nat} (i : Nat) (hC : CE X z nL cc own R0) (hi : i < 6) (k : G X nL (fun H => P H ∧ SK (some (qL X i)) (sX X) H) cn sn lv pc st) : G X nL P cn sn lv pc st := by
  obtain ⟨p, l, e, R, s, m, args, below, meth, c, K, A, Q⟩ := X
  obtain ⟨hx, hb, hml, hown, hts, rfl, hX, hz, hA⟩ := hC
  intro H locs ls hW hS hl
  have h := ((hX.2.2.2.2.1.narrow hA).kept hS.2.1).1 i hi
  exact k H locs ls ⟨hW, SV.narrow ⟨h.1, h.2.1, h.2.2.1, h.2.2.2⟩ (fun _ z => z.elim)⟩ hS hl
/-! a builder's road -/
def BW (E0 E : C4 → va_W) (L len i j b d n : Nat) (f : Nat → Int32) : Prop := (∀ K, (E0 K).length = L ∧ (E K).take L = E0 K ∧ (E K).length = len ∧ (E K)[i]? = some (b, bl d n) ∧ (E K)[j]? = some (d, ba K 16 f)) ∧ L ≤ i ∧ L ≤ j ∧ i ≠ j ∧ i < len ∧ j < len
theorem BW.ext {E0 E E2 : C4 → va_W} {L len len2 i j b d n : Nat} {f : Nat → Int32} (h : BW E0 E L len i j b d n f) (h2 : ∀ K, (E2 K).take len = E K ∧ (E2 K).length = len2) : BW E0 E2 L len2 i j b d n f := by
  obtain ⟨h1, h3, h4, h5, h6, h7⟩ := h
  have hl : ∀ K : C4, len ≤ len2 := fun K => by
    have e1 := congrArg List.length (h2 K).1
    rw [List.length_take, (h2 K).2, (h1 K).2.2.1] at e1
    omega
  refine ⟨fun K => ?_, h3, h4, h5, ?_, ?_⟩
  · obtain ⟨a1, a2, a3, a4, a5⟩ := h1 K
    exact ⟨a1, by rw [tk_le (h2 K).1 (by omega)]; exact a2, (h2 K).2, tk_get (h2 K).1 a4, tk_get (h2 K).1 a5⟩
  · have := hl (((fun _ => 0), (fun _ _ => 0)), (0, 0, 0), (0, 0), (fun _ => 0), (fun _ => 0)); omega
  · have := hl (((fun _ => 0), (fun _ _ => 0)), (0, 0, 0), (0, 0), (fun _ => 0), (fun _ => 0)); omega
/-- letters -/
def Tx (n : Nat) (f : Nat → Int32) : Prop := ∀ t, t < n → ∃ c, 32 ≤ c ∧ c ≤ 126 ∧ f t = nI c
theorem Tx.fit {n : Nat} {f : Nat → Int32} (h : Tx n f) : ∀ i : Nat, i < n → fits .byte (.int (f i)) = true := fun i hi => by
  obtain ⟨c, h1, h2, e⟩ := h i hi
  have key : ∀ c, c < 127 → fits .byte (.int (nI c)) = true := by decide +kernel
  rw [e]
  exact key c (by omega)
theorem Tx.cpy {n m : Nat} {f g : Nat → Int32} (h : Tx n f) (h2 : Tx m g) : Tx (n + m) (va_cpy g f 0 n m) := fun t ht => by
  unfold va_cpy
  by_cases c : n ≤ t ∧ t < n + m
  · rw [if_pos c]; exact h2 _ (by omega)
  · rw [if_neg c]; exact h t (by omega)
theorem Tx.cpy0 {n : Nat} {f g : Nat → Int32} (h : Tx n f) : Tx n (va_cpy f g 0 0 n) := fun t ht => by
  unfold va_cpy
  rw [if_pos (by omega)]
  exact h _ (by omega)
theorem Tx.digs {n k : Nat} {f : Nat → Int32} (h : Tx n f) (hk : k < 100) : Tx (n + dgn k) (chs f (n + dgn k) k) := fun t ht => by
  unfold dgn chs at *
  by_cases c : k < 10
  · simp only [if_pos c] at ht ⊢
    by_cases e : t = n + 1 - 1
    · rw [e]; exact ⟨48 + k % 10, by omega, by omega, by simp [upd]⟩
    · have := h t (by omega)
      have e3 : t ≠ n := by omega
      simpa [upd, e3] using this
  · simp only [if_neg c] at ht ⊢
    by_cases e : t = n + 2 - 1 - 1
    · rw [e]; exact ⟨48 + k / 10, by omega, by omega, by simp [upd]⟩
    · by_cases e2 : t = n + 2 - 1
      · rw [e2]; exact ⟨48 + k % 10, by omega, by omega, by simp [upd]⟩
      · have := h t (by omega)
        have e3 : t ≠ n := by omega
        have e4 : t ≠ n + 1 := by omega
        simpa [upd, e3, e4] using this
theorem Tx.zero (f : Nat → Int32) : Tx 0 f := fun t ht => absurd ht (by omega)
theorem dgn_le (k : Nat) : dgn k ≤ 2 := by unfold dgn; split <;> omega
theorem dgn_1 {k : Nat} (h : k < 10) : dgn k = 1 := by unfold dgn; rw [if_pos h]
theorem Tx.lit {i : Nat} (hi : i < 6) : Tx (txL.getD i 0) (fun j => (txB.getD i []).getD j 0) := by
  have key : ∀ i, i < 6 → ∀ t, t < txL.getD i 0 → ∃ c, c < 127 ∧ 32 ≤ c ∧ (txB.getD i []).getD t 0 = nI c := by decide +kernel
  intro t ht
  obtain ⟨c, h1, h2, h3⟩ := key i hi t ht
  exact ⟨c, h2, by omega, h3⟩
theorem e_appS {E0 E : C4 → va_W} {L len i j b d n idx : Nat} {f : Nat → Int32} {q : Q4} (pc : Nat) (hC : CE X z nL cc own R0) (hA : aX X = A0 z.1) (hB : BW E0 E L len i j b d n f) (hT : Tx n f) (hq : n + q.2.2.1 ≤ 16) (hQ : Tx q.2.2.1 q.2.2.2) (hw : WV own idx RJ4 yJ4_append_15ec4 cJ4_append_15ec4 2 (some (.object "java/lang/StringBuilder")) 1) (hR : RmK R0 4 127 2 0 0 cn sn) (hcat : (st.map fun v => v.category).sum ≤ 8) (hd : decode cc pc = .ok (.invokevirtual idx, 3)) (hP : ∀ H, P H → PE (kX X) z.1 B σ (E (kX X)) H ∧ SK (some q) (sX X) H) (k : ∀ E' f', BW E0 E' L len i j b d (n + q.2.2.1) f' → Tx (n + q.2.2.1) f' → G X nL (PE (kX X) z.1 B σ (E' (kX X))) cn sn lv (pc + 3) (.ref b :: st)) : G X nL P cn sn lv pc (.ref q.1 :: .ref b :: st) := by
  obtain ⟨h1, h3, h4, h5, h6, h7⟩ := hB
  have hi := fun K => (h1 K).2.2.2.1
  have hj := fun K => (h1 K).2.2.2.2
  refine g_run hA (run_V (As := [.ref q.1]) pc hC (m_appS (E := E) h5 hi hj hq hQ.fit) hw hR rfl rfl hcat hd (fun H h => ⟨(hP H h).1, (hP H h).2, recE (q := (RJ4, TJ4, 4)) hC (hi _) rfl (hP H h).1⟩)) (g_ref (fun a => ?_))
  refine e_pure (fun H h => h.1) (fun ea => ?_)
  subst ea
  refine e_imp (fun H h => h.2) (k (fun K => ((E K).set j (d, ba K 16 (va_cpy q.2.2.2 f 0 n q.2.2.1))).set i (a, bl d (n + q.2.2.1))) _ ⟨fun K => ?_, h3, h4, h5, h6, h7⟩ (hT.cpy hQ))
  obtain ⟨a1, a2, a3, a4, a5⟩ := h1 K
  exact ⟨a1, by rw [tk_set h3, tk_set h4]; exact a2, by rw [List.length_set, List.length_set]; exact a3, set_eq (set_ne h5 a4), set_ne (Ne.symm h5) (set_eq a5)⟩
theorem e_appI {E0 E : C4 → va_W} {L len i j b d n idx k0 : Nat} {f : Nat → Int32} (pc : Nat) (hC : CE X z nL cc own R0) (hA : aX X = A0 z.1) (hB : BW E0 E L len i j b d n f) (hT : Tx n f) (hk : k0 < 100) (hq : n + dgn k0 ≤ 16) (hw : WV own idx RJ4 yJ4_append_bf812 cJ4_append_bf812 2 (some (.object "java/lang/StringBuilder")) 1) (hR : RmK R0 2 49 2 0 0 cn sn) (hcat : (st.map fun v => v.category).sum ≤ 8) (hd : decode cc pc = .ok (.invokevirtual idx, 3)) (hP : ∀ H, P H → PE (kX X) z.1 B σ (E (kX X)) H) (k : ∀ E' f', BW E0 E' L len i j b d (n + dgn k0) f' → Tx (n + dgn k0) f' → G X nL (PE (kX X) z.1 B σ (E' (kX X))) cn sn lv (pc + 3) (.ref b :: st)) : G X nL P cn sn lv pc (.int (nI k0) :: .ref b :: st) := by
  obtain ⟨h1, h3, h4, h5, h6, h7⟩ := hB
  have hi := fun K => (h1 K).2.2.2.1
  have hj := fun K => (h1 K).2.2.2.2
  refine g_run hA (run_V (o := none) (As := [.int (nI k0)]) pc hC (m_appI (E := E) h5 hi hj hk hq) hw hR rfl rfl hcat hd (fun H h => ⟨hP H h, trivial, recE (q := (RJ4, TJ4, 4)) hC (hi _) rfl (hP H h)⟩)) (g_ref (fun a => ?_))
  refine e_pure (fun H h => h.1) (fun ea => ?_)
  subst ea
  refine e_imp (fun H h => h.2) (k (fun K => ((E K).set j (d, ba K 16 (chs f (n + dgn k0) k0))).set i (a, bl d (n + dgn k0))) _ ⟨fun K => ?_, h3, h4, h5, h6, h7⟩ (hT.digs hk))
  obtain ⟨a1, a2, a3, a4, a5⟩ := h1 K
  exact ⟨a1, by rw [tk_set h3, tk_set h4]; exact a2, by rw [List.length_set, List.length_set]; exact a3, set_eq (set_ne h5 a4), set_ne (Ne.symm h5) (set_eq a5)⟩
end GL
