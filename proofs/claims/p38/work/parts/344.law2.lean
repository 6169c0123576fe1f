/-! the law's own methods: reads, does -/
set_option maxRecDepth 100000 in
set_option maxHeartbeats 4000000 in
theorem reads_loop {X : XE} {z : Z4} {B : Nat} {E : va_W} {w : WW} {n : Nat} {Hi : Nat → WW} {sb : Option WW} {s a N i j : Nat} {f : Nat → Int32} (hC : CE X z 4 cL_reads RL (rmC 7 0 0 175)) (hA : aX X = A0 z.1) (hR : EndI X 4 cL_reads 0 0 .int (fun v H => ∃ r, v = some (.int r) ∧ ∃ τ, DN w n Hi sb r τ ∧ PE (kX X) z.1 B τ E H)) (hi : E[i]? = some (s, .inr (10, [.ref a, .int 0, .int 0, .int 0]))) (hj : E[j]? = some (a, ba (kX X) N f)) (hN : N < 16) (hT : Tx N f) : ∀ d k x τ T, k + d = N → T.length = k → x ≤ 100 * k → LA w n Hi sb T τ → G X 4 (PE (kX X) z.1 B τ E) 0 0 [(3, .int (nI k)), (2, .int (nI x)), (0, .ref (B + 0)), (1, .ref s)] 4 [] := by
  intro d
  induction d with
  | zero =>
    intro k x τ T hk hl hx ht
    refine e_iload_n 4 hC 0 (dg DL_reads 4 rfl) rfl rfl ?_
    refine e_aload_n 5 hC 3 (dg DL_reads 5 rfl) rfl rfl ?_
    refine h_run (run_V (o := some (s, a, N, f)) (As := []) 6 hC (m_slen (q := (s, a, N, f))) qL_16 ⟨⟨(Nat.le_of_ble_eq_true rfl), (Nat.le_of_ble_eq_true rfl)⟩, (Nat.le_of_ble_eq_true rfl), (Nat.le_of_ble_eq_true rfl)⟩ rfl rfl (Nat.le_of_ble_eq_true rfl) (dg DL_reads 6 rfl) (fun H h => ⟨trivial, SK_of hC hi hj h, recS (SK_of hC hi hj h)⟩)) (h_int (fun r hr => ?_))
    subst hr
    have e : k = N := by omega
    refine e_icmp_ge 9 30 hC (dg DL_reads 7 rfl) (by decide) (fun _ => ?_) (fun h => absurd (by show nI N ≤ nI k; rw [e]; exact Int32.le_refl _) h)
    refine e_iload_n 30 hC 1 (dg DL_reads 18 rfl) rfl rfl ?_
    refine e_if_ge 31 39 hC (dg DL_reads 19 rfl) (by decide) (fun _ => ?_) (fun h => absurd (nI_pos' (by omega)) h)
    refine e_aload_n 39 hC 2 (dg DL_reads 22 rfl) rfl rfl ?_
    refine g_cls (C := "") (n2 := 0) (As := []) 40 hC hA (m_X9_read (d_read ht)) qL_32 ⟨⟨(Nat.le_of_ble_eq_true rfl), (Nat.le_of_ble_eq_true rfl)⟩, (Nat.le_of_ble_eq_true rfl), (Nat.le_of_ble_eq_true rfl)⟩ rfl rfl (Nat.le_of_ble_eq_true rfl) (dg DL_reads 23 rfl) (fun H h => h) (fun r υ hr => ?_)
    exact hR 43 _ _ _ (dg DL_reads 24 rfl) rfl (fun H h => ⟨_, rfl, υ, hr, h⟩)
  | succ d ih =>
    intro k x τ T hk hl hx ht
    obtain ⟨c, c1, c2, ec⟩ := hT k (by omega)
    refine e_iload_n 4 hC 0 (dg DL_reads 4 rfl) rfl rfl ?_
    refine e_aload_n 5 hC 3 (dg DL_reads 5 rfl) rfl rfl ?_
    refine h_run (run_V (o := some (s, a, N, f)) (As := []) 6 hC (m_slen (q := (s, a, N, f))) qL_16 ⟨⟨(Nat.le_of_ble_eq_true rfl), (Nat.le_of_ble_eq_true rfl)⟩, (Nat.le_of_ble_eq_true rfl), (Nat.le_of_ble_eq_true rfl)⟩ rfl rfl (Nat.le_of_ble_eq_true rfl) (dg DL_reads 6 rfl) (fun H h => ⟨trivial, SK_of hC hi hj h, recS (SK_of hC hi hj h)⟩)) (h_int (fun r hr => ?_))
    subst hr
    refine e_icmp_ge 9 30 hC (dg DL_reads 7 rfl) (by decide) (fun h => absurd h (show ¬ nI N ≤ nI k from nI_gt (by omega) (by omega))) (fun _ => ?_)
    refine e_iload_n 12 hC 1 (dg DL_reads 8 rfl) rfl rfl ?_
    refine e_aload_n 13 hC 2 (dg DL_reads 9 rfl) rfl rfl ?_
    refine e_aload_n 14 hC 3 (dg DL_reads 10 rfl) rfl rfl ?_
    refine e_iload_n 15 hC 0 (dg DL_reads 11 rfl) rfl rfl ?_
    refine h_run (run_V (o := some (s, a, N, f)) (As := [.int (nI k)]) 16 hC (m_char (q := (s, a, N, f)) (i := k) (c := c) (by show k < N; omega) (by show N < 2 ^ 31; omega) ec (by omega)) qL_22 ⟨⟨(Nat.le_of_ble_eq_true rfl), (Nat.le_of_ble_eq_true rfl)⟩, (Nat.le_of_ble_eq_true rfl), (Nat.le_of_ble_eq_true rfl)⟩ rfl rfl (Nat.le_of_ble_eq_true rfl) (dg DL_reads 12 rfl) (fun H h => ⟨trivial, SK_of hC hi hj h, recS (SK_of hC hi hj h)⟩)) (h_int (fun r hr => ?_))
    subst hr
    refine g_cls (C := "") (n2 := 0) (As := [.int (nI c)]) 19 hC hA (m_X9_append (d_append ht (by omega) c1 c2)) qL_26 ⟨⟨(Nat.le_of_ble_eq_true rfl), (Nat.le_of_ble_eq_true rfl)⟩, (Nat.le_of_ble_eq_true rfl), (Nat.le_of_ble_eq_true rfl)⟩ rfl rfl (Nat.le_of_ble_eq_true rfl) (dg DL_reads 13 rfl) (fun H h => h) (fun r υ ⟨hr, hu⟩ => ?_)
    subst hr
    refine e_iadd 22 hC (dg DL_reads 14 rfl) ?_
    refine e_eq (y := (nI (x + (T.length + 1)))) (nI_add _ _) ?_
    refine e_istore_n 23 hC [(2, .int (nI (x + (T.length + 1)))), (3, .int (nI k)), (0, .ref (B + 0)), (1, .ref s)] (dg DL_reads 15 rfl) rfl (by decide) rfl ?_
    refine e_iinc 24 hC 1 (nI (k + 1)) [(3, .int (nI (k + 1))), (2, .int (nI (x + (T.length + 1)))), (0, .ref (B + 0)), (1, .ref s)] (dg DL_reads 16 rfl) rfl (nI_1 k) (by decide) rfl ?_
    refine e_goto 27 4 hC (dg DL_reads 17 rfl) (by decide) ?_
    exact ih (k + 1) _ υ (T ++ [nI c]) (by omega) (by rw [List.length_append, hl]; rfl) (by omega) hu
set_option maxRecDepth 100000 in
set_option maxHeartbeats 4000000 in
theorem m_reads {z : Z4} {B : Nat} {σ : SS} {E : C4 → va_W} {w : WW} {n : Nat} {Hi : Nat → WW} {sb : Option WW} {s a N i j : Nat} {f : Nat → Int32} (hi : ∀ K, (E K)[i]? = some (s, .inr (10, [.ref a, .int 0, .int 0, .int 0]))) (hj : ∀ K, (E K)[j]? = some (a, ba K N f)) (hN : N < 16) (hT : Tx N f) (h : LA w n Hi sb [] σ) : GC yL_reads cL_reads 4 (some .int) 7 175 0 0 z [.ref (B + 0), .ref s] (fun K => PE K z.1 B σ (E K)) none (fun K v H => ∃ r, v = some (.int r) ∧ ∃ τ, DN w n Hi sb r τ ∧ PE K z.1 B τ (E K) H) := by
  refine GC.mkI (by decide +kernel) (Nat.le_of_ble_eq_true rfl) (fun X hC hA hR => ?_)
  refine e_iconst 0 hC (dg DL_reads 0 rfl) (v := 0) (by decide) ?_
  refine e_istore_n 1 hC [(2, .int 0), (0, .ref (B + 0)), (1, .ref s)] (dg DL_reads 1 rfl) rfl (by decide) rfl ?_
  refine e_iconst 2 hC (dg DL_reads 2 rfl) (v := 0) (by decide) ?_
  refine e_istore_n 3 hC [(3, .int 0), (2, .int 0), (0, .ref (B + 0)), (1, .ref s)] (dg DL_reads 3 rfl) rfl (by decide) rfl ?_
  exact e_imp (fun H h => h.1) (reads_loop hC hA hR (hi _) (hj _) hN hT N 0 0 σ [] (by omega) rfl (by omega) h)
set_option maxRecDepth 100000 in
set_option maxHeartbeats 4000000 in
theorem does_tail {X : XE} {z : Z4} {B : Nat} {σ : SS} {E0 : C4 → va_W} {L : Nat} {w : WW} {n : Nat} {Hi : Nat → WW} {sb : Option WW} (hC : CE X z 6 cL_does RL (rmC 8 8 80 198)) (hA : aX X = A0 z.1) (hR : EndI X 6 cL_does 8 80 .int (fun v H => ∃ r, v = some (.int r) ∧ ∃ τ, DN w n Hi sb r τ ∧ PE (kX X) z.1 B τ (E0 (kX X)) H)) (h : LA w n Hi sb [] σ) {P : Heap → Prop} {lv : List (Nat × Value)} {E : C4 → va_W} {len i j b d m : Nat} {f : Nat → Int32} {q : Q4} (hB : BW E0 E L len i j b d m f) (hT : Tx m f) (hq : m + q.2.2.1 < 16) (hQ : Tx q.2.2.1 q.2.2.2) (hP : ∀ H, P H → PE (kX X) z.1 B σ (E (kX X)) H ∧ SK (some q) (sX X) H) : G X 6 P 6 60 lv 268 [.ref q.1, .ref b, .ref (B + 0)] := by
  refine e_appS (q := q) 268 hC hA hB hT (by omega) hQ qL_69 ⟨⟨(Nat.le_of_ble_eq_true rfl), (Nat.le_of_ble_eq_true rfl)⟩, (Nat.le_of_ble_eq_true rfl), (Nat.le_of_ble_eq_true rfl)⟩ (Nat.le_of_ble_eq_true rfl) (dg DL_does 111 rfl) (hP) (fun E1 f1 hB1 hT1 => ?_)
  refine e_toStr 271 hC hA hB1 hT1 (hq) qL_83 ⟨⟨(Nat.le_of_ble_eq_true rfl), (Nat.le_of_ble_eq_true rfl)⟩, (Nat.le_of_ble_eq_true rfl), (Nat.le_of_ble_eq_true rfl)⟩ (Nat.le_of_ble_eq_true rfl) (dg DL_does 112 rfl) (fun H h => h) (fun s2 a2 E2 f2 hE2 hT2 => ?_)
  have hi2 : ∀ K : C4, (E2 K)[len]? = some (s2, .inr (10, [.ref a2, .int 0, .int 0, .int 0])) := fun K => (hE2 K).2.2.1
  have hj2 : ∀ K : C4, (E2 K)[len + 1]? = some (a2, ba K (m + q.2.2.1) f2) := fun K => (hE2 K).2.2.2
  refine g_run hA (run_S (o := none) (As := [.ref (B + 0), .ref s2]) 274 hC (m_reads (E := E2) hi2 hj2 hq hT2 h) qL_89 ⟨⟨(Nat.le_of_ble_eq_true rfl), (Nat.le_of_ble_eq_true rfl)⟩, (Nat.le_of_ble_eq_true rfl), (Nat.le_of_ble_eq_true rfl)⟩ rfl rfl (Nat.le_of_ble_eq_true rfl) (dg DL_does 113 rfl) (fun H h => ⟨h, trivial⟩)) (g_int (fun r => ?_))
  refine e_ex (fun τ => ?_)
  obtain ⟨b1, b2, b3, b4, b5, b6⟩ := hB1
  have e : (E2 (kX X)).take L = E0 (kX X) := by rw [tk_le (hE2 (kX X)).1 (by omega)]; exact (b1 (kX X)).2.1
  exact hR 277 _ _ _ (dg DL_does 114 rfl) rfl (fun H h => ⟨_, rfl, τ, h.1, by have h2 := h.2.tk L; rw [e] at h2; exact h2⟩)
set_option maxRecDepth 100000 in
set_option maxHeartbeats 4000000 in
theorem does_m {X : XE} {z : Z4} {B : Nat} {σ : SS} {E0 : C4 → va_W} {L : Nat} {w : WW} {n : Nat} {Hi : Nat → WW} {sb : Option WW} (hC : CE X z 6 cL_does RL (rmC 8 8 80 198)) (hA : aX X = A0 z.1) (hR : EndI X 6 cL_does 8 80 .int (fun v H => ∃ r, v = some (.int r) ∧ ∃ τ, DN w n Hi sb r τ ∧ PE (kX X) z.1 B τ (E0 (kX X)) H)) (h : LA w n Hi sb [] σ) {E : C4 → va_W} {a b c i : Nat} (ha : a < 10) (hb : b < 25) (hc : c < 13) {len ii jj bb dd m : Nat} {f : Nat → Int32} (hB : BW E0 E L len ii jj bb dd m f) (hT : Tx m f) (hm : m ≤ 8) : G X 6 (PE (kX X) z.1 B σ (E (kX X))) 2 20 [(5, .int (nI c)), (4, .int (nI b)), (3, .int (nI a)), (0, .ref (B + 0)), (1, .ref z.2.1), (2, .int (nI i))] 226 [.ref bb, .ref (B + 0)] := by
  refine e_mkSB (E0 := E) (L := len) 226 hC hA (fun K => (hB.1 K).2.2.1) u_629 u_630 u_43 qL_66 ⟨⟨(Nat.le_of_ble_eq_true rfl), (Nat.le_of_ble_eq_true rfl)⟩, (Nat.le_of_ble_eq_true rfl), (Nat.le_of_ble_eq_true rfl)⟩ (fun _ => (Nat.le_of_ble_eq_true rfl)) (dg DL_does 94 rfl) (dg DL_does 95 rfl) (dg DL_does 96 rfl) (fun H h => h) (fun b1 d1 E1 hB1 => ?_)
  have hT1 : Tx 0 (fun _ => 0) := Tx.zero _
  refine e_ldcS 233 4 hC (by decide) rfl (dg DL_does 97 rfl) ?_
  refine e_lit 4 hC (by decide) ?_
  refine e_appS (q := qL X 4) 235 hC hA hB1 hT1 (by show 0 + 2 ≤ 16; omega) (Tx.lit (i := 4) (by decide)) qL_69 ⟨⟨(Nat.le_of_ble_eq_true rfl), (Nat.le_of_ble_eq_true rfl)⟩, (Nat.le_of_ble_eq_true rfl), (Nat.le_of_ble_eq_true rfl)⟩ (Nat.le_of_ble_eq_true rfl) (dg DL_does 98 rfl) (fun H h => h) (fun E2 f2 hB2 hT2 => ?_)
  replace hB2 : BW E E2 _ _ _ _ _ _ (2) f2 := hB2
  replace hT2 : Tx (2) f2 := hT2
  refine e_iload_n 238 hC 2 (dg DL_does 99 rfl) rfl rfl ?_
  have hd := dgn_le a
  refine e_appI (k0 := a) 239 hC hA hB2 hT2 (by omega) (by omega) qL_72 ⟨⟨(Nat.le_of_ble_eq_true rfl), (Nat.le_of_ble_eq_true rfl)⟩, (Nat.le_of_ble_eq_true rfl), (Nat.le_of_ble_eq_true rfl)⟩ (Nat.le_of_ble_eq_true rfl) (dg DL_does 100 rfl) (fun H h => h) (fun E3 f3 hB3 hT3 => ?_)
  refine e_toStr 242 hC hA hB3 hT3 (by omega) qL_83 ⟨⟨(Nat.le_of_ble_eq_true rfl), (Nat.le_of_ble_eq_true rfl)⟩, (Nat.le_of_ble_eq_true rfl), (Nat.le_of_ble_eq_true rfl)⟩ (Nat.le_of_ble_eq_true rfl) (dg DL_does 101 rfl) (fun H h => h) (fun s4 a4 E4 f4 hE4 hT4 => ?_)
  refine e_goto 245 268 hC (dg DL_does 102 rfl) (by decide) ?_
  obtain ⟨b1, b2, b3, b4, b5, b6⟩ := hB3
  have e : ∀ K : C4, (E4 K).take len = E K := fun K => by rw [tk_le (hE4 K).1 (by omega)]; exact (b1 K).2.1
  have hB5 := hB.ext (E2 := E4) (len2 := len + 2 + 2) (fun K => ⟨e K, (hE4 K).2.1⟩)
  exact does_tail hC hA hR h (q := (s4, a4, 2 + dgn a, f4)) hB5 hT (by show m + (2 + dgn a) < 16; omega) hT4 (fun H h => ⟨h, SK_of hC (hE4 _).2.2.1 (hE4 _).2.2.2 h⟩)
set_option maxRecDepth 100000 in
set_option maxHeartbeats 4000000 in
theorem does_h {X : XE} {z : Z4} {B : Nat} {σ : SS} {E0 : C4 → va_W} {L : Nat} {w : WW} {n : Nat} {Hi : Nat → WW} {sb : Option WW} (hC : CE X z 6 cL_does RL (rmC 8 8 80 198)) (hA : aX X = A0 z.1) (hR : EndI X 6 cL_does 8 80 .int (fun v H => ∃ r, v = some (.int r) ∧ ∃ τ, DN w n Hi sb r τ ∧ PE (kX X) z.1 B τ (E0 (kX X)) H)) (h : LA w n Hi sb [] σ) {E : C4 → va_W} {a b c i : Nat} (ha : a < 10) (hb : b < 25) (hc : c < 13) {len ii jj bb dd m : Nat} {f : Nat → Int32} (hB : BW E0 E L len ii jj bb dd m f) (hT : Tx m f) (hm : m ≤ 8) : G X 6 (PE (kX X) z.1 B σ (E (kX X))) 2 20 [(5, .int (nI c)), (4, .int (nI b)), (3, .int (nI a)), (0, .ref (B + 0)), (1, .ref z.2.1), (2, .int (nI i))] 248 [.ref bb, .ref (B + 0)] := by
  refine e_mkSB (E0 := E) (L := len) 248 hC hA (fun K => (hB.1 K).2.2.1) u_629 u_630 u_43 qL_66 ⟨⟨(Nat.le_of_ble_eq_true rfl), (Nat.le_of_ble_eq_true rfl)⟩, (Nat.le_of_ble_eq_true rfl), (Nat.le_of_ble_eq_true rfl)⟩ (fun _ => (Nat.le_of_ble_eq_true rfl)) (dg DL_does 103 rfl) (dg DL_does 104 rfl) (dg DL_does 105 rfl) (fun H h => h) (fun b1 d1 E1 hB1 => ?_)
  have hT1 : Tx 0 (fun _ => 0) := Tx.zero _
  refine e_ldcS 255 5 hC (by decide) rfl (dg DL_does 106 rfl) ?_
  refine e_lit 5 hC (by decide) ?_
  refine e_appS (q := qL X 5) 257 hC hA hB1 hT1 (by show 0 + 2 ≤ 16; omega) (Tx.lit (i := 5) (by decide)) qL_69 ⟨⟨(Nat.le_of_ble_eq_true rfl), (Nat.le_of_ble_eq_true rfl)⟩, (Nat.le_of_ble_eq_true rfl), (Nat.le_of_ble_eq_true rfl)⟩ (Nat.le_of_ble_eq_true rfl) (dg DL_does 107 rfl) (fun H h => h) (fun E2 f2 hB2 hT2 => ?_)
  replace hB2 : BW E E2 _ _ _ _ _ _ (2) f2 := hB2
  replace hT2 : Tx (2) f2 := hT2
  refine e_iload 260 hC 0 (dg DL_does 108 rfl) rfl ?_
  have hd := dgn_le c
  refine e_appI (k0 := c) 262 hC hA hB2 hT2 (by omega) (by omega) qL_72 ⟨⟨(Nat.le_of_ble_eq_true rfl), (Nat.le_of_ble_eq_true rfl)⟩, (Nat.le_of_ble_eq_true rfl), (Nat.le_of_ble_eq_true rfl)⟩ (Nat.le_of_ble_eq_true rfl) (dg DL_does 109 rfl) (fun H h => h) (fun E3 f3 hB3 hT3 => ?_)
  refine e_toStr 265 hC hA hB3 hT3 (by omega) qL_83 ⟨⟨(Nat.le_of_ble_eq_true rfl), (Nat.le_of_ble_eq_true rfl)⟩, (Nat.le_of_ble_eq_true rfl), (Nat.le_of_ble_eq_true rfl)⟩ (Nat.le_of_ble_eq_true rfl) (dg DL_does 110 rfl) (fun H h => h) (fun s4 a4 E4 f4 hE4 hT4 => ?_)
  obtain ⟨b1, b2, b3, b4, b5, b6⟩ := hB3
  have e : ∀ K : C4, (E4 K).take len = E K := fun K => by rw [tk_le (hE4 K).1 (by omega)]; exact (b1 K).2.1
  have hB5 := hB.ext (E2 := E4) (len2 := len + 2 + 2) (fun K => ⟨e K, (hE4 K).2.1⟩)
  exact does_tail hC hA hR h (q := (s4, a4, 2 + dgn c, f4)) hB5 hT (by show m + (2 + dgn c) < 16; omega) hT4 (fun H h => ⟨h, SK_of hC (hE4 _).2.2.1 (hE4 _).2.2.2 h⟩)
set_option maxRecDepth 100000 in
set_option maxHeartbeats 4000000 in
theorem does_text {X : XE} {z : Z4} {B : Nat} {σ : SS} {E0 : C4 → va_W} {L : Nat} {w : WW} {n : Nat} {Hi : Nat → WW} {sb : Option WW} (hC : CE X z 6 cL_does RL (rmC 8 8 80 198)) (hA : aX X = A0 z.1) (hR : EndI X 6 cL_does 8 80 .int (fun v H => ∃ r, v = some (.int r) ∧ ∃ τ, DN w n Hi sb r τ ∧ PE (kX X) z.1 B τ (E0 (kX X)) H)) (hL0 : ∀ K, (E0 K).length = L) (h : LA w n Hi sb [] σ) {a b c i : Nat} (ha : a < 10) (hb : b < 25) (hc : c < 13) : G X 6 (PE (kX X) z.1 B σ (E0 (kX X))) 0 0 [(5, .int (nI c)), (4, .int (nI b)), (3, .int (nI a)), (0, .ref (B + 0)), (1, .ref z.2.1), (2, .int (nI i))] 166 [] := by
  refine e_aload_n 166 hC 3 (dg DL_does 65 rfl) rfl rfl ?_
  refine e_mkSB (E0 := E0) (L := L) 167 hC hA (hL0) u_629 u_630 u_43 qL_66 ⟨⟨(Nat.le_of_ble_eq_true rfl), (Nat.le_of_ble_eq_true rfl)⟩, (Nat.le_of_ble_eq_true rfl), (Nat.le_of_ble_eq_true rfl)⟩ (fun _ => (Nat.le_of_ble_eq_true rfl)) (dg DL_does 66 rfl) (dg DL_does 67 rfl) (dg DL_does 68 rfl) (fun H h => h) (fun b1 d1 E1 hB1 => ?_)
  have hT1 : Tx 0 (fun _ => 0) := Tx.zero _
  refine e_ldcS 174 0 hC (by decide) rfl (dg DL_does 69 rfl) ?_
  refine e_lit 0 hC (by decide) ?_
  refine e_appS (q := qL X 0) 176 hC hA hB1 hT1 (by show 0 + 1 ≤ 16; omega) (Tx.lit (i := 0) (by decide)) qL_69 ⟨⟨(Nat.le_of_ble_eq_true rfl), (Nat.le_of_ble_eq_true rfl)⟩, (Nat.le_of_ble_eq_true rfl), (Nat.le_of_ble_eq_true rfl)⟩ (Nat.le_of_ble_eq_true rfl) (dg DL_does 70 rfl) (fun H h => h) (fun E2 f2 hB2 hT2 => ?_)
  replace hB2 : BW E0 E2 _ _ _ _ _ _ (1) f2 := hB2
  replace hT2 : Tx (1) f2 := hT2
  refine e_iload 179 hC 1 (dg DL_does 71 rfl) rfl ?_
  have g1 := dgn_le b
  have g2 := dgn_le (c % 12)
  have g3 := dgn_1 ha
  refine e_appI (k0 := b) 181 hC hA hB2 hT2 (by omega) (by omega) qL_72 ⟨⟨(Nat.le_of_ble_eq_true rfl), (Nat.le_of_ble_eq_true rfl)⟩, (Nat.le_of_ble_eq_true rfl), (Nat.le_of_ble_eq_true rfl)⟩ (Nat.le_of_ble_eq_true rfl) (dg DL_does 72 rfl) (fun H h => h) (fun E3 f3 hB3 hT3 => ?_)
  refine e_ldcS 184 1 hC (by decide) rfl (dg DL_does 73 rfl) ?_
  refine e_lit 1 hC (by decide) ?_
  refine e_appS (q := qL X 1) 186 hC hA hB3 hT3 (by show 1 + dgn b + 1 ≤ 16; omega) (Tx.lit (i := 1) (by decide)) qL_69 ⟨⟨(Nat.le_of_ble_eq_true rfl), (Nat.le_of_ble_eq_true rfl)⟩, (Nat.le_of_ble_eq_true rfl), (Nat.le_of_ble_eq_true rfl)⟩ (Nat.le_of_ble_eq_true rfl) (dg DL_does 74 rfl) (fun H h => h) (fun E4 f4 hB4 hT4 => ?_)
  replace hB4 : BW E0 E4 _ _ _ _ _ _ (1 + dgn b + 1) f4 := hB4
  replace hT4 : Tx (1 + dgn b + 1) f4 := hT4
  refine e_iload 189 hC 0 (dg DL_does 75 rfl) rfl ?_
  refine e_bipush 191 hC (dg DL_does 76 rfl) (v := 12) (by decide) ?_
  refine e_irem 193 hC (dg DL_does 77 rfl) (by decide) ?_
  refine e_eq (y := (nI (c % 12))) (pk_rem (d := 12) (by omega) (by decide) (by decide)) ?_
  refine e_appI (k0 := (c % 12)) 194 hC hA hB4 hT4 (by omega) (by omega) qL_72 ⟨⟨(Nat.le_of_ble_eq_true rfl), (Nat.le_of_ble_eq_true rfl)⟩, (Nat.le_of_ble_eq_true rfl), (Nat.le_of_ble_eq_true rfl)⟩ (Nat.le_of_ble_eq_true rfl) (dg DL_does 78 rfl) (fun H h => h) (fun E5 f5 hB5 hT5 => ?_)
  refine e_ldcS 197 2 hC (by decide) rfl (dg DL_does 79 rfl) ?_
  refine e_lit 2 hC (by decide) ?_
  refine e_appS (q := qL X 2) 199 hC hA hB5 hT5 (by show 1 + dgn b + 1 + dgn (c % 12) + 1 ≤ 16; omega) (Tx.lit (i := 2) (by decide)) qL_69 ⟨⟨(Nat.le_of_ble_eq_true rfl), (Nat.le_of_ble_eq_true rfl)⟩, (Nat.le_of_ble_eq_true rfl), (Nat.le_of_ble_eq_true rfl)⟩ (Nat.le_of_ble_eq_true rfl) (dg DL_does 80 rfl) (fun H h => h) (fun E6 f6 hB6 hT6 => ?_)
  replace hB6 : BW E0 E6 _ _ _ _ _ _ (1 + dgn b + 1 + dgn (c % 12) + 1) f6 := hB6
  replace hT6 : Tx (1 + dgn b + 1 + dgn (c % 12) + 1) f6 := hT6
  refine e_iload_n 202 hC 2 (dg DL_does 81 rfl) rfl rfl ?_
  refine e_appI (k0 := a) 203 hC hA hB6 hT6 (by omega) (by omega) qL_72 ⟨⟨(Nat.le_of_ble_eq_true rfl), (Nat.le_of_ble_eq_true rfl)⟩, (Nat.le_of_ble_eq_true rfl), (Nat.le_of_ble_eq_true rfl)⟩ (Nat.le_of_ble_eq_true rfl) (dg DL_does 82 rfl) (fun H h => h) (fun E7 f7 hB7 hT7 => ?_)
  refine e_iload 206 hC 0 (dg DL_does 83 rfl) rfl ?_
  refine e_iconst 208 hC (dg DL_does 84 rfl) (v := 3) (by decide) ?_
  refine e_irem 209 hC (dg DL_does 85 rfl) (by decide) ?_
  refine e_eq (y := (nI (c % 3))) (pk_rem (d := 3) (by omega) (by decide) (by decide)) ?_
  refine e_if_ne 210 218 hC (dg DL_does 86 rfl) (by decide) (fun k1 => ?_) (fun k1 => ?_)
  · refine e_iload 218 hC 0 (dg DL_does 89 rfl) rfl ?_
    refine e_iconst 220 hC (dg DL_does 90 rfl) (v := 3) (by decide) ?_
    refine e_irem 221 hC (dg DL_does 91 rfl) (by decide) ?_
    refine e_eq (y := (nI (c % 3))) (pk_rem (d := 3) (by omega) (by decide) (by decide)) ?_
    refine e_iconst 222 hC (dg DL_does 92 rfl) (v := 1) (by decide) ?_
    refine e_icmp_ne 223 248 hC (dg DL_does 93 rfl) (by decide) (fun k2 => ?_) (fun k2 => ?_)
    · exact does_h hC hA hR h ha hb hc hB7 hT7 (by omega)
    · exact does_m hC hA hR h ha hb hc hB7 hT7 (by omega)
  · refine e_ldcS 213 3 hC (by decide) rfl (dg DL_does 87 rfl) ?_
    refine e_lit 3 hC (by decide) ?_
    refine e_goto 215 268 hC (dg DL_does 88 rfl) (by decide) ?_
    refine e_wid (cn' := 6) (sn' := 60) (by omega) (by omega) ?_
    exact does_tail hC hA hR h (q := qL X 3) hB7 hT7 (by show 1 + dgn b + 1 + dgn (c % 12) + 1 + dgn a + 2 < 16; omega) (Tx.lit (i := 3) (by decide)) (fun H h => h)
set_option maxRecDepth 100000 in
set_option maxHeartbeats 4000000 in
theorem does_post {X : XE} {z : Z4} {B : Nat} {σ : SS} {E0 : C4 → va_W} {L : Nat} {w : WW} {n : Nat} {Hi : Nat → WW} {sb : Option WW} (hC : CE X z 6 cL_does RL (rmC 8 8 80 198)) (hA : aX X = A0 z.1) (hR : EndI X 6 cL_does 8 80 .int (fun v H => ∃ r, v = some (.int r) ∧ ∃ τ, DN w n Hi sb r τ ∧ PE (kX X) z.1 B τ (E0 (kX X)) H)) (h : LA w n Hi sb [] σ) {a b c i : Nat} : G X 6 (PE (kX X) z.1 B σ (E0 (kX X))) 0 0 [(5, .int (nI c)), (4, .int (nI b)), (3, .int (nI a)), (0, .ref (B + 0)), (1, .ref z.2.1), (2, .int (nI i))] 104 [] := by
  refine e_aload_n 104 hC 3 (dg DL_does 26 rfl) rfl rfl ?_
  refine e_iload 105 hC 1 (dg DL_does 27 rfl) rfl ?_
  refine e_iload 107 hC 0 (dg DL_does 28 rfl) rfl ?_
  refine e_iload_n 109 hC 2 (dg DL_does 29 rfl) rfl rfl ?_
  refine g_cls (C := "") (n2 := 0) (As := [.int (nI b), .int (nI c), .int (nI a)]) 110 hC hA (m_X9_post (d_post h _ _ _)) qL_40 ⟨⟨(Nat.le_of_ble_eq_true rfl), (Nat.le_of_ble_eq_true rfl)⟩, (Nat.le_of_ble_eq_true rfl), (Nat.le_of_ble_eq_true rfl)⟩ rfl rfl (Nat.le_of_ble_eq_true rfl) (dg DL_does 30 rfl) (fun H h => h) (fun r υ hr => ?_)
  refine e_wid (cn' := 8) (sn' := 80) (by omega) (by omega) ?_
  exact hR 113 _ _ _ (dg DL_does 31 rfl) rfl (fun H h => ⟨_, rfl, υ, hr, h⟩)
set_option maxRecDepth 100000 in
set_option maxHeartbeats 4000000 in
theorem does_tear {X : XE} {z : Z4} {B : Nat} {σ : SS} {E0 : C4 → va_W} {L : Nat} {w : WW} {n : Nat} {Hi : Nat → WW} {sb : Option WW} (hC : CE X z 6 cL_does RL (rmC 8 8 80 198)) (hA : aX X = A0 z.1) (hR : EndI X 6 cL_does 8 80 .int (fun v H => ∃ r, v = some (.int r) ∧ ∃ τ, DN w n Hi sb r τ ∧ PE (kX X) z.1 B τ (E0 (kX X)) H)) (h : LA w n Hi sb [] σ) {a b c i : Nat} : G X 6 (PE (kX X) z.1 B σ (E0 (kX X))) 0 0 [(5, .int (nI c)), (4, .int (nI b)), (3, .int (nI a)), (0, .ref (B + 0)), (1, .ref z.2.1), (2, .int (nI i))] 114 [] := by
  refine e_aload_n 114 hC 3 (dg DL_does 32 rfl) rfl rfl ?_
  refine e_iload_n 115 hC 2 (dg DL_does 33 rfl) rfl rfl ?_
  refine g_cls (C := "") (n2 := 0) (As := [.int (nI a)]) 116 hC hA (m_X9_tear (d_tear h _)) qL_55 ⟨⟨(Nat.le_of_ble_eq_true rfl), (Nat.le_of_ble_eq_true rfl)⟩, (Nat.le_of_ble_eq_true rfl), (Nat.le_of_ble_eq_true rfl)⟩ rfl rfl (Nat.le_of_ble_eq_true rfl) (dg DL_does 34 rfl) (fun H h => h) (fun r υ hr => ?_)
  refine e_wid (cn' := 8) (sn' := 80) (by omega) (by omega) ?_
  exact hR 119 _ _ _ (dg DL_does 35 rfl) rfl (fun H h => ⟨_, rfl, υ, hr, h⟩)
set_option maxRecDepth 100000 in
set_option maxHeartbeats 4000000 in
theorem does_reach {X : XE} {z : Z4} {B : Nat} {σ : SS} {E0 : C4 → va_W} {L : Nat} {w : WW} {n : Nat} {Hi : Nat → WW} {sb : Option WW} (hC : CE X z 6 cL_does RL (rmC 8 8 80 198)) (hA : aX X = A0 z.1) (hR : EndI X 6 cL_does 8 80 .int (fun v H => ∃ r, v = some (.int r) ∧ ∃ τ, DN w n Hi sb r τ ∧ PE (kX X) z.1 B τ (E0 (kX X)) H)) (h : LA w n Hi sb [] σ) {a b c i : Nat} : G X 6 (PE (kX X) z.1 B σ (E0 (kX X))) 0 0 [(5, .int (nI c)), (4, .int (nI b)), (3, .int (nI a)), (0, .ref (B + 0)), (1, .ref z.2.1), (2, .int (nI i))] 120 [] := by
  refine e_aload_n 120 hC 3 (dg DL_does 36 rfl) rfl rfl ?_
  refine e_iload_n 121 hC 2 (dg DL_does 37 rfl) rfl rfl ?_
  refine e_iload 122 hC 0 (dg DL_does 38 rfl) rfl ?_
  refine e_iload 124 hC 1 (dg DL_does 39 rfl) rfl ?_
  refine e_bipush 126 hC (dg DL_does 40 rfl) (v := 13) (by decide) ?_
  refine e_irem 128 hC (dg DL_does 41 rfl) (by decide) ?_
  refine g_cls (C := "") (n2 := 0) (As := [.int (nI a), .int (nI c), .int ((nI b) - (nI b) / 13 * 13)]) 129 hC hA (m_X9_reach (d_reach h _ _ _)) qL_58 ⟨⟨(Nat.le_of_ble_eq_true rfl), (Nat.le_of_ble_eq_true rfl)⟩, (Nat.le_of_ble_eq_true rfl), (Nat.le_of_ble_eq_true rfl)⟩ rfl rfl (Nat.le_of_ble_eq_true rfl) (dg DL_does 42 rfl) (fun H h => h) (fun r υ hr => ?_)
  refine e_wid (cn' := 8) (sn' := 80) (by omega) (by omega) ?_
  exact hR 132 _ _ _ (dg DL_does 43 rfl) rfl (fun H h => ⟨_, rfl, υ, hr, h⟩)
set_option maxRecDepth 100000 in
set_option maxHeartbeats 4000000 in
theorem does_blind {X : XE} {z : Z4} {B : Nat} {σ : SS} {E0 : C4 → va_W} {L : Nat} {w : WW} {n : Nat} {Hi : Nat → WW} {sb : Option WW} (hC : CE X z 6 cL_does RL (rmC 8 8 80 198)) (hA : aX X = A0 z.1) (hR : EndI X 6 cL_does 8 80 .int (fun v H => ∃ r, v = some (.int r) ∧ ∃ τ, DN w n Hi sb r τ ∧ PE (kX X) z.1 B τ (E0 (kX X)) H)) (h : LA w n Hi sb [] σ) {a b c i : Nat} : G X 6 (PE (kX X) z.1 B σ (E0 (kX X))) 0 0 [(5, .int (nI c)), (4, .int (nI b)), (3, .int (nI a)), (0, .ref (B + 0)), (1, .ref z.2.1), (2, .int (nI i))] 133 [] := by
  refine e_aload_n 133 hC 3 (dg DL_does 44 rfl) rfl rfl ?_
  refine e_iload_n 134 hC 2 (dg DL_does 45 rfl) rfl rfl ?_
  refine e_iload 135 hC 1 (dg DL_does 46 rfl) rfl ?_
  refine e_iload 137 hC 0 (dg DL_does 47 rfl) rfl ?_
  refine g_cls (C := "") (n2 := 0) (As := [.int (nI a), .int (nI b), .int (nI c)]) 139 hC hA (m_X9_blind (d_blind h _ _ _)) qL_48 ⟨⟨(Nat.le_of_ble_eq_true rfl), (Nat.le_of_ble_eq_true rfl)⟩, (Nat.le_of_ble_eq_true rfl), (Nat.le_of_ble_eq_true rfl)⟩ rfl rfl (Nat.le_of_ble_eq_true rfl) (dg DL_does 48 rfl) (fun H h => h) (fun r υ hr => ?_)
  refine e_wid (cn' := 8) (sn' := 80) (by omega) (by omega) ?_
  exact hR 142 _ _ _ (dg DL_does 49 rfl) rfl (fun H h => ⟨_, rfl, υ, hr, h⟩)
set_option maxRecDepth 100000 in
set_option maxHeartbeats 4000000 in
theorem does_see {X : XE} {z : Z4} {B : Nat} {σ : SS} {E0 : C4 → va_W} {L : Nat} {w : WW} {n : Nat} {Hi : Nat → WW} {sb : Option WW} (hC : CE X z 6 cL_does RL (rmC 8 8 80 198)) (hA : aX X = A0 z.1) (hR : EndI X 6 cL_does 8 80 .int (fun v H => ∃ r, v = some (.int r) ∧ ∃ τ, DN w n Hi sb r τ ∧ PE (kX X) z.1 B τ (E0 (kX X)) H)) (h : LA w n Hi sb [] σ) {a b c i : Nat} : G X 6 (PE (kX X) z.1 B σ (E0 (kX X))) 0 0 [(5, .int (nI c)), (4, .int (nI b)), (3, .int (nI a)), (0, .ref (B + 0)), (1, .ref z.2.1), (2, .int (nI i))] 143 [] := by
  refine e_aload_n 143 hC 3 (dg DL_does 50 rfl) rfl rfl ?_
  refine e_iload_n 144 hC 2 (dg DL_does 51 rfl) rfl rfl ?_
  refine g_cls (C := "") (n2 := 0) (As := [.int (nI a)]) 145 hC hA (m_X9_see (d_see h _)) qL_61 ⟨⟨(Nat.le_of_ble_eq_true rfl), (Nat.le_of_ble_eq_true rfl)⟩, (Nat.le_of_ble_eq_true rfl), (Nat.le_of_ble_eq_true rfl)⟩ rfl rfl (Nat.le_of_ble_eq_true rfl) (dg DL_does 52 rfl) (fun H h => h) (fun r υ hr => ?_)
  refine e_wid (cn' := 8) (sn' := 80) (by omega) (by omega) ?_
  exact hR 148 _ _ _ (dg DL_does 53 rfl) rfl (fun H h => ⟨_, rfl, υ, hr, h⟩)
set_option maxRecDepth 100000 in
set_option maxHeartbeats 4000000 in
theorem does_man {X : XE} {z : Z4} {B : Nat} {σ : SS} {E0 : C4 → va_W} {L : Nat} {w : WW} {n : Nat} {Hi : Nat → WW} {sb : Option WW} (hC : CE X z 6 cL_does RL (rmC 8 8 80 198)) (hA : aX X = A0 z.1) (hR : EndI X 6 cL_does 8 80 .int (fun v H => ∃ r, v = some (.int r) ∧ ∃ τ, DN w n Hi sb r τ ∧ PE (kX X) z.1 B τ (E0 (kX X)) H)) (h : LA w n Hi sb [] σ) {a b c i : Nat} : G X 6 (PE (kX X) z.1 B σ (E0 (kX X))) 0 0 [(5, .int (nI c)), (4, .int (nI b)), (3, .int (nI a)), (0, .ref (B + 0)), (1, .ref z.2.1), (2, .int (nI i))] 149 [] := by
  refine e_aload_n 149 hC 3 (dg DL_does 54 rfl) rfl rfl ?_
  refine e_iload_n 150 hC 2 (dg DL_does 55 rfl) rfl rfl ?_
  refine e_iload 151 hC 0 (dg DL_does 56 rfl) rfl ?_
  refine e_iconst 153 hC (dg DL_does 57 rfl) (v := 2) (by decide) ?_
  refine e_irem 154 hC (dg DL_does 58 rfl) (by decide) ?_
  refine g_cls (C := "") (n2 := 0) (As := [.int (nI a), .int ((nI c) - (nI c) / 2 * 2)]) 155 hC hA (m_X9_man (d_man h _ _)) qL_44 ⟨⟨(Nat.le_of_ble_eq_true rfl), (Nat.le_of_ble_eq_true rfl)⟩, (Nat.le_of_ble_eq_true rfl), (Nat.le_of_ble_eq_true rfl)⟩ rfl rfl (Nat.le_of_ble_eq_true rfl) (dg DL_does 59 rfl) (fun H h => h) (fun r υ hr => ?_)
  refine e_wid (cn' := 8) (sn' := 80) (by omega) (by omega) ?_
  exact hR 158 _ _ _ (dg DL_does 60 rfl) rfl (fun H h => ⟨_, rfl, υ, hr, h⟩)
set_option maxRecDepth 100000 in
set_option maxHeartbeats 4000000 in
theorem does_hour {X : XE} {z : Z4} {B : Nat} {σ : SS} {E0 : C4 → va_W} {L : Nat} {w : WW} {n : Nat} {Hi : Nat → WW} {sb : Option WW} (hC : CE X z 6 cL_does RL (rmC 8 8 80 198)) (hA : aX X = A0 z.1) (hR : EndI X 6 cL_does 8 80 .int (fun v H => ∃ r, v = some (.int r) ∧ ∃ τ, DN w n Hi sb r τ ∧ PE (kX X) z.1 B τ (E0 (kX X)) H)) (h : LA w n Hi sb [] σ) {a b c i : Nat} : G X 6 (PE (kX X) z.1 B σ (E0 (kX X))) 0 0 [(5, .int (nI c)), (4, .int (nI b)), (3, .int (nI a)), (0, .ref (B + 0)), (1, .ref z.2.1), (2, .int (nI i))] 159 [] := by
  refine e_aload_n 159 hC 3 (dg DL_does 61 rfl) rfl rfl ?_
  refine e_iload 160 hC 0 (dg DL_does 62 rfl) rfl ?_
  refine g_cls (C := "") (n2 := 0) (As := [.int (nI c)]) 162 hC hA (m_X9_hour (d_hour h _)) qL_51 ⟨⟨(Nat.le_of_ble_eq_true rfl), (Nat.le_of_ble_eq_true rfl)⟩, (Nat.le_of_ble_eq_true rfl), (Nat.le_of_ble_eq_true rfl)⟩ rfl rfl (Nat.le_of_ble_eq_true rfl) (dg DL_does 63 rfl) (fun H h => h) (fun r υ hr => ?_)
  refine e_wid (cn' := 8) (sn' := 80) (by omega) (by omega) ?_
  exact hR 165 _ _ _ (dg DL_does 64 rfl) rfl (fun H h => ⟨_, rfl, υ, hr, h⟩)
set_option maxRecDepth 100000 in
set_option maxHeartbeats 4000000 in
theorem does_watch {X : XE} {z : Z4} {B : Nat} {σ : SS} {E0 : C4 → va_W} {L : Nat} {w : WW} {n : Nat} {Hi : Nat → WW} {sb : Option WW} (hC : CE X z 6 cL_does RL (rmC 8 8 80 198)) (hA : aX X = A0 z.1) (hR : EndI X 6 cL_does 8 80 .int (fun v H => ∃ r, v = some (.int r) ∧ ∃ τ, DN w n Hi sb r τ ∧ PE (kX X) z.1 B τ (E0 (kX X)) H)) (h : LA w n Hi sb [] σ) {a b c i : Nat} : G X 6 (PE (kX X) z.1 B σ (E0 (kX X))) 0 0 [(5, .int (nI c)), (4, .int (nI b)), (3, .int (nI a)), (0, .ref (B + 0)), (1, .ref z.2.1), (2, .int (nI i))] 278 [] := by
  refine e_aload_n 278 hC 3 (dg DL_does 115 rfl) rfl rfl ?_
  refine g_cls (C := "") (n2 := 0) (As := []) 279 hC hA (m_X9_watch (d_watch h)) qL_93 ⟨⟨(Nat.le_of_ble_eq_true rfl), (Nat.le_of_ble_eq_true rfl)⟩, (Nat.le_of_ble_eq_true rfl), (Nat.le_of_ble_eq_true rfl)⟩ rfl rfl (Nat.le_of_ble_eq_true rfl) (dg DL_does 116 rfl) (fun H h => h) (fun r υ hr => ?_)
  refine e_wid (cn' := 8) (sn' := 80) (by omega) (by omega) ?_
  exact hR 282 _ _ _ (dg DL_does 117 rfl) rfl (fun H h => ⟨_, rfl, υ, hr, h⟩)
set_option maxRecDepth 100000 in
set_option maxHeartbeats 4000000 in
theorem m_does {z : Z4} {B : Nat} {σ : SS} {E : C4 → va_W} {L : Nat} {w : WW} {n : Nat} {Hi : Nat → WW} {sb : Option WW} {i : Nat} (hL : z.2.2.1 < 2 ^ 31) (hi : i ≤ 1000) (hL0 : ∀ K, (E K).length = L) (h : LA w n Hi sb [] σ) : GC yL_does cL_does 6 (some .int) 8 198 8 80 z [.ref (B + 0), .ref z.2.1, .int (nI i)] (fun K => PE K z.1 B σ (E K)) none (fun K v H => ∃ r, v = some (.int r) ∧ ∃ τ, DN w n Hi sb r τ ∧ PE K z.1 B τ (E K) H) := by
  refine GC.mkI (by decide +kernel) (Nat.le_of_ble_eq_true rfl) (fun X hC hA hR => ?_)
  refine e_imp (P' := PE (kX X) z.1 B σ (E (kX X))) (fun H h => h.1) ?_
  refine e_aload_n 0 hC 1 (dg DL_does 0 rfl) rfl rfl ?_
  refine e_iload_n 1 hC 2 (dg DL_does 1 rfl) rfl rfl ?_
  refine e_iconst 2 hC (dg DL_does 2 rfl) (v := 1) (by decide) ?_
  refine e_iadd 3 hC (dg DL_does 3 rfl) ?_
  refine e_eq (y := (nI (i + 1))) (nI_add i 1) ?_
  refine e_bipush 4 hC (dg DL_does 4 rfl) (v := 10) (by decide) ?_
  refine h_run (run_S (o := none) (As := [.ref z.2.1, .int (nI (i + 1)), .int 10]) 6 hC (m_in (m := 10) hL (by omega) (by decide) (by decide)) qL_36 ⟨⟨(Nat.le_of_ble_eq_true rfl), (Nat.le_of_ble_eq_true rfl)⟩, (Nat.le_of_ble_eq_true rfl), (Nat.le_of_ble_eq_true rfl)⟩ rfl rfl (Nat.le_of_ble_eq_true rfl) (dg DL_does 5 rfl) (fun H h => ⟨trivial, trivial⟩)) (h_int (fun ra ⟨a, ha, ea⟩ => ?_))
  subst ea
  refine e_istore_n 9 hC [(3, .int (nI a)), (0, .ref (B + 0)), (1, .ref z.2.1), (2, .int (nI i))] (dg DL_does 6 rfl) rfl (by decide) rfl ?_
  refine e_aload_n 10 hC 2 (dg DL_does 7 rfl) rfl rfl ?_
  refine e_iload_n 11 hC 3 (dg DL_does 8 rfl) rfl rfl ?_
  refine e_iconst 12 hC (dg DL_does 9 rfl) (v := 2) (by decide) ?_
  refine e_iadd 13 hC (dg DL_does 10 rfl) ?_
  refine e_eq (y := (nI (i + 2))) (nI_add i 2) ?_
  refine e_bipush 14 hC (dg DL_does 11 rfl) (v := 25) (by decide) ?_
  refine h_run (run_S (o := none) (As := [.ref z.2.1, .int (nI (i + 2)), .int 25]) 16 hC (m_in (m := 25) hL (by omega) (by decide) (by decide)) qL_36 ⟨⟨(Nat.le_of_ble_eq_true rfl), (Nat.le_of_ble_eq_true rfl)⟩, (Nat.le_of_ble_eq_true rfl), (Nat.le_of_ble_eq_true rfl)⟩ rfl rfl (Nat.le_of_ble_eq_true rfl) (dg DL_does 12 rfl) (fun H h => ⟨trivial, trivial⟩)) (h_int (fun rb ⟨b, hb, eb⟩ => ?_))
  subst eb
  refine e_istore 19 hC [(4, .int (nI b)), (3, .int (nI a)), (0, .ref (B + 0)), (1, .ref z.2.1), (2, .int (nI i))] (dg DL_does 13 rfl) (by decide) rfl ?_
  refine e_aload_n 21 hC 3 (dg DL_does 14 rfl) rfl rfl ?_
  refine e_iload_n 22 hC 4 (dg DL_does 15 rfl) rfl rfl ?_
  refine e_iconst 23 hC (dg DL_does 16 rfl) (v := 3) (by decide) ?_
  refine e_iadd 24 hC (dg DL_does 17 rfl) ?_
  refine e_eq (y := (nI (i + 3))) (nI_add i 3) ?_
  refine e_bipush 25 hC (dg DL_does 18 rfl) (v := 13) (by decide) ?_
  refine h_run (run_S (o := none) (As := [.ref z.2.1, .int (nI (i + 3)), .int 13]) 27 hC (m_in (m := 13) hL (by omega) (by decide) (by decide)) qL_36 ⟨⟨(Nat.le_of_ble_eq_true rfl), (Nat.le_of_ble_eq_true rfl)⟩, (Nat.le_of_ble_eq_true rfl), (Nat.le_of_ble_eq_true rfl)⟩ rfl rfl (Nat.le_of_ble_eq_true rfl) (dg DL_does 19 rfl) (fun H h => ⟨trivial, trivial⟩)) (h_int (fun rc ⟨c, hc, ec⟩ => ?_))
  subst ec
  refine e_istore 30 hC [(5, .int (nI c)), (4, .int (nI b)), (3, .int (nI a)), (0, .ref (B + 0)), (1, .ref z.2.1), (2, .int (nI i))] (dg DL_does 20 rfl) (by decide) rfl ?_
  refine e_aload_n 32 hC 4 (dg DL_does 21 rfl) rfl rfl ?_
  refine e_iload_n 33 hC 5 (dg DL_does 22 rfl) rfl rfl ?_
  refine e_bipush 34 hC (dg DL_does 23 rfl) (v := 16) (by decide) ?_
  refine h_run (run_S (o := none) (As := [.ref z.2.1, .int (nI i), .int 16]) 36 hC (m_in (m := 16) hL (by omega) (by decide) (by decide)) qL_36 ⟨⟨(Nat.le_of_ble_eq_true rfl), (Nat.le_of_ble_eq_true rfl)⟩, (Nat.le_of_ble_eq_true rfl), (Nat.le_of_ble_eq_true rfl)⟩ rfl rfl (Nat.le_of_ble_eq_true rfl) (dg DL_does 24 rfl) (fun H h => ⟨trivial, trivial⟩)) (h_int (fun rm ⟨m, hm, em⟩ => ?_))
  subst em
  rcases (show m = 0 ∨ m = 1 ∨ m = 2 ∨ m = 3 ∨ m = 4 ∨ m = 5 ∨ m = 6 ∨ m = 7 ∨ m = 8 ∨ m = 9 ∨ m = 10 ∨ m = 11 ∨ m = 12 ∨ m = 13 ∨ m = 14 ∨ m = 15 by omega) with rfl | rfl | rfl | rfl | rfl | rfl | rfl | rfl | rfl | rfl | rfl | rfl | rfl | rfl | rfl | rfl
  · refine e_tableIn 39 104 hC (dg DL_does 25 rfl) (by decide) (by decide) rfl (by decide) ?_
    exact does_post (L := 0) hC hA hR h
  · refine e_tableIn 39 104 hC (dg DL_does 25 rfl) (by decide) (by decide) rfl (by decide) ?_
    exact does_post (L := 0) hC hA hR h
  · refine e_tableIn 39 114 hC (dg DL_does 25 rfl) (by decide) (by decide) rfl (by decide) ?_
    exact does_tear (L := 0) hC hA hR h
  · refine e_tableIn 39 120 hC (dg DL_does 25 rfl) (by decide) (by decide) rfl (by decide) ?_
    exact does_reach (L := 0) hC hA hR h
  · refine e_tableIn 39 120 hC (dg DL_does 25 rfl) (by decide) (by decide) rfl (by decide) ?_
    exact does_reach (L := 0) hC hA hR h
  · refine e_tableIn 39 133 hC (dg DL_does 25 rfl) (by decide) (by decide) rfl (by decide) ?_
    exact does_blind (L := 0) hC hA hR h
  · refine e_tableIn 39 133 hC (dg DL_does 25 rfl) (by decide) (by decide) rfl (by decide) ?_
    exact does_blind (L := 0) hC hA hR h
  · refine e_tableIn 39 143 hC (dg DL_does 25 rfl) (by decide) (by decide) rfl (by decide) ?_
    exact does_see (L := 0) hC hA hR h
  · refine e_tableIn 39 149 hC (dg DL_does 25 rfl) (by decide) (by decide) rfl (by decide) ?_
    exact does_man (L := 0) hC hA hR h
  · refine e_tableIn 39 149 hC (dg DL_does 25 rfl) (by decide) (by decide) rfl (by decide) ?_
    exact does_man (L := 0) hC hA hR h
  · refine e_tableIn 39 159 hC (dg DL_does 25 rfl) (by decide) (by decide) rfl (by decide) ?_
    exact does_hour (L := 0) hC hA hR h
  · refine e_tableIn 39 166 hC (dg DL_does 25 rfl) (by decide) (by decide) rfl (by decide) ?_
    exact does_text hC hA hR hL0 h ha hb hc
  · refine e_tableIn 39 166 hC (dg DL_does 25 rfl) (by decide) (by decide) rfl (by decide) ?_
    exact does_text hC hA hR hL0 h ha hb hc
  · refine e_tableOut 39 278 hC (dg DL_does 25 rfl) (by decide) (by decide) ?_
    exact does_watch (L := 0) hC hA hR h
  · refine e_tableOut 39 278 hC (dg DL_does 25 rfl) (by decide) (by decide) ?_
    exact does_watch (L := 0) hC hA hR h
  · refine e_tableOut 39 278 hC (dg DL_does 25 rfl) (by decide) (by decide) ?_
    exact does_watch (L := 0) hC hA hR h
