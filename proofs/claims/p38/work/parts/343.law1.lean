/-! the law's own methods: cell, in, areAlike, seen -/
set_option maxRecDepth 100000 in
set_option maxHeartbeats 4000000 in
theorem lc_tail {X : XE} {z : Z4} {P : Heap → Prop} {i : Nat} {x : Int32} (hC : CE X z 3 cL_cell RL (rmC 0 0 0 0)) (hR : EndI X 3 cL_cell 0 0 .int (EndQ X (fun v => ∃ r, v = some (.int r) ∧ True))) (hP : ∀ H, P H → H = (sX X).heap) : G X 3 P 0 0 [(0, .ref z.2.1), (1, .int (nI i))] 15 [.int x, .int 69069] := by
  refine e_sipush 15 hC (dg DL_cell 10 rfl) (v := 1009) (by decide) ?_
  refine e_iload_n 18 hC 1 (dg DL_cell 11 rfl) rfl rfl ?_
  refine e_imul 19 hC (dg DL_cell 12 rfl) ?_
  refine e_top (fun y1 ey1 => ?_)
  refine e_iadd 20 hC (dg DL_cell 13 rfl) ?_
  refine e_top (fun y2 ey2 => ?_)
  refine e_imul 21 hC (dg DL_cell 14 rfl) ?_
  refine e_top (fun y3 ey3 => ?_)
  refine e_sipush 22 hC (dg DL_cell 15 rfl) (v := 12345) (by decide) ?_
  refine e_iadd 25 hC (dg DL_cell 16 rfl) ?_
  refine e_top (fun y4 ey4 => ?_)
  refine e_istore_n 26 hC [(2, .int y4), (0, .ref z.2.1), (1, .int (nI i))] (dg DL_cell 17 rfl) rfl (by decide) rfl ?_
  refine e_iload_n 27 hC 0 (dg DL_cell 18 rfl) rfl rfl ?_
  refine e_iload_n 28 hC 0 (dg DL_cell 19 rfl) rfl rfl ?_
  refine e_bipush 29 hC (dg DL_cell 20 rfl) (v := 13) (by decide) ?_
  refine e_iushr 31 hC (dg DL_cell 21 rfl) ?_
  refine e_top (fun y5 ey5 => ?_)
  refine e_ixor 32 hC (dg DL_cell 22 rfl) ?_
  refine e_top (fun y6 ey6 => ?_)
  refine e_ldc 33 hC (dg DL_cell 23 rfl) u_336 (v := 1103515245) ?_
  refine e_imul 35 hC (dg DL_cell 24 rfl) ?_
  refine e_top (fun y7 ey7 => ?_)
  refine e_istore_n 36 hC [(2, .int y7), (0, .ref z.2.1), (1, .int (nI i))] (dg DL_cell 25 rfl) rfl (by decide) rfl ?_
  refine e_iload_n 37 hC 0 (dg DL_cell 26 rfl) rfl rfl ?_
  refine e_iload_n 38 hC 0 (dg DL_cell 27 rfl) rfl rfl ?_
  refine e_bipush 39 hC (dg DL_cell 28 rfl) (v := 16) (by decide) ?_
  refine e_iushr 41 hC (dg DL_cell 29 rfl) ?_
  refine e_top (fun y8 ey8 => ?_)
  refine e_ixor 42 hC (dg DL_cell 30 rfl) ?_
  refine e_top (fun y9 ey9 => ?_)
  exact hR 43 _ _ _ (dg DL_cell 31 rfl) rfl (fun H h => ⟨hP H h, _, rfl, trivial⟩)
set_option maxRecDepth 100000 in
set_option maxHeartbeats 4000000 in
theorem m_cell {z : Z4} {i : Nat} (hi : i < 2 ^ 31) (hL : z.2.2.1 < 2 ^ 31) : HC2 yL_cell cL_cell 3 (some .int) 0 0 z [.ref z.2.1, .int (nI i)] (fun _ _ => True) none (fun v => ∃ r, v = some (.int r) ∧ True) := by
  refine HC2.mkI (by decide +kernel) (Nat.le_of_ble_eq_true rfl) (fun X hC hR => ?_)
  refine e_ldc 0 hC (dg DL_cell 0 rfl) u_335 (v := 69069) ?_
  refine e_iload_n 2 hC 1 (dg DL_cell 1 rfl) rfl rfl ?_
  refine e_aload_n 3 hC 0 (dg DL_cell 2 rfl) rfl rfl ?_
  refine e_slen 4 hC (dg DL_cell 3 rfl) ?_
  refine e_icmp_ge 5 14 hC (dg DL_cell 4 rfl) (by decide) (fun c => ?_) (fun c => ?_)
  · refine e_iconst 14 hC (dg DL_cell 9 rfl) (v := 0) (by decide) ?_
    exact lc_tail hC hR (fun H h => h.1)
  · refine e_aload_n 8 hC 0 (dg DL_cell 5 rfl) rfl rfl ?_
    refine e_iload_n 9 hC 1 (dg DL_cell 6 rfl) rfl rfl ?_
    refine e_sld 10 i hC rfl (by rw [nI_leI hL hi] at c; omega) (dg DL_cell 7 rfl) ?_
    refine e_goto 11 15 hC (dg DL_cell 8 rfl) (by decide) ?_
    exact lc_tail hC hR (fun H h => h.1)
theorem in_lt (x : Int32) {m : Nat} (h0 : 0 < m) (hm : m < 2 ^ 31) : ∃ j, j < m ∧ (x &&& 2147483647) - (x &&& 2147483647) / nI m * nI m = nI j := by
  obtain ⟨n, -, rfl⟩ := wb_of32 x
  rw [show (2147483647 : Int32) = nI 2147483647 from rfl, mI_and]
  have h : n &&& 2147483647 < 2 ^ 31 := by
    have := @Nat.and_le_right n 2147483647
    omega
  exact ⟨_, Nat.mod_lt _ h0, pk_rem h h0 hm⟩
theorem nz_I {m : Nat} (h0 : 0 < m) (hm : m < 2 ^ 31) : ¬ nI m = 0 := fun e => by
  have := congrArg Int32.toInt e
  rw [nI_toInt hm, show (0 : Int32).toInt = 0 from rfl] at this
  omega
set_option maxRecDepth 100000 in
set_option maxHeartbeats 4000000 in
theorem m_in {z : Z4} {i m : Nat} (hL : z.2.2.1 < 2 ^ 31) (hi : i < 2 ^ 31) (h0 : 0 < m) (hm : m < 2 ^ 31) : HC2 yL_in cL_in 3 (some .int) 1 22 z [.ref z.2.1, .int (nI i), .int (nI m)] (fun _ _ => True) none (fun v => ∃ r, v = some (.int r) ∧ ∃ j, j < m ∧ r = nI j) := by
  refine HC2.mkI (by decide +kernel) (Nat.le_of_ble_eq_true rfl) (fun X hC hR => ?_)
  refine e_aload_n 0 hC 0 (dg DL_in 0 rfl) rfl rfl ?_
  refine e_iload_n 1 hC 1 (dg DL_in 1 rfl) rfl rfl ?_
  refine h_run (run_S (o := none) (As := [.ref z.2.1, .int (nI i)]) 2 hC (m_cell hi hL) qL_9 ⟨⟨(Nat.le_of_ble_eq_true rfl), (Nat.le_of_ble_eq_true rfl)⟩, (Nat.le_of_ble_eq_true rfl), (Nat.le_of_ble_eq_true rfl)⟩ rfl rfl (Nat.le_of_ble_eq_true rfl) (dg DL_in 2 rfl) (fun H h => ⟨trivial, trivial⟩)) (h_int (fun x hr => ?_))
  refine e_ldc 5 hC (dg DL_in 3 rfl) u_337 (v := 2147483647) ?_
  refine e_iand 7 hC (dg DL_in 4 rfl) ?_
  refine e_iload_n 8 hC 2 (dg DL_in 5 rfl) rfl rfl ?_
  refine e_irem 9 hC (dg DL_in 6 rfl) (nz_I h0 hm) ?_
  obtain ⟨j, hj, e⟩ := in_lt x h0 hm
  exact hR 10 _ _ _ (dg DL_in 7 rfl) rfl (fun H h => ⟨h.1, _, rfl, j, hj, e⟩)
set_option maxRecDepth 100000 in
set_option maxHeartbeats 4000000 in
theorem alike_loop {X : XE} {z : Z4} {P : Heap → Prop} {B : Nat} {σ : SS} {E : va_W} {i j a b : Nat} {f : Nat → Int32} (hC : CE X z 3 cL_areAlike RL (rmC 0 0 0 0)) (hR : EndI X 3 cL_areAlike 0 0 .boolean (EndQ X (fun v => ∃ r, v = some (.int r) ∧ r = 1))) (hP0 : ∀ H, P H → H = (sX X).heap) (hP : ∀ H, P H → PE (kX X) z.1 B σ E H) (hi : E[i]? = some (a, .inl ((kX X).2.1.1, (100, .inl f)))) (hj : E[j]? = some (b, .inl ((kX X).2.1.1, (100, .inl f)))) : ∀ d k, k + d = 100 → G X 3 P 0 0 [(2, .int (nI k)), (0, .ref a), (1, .ref b)] 2 [] := by
  intro d
  induction d with
  | zero =>
    intro k hk
    refine e_iload_n 2 hC 0 (dg DL_areAlike 2 rfl) rfl rfl ?_
    refine e_aload_n 3 hC 1 (dg DL_areAlike 3 rfl) rfl rfl ?_
    refine e_alenI 4 i hC hP hi (v := 100) rfl (dg DL_areAlike 4 rfl) ?_
    refine e_icmp_ge 5 25 hC (dg DL_areAlike 5 rfl) (by decide) (fun _ => ?_) (fun h => absurd (by rw [show (100 : Int32) = nI 100 from rfl, nI_leI (by decide) (by omega)]; omega) h)
    refine e_iconst 25 hC (dg DL_areAlike 17 rfl) (v := 1) (by decide) ?_
    exact hR 26 _ _ _ (dg DL_areAlike 18 rfl) rfl (fun H h => ⟨hP0 H h, _, rfl, rfl⟩)
  | succ d ih =>
    intro k hk
    refine e_iload_n 2 hC 0 (dg DL_areAlike 2 rfl) rfl rfl ?_
    refine e_aload_n 3 hC 1 (dg DL_areAlike 3 rfl) rfl rfl ?_
    refine e_alenI 4 i hC hP hi (v := 100) rfl (dg DL_areAlike 4 rfl) ?_
    refine e_icmp_ge 5 25 hC (dg DL_areAlike 5 rfl) (by decide) (fun h => absurd h (c_nle 100 (by omega))) (fun _ => ?_)
    refine e_aload_n 8 hC 1 (dg DL_areAlike 6 rfl) rfl rfl ?_
    refine e_iload_n 9 hC 0 (dg DL_areAlike 7 rfl) rfl rfl ?_
    refine e_iald 10 i k hC hP hi rfl (by omega) (by decide) (dg DL_areAlike 8 rfl) ?_
    refine e_aload_n 11 hC 2 (dg DL_areAlike 9 rfl) rfl rfl ?_
    refine e_iload_n 12 hC 0 (dg DL_areAlike 10 rfl) rfl rfl ?_
    refine e_iald 13 j k hC hP hj rfl (by omega) (by decide) (dg DL_areAlike 11 rfl) ?_
    refine e_icmp_eq 14 19 hC (dg DL_areAlike 12 rfl) (by decide) (fun _ => ?_) (fun h => absurd rfl h)
    refine e_iinc 19 hC 0 (nI (k + 1)) [(2, .int (nI (k + 1))), (0, .ref a), (1, .ref b)] (dg DL_areAlike 15 rfl) rfl (nI_1 k) (by decide) rfl ?_
    refine e_goto 22 2 hC (dg DL_areAlike 16 rfl) (by decide) ?_
    exact ih (k + 1) (by omega)
set_option maxRecDepth 100000 in
set_option maxHeartbeats 4000000 in
theorem m_alike {z : Z4} {B : Nat} {σ : SS} {E : C4 → va_W} {i j a b : Nat} {f : Nat → Int32} (hi : ∀ K, (E K)[i]? = some (a, .inl (K.2.1.1, (100, .inl f)))) (hj : ∀ K, (E K)[j]? = some (b, .inl (K.2.1.1, (100, .inl f)))) : HC2 yL_areAlike cL_areAlike 3 (some .boolean) 0 0 z [.ref a, .ref b] (fun K => PE K z.1 B σ (E K)) none (fun v => ∃ r, v = some (.int r) ∧ r = 1) := by
  refine HC2.mkI (by decide +kernel) (Nat.le_of_ble_eq_true rfl) (fun X hC hR => ?_)
  refine e_iconst 0 hC (dg DL_areAlike 0 rfl) (v := 0) (by decide) ?_
  refine e_istore_n 1 hC [(2, .int 0), (0, .ref a), (1, .ref b)] (dg DL_areAlike 1 rfl) rfl (by decide) rfl ?_
  exact alike_loop hC hR (fun H h => h.1) (fun H h => h.2.1) (hi _) (hj _) 100 0 rfl
/-- what is seen, the first m of it -/
def scp (w : WW) (m : Nat) : Nat → Int32 := fun i => if i < m then sc w i else 0
theorem scp_0 (w : WW) : scp w 0 = fun _ => 0 := funext fun i => if_neg (by omega)
theorem scp_up (w : WW) (m : Nat) : upd (scp w m) m (sc w m) = scp w (m + 1) := by
  funext i
  unfold scp upd
  by_cases e : i = m
  · subst e; rw [if_pos rfl, if_pos (by omega)]
  · rw [if_neg e]
    show (if i < m then sc w i else 0) = _
    by_cases c : i < m
    · rw [if_pos c, if_pos (by omega)]
    · rw [if_neg c, if_neg (by omega)]
theorem scp_11 (w : WW) : scp w 11 = scp w 12 := by
  rw [← scp_up w 11]
  funext i
  unfold upd
  by_cases e : i = 11
  · subst e
    rw [if_pos rfl]
    unfold scp sc
    rw [if_neg (by decide), if_neg (by decide), if_neg (by omega)]
  · rw [if_neg e]
theorem scp_all {w : WW} : scp w (12 + 8 * w.1 0) = sc w := by
  funext i
  unfold scp
  by_cases c : i < 12 + 8 * w.1 0
  · rw [if_pos c]
  · rw [if_neg c]
    unfold sc
    rw [if_neg (by omega), if_neg (by omega)]
theorem sc_acc {w : WW} {a b : Int32} {i : Nat} (hi : i < 11) : a_account w.1 w.2 a b (nI i) = sc w i := by
  unfold sc
  rw [if_pos hi]
  exact a_account_lo _ _ _ _ _ _ hi
theorem sc_post {w : WW} {p q : Nat} (hp : p < w.1 0) (hq : q < 8) : a_postOf w.1 w.2 (nI p) (nI q) = sc w (12 + 8 * p + q) := by
  unfold sc
  rw [if_neg (by omega), if_pos (by omega), show (12 + 8 * p + q - 12) / 8 = p by omega, show (12 + 8 * p + q - 12) % 8 = q by omega]
set_option maxRecDepth 100000 in
set_option maxHeartbeats 4000000 in
theorem seen_what {X : XE} {z : Z4} {B : Nat} {E : va_W} {a : Nat} {w : WW} {n : Nat} {Hi : Nat → WW} {sb : Option WW} {T : List Int32} {p : Nat} (hC : CE X z 4 cL_seen RL (rmC 5 1 100 133)) (hA : aX X = A0 z.1) (hp : p < w.1 0) (kk : ∀ τ, LA w n Hi sb T τ → G X 4 (PE (kX X) z.1 B τ (E ++ [(a, .inl ((kX X).2.1.1, (100, .inl (scp w (12 + 8 * (p + 1))))))])) 1 100 [(2, .int (nI (p + 1))), (1, .ref a), (0, .ref (B + 0))] 29 []) : ∀ d q τ, q + d = 8 → LA w n Hi sb T τ → G X 4 (PE (kX X) z.1 B τ (E ++ [(a, .inl ((kX X).2.1.1, (100, .inl (scp w (12 + 8 * p + q)))))])) 1 100 [(3, .int (nI q)), (2, .int (nI p)), (1, .ref a), (0, .ref (B + 0))] 40 [] := by
  intro d
  induction d with
  | zero =>
    intro q τ hq ht
    have h9 := ht.ok.1
    refine e_iload_n 40 hC 0 (dg DL_seen 25 rfl) rfl rfl ?_
    refine e_bipush 41 hC (dg DL_seen 26 rfl) (v := 8) (by decide) ?_
    refine e_icmp_ge 43 69 hC (dg DL_seen 27 rfl) (by decide) (fun _ => ?_) (fun h => absurd (by rw [show (8 : Int32) = nI 8 from rfl, nI_leI (by decide) (by omega)]; omega) h)
    refine e_iinc 69 hC 1 (nI (p + 1)) [(2, .int (nI (p + 1))), (3, .int (nI q)), (1, .ref a), (0, .ref (B + 0))] (dg DL_seen 43 rfl) rfl (nI_1 p) (by decide) rfl ?_
    refine e_goto 72 29 hC (dg DL_seen 44 rfl) (by decide) ?_
    refine e_lv [0, 2, 3] rfl ?_
    have e : 12 + 8 * p + q = 12 + 8 * (p + 1) := by omega
    rw [e]
    exact kk τ ht
  | succ d ih =>
    intro q τ hq ht
    have h9 := ht.ok.1
    refine e_iload_n 40 hC 0 (dg DL_seen 25 rfl) rfl rfl ?_
    refine e_bipush 41 hC (dg DL_seen 26 rfl) (v := 8) (by decide) ?_
    refine e_icmp_ge 43 69 hC (dg DL_seen 27 rfl) (by decide) (fun h => absurd h (c_nle 8 (by omega))) (fun _ => ?_)
    refine e_aload_n 46 hC 2 (dg DL_seen 28 rfl) rfl rfl ?_
    refine e_bipush 47 hC (dg DL_seen 29 rfl) (v := 12) (by decide) ?_
    refine e_bipush 49 hC (dg DL_seen 30 rfl) (v := 8) (by decide) ?_
    refine e_iload_n 51 hC 1 (dg DL_seen 31 rfl) rfl rfl ?_
    refine e_imul 52 hC (dg DL_seen 32 rfl) ?_
    refine e_eq (y := (nI (8 * p))) (pk_mul 8 p) ?_
    refine e_iadd 53 hC (dg DL_seen 33 rfl) ?_
    refine e_eq (y := (nI (12 + 8 * p))) (nI_add 12 _) ?_
    refine e_iload_n 54 hC 0 (dg DL_seen 34 rfl) rfl rfl ?_
    refine e_iadd 55 hC (dg DL_seen 35 rfl) ?_
    refine e_eq (y := (nI (12 + 8 * p + q))) (nI_add _ _) ?_
    refine e_aload_n 56 hC 3 (dg DL_seen 36 rfl) rfl rfl ?_
    refine e_iload_n 57 hC 1 (dg DL_seen 37 rfl) rfl rfl ?_
    refine e_iload_n 58 hC 0 (dg DL_seen 38 rfl) rfl rfl ?_
    refine g_cls (C := "") (n2 := 0) (As := [.int (nI p), .int (nI q)]) 59 hC hA (m_X9_postOf (d_postOf ht (nI p) (nI q))) qL_99 ⟨⟨(Nat.le_of_ble_eq_true rfl), (Nat.le_of_ble_eq_true rfl)⟩, (Nat.le_of_ble_eq_true rfl), (Nat.le_of_ble_eq_true rfl)⟩ rfl rfl (Nat.le_of_ble_eq_true rfl) (dg DL_seen 39 rfl) (fun H h => h) (fun r υ ⟨hr, hu⟩ => ?_)
    subst hr
    rw [sc_post hp (by omega)]
    refine e_iast 62 E.length (12 + 8 * p + q) hC hA (fun H h => h) app_last rfl (by omega) (by decide) (dg DL_seen 40 rfl) ?_
    rw [set_last]
    rw [scp_up]
    refine e_iinc 63 hC 0 (nI (q + 1)) [(3, .int (nI (q + 1))), (2, .int (nI p)), (1, .ref a), (0, .ref (B + 0))] (dg DL_seen 41 rfl) rfl (nI_1 q) (by decide) rfl ?_
    refine e_goto 66 40 hC (dg DL_seen 42 rfl) (by decide) ?_
    exact ih (q + 1) υ (by omega) hu
set_option maxRecDepth 100000 in
set_option maxHeartbeats 4000000 in
theorem seen_posts {X : XE} {z : Z4} {B : Nat} {E : va_W} {a : Nat} {w : WW} {n : Nat} {Hi : Nat → WW} {sb : Option WW} {T : List Int32} (hC : CE X z 4 cL_seen RL (rmC 5 1 100 133)) (hA : aX X = A0 z.1) (hR : EndR X 4 cL_seen 1 100 (fun v H => ∃ a, v = some (.ref a) ∧ ∃ τ, LA w n Hi sb T τ ∧ PE (kX X) z.1 B τ (E ++ [(a, .inl ((kX X).2.1.1, (100, .inl (sc w))))]) H)) : ∀ d p τ, p + d = w.1 0 → LA w n Hi sb T τ → G X 4 (PE (kX X) z.1 B τ (E ++ [(a, .inl ((kX X).2.1.1, (100, .inl (scp w (12 + 8 * p)))))])) 1 100 [(2, .int (nI p)), (1, .ref a), (0, .ref (B + 0))] 29 [] := by
  intro d
  induction d with
  | zero =>
    intro p τ hp ht
    have h9 := ht.ok.1
    refine e_iload_n 29 hC 0 (dg DL_seen 18 rfl) rfl rfl ?_
    refine e_aload_n 30 hC 2 (dg DL_seen 19 rfl) rfl rfl ?_
    refine e_iconst 31 hC (dg DL_seen 20 rfl) (v := 0) (by decide) ?_
    refine g_cls (C := "") (n2 := 0) (As := [.int 0]) 32 hC hA (m_X9_account (d_account ht 0)) qL_96 ⟨⟨(Nat.le_of_ble_eq_true rfl), (Nat.le_of_ble_eq_true rfl)⟩, (Nat.le_of_ble_eq_true rfl), (Nat.le_of_ble_eq_true rfl)⟩ rfl rfl (Nat.le_of_ble_eq_true rfl) (dg DL_seen 21 rfl) (fun H h => h) (fun r υ ⟨hr, hu⟩ => ?_)
    subst hr
    rw [a_account_0]
    refine e_icmp_ge 35 75 hC (dg DL_seen 22 rfl) (by decide) (fun _ => ?_) (fun h => absurd (by rw [nI_leI (by omega) (by omega)]; omega) h)
    refine e_aload_n 75 hC 1 (dg DL_seen 45 rfl) rfl rfl ?_
    have e : 12 + 8 * p = 12 + 8 * w.1 0 := by omega
    rw [e, scp_all]
    exact hR 76 _ _ _ (dg DL_seen 46 rfl) (fun H h => ⟨_, rfl, υ, hu, h⟩)
  | succ d ih =>
    intro p τ hp ht
    have h9 := ht.ok.1
    refine e_iload_n 29 hC 0 (dg DL_seen 18 rfl) rfl rfl ?_
    refine e_aload_n 30 hC 2 (dg DL_seen 19 rfl) rfl rfl ?_
    refine e_iconst 31 hC (dg DL_seen 20 rfl) (v := 0) (by decide) ?_
    refine g_cls (C := "") (n2 := 0) (As := [.int 0]) 32 hC hA (m_X9_account (d_account ht 0)) qL_96 ⟨⟨(Nat.le_of_ble_eq_true rfl), (Nat.le_of_ble_eq_true rfl)⟩, (Nat.le_of_ble_eq_true rfl), (Nat.le_of_ble_eq_true rfl)⟩ rfl rfl (Nat.le_of_ble_eq_true rfl) (dg DL_seen 21 rfl) (fun H h => h) (fun r υ ⟨hr, hu⟩ => ?_)
    subst hr
    rw [a_account_0]
    refine e_icmp_ge 35 75 hC (dg DL_seen 22 rfl) (by decide) (fun h => absurd h (nI_gt (by omega) (by omega))) (fun _ => ?_)
    refine e_iconst 38 hC (dg DL_seen 23 rfl) (v := 0) (by decide) ?_
    refine e_istore_n 39 hC [(3, .int 0), (2, .int (nI p)), (1, .ref a), (0, .ref (B + 0))] (dg DL_seen 24 rfl) rfl (by decide) rfl ?_
    exact seen_what hC hA (by omega) (fun τ2 h2 => ih (p + 1) τ2 (by omega) h2) 8 0 υ rfl hu
set_option maxRecDepth 100000 in
set_option maxHeartbeats 4000000 in
theorem seen_acc {X : XE} {z : Z4} {B : Nat} {E : va_W} {a : Nat} {w : WW} {n : Nat} {Hi : Nat → WW} {sb : Option WW} {T : List Int32} (hC : CE X z 4 cL_seen RL (rmC 5 1 100 133)) (hA : aX X = A0 z.1) (hR : EndR X 4 cL_seen 1 100 (fun v H => ∃ a, v = some (.ref a) ∧ ∃ τ, LA w n Hi sb T τ ∧ PE (kX X) z.1 B τ (E ++ [(a, .inl ((kX X).2.1.1, (100, .inl (sc w))))]) H)) : ∀ d k τ, k + d = 11 → LA w n Hi sb T τ → G X 4 (PE (kX X) z.1 B τ (E ++ [(a, .inl ((kX X).2.1.1, (100, .inl (scp w k))))])) 1 100 [(2, .int (nI k)), (1, .ref a), (0, .ref (B + 0))] 7 [] := by
  intro d
  induction d with
  | zero =>
    intro k τ hk ht
    have e : k = 11 := by omega
    subst e
    refine e_iload_n 7 hC 0 (dg DL_seen 5 rfl) rfl rfl ?_
    refine e_bipush 8 hC (dg DL_seen 6 rfl) (v := 11) (by decide) ?_
    refine e_icmp_ge 10 27 hC (dg DL_seen 7 rfl) (by decide) (fun _ => ?_) (fun h => absurd (by decide) h)
    refine e_iconst 27 hC (dg DL_seen 16 rfl) (v := 0) (by decide) ?_
    refine e_istore_n 28 hC [(2, .int 0), (1, .ref a), (0, .ref (B + 0))] (dg DL_seen 17 rfl) rfl (by decide) rfl ?_
    rw [scp_11]
    exact seen_posts hC hA hR (w.1 0) 0 τ (by omega) ht
  | succ d ih =>
    intro k τ hk ht
    refine e_iload_n 7 hC 0 (dg DL_seen 5 rfl) rfl rfl ?_
    refine e_bipush 8 hC (dg DL_seen 6 rfl) (v := 11) (by decide) ?_
    refine e_icmp_ge 10 27 hC (dg DL_seen 7 rfl) (by decide) (fun h => absurd h (c_nle 11 (by omega))) (fun _ => ?_)
    refine e_aload_n 13 hC 1 (dg DL_seen 8 rfl) rfl rfl ?_
    refine e_iload_n 14 hC 0 (dg DL_seen 9 rfl) rfl rfl ?_
    refine e_aload_n 15 hC 2 (dg DL_seen 10 rfl) rfl rfl ?_
    refine e_iload_n 16 hC 0 (dg DL_seen 11 rfl) rfl rfl ?_
    refine g_cls (C := "") (n2 := 0) (As := [.int (nI k)]) 17 hC hA (m_X9_account (d_account ht (nI k))) qL_96 ⟨⟨(Nat.le_of_ble_eq_true rfl), (Nat.le_of_ble_eq_true rfl)⟩, (Nat.le_of_ble_eq_true rfl), (Nat.le_of_ble_eq_true rfl)⟩ rfl rfl (Nat.le_of_ble_eq_true rfl) (dg DL_seen 12 rfl) (fun H h => h) (fun r υ ⟨hr, hu⟩ => ?_)
    subst hr
    rw [sc_acc (by omega)]
    refine e_iast 20 E.length (k) hC hA (fun H h => h) app_last rfl (by omega) (by decide) (dg DL_seen 13 rfl) ?_
    rw [set_last]
    rw [scp_up]
    refine e_iinc 21 hC 0 (nI (k + 1)) [(2, .int (nI (k + 1))), (1, .ref a), (0, .ref (B + 0))] (dg DL_seen 14 rfl) rfl (nI_1 k) (by decide) rfl ?_
    refine e_goto 24 7 hC (dg DL_seen 15 rfl) (by decide) ?_
    exact ih (k + 1) υ (by omega) hu
set_option maxRecDepth 100000 in
set_option maxHeartbeats 4000000 in
theorem m_seen {z : Z4} {B : Nat} {σ : SS} {E : C4 → va_W} {w : WW} {n : Nat} {Hi : Nat → WW} {sb : Option WW} {T : List Int32} (h : LA w n Hi sb T σ) : GC yL_seen cL_seen 4 (some (.array .int)) 5 133 1 100 z [.ref (B + 0)] (fun K => PE K z.1 B σ (E K)) none (fun K v H => ∃ a, v = some (.ref a) ∧ ∃ τ, LA w n Hi sb T τ ∧ PE K z.1 B τ (E K ++ [(a, .inl (K.2.1.1, (100, .inl (sc w))))]) H) := by
  refine GC.mkR (by decide +kernel) (Nat.le_of_ble_eq_true rfl) (Or.inr ⟨_, rfl⟩) (fun X hC hA hR => ?_)
  refine e_bipush 0 hC (dg DL_seen 0 rfl) (v := 100) (by decide) ?_
  refine e_newI 2 100 hC hA u_396 (fun H h => h.1) (by decide) (by decide) (by decide) (Nat.le_of_ble_eq_true rfl) (Nat.le_of_ble_eq_true rfl) (dg DL_seen 1 rfl) (fun a => ?_)
  refine e_astore_n 4 hC [(1, .ref a), (0, .ref (B + 0))] (dg DL_seen 2 rfl) rfl (by decide) rfl ?_
  refine e_iconst 5 hC (dg DL_seen 3 rfl) (v := 0) (by decide) ?_
  refine e_istore_n 6 hC [(2, .int 0), (1, .ref a), (0, .ref (B + 0))] (dg DL_seen 4 rfl) rfl (by decide) rfl ?_
  refine e_cs (cn' := 1) (sn' := 100) (by omega) (by omega) ?_
  rw [← scp_0 w]
  exact seen_acc hC hA hR 11 0 σ (by omega) h
