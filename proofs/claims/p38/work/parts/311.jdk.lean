/-! the JDK's methods that a text goes through -/
set_option maxRecDepth 100000 in
set_option maxHeartbeats 4000000 in
theorem m_coder {z : Z4} {q : Q4} : HC2 yJ0_coder_7d493 cJ0_coder_7d493 1 (some .byte) 0 0 z [.ref q.1] (fun _ _ => True) (some q) (fun v => ∃ r, v = some (.int r) ∧ r = 0) := by
  refine HC2.mkI (by decide +kernel) (Nat.le_of_ble_eq_true rfl) (fun X hC hR => ?_)
  refine e_cmp 0 hC u_743 (dg DJ0_coder_7d493 0 rfl) ?_
  refine e_if_eq 3 13 hC (dg DJ0_coder_7d493 1 rfl) (by decide) (fun h => absurd h (by decide)) (fun _ => ?_)
  refine e_aload_n 6 hC 0 (dg DJ0_coder_7d493 2 rfl) rfl rfl ?_
  refine e_scod (q := q) 7 hC u_857 (fun H h => h.2.2) (dg DJ0_coder_7d493 3 rfl) ?_
  refine e_goto 10 14 hC (dg DJ0_coder_7d493 4 rfl) (by decide) ?_
  exact hR 14 _ _ _ (dg DJ0_coder_7d493 6 rfl) rfl (fun H h => ⟨h.1, _, rfl, rfl⟩)
set_option maxRecDepth 100000 in
set_option maxHeartbeats 4000000 in
theorem m_slen {z : Z4} {q : Q4} : HC2 yJ0_length_8abf5 cJ0_length_8abf5 1 (some .int) 1 20 z [.ref q.1] (fun _ _ => True) (some q) (fun v => ∃ r, v = some (.int r) ∧ r = nI q.2.2.1) := by
  refine HC2.mkI (by decide +kernel) (Nat.le_of_ble_eq_true rfl) (fun X hC hR => ?_)
  refine e_aload_n 0 hC 0 (dg DJ0_length_8abf5 0 rfl) rfl rfl ?_
  refine e_sval (q := q) 1 hC u_856 (fun H h => h.2.2) (dg DJ0_length_8abf5 1 rfl) ?_
  refine e_salen (q := q) 4 hC (fun H h => h.2.2) rfl (dg DJ0_length_8abf5 2 rfl) ?_
  refine e_eq (y := nI q.2.2.1) rfl ?_
  refine e_aload_n 5 hC 0 (dg DJ0_length_8abf5 3 rfl) rfl rfl ?_
  refine h_run (run_V (As := []) 6 hC m_coder qJ0_335 ⟨⟨(Nat.le_of_ble_eq_true rfl), (Nat.le_of_ble_eq_true rfl)⟩, (Nat.le_of_ble_eq_true rfl), (Nat.le_of_ble_eq_true rfl)⟩ rfl rfl (Nat.le_of_ble_eq_true rfl) (dg DJ0_length_8abf5 4 rfl) (fun H h => ⟨trivial, (fun H h => h.2.2) H h, recS h.2.2⟩)) (h_int (fun r hr => ?_))
  subst hr
  refine e_ishr 9 hC (dg DJ0_length_8abf5 5 rfl) ?_
  refine e_eq (y := (nI q.2.2.1)) (sb_shr0 _) ?_
  exact hR 10 _ _ _ (dg DJ0_length_8abf5 6 rfl) rfl (fun H h => ⟨h.1, _, rfl, rfl⟩)
set_option maxRecDepth 100000 in
set_option maxHeartbeats 4000000 in
theorem m_sLat {z : Z4} {q : Q4} : HC2 yJ0_isLatin1_aae02 cJ0_isLatin1_aae02 1 (some .boolean) 0 0 z [.ref q.1] (fun _ _ => True) (some q) (fun v => ∃ r, v = some (.int r) ∧ r = 1) := by
  refine HC2.mkI (by decide +kernel) (Nat.le_of_ble_eq_true rfl) (fun X hC hR => ?_)
  refine e_cmp 0 hC u_743 (dg DJ0_isLatin1_aae02 0 rfl) ?_
  refine e_if_eq 3 17 hC (dg DJ0_isLatin1_aae02 1 rfl) (by decide) (fun h => absurd h (by decide)) (fun _ => ?_)
  refine e_aload_n 6 hC 0 (dg DJ0_isLatin1_aae02 2 rfl) rfl rfl ?_
  refine e_scod (q := q) 7 hC u_857 (fun H h => h.2.2) (dg DJ0_isLatin1_aae02 3 rfl) ?_
  refine e_if_ne 10 17 hC (dg DJ0_isLatin1_aae02 4 rfl) (by decide) (fun h => absurd rfl h) (fun _ => ?_)
  refine e_iconst 13 hC (dg DJ0_isLatin1_aae02 5 rfl) (v := 1) (by decide) ?_
  refine e_goto 14 18 hC (dg DJ0_isLatin1_aae02 6 rfl) (by decide) ?_
  exact hR 18 _ _ _ (dg DJ0_isLatin1_aae02 8 rfl) rfl (fun H h => ⟨h.1, _, rfl, rfl⟩)
set_option maxRecDepth 100000 in
set_option maxHeartbeats 4000000 in
theorem m_bLat {z : Z4} {B : Nat} {σ : SS} {E : C4 → va_W} {i b d n : Nat} (hi : ∀ K, (E K)[i]? = some (b, bl d n)) : HC2 yJ5_isLatin1_aae02 cJ5_isLatin1_aae02 1 (some .boolean) 0 0 z [.ref b] (fun K => PE K z.1 B σ (E K)) none (fun v => ∃ r, v = some (.int r) ∧ r = 1) := by
  refine HC2.mkI (by decide +kernel) (Nat.le_of_ble_eq_true rfl) (fun X hC hR => ?_)
  refine e_cmp 0 hC u_638 (dg DJ5_isLatin1_aae02 0 rfl) ?_
  refine e_if_eq 3 17 hC (dg DJ5_isLatin1_aae02 1 rfl) (by decide) (fun h => absurd h (by decide)) (fun _ => ?_)
  refine e_aload_n 6 hC 0 (dg DJ5_isLatin1_aae02 2 rfl) rfl rfl ?_
  refine e_get 7 i hC fdJ5_22_11 (fun H h => h.2.1) (hi _) rfl (dg DJ5_isLatin1_aae02 3 rfl) ?_
  refine e_if_ne 10 17 hC (dg DJ5_isLatin1_aae02 4 rfl) (by decide) (fun h => absurd rfl h) (fun _ => ?_)
  refine e_iconst 13 hC (dg DJ5_isLatin1_aae02 5 rfl) (v := 1) (by decide) ?_
  refine e_goto 14 18 hC (dg DJ5_isLatin1_aae02 6 rfl) (by decide) ?_
  exact hR 18 _ _ _ (dg DJ5_isLatin1_aae02 8 rfl) rfl (fun H h => ⟨h.1, _, rfl, rfl⟩)
set_option maxRecDepth 100000 in
set_option maxHeartbeats 4000000 in
theorem m_ensure {z : Z4} {B : Nat} {σ : SS} {E : C4 → va_W} {i j b d n k : Nat} {f : Nat → Int32} (hi : ∀ K, (E K)[i]? = some (b, bl d n)) (hj : ∀ K, (E K)[j]? = some (d, ba K 16 f)) (hk : k ≤ 16) : HC2 yJ5_ensureCapacityInternal_d00df cJ5_ensureCapacityInternal_d00df 3 none 0 0 z [.ref b, .int (nI k)] (fun K => PE K z.1 B σ (E K)) none (fun v => v = none) := by
  refine HC2.mkV (by decide +kernel) (Nat.le_of_ble_eq_true rfl) (fun X hC hR => ?_)
  refine e_aload_n 0 hC 0 (dg DJ5_ensureCapacityInternal_d00df 0 rfl) rfl rfl ?_
  refine e_get 1 i hC fdJ5_15_11 (fun H h => h.2.1) (hi _) rfl (dg DJ5_ensureCapacityInternal_d00df 1 rfl) ?_
  refine e_alenB 4 j hC (fun H h => h.2.1) (hj _) (v := 16) rfl (dg DJ5_ensureCapacityInternal_d00df 2 rfl) ?_
  refine e_aload_n 5 hC 0 (dg DJ5_ensureCapacityInternal_d00df 3 rfl) rfl rfl ?_
  refine e_get 6 i hC fdJ5_22_11 (fun H h => h.2.1) (hi _) rfl (dg DJ5_ensureCapacityInternal_d00df 4 rfl) ?_
  refine e_ishr 9 hC (dg DJ5_ensureCapacityInternal_d00df 5 rfl) ?_
  refine e_eq (y := 16) (by decide) ?_
  refine e_istore_n 10 hC [(2, .int 16), (0, .ref b), (1, .int (nI k))] (dg DJ5_ensureCapacityInternal_d00df 6 rfl) rfl (by decide) rfl ?_
  refine e_iload_n 11 hC 2 (dg DJ5_ensureCapacityInternal_d00df 7 rfl) rfl rfl ?_
  refine e_iload_n 12 hC 0 (dg DJ5_ensureCapacityInternal_d00df 8 rfl) rfl rfl ?_
  refine e_isub 13 hC (dg DJ5_ensureCapacityInternal_d00df 9 rfl) ?_
  refine e_if_le 14 38 hC (dg DJ5_ensureCapacityInternal_d00df 10 rfl) (by decide) (fun _ => ?_) (fun h => absurd (i_le16 hk) h)
  exact hR 38 _ _ (dg DJ5_ensureCapacityInternal_d00df 22 rfl) (fun H h => ⟨h.1, rfl⟩)
set_option maxRecDepth 100000 in
set_option maxHeartbeats 4000000 in
theorem m_inflate {z : Z4} {B : Nat} {σ : SS} {E : C4 → va_W} {q : Q4} {i b d n : Nat} (hi : ∀ K, (E K)[i]? = some (b, bl d n)) : HC2 yJ5_inflateIfNeededFor_a7421 cJ5_inflateIfNeededFor_a7421 2 none 1 20 z [.ref b, .ref q.1] (fun K => PE K z.1 B σ (E K)) (some q) (fun v => v = none) := by
  refine HC2.mkV (by decide +kernel) (Nat.le_of_ble_eq_true rfl) (fun X hC hR => ?_)
  refine e_cmp 0 hC u_638 (dg DJ5_inflateIfNeededFor_a7421 0 rfl) ?_
  refine e_if_eq 3 21 hC (dg DJ5_inflateIfNeededFor_a7421 1 rfl) (by decide) (fun h => absurd h (by decide)) (fun _ => ?_)
  refine e_aload_n 6 hC 0 (dg DJ5_inflateIfNeededFor_a7421 2 rfl) rfl rfl ?_
  refine e_get 7 i hC fdJ5_22_11 (fun H h => h.2.1) (hi _) rfl (dg DJ5_inflateIfNeededFor_a7421 3 rfl) ?_
  refine e_aload_n 10 hC 1 (dg DJ5_inflateIfNeededFor_a7421 4 rfl) rfl rfl ?_
  refine h_run (run_V (As := []) 11 hC m_coder qJ5_40 ⟨⟨(Nat.le_of_ble_eq_true rfl), (Nat.le_of_ble_eq_true rfl)⟩, (Nat.le_of_ble_eq_true rfl), (Nat.le_of_ble_eq_true rfl)⟩ rfl rfl (Nat.le_of_ble_eq_true rfl) (dg DJ5_inflateIfNeededFor_a7421 5 rfl) (fun H h => ⟨trivial, (fun H h => h.2.2) H h, recS h.2.2⟩)) (h_int (fun r hr => ?_))
  subst hr
  refine e_icmp_eq 14 21 hC (dg DJ5_inflateIfNeededFor_a7421 6 rfl) (by decide) (fun _ => ?_) (fun h => absurd rfl h)
  exact hR 21 _ _ (dg DJ5_inflateIfNeededFor_a7421 9 rfl) (fun H h => ⟨h.1, rfl⟩)
set_option maxRecDepth 100000 in
set_option maxHeartbeats 4000000 in
theorem m_getBytes {z : Z4} {B : Nat} {σ : SS} {E : C4 → va_W} {q : Q4} {j d n : Nat} {f : Nat → Int32} (hj : ∀ K, (E K)[j]? = some (d, ba K 16 f)) (hq : n + q.2.2.1 ≤ 16) (hfit : ∀ i : Nat, i < q.2.2.1 → fits .byte (.int (q.2.2.2 i)) = true) : GC yJ0_getBytes_840e7 cJ0_getBytes_840e7 4 none 1 60 0 0 z [.ref q.1, .ref d, .int (nI n), .int 0] (fun K => PE K z.1 B σ (E K)) (some q) (fun K v H => v = none ∧ PE K z.1 B σ ((E K).set j (d, ba K 16 (va_cpy q.2.2.2 f 0 n q.2.2.1))) H) := by
  refine GC.mkV (by decide +kernel) (Nat.le_of_ble_eq_true rfl) (fun X hC hA hIn hR => ?_)
  refine e_aload_n 0 hC 0 (dg DJ0_getBytes_840e7 0 rfl) rfl rfl ?_
  refine h_run (run_V (As := []) 1 hC m_coder qJ0_335 ⟨⟨(Nat.le_of_ble_eq_true rfl), (Nat.le_of_ble_eq_true rfl)⟩, (Nat.le_of_ble_eq_true rfl), (Nat.le_of_ble_eq_true rfl)⟩ rfl rfl (Nat.le_of_ble_eq_true rfl) (dg DJ0_getBytes_840e7 1 rfl) (fun H h => ⟨trivial, (fun H h => h.2) H h, recS h.2⟩)) (h_int (fun r hr => ?_))
  subst hr
  refine e_iload_n 4 hC 3 (dg DJ0_getBytes_840e7 2 rfl) rfl rfl ?_
  refine e_icmp_ne 5 28 hC (dg DJ0_getBytes_840e7 3 rfl) (by decide) (fun h => absurd rfl h) (fun _ => ?_)
  refine e_aload_n 8 hC 0 (dg DJ0_getBytes_840e7 4 rfl) rfl rfl ?_
  refine e_sval (q := q) 9 hC u_856 (fun H h => h.2) (dg DJ0_getBytes_840e7 5 rfl) ?_
  refine e_iconst 12 hC (dg DJ0_getBytes_840e7 6 rfl) (v := 0) (by decide) ?_
  refine e_aload_n 13 hC 1 (dg DJ0_getBytes_840e7 7 rfl) rfl rfl ?_
  refine e_iload_n 14 hC 2 (dg DJ0_getBytes_840e7 8 rfl) rfl rfl ?_
  refine e_iload_n 15 hC 3 (dg DJ0_getBytes_840e7 9 rfl) rfl rfl ?_
  refine e_ishl 16 hC (dg DJ0_getBytes_840e7 10 rfl) ?_
  refine e_eq (y := (nI n)) (sb_shl0 _) ?_
  refine e_aload_n 17 hC 0 (dg DJ0_getBytes_840e7 11 rfl) rfl rfl ?_
  refine e_sval (q := q) 18 hC u_856 (fun H h => h.2) (dg DJ0_getBytes_840e7 12 rfl) ?_
  refine e_salen (q := q) 21 hC (fun H h => h.2) rfl (dg DJ0_getBytes_840e7 13 rfl) ?_
  refine e_eq (y := nI q.2.2.1) rfl ?_
  refine e_copyS 22 j 0 n q.2.2.1 hC hA u_776 u_703 u_702 u_48 (fun H h => h.1) (fun H h => h.2) (hj _) rfl rfl rfl (by omega) (by omega) (by omega) (fun i hi => by rw [Nat.zero_add]; exact hfit i hi) (Nat.le_of_ble_eq_true rfl) (by show 0 + (nativeFrameWords "java/lang/System" "arraycopy" 5 + 11) ≤ 60; rw [Nat.zero_add]; exact nfw) (dg DJ0_getBytes_840e7 14 rfl) ?_
  refine e_goto 25 43 hC (dg DJ0_getBytes_840e7 15 rfl) (by decide) ?_
  exact hR 43 _ _ (dg DJ0_getBytes_840e7 25 rfl) (fun H h => ⟨rfl, h⟩)
set_option maxRecDepth 100000 in
set_option maxHeartbeats 4000000 in
theorem m_putStr {z : Z4} {B : Nat} {σ : SS} {E : C4 → va_W} {q : Q4} {i j b d n : Nat} {f : Nat → Int32} (hi : ∀ K, (E K)[i]? = some (b, bl d n)) (hj : ∀ K, (E K)[j]? = some (d, ba K 16 f)) (hq : n + q.2.2.1 ≤ 16) (hfit : ∀ i : Nat, i < q.2.2.1 → fits .byte (.int (q.2.2.2 i)) = true) : GC yJ5_putStringAt_47b60 cJ5_putStringAt_47b60 3 none 2 83 0 0 z [.ref b, .int (nI n), .ref q.1] (fun K => PE K z.1 B σ (E K)) (some q) (fun K v H => v = none ∧ PE K z.1 B σ ((E K).set j (d, ba K 16 (va_cpy q.2.2.2 f 0 n q.2.2.1))) H) := by
  refine GC.mkV (by decide +kernel) (Nat.le_of_ble_eq_true rfl) (fun X hC hA hIn hR => ?_)
  refine e_aload_n 0 hC 0 (dg DJ5_putStringAt_47b60 0 rfl) rfl rfl ?_
  refine e_aload_n 1 hC 2 (dg DJ5_putStringAt_47b60 1 rfl) rfl rfl ?_
  refine h_run (run_U (As := [.ref q.1]) (q := (RJ4, TJ4, 4)) 2 hC (m_inflate (E := E) hi) qJ5_397 ⟨⟨(Nat.le_of_ble_eq_true rfl), (Nat.le_of_ble_eq_true rfl)⟩, (Nat.le_of_ble_eq_true rfl), (Nat.le_of_ble_eq_true rfl)⟩ rfl rfl (Nat.le_of_ble_eq_true rfl) (dg DJ5_putStringAt_47b60 2 rfl) rfl (fun H h => ⟨h.1, (fun H h => h.2) H h, recE hC (hi _) rfl h.1⟩)) (h_void ?_)
  refine e_aload_n 5 hC 2 (dg DJ5_putStringAt_47b60 3 rfl) rfl rfl ?_
  refine e_aload_n 6 hC 0 (dg DJ5_putStringAt_47b60 4 rfl) rfl rfl ?_
  refine e_get 7 i hC fdJ5_15_11 (fun H h => h.1) (hi _) rfl (dg DJ5_putStringAt_47b60 5 rfl) ?_
  refine e_iload_n 10 hC 1 (dg DJ5_putStringAt_47b60 6 rfl) rfl rfl ?_
  refine e_aload_n 11 hC 0 (dg DJ5_putStringAt_47b60 7 rfl) rfl rfl ?_
  refine e_get 12 i hC fdJ5_22_11 (fun H h => h.1) (hi _) rfl (dg DJ5_putStringAt_47b60 8 rfl) ?_
  refine g_run hA (run_V (As := [.ref d, .int (nI n), .int 0]) 15 hC (m_getBytes (E := E) hj hq hfit) qJ5_399 ⟨⟨(Nat.le_of_ble_eq_true rfl), (Nat.le_of_ble_eq_true rfl)⟩, (Nat.le_of_ble_eq_true rfl), (Nat.le_of_ble_eq_true rfl)⟩ rfl rfl (Nat.le_of_ble_eq_true rfl) (dg DJ5_putStringAt_47b60 9 rfl) (fun H h => ⟨h.1, (fun H h => h.2) H h, recS h.2⟩)) (g_void ?_)
  exact hR 18 _ _ (dg DJ5_putStringAt_47b60 10 rfl) (fun H h => ⟨rfl, h⟩)
set_option maxRecDepth 100000 in
set_option maxHeartbeats 4000000 in
theorem m_appS0 {z : Z4} {B : Nat} {σ : SS} {E : C4 → va_W} {q : Q4} {i j b d n : Nat} {f : Nat → Int32} (hij : i ≠ j) (hi : ∀ K, (E K)[i]? = some (b, bl d n)) (hj : ∀ K, (E K)[j]? = some (d, ba K 16 f)) (hq : n + q.2.2.1 ≤ 16) (hfit : ∀ i : Nat, i < q.2.2.1 → fits .byte (.int (q.2.2.2 i)) = true) : GC yJ5_append_cf1ce cJ5_append_cf1ce 3 (some (.object "java/lang/AbstractStringBuilder")) 3 105 0 0 z [.ref b, .ref q.1] (fun K => PE K z.1 B σ (E K)) (some q) (fun K v H => ∃ a, v = some (.ref a) ∧ a = b ∧ PE K z.1 B σ (((E K).set j (d, ba K 16 (va_cpy q.2.2.2 f 0 n q.2.2.1))).set i (b, bl d (n + q.2.2.1))) H) := by
  refine GC.mkR (by decide +kernel) (Nat.le_of_ble_eq_true rfl) (Or.inl ⟨_, rfl⟩) (fun X hC hA hR => ?_)
  refine e_aload_n 0 hC 1 (dg DJ5_append_cf1ce 0 rfl) rfl rfl ?_
  refine e_ifnonnull 1 9 hC (dg DJ5_append_cf1ce 1 rfl) (by decide) ?_
  refine e_aload_n 9 hC 1 (dg DJ5_append_cf1ce 5 rfl) rfl rfl ?_
  refine h_run (run_V (As := []) 10 hC m_slen qJ5_32 ⟨⟨(Nat.le_of_ble_eq_true rfl), (Nat.le_of_ble_eq_true rfl)⟩, (Nat.le_of_ble_eq_true rfl), (Nat.le_of_ble_eq_true rfl)⟩ rfl rfl (Nat.le_of_ble_eq_true rfl) (dg DJ5_append_cf1ce 6 rfl) (fun H h => ⟨trivial, (fun H h => h.2) H h, recS h.2⟩)) (h_int (fun r hr => ?_))
  subst hr
  refine e_istore_n 13 hC [(2, .int (nI q.2.2.1)), (0, .ref b), (1, .ref q.1)] (dg DJ5_append_cf1ce 7 rfl) rfl (by decide) rfl ?_
  refine e_aload_n 14 hC 1 (dg DJ5_append_cf1ce 8 rfl) rfl rfl ?_
  refine e_aload_n 15 hC 1 (dg DJ5_append_cf1ce 9 rfl) rfl rfl ?_
  refine e_get 16 i hC fdJ5_79_11 (fun H h => h.1) (hi _) rfl (dg DJ5_append_cf1ce 10 rfl) ?_
  refine e_iload_n 19 hC 0 (dg DJ5_append_cf1ce 11 rfl) rfl rfl ?_
  refine e_iadd 20 hC (dg DJ5_append_cf1ce 12 rfl) ?_
  refine e_eq (y := (nI (n + q.2.2.1))) (nI_add _ _) ?_
  refine h_run (run_U (As := [.int (nI (n + q.2.2.1))]) (q := (RJ4, TJ4, 4)) 21 hC (m_ensure (E := E) hi hj hq) qJ5_100 ⟨⟨(Nat.le_of_ble_eq_true rfl), (Nat.le_of_ble_eq_true rfl)⟩, (Nat.le_of_ble_eq_true rfl), (Nat.le_of_ble_eq_true rfl)⟩ rfl rfl (Nat.le_of_ble_eq_true rfl) (dg DJ5_append_cf1ce 13 rfl) rfl (fun H h => ⟨h.1, trivial, recE hC (hi _) rfl h.1⟩)) (h_void ?_)
  refine e_aload_n 24 hC 1 (dg DJ5_append_cf1ce 14 rfl) rfl rfl ?_
  refine e_aload_n 25 hC 1 (dg DJ5_append_cf1ce 15 rfl) rfl rfl ?_
  refine e_get 26 i hC fdJ5_79_11 (fun H h => h.1) (hi _) rfl (dg DJ5_append_cf1ce 16 rfl) ?_
  refine e_aload_n 29 hC 2 (dg DJ5_append_cf1ce 17 rfl) rfl rfl ?_
  refine g_run hA (run_U (As := [.int (nI n), .ref q.1]) (q := (RJ4, TJ4, 4)) 30 hC (m_putStr (E := E) hi hj hq hfit) qJ5_208 ⟨⟨(Nat.le_of_ble_eq_true rfl), (Nat.le_of_ble_eq_true rfl)⟩, (Nat.le_of_ble_eq_true rfl), (Nat.le_of_ble_eq_true rfl)⟩ rfl rfl (Nat.le_of_ble_eq_true rfl) (dg DJ5_append_cf1ce 18 rfl) rfl (fun H h => ⟨h.1, (fun H h => h.2) H h, recE hC (hi _) rfl h.1⟩)) (g_void ?_)
  refine e_aload_n 33 hC 1 (dg DJ5_append_cf1ce 19 rfl) rfl rfl ?_
  refine e_dup 34 hC (dg DJ5_append_cf1ce 20 rfl) rfl ?_
  refine e_get 35 i hC fdJ5_79_11 (fun H h => h) (set_ne hij (hi _)) rfl (dg DJ5_append_cf1ce 21 rfl) ?_
  refine e_iload_n 38 hC 0 (dg DJ5_append_cf1ce 22 rfl) rfl rfl ?_
  refine e_iadd 39 hC (dg DJ5_append_cf1ce 23 rfl) ?_
  refine e_eq (y := (nI (n + q.2.2.1))) (nI_add _ _) ?_
  refine e_put 40 i hC hA fdJ5_79_11 pf11_3 (fun H h => h) (set_ne hij (hi _)) rfl rfl (Nat.le_of_ble_eq_true rfl) (dg DJ5_append_cf1ce 24 rfl) ?_
  refine e_aload_n 43 hC 1 (dg DJ5_append_cf1ce 25 rfl) rfl rfl ?_
  exact hR 44 _ _ _ (dg DJ5_append_cf1ce 26 rfl) (fun H h => ⟨_, rfl, rfl, h⟩)
set_option maxRecDepth 100000 in
set_option maxHeartbeats 4000000 in
theorem m_appS {z : Z4} {B : Nat} {σ : SS} {E : C4 → va_W} {q : Q4} {i j b d n : Nat} {f : Nat → Int32} (hij : i ≠ j) (hi : ∀ K, (E K)[i]? = some (b, bl d n)) (hj : ∀ K, (E K)[j]? = some (d, ba K 16 f)) (hq : n + q.2.2.1 ≤ 16) (hfit : ∀ i : Nat, i < q.2.2.1 → fits .byte (.int (q.2.2.2 i)) = true) : GC yJ4_append_15ec4 cJ4_append_15ec4 2 (some (.object "java/lang/StringBuilder")) 4 127 0 0 z [.ref b, .ref q.1] (fun K => PE K z.1 B σ (E K)) (some q) (fun K v H => ∃ a, v = some (.ref a) ∧ a = b ∧ PE K z.1 B σ (((E K).set j (d, ba K 16 (va_cpy q.2.2.2 f 0 n q.2.2.1))).set i (b, bl d (n + q.2.2.1))) H) := by
  refine GC.mkR (by decide +kernel) (Nat.le_of_ble_eq_true rfl) (Or.inl ⟨_, rfl⟩) (fun X hC hA hR => ?_)
  refine e_aload_n 0 hC 0 (dg DJ4_append_15ec4 0 rfl) rfl rfl ?_
  refine e_aload_n 1 hC 1 (dg DJ4_append_15ec4 1 rfl) rfl rfl ?_
  refine g_run hA (run_SU (As := [.ref q.1]) (t := 11) (q := (RJ4, TJ4, 4)) 2 hC (m_appS0 (E := E) hij hi hj hq hfit) qJ4_29 ⟨⟨(Nat.le_of_ble_eq_true rfl), (Nat.le_of_ble_eq_true rfl)⟩, (Nat.le_of_ble_eq_true rfl), (Nat.le_of_ble_eq_true rfl)⟩ rfl rfl (Nat.le_of_ble_eq_true rfl) (dg DJ4_append_15ec4 2 rfl) rfl (fun H h => ⟨h.1, (fun H h => h.2) H h, recE hC (hi _) rfl h.1⟩)) (g_ref (fun a => ?_))
  refine e_pop 5 hC (dg DJ4_append_15ec4 3 rfl) rfl ?_
  refine e_aload_n 6 hC 0 (dg DJ4_append_15ec4 4 rfl) rfl rfl ?_
  exact hR 7 _ _ _ (dg DJ4_append_15ec4 5 rfl) (fun H h => ⟨_, rfl, rfl, h.2⟩)
set_option maxRecDepth 100000 in
set_option maxHeartbeats 4000000 in
theorem m_size1 {z : Z4} {k : Nat} (hk : k < 10) : HC2 yJ6_stringSize_0f7a4 cJ6_stringSize_0f7a4 4 (some .int) 0 0 z [.int (nI k)] (fun _ _ => True) none (fun v => ∃ r, v = some (.int r) ∧ r = 1) := by
  refine HC2.mkI (by decide +kernel) (Nat.le_of_ble_eq_true rfl) (fun X hC hR => ?_)
  refine e_iconst 0 hC (dg DJ6_stringSize_0f7a4 0 rfl) (v := 1) (by decide) ?_
  refine e_istore_n 1 hC [(1, .int 1), (0, .int (nI k))] (dg DJ6_stringSize_0f7a4 1 rfl) rfl (by decide) rfl ?_
  refine e_iload_n 2 hC 1 (dg DJ6_stringSize_0f7a4 2 rfl) rfl rfl ?_
  refine e_if_lt 3 11 hC (dg DJ6_stringSize_0f7a4 3 rfl) (by decide) (fun h => absurd h (nI_pos (by omega))) (fun _ => ?_)
  refine e_iconst 6 hC (dg DJ6_stringSize_0f7a4 4 rfl) (v := 0) (by decide) ?_
  refine e_istore_n 7 hC [(1, .int 0), (0, .int (nI k))] (dg DJ6_stringSize_0f7a4 5 rfl) rfl (by decide) rfl ?_
  refine e_iload_n 8 hC 1 (dg DJ6_stringSize_0f7a4 6 rfl) rfl rfl ?_
  refine e_ineg 9 hC (dg DJ6_stringSize_0f7a4 7 rfl) ?_
  refine e_istore_n 10 hC [(0, .int (-nI k)), (1, .int 0)] (dg DJ6_stringSize_0f7a4 8 rfl) rfl (by decide) rfl ?_
  refine e_bipush 11 hC (dg DJ6_stringSize_0f7a4 9 rfl) (v := (-10)) (by decide) ?_
  refine e_istore_n 13 hC [(2, .int (-10)), (0, .int (-nI k)), (1, .int 0)] (dg DJ6_stringSize_0f7a4 10 rfl) rfl (by decide) rfl ?_
  refine e_iconst 14 hC (dg DJ6_stringSize_0f7a4 11 rfl) (v := 1) (by decide) ?_
  refine e_istore_n 15 hC [(3, .int 1), (2, .int (-10)), (0, .int (-nI k)), (1, .int 0)] (dg DJ6_stringSize_0f7a4 12 rfl) rfl (by decide) rfl ?_
  refine e_iload_n 16 hC 0 (dg DJ6_stringSize_0f7a4 13 rfl) rfl rfl ?_
  refine e_bipush 17 hC (dg DJ6_stringSize_0f7a4 14 rfl) (v := 10) (by decide) ?_
  refine e_icmp_ge 19 42 hC (dg DJ6_stringSize_0f7a4 15 rfl) (by decide) (fun h => absurd h (by decide)) (fun _ => ?_)
  refine e_iload_n 22 hC 2 (dg DJ6_stringSize_0f7a4 16 rfl) rfl rfl ?_
  refine e_iload_n 23 hC 1 (dg DJ6_stringSize_0f7a4 17 rfl) rfl rfl ?_
  refine e_icmp_le 24 31 hC (dg DJ6_stringSize_0f7a4 18 rfl) (by decide) (fun h => absurd h (i_n10f hk)) (fun _ => ?_)
  refine e_iload_n 27 hC 0 (dg DJ6_stringSize_0f7a4 19 rfl) rfl rfl ?_
  refine e_iload_n 28 hC 3 (dg DJ6_stringSize_0f7a4 20 rfl) rfl rfl ?_
  refine e_iadd 29 hC (dg DJ6_stringSize_0f7a4 21 rfl) ?_
  refine e_eq (y := 1) (by decide) ?_
  exact hR 30 _ _ _ (dg DJ6_stringSize_0f7a4 22 rfl) rfl (fun H h => ⟨h.1, _, rfl, rfl⟩)
set_option maxRecDepth 100000 in
set_option maxHeartbeats 4000000 in
theorem m_size2 {z : Z4} {k : Nat} (hk : 10 ≤ k) (hk2 : k < 100) : HC2 yJ6_stringSize_0f7a4 cJ6_stringSize_0f7a4 4 (some .int) 0 0 z [.int (nI k)] (fun _ _ => True) none (fun v => ∃ r, v = some (.int r) ∧ r = 2) := by
  refine HC2.mkI (by decide +kernel) (Nat.le_of_ble_eq_true rfl) (fun X hC hR => ?_)
  refine e_iconst 0 hC (dg DJ6_stringSize_0f7a4 0 rfl) (v := 1) (by decide) ?_
  refine e_istore_n 1 hC [(1, .int 1), (0, .int (nI k))] (dg DJ6_stringSize_0f7a4 1 rfl) rfl (by decide) rfl ?_
  refine e_iload_n 2 hC 1 (dg DJ6_stringSize_0f7a4 2 rfl) rfl rfl ?_
  refine e_if_lt 3 11 hC (dg DJ6_stringSize_0f7a4 3 rfl) (by decide) (fun h => absurd h (nI_pos (by omega))) (fun _ => ?_)
  refine e_iconst 6 hC (dg DJ6_stringSize_0f7a4 4 rfl) (v := 0) (by decide) ?_
  refine e_istore_n 7 hC [(1, .int 0), (0, .int (nI k))] (dg DJ6_stringSize_0f7a4 5 rfl) rfl (by decide) rfl ?_
  refine e_iload_n 8 hC 1 (dg DJ6_stringSize_0f7a4 6 rfl) rfl rfl ?_
  refine e_ineg 9 hC (dg DJ6_stringSize_0f7a4 7 rfl) ?_
  refine e_istore_n 10 hC [(0, .int (-nI k)), (1, .int 0)] (dg DJ6_stringSize_0f7a4 8 rfl) rfl (by decide) rfl ?_
  refine e_bipush 11 hC (dg DJ6_stringSize_0f7a4 9 rfl) (v := (-10)) (by decide) ?_
  refine e_istore_n 13 hC [(2, .int (-10)), (0, .int (-nI k)), (1, .int 0)] (dg DJ6_stringSize_0f7a4 10 rfl) rfl (by decide) rfl ?_
  refine e_iconst 14 hC (dg DJ6_stringSize_0f7a4 11 rfl) (v := 1) (by decide) ?_
  refine e_istore_n 15 hC [(3, .int 1), (2, .int (-10)), (0, .int (-nI k)), (1, .int 0)] (dg DJ6_stringSize_0f7a4 12 rfl) rfl (by decide) rfl ?_
  refine e_iload_n 16 hC 0 (dg DJ6_stringSize_0f7a4 13 rfl) rfl rfl ?_
  refine e_bipush 17 hC (dg DJ6_stringSize_0f7a4 14 rfl) (v := 10) (by decide) ?_
  refine e_icmp_ge 19 42 hC (dg DJ6_stringSize_0f7a4 15 rfl) (by decide) (fun h => absurd h (by decide)) (fun _ => ?_)
  refine e_iload_n 22 hC 2 (dg DJ6_stringSize_0f7a4 16 rfl) rfl rfl ?_
  refine e_iload_n 23 hC 1 (dg DJ6_stringSize_0f7a4 17 rfl) rfl rfl ?_
  refine e_icmp_le 24 31 hC (dg DJ6_stringSize_0f7a4 18 rfl) (by decide) (fun _ => ?_) (fun h => absurd (i_n10 hk hk2) h)
  refine e_bipush 31 hC (dg DJ6_stringSize_0f7a4 23 rfl) (v := 10) (by decide) ?_
  refine e_iload_n 33 hC 1 (dg DJ6_stringSize_0f7a4 24 rfl) rfl rfl ?_
  refine e_imul 34 hC (dg DJ6_stringSize_0f7a4 25 rfl) ?_
  refine e_eq (y := (-100)) (by decide) ?_
  refine e_istore_n 35 hC [(2, .int (-100)), (3, .int 1), (0, .int (-nI k)), (1, .int 0)] (dg DJ6_stringSize_0f7a4 26 rfl) rfl (by decide) rfl ?_
  refine e_iinc 36 hC 1 2 [(3, .int 2), (2, .int (-100)), (0, .int (-nI k)), (1, .int 0)] (dg DJ6_stringSize_0f7a4 27 rfl) rfl (by decide) (by decide) rfl ?_
  refine e_goto 39 16 hC (dg DJ6_stringSize_0f7a4 28 rfl) (by decide) ?_
  refine e_iload_n 16 hC 0 (dg DJ6_stringSize_0f7a4 13 rfl) rfl rfl ?_
  refine e_bipush 17 hC (dg DJ6_stringSize_0f7a4 14 rfl) (v := 10) (by decide) ?_
  refine e_icmp_ge 19 42 hC (dg DJ6_stringSize_0f7a4 15 rfl) (by decide) (fun h => absurd h (by decide)) (fun _ => ?_)
  refine e_iload_n 22 hC 2 (dg DJ6_stringSize_0f7a4 16 rfl) rfl rfl ?_
  refine e_iload_n 23 hC 1 (dg DJ6_stringSize_0f7a4 17 rfl) rfl rfl ?_
  refine e_icmp_le 24 31 hC (dg DJ6_stringSize_0f7a4 18 rfl) (by decide) (fun h => absurd h (i_n100 hk2)) (fun _ => ?_)
  refine e_iload_n 27 hC 0 (dg DJ6_stringSize_0f7a4 19 rfl) rfl rfl ?_
  refine e_iload_n 28 hC 3 (dg DJ6_stringSize_0f7a4 20 rfl) rfl rfl ?_
  refine e_iadd 29 hC (dg DJ6_stringSize_0f7a4 21 rfl) ?_
  refine e_eq (y := 2) (by decide) ?_
  exact hR 30 _ _ _ (dg DJ6_stringSize_0f7a4 22 rfl) rfl (fun H h => ⟨h.1, _, rfl, rfl⟩)
/-- how many digits -/
def dgn (k : Nat) : Nat := if k < 10 then 1 else 2
theorem m_size {z : Z4} {k : Nat} (hk : k < 100) : HC2 yJ6_stringSize_0f7a4 cJ6_stringSize_0f7a4 4 (some .int) 0 0 z [.int (nI k)] (fun _ _ => True) none (fun v => ∃ r, v = some (.int r) ∧ r = nI (dgn k)) := by
  unfold dgn
  by_cases h : k < 10
  · rw [if_pos h]; exact m_size1 h
  · rw [if_neg h]; exact m_size2 (by omega) hk
set_option maxRecDepth 100000 in
set_option maxHeartbeats 4000000 in
theorem m_chars1 {z : Z4} {B : Nat} {σ : SS} {E : C4 → va_W} {j d x k : Nat} {f : Nat → Int32} (hj : ∀ K, (E K)[j]? = some (d, ba K 16 f)) (hk : k < 10) (hk2 : k < 100) (hx1 : 1 ≤ x) (hx : x ≤ 16) : GC yJ6_getChars_ba4f3 cJ6_getChars_ba4f3 7 (some .int) 0 0 0 0 z [.int (nI k), .int (nI x), .ref d] (fun K => PE K z.1 B σ (E K)) none (fun K v H => ∃ r, v = some (.int r) ∧ PE K z.1 B σ ((E K).set j (d, ba K 16 (upd f (x - 1) (nI (48 + k % 10))))) H) := by
  refine GC.mkI (by decide +kernel) (Nat.le_of_ble_eq_true rfl) (fun X hC hA hR => ?_)
  refine e_iload_n 0 hC 1 (dg DJ6_getChars_ba4f3 0 rfl) rfl rfl ?_
  refine e_istore 1 hC [(5, .int (nI x)), (0, .int (nI k)), (1, .int (nI x)), (2, .ref d)] (dg DJ6_getChars_ba4f3 1 rfl) (by decide) rfl ?_
  refine e_iload_n 3 hC 1 (dg DJ6_getChars_ba4f3 2 rfl) rfl rfl ?_
  refine e_if_ge 4 11 hC (dg DJ6_getChars_ba4f3 3 rfl) (by decide) (fun _ => ?_) (fun h => absurd (nI_pos' (by omega)) h)
  refine e_iconst 11 hC (dg DJ6_getChars_ba4f3 6 rfl) (v := 0) (by decide) ?_
  refine e_istore 12 hC [(6, .int 0), (5, .int (nI x)), (0, .int (nI k)), (1, .int (nI x)), (2, .ref d)] (dg DJ6_getChars_ba4f3 7 rfl) (by decide) rfl ?_
  refine e_iload 14 hC 0 (dg DJ6_getChars_ba4f3 8 rfl) rfl ?_
  refine e_if_ne 16 22 hC (dg DJ6_getChars_ba4f3 9 rfl) (by decide) (fun h => absurd rfl h) (fun _ => ?_)
  refine e_iload_n 19 hC 2 (dg DJ6_getChars_ba4f3 10 rfl) rfl rfl ?_
  refine e_ineg 20 hC (dg DJ6_getChars_ba4f3 11 rfl) ?_
  refine e_istore_n 21 hC [(0, .int (-nI k)), (6, .int 0), (5, .int (nI x)), (1, .int (nI x)), (2, .ref d)] (dg DJ6_getChars_ba4f3 12 rfl) rfl (by decide) rfl ?_
  refine e_iload_n 22 hC 0 (dg DJ6_getChars_ba4f3 13 rfl) rfl rfl ?_
  refine e_bipush 23 hC (dg DJ6_getChars_ba4f3 14 rfl) (v := (-100)) (by decide) ?_
  refine e_icmp_gt 25 72 hC (dg DJ6_getChars_ba4f3 15 rfl) (by decide) (fun _ => ?_) (fun h => absurd (i_n100g hk2) h)
  refine e_aload_n 72 hC 4 (dg DJ6_getChars_ba4f3 43 rfl) rfl rfl ?_
  refine e_iinc 73 hC 2 (nI (x - 1)) [(5, .int (nI (x - 1))), (0, .int (-nI k)), (6, .int 0), (1, .int (nI x)), (2, .ref d)] (dg DJ6_getChars_ba4f3 44 rfl) rfl (i_dec (by omega)) (by decide) rfl ?_
  refine e_iload 76 hC 0 (dg DJ6_getChars_ba4f3 45 rfl) rfl ?_
  refine e_ones 78 hC u_791 (dg DJ6_getChars_ba4f3 46 rfl) ?_
  refine e_iload_n 81 hC 1 (dg DJ6_getChars_ba4f3 47 rfl) rfl rfl ?_
  refine e_ineg 82 hC (dg DJ6_getChars_ba4f3 48 rfl) ?_
  refine e_eq (y := (nI k)) (i_negneg _) ?_
  refine e_onesAt 83 k hC rfl hk2 (dg DJ6_getChars_ba4f3 49 rfl) ?_
  refine e_bast 84 j (x - 1) hC hA (fun H h => h.1) (hj _) rfl (by omega) (by decide) (nar_b (by omega)) (dg DJ6_getChars_ba4f3 50 rfl) ?_
  refine e_iload_n 85 hC 1 (dg DJ6_getChars_ba4f3 51 rfl) rfl rfl ?_
  refine e_bipush 86 hC (dg DJ6_getChars_ba4f3 52 rfl) (v := (-9)) (by decide) ?_
  refine e_icmp_ge 88 104 hC (dg DJ6_getChars_ba4f3 53 rfl) (by decide) (fun _ => ?_) (fun h => absurd (i_n9f hk) h)
  refine e_iload 104 hC 2 (dg DJ6_getChars_ba4f3 62 rfl) rfl ?_
  refine e_if_eq 106 118 hC (dg DJ6_getChars_ba4f3 63 rfl) (by decide) (fun _ => ?_) (fun h => absurd rfl h)
  refine e_iload 118 hC 0 (dg DJ6_getChars_ba4f3 69 rfl) rfl ?_
  exact hR 120 _ _ _ (dg DJ6_getChars_ba4f3 70 rfl) rfl (fun H h => ⟨_, rfl, by simpa only [List.set_set] using h⟩)
set_option maxRecDepth 100000 in
set_option maxHeartbeats 4000000 in
theorem m_chars2 {z : Z4} {B : Nat} {σ : SS} {E : C4 → va_W} {j d x k : Nat} {f : Nat → Int32} (hj : ∀ K, (E K)[j]? = some (d, ba K 16 f)) (hk : 10 ≤ k) (hk2 : k < 100) (hx1 : 2 ≤ x) (hx : x ≤ 16) : GC yJ6_getChars_ba4f3 cJ6_getChars_ba4f3 7 (some .int) 0 0 0 0 z [.int (nI k), .int (nI x), .ref d] (fun K => PE K z.1 B σ (E K)) none (fun K v H => ∃ r, v = some (.int r) ∧ PE K z.1 B σ ((E K).set j (d, ba K 16 (upd (upd f (x - 1) (nI (48 + k % 10))) (x - 1 - 1) (nI (48 + k / 10))))) H) := by
  refine GC.mkI (by decide +kernel) (Nat.le_of_ble_eq_true rfl) (fun X hC hA hR => ?_)
  refine e_iload_n 0 hC 1 (dg DJ6_getChars_ba4f3 0 rfl) rfl rfl ?_
  refine e_istore 1 hC [(5, .int (nI x)), (0, .int (nI k)), (1, .int (nI x)), (2, .ref d)] (dg DJ6_getChars_ba4f3 1 rfl) (by decide) rfl ?_
  refine e_iload_n 3 hC 1 (dg DJ6_getChars_ba4f3 2 rfl) rfl rfl ?_
  refine e_if_ge 4 11 hC (dg DJ6_getChars_ba4f3 3 rfl) (by decide) (fun _ => ?_) (fun h => absurd (nI_pos' (by omega)) h)
  refine e_iconst 11 hC (dg DJ6_getChars_ba4f3 6 rfl) (v := 0) (by decide) ?_
  refine e_istore 12 hC [(6, .int 0), (5, .int (nI x)), (0, .int (nI k)), (1, .int (nI x)), (2, .ref d)] (dg DJ6_getChars_ba4f3 7 rfl) (by decide) rfl ?_
  refine e_iload 14 hC 0 (dg DJ6_getChars_ba4f3 8 rfl) rfl ?_
  refine e_if_ne 16 22 hC (dg DJ6_getChars_ba4f3 9 rfl) (by decide) (fun h => absurd rfl h) (fun _ => ?_)
  refine e_iload_n 19 hC 2 (dg DJ6_getChars_ba4f3 10 rfl) rfl rfl ?_
  refine e_ineg 20 hC (dg DJ6_getChars_ba4f3 11 rfl) ?_
  refine e_istore_n 21 hC [(0, .int (-nI k)), (6, .int 0), (5, .int (nI x)), (1, .int (nI x)), (2, .ref d)] (dg DJ6_getChars_ba4f3 12 rfl) rfl (by decide) rfl ?_
  refine e_iload_n 22 hC 0 (dg DJ6_getChars_ba4f3 13 rfl) rfl rfl ?_
  refine e_bipush 23 hC (dg DJ6_getChars_ba4f3 14 rfl) (v := (-100)) (by decide) ?_
  refine e_icmp_gt 25 72 hC (dg DJ6_getChars_ba4f3 15 rfl) (by decide) (fun _ => ?_) (fun h => absurd (i_n100g hk2) h)
  refine e_aload_n 72 hC 4 (dg DJ6_getChars_ba4f3 43 rfl) rfl rfl ?_
  refine e_iinc 73 hC 2 (nI (x - 1)) [(5, .int (nI (x - 1))), (0, .int (-nI k)), (6, .int 0), (1, .int (nI x)), (2, .ref d)] (dg DJ6_getChars_ba4f3 44 rfl) rfl (i_dec (by omega)) (by decide) rfl ?_
  refine e_iload 76 hC 0 (dg DJ6_getChars_ba4f3 45 rfl) rfl ?_
  refine e_ones 78 hC u_791 (dg DJ6_getChars_ba4f3 46 rfl) ?_
  refine e_iload_n 81 hC 1 (dg DJ6_getChars_ba4f3 47 rfl) rfl rfl ?_
  refine e_ineg 82 hC (dg DJ6_getChars_ba4f3 48 rfl) ?_
  refine e_eq (y := (nI k)) (i_negneg _) ?_
  refine e_onesAt 83 k hC rfl hk2 (dg DJ6_getChars_ba4f3 49 rfl) ?_
  refine e_bast 84 j (x - 1) hC hA (fun H h => h.1) (hj _) rfl (by omega) (by decide) (nar_b (by omega)) (dg DJ6_getChars_ba4f3 50 rfl) ?_
  refine e_iload_n 85 hC 1 (dg DJ6_getChars_ba4f3 51 rfl) rfl rfl ?_
  refine e_bipush 86 hC (dg DJ6_getChars_ba4f3 52 rfl) (v := (-9)) (by decide) ?_
  refine e_icmp_ge 88 104 hC (dg DJ6_getChars_ba4f3 53 rfl) (by decide) (fun h => absurd h (i_n9 hk hk2)) (fun _ => ?_)
  refine e_aload_n 91 hC 4 (dg DJ6_getChars_ba4f3 54 rfl) rfl rfl ?_
  refine e_iinc 92 hC 0 (nI (x - 1 - 1)) [(5, .int (nI (x - 1 - 1))), (0, .int (-nI k)), (6, .int 0), (1, .int (nI x)), (2, .ref d)] (dg DJ6_getChars_ba4f3 55 rfl) rfl (i_dec (by omega)) (by decide) rfl ?_
  refine e_iload 95 hC 0 (dg DJ6_getChars_ba4f3 56 rfl) rfl ?_
  refine e_tens 97 hC u_793 (dg DJ6_getChars_ba4f3 57 rfl) ?_
  refine e_iload_n 100 hC 1 (dg DJ6_getChars_ba4f3 58 rfl) rfl rfl ?_
  refine e_ineg 101 hC (dg DJ6_getChars_ba4f3 59 rfl) ?_
  refine e_eq (y := (nI k)) (i_negneg _) ?_
  refine e_tensAt 102 k hC rfl hk2 (dg DJ6_getChars_ba4f3 60 rfl) ?_
  refine e_bast 103 j (x - 1 - 1) hC hA (fun H h => h) (set_eq (hj _)) rfl (by omega) (by decide) (nar_b (by omega)) (dg DJ6_getChars_ba4f3 61 rfl) ?_
  refine e_iload 104 hC 2 (dg DJ6_getChars_ba4f3 62 rfl) rfl ?_
  refine e_if_eq 106 118 hC (dg DJ6_getChars_ba4f3 63 rfl) (by decide) (fun _ => ?_) (fun h => absurd rfl h)
  refine e_iload 118 hC 0 (dg DJ6_getChars_ba4f3 69 rfl) rfl ?_
  exact hR 120 _ _ _ (dg DJ6_getChars_ba4f3 70 rfl) rfl (fun H h => ⟨_, rfl, by simpa only [List.set_set] using h⟩)
/-- a number's digits, written up to x -/
def chs (f : Nat → Int32) (x k : Nat) : Nat → Int32 := if k < 10 then upd f (x - 1) (nI (48 + k % 10)) else upd (upd f (x - 1) (nI (48 + k % 10))) (x - 1 - 1) (nI (48 + k / 10))
theorem m_chars {z : Z4} {B : Nat} {σ : SS} {E : C4 → va_W} {j d x k : Nat} {f : Nat → Int32} (hj : ∀ K, (E K)[j]? = some (d, ba K 16 f)) (hk : k < 100) (hx1 : dgn k ≤ x) (hx : x ≤ 16) : GC yJ6_getChars_ba4f3 cJ6_getChars_ba4f3 7 (some .int) 0 0 0 0 z [.int (nI k), .int (nI x), .ref d] (fun K => PE K z.1 B σ (E K)) none (fun K v H => ∃ r, v = some (.int r) ∧ PE K z.1 B σ ((E K).set j (d, ba K 16 (chs f x k))) H) := by
  unfold dgn at hx1
  unfold chs
  by_cases h : k < 10
  · rw [if_pos h] at hx1 ⊢; exact m_chars1 hj h hk hx1 hx
  · rw [if_neg h] at hx1 ⊢; exact m_chars2 hj (by omega) hk hx1 hx
set_option maxRecDepth 100000 in
set_option maxHeartbeats 4000000 in
theorem m_appI0 {z : Z4} {B : Nat} {σ : SS} {E : C4 → va_W} {i j b d n k : Nat} {f : Nat → Int32} (hij : i ≠ j) (hi : ∀ K, (E K)[i]? = some (b, bl d n)) (hj : ∀ K, (E K)[j]? = some (d, ba K 16 f)) (hk : k < 100) (hn : n + dgn k ≤ 16) : GC yJ5_append_c97b9 cJ5_append_c97b9 4 (some (.object "java/lang/AbstractStringBuilder")) 1 26 0 0 z [.ref b, .int (nI k)] (fun K => PE K z.1 B σ (E K)) none (fun K v H => ∃ a, v = some (.ref a) ∧ a = b ∧ PE K z.1 B σ (((E K).set j (d, ba K 16 (chs f (n + dgn k) k))).set i (b, bl d (n + dgn k))) H) := by
  refine GC.mkR (by decide +kernel) (Nat.le_of_ble_eq_true rfl) (Or.inl ⟨_, rfl⟩) (fun X hC hA hR => ?_)
  refine e_aload_n 0 hC 0 (dg DJ5_append_c97b9 0 rfl) rfl rfl ?_
  refine e_get 1 i hC fdJ5_79_11 (fun H h => h.1) (hi _) rfl (dg DJ5_append_c97b9 1 rfl) ?_
  refine e_istore_n 4 hC [(2, .int (nI n)), (0, .ref b), (1, .int (nI k))] (dg DJ5_append_c97b9 2 rfl) rfl (by decide) rfl ?_
  refine e_iload_n 5 hC 0 (dg DJ5_append_c97b9 3 rfl) rfl rfl ?_
  refine e_iload_n 6 hC 2 (dg DJ5_append_c97b9 4 rfl) rfl rfl ?_
  refine h_run (run_S (As := [.int (nI k)]) 7 hC (m_size hk) qJ5_245 ⟨⟨(Nat.le_of_ble_eq_true rfl), (Nat.le_of_ble_eq_true rfl)⟩, (Nat.le_of_ble_eq_true rfl), (Nat.le_of_ble_eq_true rfl)⟩ rfl rfl (Nat.le_of_ble_eq_true rfl) (dg DJ5_append_c97b9 5 rfl) (fun H h => ⟨trivial, trivial⟩)) (h_int (fun r hr => ?_))
  subst hr
  refine e_iadd 10 hC (dg DJ5_append_c97b9 6 rfl) ?_
  refine e_eq (y := (nI (n + dgn k))) (nI_add _ _) ?_
  refine e_istore_n 11 hC [(3, .int (nI (n + dgn k))), (2, .int (nI n)), (0, .ref b), (1, .int (nI k))] (dg DJ5_append_c97b9 7 rfl) rfl (by decide) rfl ?_
  refine e_aload_n 12 hC 2 (dg DJ5_append_c97b9 8 rfl) rfl rfl ?_
  refine e_iload_n 13 hC 0 (dg DJ5_append_c97b9 9 rfl) rfl rfl ?_
  refine h_run (run_U (As := [.int (nI (n + dgn k))]) (q := (RJ4, TJ4, 4)) 14 hC (m_ensure (E := E) hi hj hn) qJ5_100 ⟨⟨(Nat.le_of_ble_eq_true rfl), (Nat.le_of_ble_eq_true rfl)⟩, (Nat.le_of_ble_eq_true rfl), (Nat.le_of_ble_eq_true rfl)⟩ rfl rfl (Nat.le_of_ble_eq_true rfl) (dg DJ5_append_c97b9 10 rfl) rfl (fun H h => ⟨h.1, trivial, recE hC (hi _) rfl h.1⟩)) (h_void ?_)
  refine e_aload_n 17 hC 2 (dg DJ5_append_c97b9 11 rfl) rfl rfl ?_
  refine h_run (run_U (As := []) (q := (RJ4, TJ4, 4)) 18 hC (m_bLat (E := E) hi) qJ5_83 ⟨⟨(Nat.le_of_ble_eq_true rfl), (Nat.le_of_ble_eq_true rfl)⟩, (Nat.le_of_ble_eq_true rfl), (Nat.le_of_ble_eq_true rfl)⟩ rfl rfl (Nat.le_of_ble_eq_true rfl) (dg DJ5_append_c97b9 12 rfl) rfl (fun H h => ⟨h.1, trivial, recE hC (hi _) rfl h.1⟩)) (h_int (fun r hr => ?_))
  subst hr
  refine e_if_eq 21 37 hC (dg DJ5_append_c97b9 13 rfl) (by decide) (fun h => absurd h (by decide)) (fun _ => ?_)
  refine e_iload_n 24 hC 3 (dg DJ5_append_c97b9 14 rfl) rfl rfl ?_
  refine e_iload_n 25 hC 0 (dg DJ5_append_c97b9 15 rfl) rfl rfl ?_
  refine e_aload_n 26 hC 2 (dg DJ5_append_c97b9 16 rfl) rfl rfl ?_
  refine e_get 27 i hC fdJ5_15_11 (fun H h => h.1) (hi _) rfl (dg DJ5_append_c97b9 17 rfl) ?_
  refine g_run hA (run_S (As := [.int (nI k), .int (nI (n + dgn k)), .ref d]) 30 hC (m_chars (E := E) hj hk (Nat.le_add_left _ _) hn) qJ5_248 ⟨⟨(Nat.le_of_ble_eq_true rfl), (Nat.le_of_ble_eq_true rfl)⟩, (Nat.le_of_ble_eq_true rfl), (Nat.le_of_ble_eq_true rfl)⟩ rfl rfl (Nat.le_of_ble_eq_true rfl) (dg DJ5_append_c97b9 18 rfl) (fun H h => ⟨h.1, trivial⟩)) (g_int (fun r => ?_))
  refine e_pop 33 hC (dg DJ5_append_c97b9 19 rfl) rfl ?_
  refine e_goto 34 48 hC (dg DJ5_append_c97b9 20 rfl) (by decide) ?_
  refine e_aload_n 48 hC 2 (dg DJ5_append_c97b9 28 rfl) rfl rfl ?_
  refine e_iload_n 49 hC 0 (dg DJ5_append_c97b9 29 rfl) rfl rfl ?_
  refine e_put 50 i hC hA fdJ5_79_11 pf11_3 (fun H h => h) (set_ne hij (hi _)) rfl rfl (Nat.le_of_ble_eq_true rfl) (dg DJ5_append_c97b9 30 rfl) ?_
  refine e_aload_n 53 hC 2 (dg DJ5_append_c97b9 31 rfl) rfl rfl ?_
  exact hR 54 _ _ _ (dg DJ5_append_c97b9 32 rfl) (fun H h => ⟨_, rfl, rfl, h⟩)
set_option maxRecDepth 100000 in
set_option maxHeartbeats 4000000 in
theorem m_appI {z : Z4} {B : Nat} {σ : SS} {E : C4 → va_W} {i j b d n k : Nat} {f : Nat → Int32} (hij : i ≠ j) (hi : ∀ K, (E K)[i]? = some (b, bl d n)) (hj : ∀ K, (E K)[j]? = some (d, ba K 16 f)) (hk : k < 100) (hn : n + dgn k ≤ 16) : GC yJ4_append_bf812 cJ4_append_bf812 2 (some (.object "java/lang/StringBuilder")) 2 49 0 0 z [.ref b, .int (nI k)] (fun K => PE K z.1 B σ (E K)) none (fun K v H => ∃ a, v = some (.ref a) ∧ a = b ∧ PE K z.1 B σ (((E K).set j (d, ba K 16 (chs f (n + dgn k) k))).set i (b, bl d (n + dgn k))) H) := by
  refine GC.mkR (by decide +kernel) (Nat.le_of_ble_eq_true rfl) (Or.inl ⟨_, rfl⟩) (fun X hC hA hR => ?_)
  refine e_aload_n 0 hC 0 (dg DJ4_append_bf812 0 rfl) rfl rfl ?_
  refine e_iload_n 1 hC 1 (dg DJ4_append_bf812 1 rfl) rfl rfl ?_
  refine g_run hA (run_SU (As := [.int (nI k)]) (t := 11) (q := (RJ4, TJ4, 4)) 2 hC (m_appI0 (E := E) hij hi hj hk hn) qJ4_53 ⟨⟨(Nat.le_of_ble_eq_true rfl), (Nat.le_of_ble_eq_true rfl)⟩, (Nat.le_of_ble_eq_true rfl), (Nat.le_of_ble_eq_true rfl)⟩ rfl rfl (Nat.le_of_ble_eq_true rfl) (dg DJ4_append_bf812 2 rfl) rfl (fun H h => ⟨h.1, trivial, recE hC (hi _) rfl h.1⟩)) (g_ref (fun a => ?_))
  refine e_pop 5 hC (dg DJ4_append_bf812 3 rfl) rfl ?_
  refine e_aload_n 6 hC 0 (dg DJ4_append_bf812 4 rfl) rfl rfl ?_
  exact hR 7 _ _ _ (dg DJ4_append_bf812 5 rfl) (fun H h => ⟨_, rfl, rfl, h.2⟩)
set_option maxRecDepth 100000 in
set_option maxHeartbeats 4000000 in
theorem m_value {z : Z4} {B : Nat} {σ : SS} {E : C4 → va_W} {i b d n : Nat} (hi : ∀ K, (E K)[i]? = some (b, bl d n)) : HC2 yJ5_getValue_6d5f1 cJ5_getValue_6d5f1 1 (some (.array .byte)) 0 0 z [.ref b] (fun K => PE K z.1 B σ (E K)) none (fun v => ∃ a, v = some (.ref a) ∧ d = a) := by
  refine HC2.mkR (by decide +kernel) (Nat.le_of_ble_eq_true rfl) (Or.inr ⟨_, rfl⟩) (fun X hC hR => ?_)
  refine e_aload_n 0 hC 0 (dg DJ5_getValue_6d5f1 0 rfl) rfl rfl ?_
  refine e_get 1 i hC fdJ5_15_11 (fun H h => h.2.1) (hi _) rfl (dg DJ5_getValue_6d5f1 1 rfl) ?_
  exact hR 4 _ _ _ (dg DJ5_getValue_6d5f1 2 rfl) (fun H h => ⟨h.1, _, rfl, rfl⟩)
set_option maxRecDepth 100000 in
set_option maxHeartbeats 4000000 in
theorem m_blen0 {z : Z4} {B : Nat} {σ : SS} {E : C4 → va_W} {i b d n : Nat} (hi : ∀ K, (E K)[i]? = some (b, bl d n)) : HC2 yJ5_length_8abf5 cJ5_length_8abf5 1 (some .int) 0 0 z [.ref b] (fun K => PE K z.1 B σ (E K)) none (fun v => ∃ r, v = some (.int r) ∧ r = nI n) := by
  refine HC2.mkI (by decide +kernel) (Nat.le_of_ble_eq_true rfl) (fun X hC hR => ?_)
  refine e_aload_n 0 hC 0 (dg DJ5_length_8abf5 0 rfl) rfl rfl ?_
  refine e_get 1 i hC fdJ5_79_11 (fun H h => h.2.1) (hi _) rfl (dg DJ5_length_8abf5 1 rfl) ?_
  exact hR 4 _ _ _ (dg DJ5_length_8abf5 2 rfl) rfl (fun H h => ⟨h.1, _, rfl, rfl⟩)
set_option maxRecDepth 100000 in
set_option maxHeartbeats 4000000 in
theorem m_blen {z : Z4} {B : Nat} {σ : SS} {E : C4 → va_W} {i b d n : Nat} (hi : ∀ K, (E K)[i]? = some (b, bl d n)) : HC2 yJ4_length_8abf5 cJ4_length_8abf5 1 (some .int) 1 20 z [.ref b] (fun K => PE K z.1 B σ (E K)) none (fun v => ∃ r, v = some (.int r) ∧ r = nI n) := by
  refine HC2.mkI (by decide +kernel) (Nat.le_of_ble_eq_true rfl) (fun X hC hR => ?_)
  refine e_aload_n 0 hC 0 (dg DJ4_length_8abf5 0 rfl) rfl rfl ?_
  refine h_run (run_SU (As := []) (t := 11) (q := (RJ4, TJ4, 4)) 1 hC (m_blen0 (E := E) hi) qJ4_343 ⟨⟨(Nat.le_of_ble_eq_true rfl), (Nat.le_of_ble_eq_true rfl)⟩, (Nat.le_of_ble_eq_true rfl), (Nat.le_of_ble_eq_true rfl)⟩ rfl rfl (Nat.le_of_ble_eq_true rfl) (dg DJ4_length_8abf5 1 rfl) rfl (fun H h => ⟨h.2.1, trivial, recE hC (hi _) rfl h.2.1⟩)) (h_int (fun r hr => ?_))
  subst hr
  exact hR 4 _ _ _ (dg DJ4_length_8abf5 2 rfl) rfl (fun H h => ⟨h.1, _, rfl, rfl⟩)
set_option maxRecDepth 100000 in
set_option maxHeartbeats 4000000 in
theorem m_checkLen {z : Z4} {n : Nat} (hn : n < 2 ^ 31) : HC2 yJ7_checkLength_df160 cJ7_checkLength_df160 2 none 0 0 z [.int 0, .int (nI n)] (fun _ _ => True) none (fun v => v = none) := by
  refine HC2.mkV (by decide +kernel) (Nat.le_of_ble_eq_true rfl) (fun X hC hR => ?_)
  refine e_iload_n 0 hC 1 (dg DJ7_checkLength_df160 0 rfl) rfl rfl ?_
  refine e_iload_n 1 hC 0 (dg DJ7_checkLength_df160 1 rfl) rfl rfl ?_
  refine e_icmp_ge 2 37 hC (dg DJ7_checkLength_df160 2 rfl) (by decide) (fun _ => ?_) (fun h => absurd (nI_pos' hn) h)
  exact hR 37 _ _ (dg DJ7_checkLength_df160 17 rfl) (fun H h => ⟨h.1, rfl⟩)
set_option maxRecDepth 100000 in
set_option maxHeartbeats 4000000 in
theorem m_copy0 {z : Z4} {B : Nat} {σ : SS} {E : C4 → va_W} {j d n : Nat} {f : Nat → Int32} (hj : ∀ K, (E K)[j]? = some (d, ba K 16 f)) (hn : n ≤ 16) (hf : ∀ i : Nat, i < n → fits .byte (.int (f i)) = true) : GC yJ7_copyOfRangeByte_39247 cJ7_copyOfRangeByte_39247 5 (some (.array .byte)) 1 60 1 n z [.ref d, .int 0, .int (nI n)] (fun K => PE K z.1 B σ (E K)) none (fun K v H => ∃ a, v = some (.ref a) ∧ PE K z.1 B σ (E K ++ [(a, ba K n (va_cpy f (fun _ => 0) 0 0 n))]) H) := by
  refine GC.mkR (by decide +kernel) (Nat.le_of_ble_eq_true rfl) (Or.inr ⟨_, rfl⟩) (fun X hC hA hR => ?_)
  refine e_iload_n 0 hC 1 (dg DJ7_copyOfRangeByte_39247 0 rfl) rfl rfl ?_
  refine e_iload_n 1 hC 2 (dg DJ7_copyOfRangeByte_39247 1 rfl) rfl rfl ?_
  refine h_run (run_S (As := [.int 0, .int (nI n)]) 2 hC (m_checkLen (by omega)) qJ7_343 ⟨⟨(Nat.le_of_ble_eq_true rfl), (Nat.le_of_ble_eq_true rfl)⟩, (Nat.le_of_ble_eq_true rfl), (Nat.le_of_ble_eq_true rfl)⟩ rfl rfl (Nat.le_of_ble_eq_true rfl) (dg DJ7_copyOfRangeByte_39247 2 rfl) (fun H h => ⟨trivial, trivial⟩)) (h_void ?_)
  refine e_iload_n 5 hC 2 (dg DJ7_copyOfRangeByte_39247 3 rfl) rfl rfl ?_
  refine e_iload_n 6 hC 1 (dg DJ7_copyOfRangeByte_39247 4 rfl) rfl rfl ?_
  refine e_isub 7 hC (dg DJ7_copyOfRangeByte_39247 5 rfl) ?_
  refine e_eq (y := (nI n)) (Int32.sub_zero _) ?_
  refine e_istore_n 8 hC [(3, .int (nI n)), (0, .ref d), (1, .int 0), (2, .int (nI n))] (dg DJ7_copyOfRangeByte_39247 6 rfl) rfl (by decide) rfl ?_
  refine e_iload_n 9 hC 0 (dg DJ7_copyOfRangeByte_39247 7 rfl) rfl rfl ?_
  refine e_newB 10 n hC hA u_660 (fun H h => h.1) (nI_pos (by omega)) (nI_clamp (by omega)) (by omega) (Nat.le_of_ble_eq_true rfl) (by show 0 + n ≤ n; omega) (dg DJ7_copyOfRangeByte_39247 8 rfl) (fun a => ?_)
  refine e_astore 12 hC [(4, .ref a), (3, .int (nI n)), (0, .ref d), (1, .int 0), (2, .int (nI n))] (dg DJ7_copyOfRangeByte_39247 9 rfl) (by decide) rfl ?_
  refine e_aload_n 14 hC 2 (dg DJ7_copyOfRangeByte_39247 10 rfl) rfl rfl ?_
  refine e_iload_n 15 hC 3 (dg DJ7_copyOfRangeByte_39247 11 rfl) rfl rfl ?_
  refine e_aload 16 hC 0 (dg DJ7_copyOfRangeByte_39247 12 rfl) rfl ?_
  refine e_iconst 18 hC (dg DJ7_copyOfRangeByte_39247 13 rfl) (v := 0) (by decide) ?_
  refine e_aload_n 19 hC 2 (dg DJ7_copyOfRangeByte_39247 14 rfl) rfl rfl ?_
  refine e_alenB 20 j hC (fun H h => h) (app_l (hj _)) (v := 16) rfl (dg DJ7_copyOfRangeByte_39247 15 rfl) ?_
  refine e_iload_n 21 hC 3 (dg DJ7_copyOfRangeByte_39247 16 rfl) rfl rfl ?_
  refine e_isub 22 hC (dg DJ7_copyOfRangeByte_39247 17 rfl) ?_
  refine e_eq (y := 16) (by decide) ?_
  refine e_iload_n 23 hC 1 (dg DJ7_copyOfRangeByte_39247 18 rfl) rfl rfl ?_
  refine e_mmin 24 hC u_700 u_102 u_39 u_103 (Nat.le_of_ble_eq_true rfl) (Nat.le_of_ble_eq_true rfl) (Nat.le_of_ble_eq_true rfl) (by show 0 + n ≤ n; omega) (dg DJ7_copyOfRangeByte_39247 19 rfl) ?_
  refine e_eq (y := nI n) (i_min16 (by omega)) ?_
  refine e_copyB 27 j (E (kX X)).length 0 0 n hC hA u_701 u_703 u_702 u_48 (fun H h => h) (app_l (hj _)) app_last rfl rfl rfl (by omega) (by omega) (by omega) (fun i hi => by rw [Nat.zero_add]; exact hf i hi) (Nat.le_of_ble_eq_true rfl) (by show 0 + (nativeFrameWords "java/lang/System" "arraycopy" 5 + 11) ≤ 60; rw [Nat.zero_add]; exact nfw) (dg DJ7_copyOfRangeByte_39247 20 rfl) ?_
  refine e_aload 30 hC 0 (dg DJ7_copyOfRangeByte_39247 21 rfl) rfl ?_
  refine e_cs (cn' := 1) (sn' := n) (by omega) (by omega) ?_
  exact hR 32 _ _ _ (dg DJ7_copyOfRangeByte_39247 22 rfl) (fun H h => ⟨_, rfl, by rw [set_last] at h; exact h⟩)
set_option maxRecDepth 100000 in
set_option maxHeartbeats 4000000 in
theorem m_copy {z : Z4} {B : Nat} {σ : SS} {E : C4 → va_W} {j d n : Nat} {f : Nat → Int32} (hj : ∀ K, (E K)[j]? = some (d, ba K 16 f)) (hn : n < 16) (hf : ∀ i : Nat, i < n → fits .byte (.int (f i)) = true) : GC yJ7_copyOfRange_39247 cJ7_copyOfRange_39247 3 (some (.array .byte)) 2 84 1 n z [.ref d, .int 0, .int (nI n)] (fun K => PE K z.1 B σ (E K)) none (fun K v H => ∃ a, v = some (.ref a) ∧ PE K z.1 B σ (E K ++ [(a, ba K n (va_cpy f (fun _ => 0) 0 0 n))]) H) := by
  refine GC.mkR (by decide +kernel) (Nat.le_of_ble_eq_true rfl) (Or.inr ⟨_, rfl⟩) (fun X hC hA hR => ?_)
  refine e_iload_n 0 hC 1 (dg DJ7_copyOfRange_39247 0 rfl) rfl rfl ?_
  refine e_if_ne 1 10 hC (dg DJ7_copyOfRange_39247 1 rfl) (by decide) (fun h => absurd rfl h) (fun _ => ?_)
  refine e_iload_n 4 hC 2 (dg DJ7_copyOfRange_39247 2 rfl) rfl rfl ?_
  refine e_aload_n 5 hC 0 (dg DJ7_copyOfRange_39247 3 rfl) rfl rfl ?_
  refine e_alenB 6 j hC (fun H h => h.1) (hj _) (v := 16) rfl (dg DJ7_copyOfRange_39247 4 rfl) ?_
  refine e_icmp_eq 7 17 hC (dg DJ7_copyOfRange_39247 5 rfl) (by decide) (fun h => absurd h (i_ne16 hn)) (fun _ => ?_)
  refine e_aload_n 10 hC 0 (dg DJ7_copyOfRange_39247 6 rfl) rfl rfl ?_
  refine e_iload_n 11 hC 1 (dg DJ7_copyOfRange_39247 7 rfl) rfl rfl ?_
  refine e_iload_n 12 hC 2 (dg DJ7_copyOfRange_39247 8 rfl) rfl rfl ?_
  refine g_run hA (run_S (As := [.ref d, .int 0, .int (nI n)]) 13 hC (m_copy0 (E := E) hj (by omega) hf) qJ7_339 ⟨⟨(Nat.le_of_ble_eq_true rfl), (Nat.le_of_ble_eq_true rfl)⟩, (Nat.le_of_ble_eq_true rfl), (by show 0 + n ≤ n; omega)⟩ rfl rfl (Nat.le_of_ble_eq_true rfl) (dg DJ7_copyOfRange_39247 9 rfl) (fun H h => ⟨h.1, trivial⟩)) (g_ref (fun a => ?_))
  refine e_cs (cn' := 1) (sn' := n) (by omega) (by omega) ?_
  exact hR 16 _ _ _ (dg DJ7_copyOfRange_39247 10 rfl) (fun H h => ⟨_, rfl, h⟩)
set_option maxRecDepth 100000 in
set_option maxHeartbeats 4000000 in
theorem m_strB {z : Z4} {B : Nat} {σ : SS} {E : C4 → va_W} {m s i j b d n : Nat} {f : Nat → Int32} (hm : ∀ K, (E K)[m]? = some (s, .inr (10, [.null, .int 0, .int 0, .int 0]))) (him : i ≠ m) (hjm : j ≠ m) (hi : ∀ K, (E K)[i]? = some (b, bl d n)) (hj : ∀ K, (E K)[j]? = some (d, ba K 16 f)) (hn : n < 16) (hf : ∀ i : Nat, i < n → fits .byte (.int (f i)) = true) : GC yJ0_init_db425 cJ0_init_db425 5 none 3 106 1 n z [.ref s, .ref b, .null] (fun K => PE K z.1 B σ (E K)) none (fun K v H => v = none ∧ ∃ a, PE K z.1 B σ ((E K).set m (s, .inr (10, [.ref a, .int 0, .int 0, .int 0])) ++ [(a, ba K n (va_cpy f (fun _ => 0) 0 0 n))]) H) := by
  refine GC.mkV (by decide +kernel) (Nat.le_of_ble_eq_true rfl) (fun X hC hA hIn hR => ?_)
  refine e_aload_n 0 hC 0 (dg DJ0_init_db425 0 rfl) rfl rfl ?_
  refine e_ini 1 hC u_819 u_346 u_347 (Nat.le_of_ble_eq_true rfl) (Nat.le_of_ble_eq_true rfl) (dg DJ0_init_db425 1 rfl) ?_
  refine e_aload_n 4 hC 1 (dg DJ0_init_db425 2 rfl) rfl rfl ?_
  refine h_run (run_U (As := []) (q := (RJ4, TJ4, 4)) 5 hC (m_value (E := E) hi) qJ0_552 ⟨⟨(Nat.le_of_ble_eq_true rfl), (Nat.le_of_ble_eq_true rfl)⟩, (Nat.le_of_ble_eq_true rfl), (Nat.le_of_ble_eq_true rfl)⟩ rfl rfl (Nat.le_of_ble_eq_true rfl) (dg DJ0_init_db425 3 rfl) rfl (fun H h => ⟨h.1, trivial, recE hC (hi _) rfl h.1⟩)) (h_ref (fun r hr => ?_))
  subst hr
  refine e_astore_n 8 hC [(3, .ref d), (0, .ref s), (1, .ref b), (2, .null)] (dg DJ0_init_db425 4 rfl) rfl (by decide) rfl ?_
  refine e_aload_n 9 hC 2 (dg DJ0_init_db425 5 rfl) rfl rfl ?_
  refine h_run (run_U (As := []) (q := (RJ4, TJ4, 4)) 10 hC (m_blen (E := E) hi) qJ0_549 ⟨⟨(Nat.le_of_ble_eq_true rfl), (Nat.le_of_ble_eq_true rfl)⟩, (Nat.le_of_ble_eq_true rfl), (Nat.le_of_ble_eq_true rfl)⟩ rfl rfl (Nat.le_of_ble_eq_true rfl) (dg DJ0_init_db425 6 rfl) rfl (fun H h => ⟨h.1, trivial, recE hC (hi _) rfl h.1⟩)) (h_int (fun r hr => ?_))
  subst hr
  refine e_istore 13 hC [(4, .int (nI n)), (3, .ref d), (0, .ref s), (1, .ref b), (2, .null)] (dg DJ0_init_db425 7 rfl) (by decide) rfl ?_
  refine e_aload_n 15 hC 3 (dg DJ0_init_db425 8 rfl) rfl rfl ?_
  refine h_run (run_U (As := []) (q := (RJ4, TJ4, 4)) 16 hC (m_bLat (E := E) hi) qJ0_1047 ⟨⟨(Nat.le_of_ble_eq_true rfl), (Nat.le_of_ble_eq_true rfl)⟩, (Nat.le_of_ble_eq_true rfl), (Nat.le_of_ble_eq_true rfl)⟩ rfl rfl (Nat.le_of_ble_eq_true rfl) (dg DJ0_init_db425 9 rfl) rfl (fun H h => ⟨h.1, trivial, recE hC (hi _) rfl h.1⟩)) (h_int (fun r hr => ?_))
  subst hr
  refine e_if_eq 19 41 hC (dg DJ0_init_db425 10 rfl) (by decide) (fun h => absurd h (by decide)) (fun _ => ?_)
  refine e_aload_n 22 hC 2 (dg DJ0_init_db425 11 rfl) rfl rfl ?_
  refine e_iconst 23 hC (dg DJ0_init_db425 12 rfl) (v := 0) (by decide) ?_
  refine e_putF 24 m hC hA (hIn rfl) fdJ0_15_10 pf10_1 (fun H h => h.1) (hm _) rfl rfl (Nat.le_of_ble_eq_true rfl) (dg DJ0_init_db425 13 rfl) ?_
  refine e_aload_n 27 hC 2 (dg DJ0_init_db425 14 rfl) rfl rfl ?_
  refine e_aload_n 28 hC 1 (dg DJ0_init_db425 15 rfl) rfl rfl ?_
  refine e_iconst 29 hC (dg DJ0_init_db425 16 rfl) (v := 0) (by decide) ?_
  refine e_iload 30 hC 0 (dg DJ0_init_db425 17 rfl) rfl ?_
  refine g_run hA (run_S (As := [.ref d, .int 0, .int (nI n)]) 32 hC (m_copy (E := fun K => (E K).set m (s, .inr (10, [.null, .int 0, .int 0, .int 0]))) (fun K => set_ne hjm (hj K)) hn hf) qJ0_54 ⟨⟨(Nat.le_of_ble_eq_true rfl), (Nat.le_of_ble_eq_true rfl)⟩, (Nat.le_of_ble_eq_true rfl), (by show 0 + n ≤ n; omega)⟩ rfl rfl (Nat.le_of_ble_eq_true rfl) (dg DJ0_init_db425 18 rfl) (fun H h => ⟨h, trivial⟩)) (g_ref (fun a => ?_))
  refine e_putF 35 m hC hA (hIn rfl) fdJ0_9_10 pf10_0 (fun H h => h) (app_l (set_eq (hm _))) rfl rfl (Nat.le_of_ble_eq_true rfl) (dg DJ0_init_db425 19 rfl) ?_
  refine e_goto 38 97 hC (dg DJ0_init_db425 20 rfl) (by decide) ?_
  refine e_cs (cn' := 1) (sn' := n) (by omega) (by omega) ?_
  exact hR 97 _ _ (dg DJ0_init_db425 50 rfl) (fun H h => ⟨rfl, _, by rw [set_app (hm _)] at h; exact h⟩)
set_option maxRecDepth 100000 in
set_option maxHeartbeats 4000000 in
theorem m_str {z : Z4} {B : Nat} {σ : SS} {E : C4 → va_W} {m s i j b d n : Nat} {f : Nat → Int32} (hm : ∀ K, (E K)[m]? = some (s, .inr (10, [.null, .int 0, .int 0, .int 0]))) (him : i ≠ m) (hjm : j ≠ m) (hi : ∀ K, (E K)[i]? = some (b, bl d n)) (hj : ∀ K, (E K)[j]? = some (d, ba K 16 f)) (hn : n < 16) (hf : ∀ i : Nat, i < n → fits .byte (.int (f i)) = true) : GC yJ0_init_81219 cJ0_init_81219 2 none 4 130 1 n z [.ref s, .ref b] (fun K => PE K z.1 B σ (E K)) none (fun K v H => v = none ∧ ∃ a, PE K z.1 B σ ((E K).set m (s, .inr (10, [.ref a, .int 0, .int 0, .int 0])) ++ [(a, ba K n (va_cpy f (fun _ => 0) 0 0 n))]) H) := by
  refine GC.mkV (by decide +kernel) (Nat.le_of_ble_eq_true rfl) (fun X hC hA hIn hR => ?_)
  refine e_aload_n 0 hC 0 (dg DJ0_init_81219 0 rfl) rfl rfl ?_
  refine e_aload_n 1 hC 1 (dg DJ0_init_81219 1 rfl) rfl rfl ?_
  refine e_null 2 hC (dg DJ0_init_81219 2 rfl) ?_
  refine g_run hA (run_I (As := [.ref b, .null]) 3 hC (m_strB (E := E) hm him hjm hi hj hn hf) qJ0_489 ⟨⟨(Nat.le_of_ble_eq_true rfl), (Nat.le_of_ble_eq_true rfl)⟩, (Nat.le_of_ble_eq_true rfl), (by show 0 + n ≤ n; omega)⟩ rfl rfl (Nat.le_of_ble_eq_true rfl) (dg DJ0_init_81219 3 rfl) (fun H h => ⟨h.1, trivial⟩)) (g_void ?_)
  refine e_cs (cn' := 1) (sn' := n) (by omega) (by omega) ?_
  exact hR 6 _ _ (dg DJ0_init_81219 4 rfl) (fun H h => ⟨rfl, h⟩)
set_option maxRecDepth 100000 in
set_option maxHeartbeats 4000000 in
theorem m_toStr {z : Z4} {B : Nat} {σ : SS} {E : C4 → va_W} {L i j b d n : Nat} {f : Nat → Int32} (hL : ∀ K, (E K).length = L) (hiL : i < L) (hjL : j < L) (hi : ∀ K, (E K)[i]? = some (b, bl d n)) (hj : ∀ K, (E K)[j]? = some (d, ba K 16 f)) (hn : n < 16) (hf : ∀ i : Nat, i < n → fits .byte (.int (f i)) = true) : GC yJ4_toString_0e30d cJ4_toString_0e30d 1 (some (.object "java/lang/String")) 5 151 2 (4 + n) z [.ref b] (fun K => PE K z.1 B σ (E K)) none (fun K v H => ∃ s, v = some (.ref s) ∧ ∃ a, PE K z.1 B σ (E K ++ [(s, .inr (10, [.ref a, .int 0, .int 0, .int 0])), (a, ba K n (va_cpy f (fun _ => 0) 0 0 n))]) H) := by
  refine GC.mkR (by decide +kernel) (Nat.le_of_ble_eq_true rfl) (Or.inl ⟨_, rfl⟩) (fun X hC hA hR => ?_)
  refine e_new (t := 10) 0 hC hA rfl inJ0t tyJ0_ok u_811 u_812 u_44 (fs := [.null, .int 0, .int 0, .int 0]) dfJ0 (fun H h => h.1) (by show 0 + 1 ≤ 2; omega) (by show 0 + 4 ≤ 4 + n; omega) (dg DJ4_toString_0e30d 0 rfl) (fun s => ?_)
  refine e_dup 3 hC (dg DJ4_toString_0e30d 1 rfl) rfl ?_
  refine e_aload_n 4 hC 0 (dg DJ4_toString_0e30d 2 rfl) rfl rfl ?_
  refine g_run hA (run_I (As := [.ref b]) 5 hC (m_str (E := fun K => E K ++ [(s, .inr (10, [.null, .int 0, .int 0, .int 0]))]) (m := L) (fun K => by rw [← hL K]; exact app_last) (by omega) (by omega) (fun K => app_l (hi K)) (fun K => app_l (hj K)) hn hf) qJ4_137 ⟨⟨(Nat.le_of_ble_eq_true rfl), (Nat.le_of_ble_eq_true rfl)⟩, (by show 0 + 1 + 1 ≤ 2; omega), (by show 0 + 4 + n ≤ 4 + n; omega)⟩ rfl rfl (Nat.le_of_ble_eq_true rfl) (dg DJ4_toString_0e30d 3 rfl) (fun H h => ⟨h, trivial⟩)) (g_void ?_)
  refine e_cs (cn' := 2) (sn' := (4 + n)) (by omega) (by omega) ?_
  exact hR 8 _ _ _ (dg DJ4_toString_0e30d 4 rfl) (fun H h => by obtain ⟨a, h⟩ := h; exact ⟨_, rfl, a, by rw [← hL, set_last, List.append_assoc] at h; exact h⟩)
set_option maxRecDepth 100000 in
set_option maxHeartbeats 4000000 in
theorem m_sb0 {z : Z4} {B : Nat} {σ : SS} {E : C4 → va_W} {i b : Nat} (hi : ∀ K, (E K)[i]? = some (b, .inr (11, [.null, .int 0, .int 0, .int 0]))) : GC yJ5_init_d00df cJ5_init_d00df 2 none 1 12 1 16 z [.ref b, .int 16] (fun K => PE K z.1 B σ (E K)) none (fun K v H => v = none ∧ ∃ d, PE K z.1 B σ ((E K).set i (b, bl d 0) ++ [(d, ba K 16 (fun _ => 0))]) H) := by
  refine GC.mkV (by decide +kernel) (Nat.le_of_ble_eq_true rfl) (fun X hC hA hIn hR => ?_)
  refine e_aload_n 0 hC 0 (dg DJ5_init_d00df 0 rfl) rfl rfl ?_
  refine e_ini 1 hC u_637 u_346 u_347 (Nat.le_of_ble_eq_true rfl) (Nat.le_of_ble_eq_true rfl) (dg DJ5_init_d00df 1 rfl) ?_
  refine e_cmp 4 hC u_638 (dg DJ5_init_d00df 2 rfl) ?_
  refine e_if_eq 7 25 hC (dg DJ5_init_d00df 3 rfl) (by decide) (fun h => absurd h (by decide)) (fun _ => ?_)
  refine e_aload_n 10 hC 0 (dg DJ5_init_d00df 4 rfl) rfl rfl ?_
  refine e_iload_n 11 hC 1 (dg DJ5_init_d00df 5 rfl) rfl rfl ?_
  refine e_newB 12 16 hC hA u_660 (fun H h => h.1) (by decide) (by decide) (by decide) (Nat.le_of_ble_eq_true rfl) (Nat.le_of_ble_eq_true rfl) (dg DJ5_init_d00df 6 rfl) (fun d => ?_)
  refine e_put 14 i hC hA fdJ5_15_11 pf11_0 (fun H h => h) (app_l (hi _)) rfl rfl (Nat.le_of_ble_eq_true rfl) (dg DJ5_init_d00df 7 rfl) ?_
  refine e_aload_n 17 hC 0 (dg DJ5_init_d00df 8 rfl) rfl rfl ?_
  refine e_iconst 18 hC (dg DJ5_init_d00df 9 rfl) (v := 0) (by decide) ?_
  refine e_put 19 i hC hA fdJ5_22_11 pf11_1 (fun H h => h) (set_eq (app_l (hi _))) rfl rfl (Nat.le_of_ble_eq_true rfl) (dg DJ5_init_d00df 10 rfl) ?_
  refine e_goto 22 38 hC (dg DJ5_init_d00df 11 rfl) (by decide) ?_
  refine e_cs (cn' := 1) (sn' := 16) (by omega) (by omega) ?_
  exact hR 38 _ _ (dg DJ5_init_d00df 19 rfl) (fun H h => ⟨rfl, d, by rw [List.set_set, set_app0 (hi _)] at h; exact h⟩)
set_option maxRecDepth 100000 in
set_option maxHeartbeats 4000000 in
theorem m_sb {z : Z4} {B : Nat} {σ : SS} {E : C4 → va_W} {i b : Nat} (hi : ∀ K, (E K)[i]? = some (b, .inr (11, [.null, .int 0, .int 0, .int 0]))) : GC yJ4_init_da8c8 cJ4_init_da8c8 1 none 2 33 1 16 z [.ref b] (fun K => PE K z.1 B σ (E K)) none (fun K v H => v = none ∧ ∃ d, PE K z.1 B σ ((E K).set i (b, bl d 0) ++ [(d, ba K 16 (fun _ => 0))]) H) := by
  refine GC.mkV (by decide +kernel) (Nat.le_of_ble_eq_true rfl) (fun X hC hA hIn hR => ?_)
  refine e_aload_n 0 hC 0 (dg DJ4_init_da8c8 0 rfl) rfl rfl ?_
  refine e_bipush 1 hC (dg DJ4_init_da8c8 1 rfl) (v := 16) (by decide) ?_
  refine g_run hA (run_I (As := [.int 16]) 3 hC (m_sb0 (E := E) hi) qJ4_1 ⟨⟨(Nat.le_of_ble_eq_true rfl), (Nat.le_of_ble_eq_true rfl)⟩, (Nat.le_of_ble_eq_true rfl), (Nat.le_of_ble_eq_true rfl)⟩ rfl rfl (Nat.le_of_ble_eq_true rfl) (dg DJ4_init_da8c8 2 rfl) (fun H h => ⟨h.1, trivial⟩)) (g_void ?_)
  refine e_cs (cn' := 1) (sn' := 16) (by omega) (by omega) ?_
  exact hR 6 _ _ (dg DJ4_init_da8c8 3 rfl) (fun H h => ⟨rfl, h⟩)
set_option maxRecDepth 100000 in
set_option maxHeartbeats 4000000 in
theorem m_pre0 {z : Z4} {i n : Nat} (hi : i < n) (hn : n < 2 ^ 31) : HC2 yJ3_checkIndex_8e157 cJ3_checkIndex_8e157 3 (some .int) 0 0 z [.int (nI i), .int (nI n), .null] (fun _ _ => True) none (fun v => ∃ r, v = some (.int r) ∧ r = nI i) := by
  refine HC2.mkI (by decide +kernel) (Nat.le_of_ble_eq_true rfl) (fun X hC hR => ?_)
  refine e_iload_n 0 hC 0 (dg DJ3_checkIndex_8e157 0 rfl) rfl rfl ?_
  refine e_if_lt 1 9 hC (dg DJ3_checkIndex_8e157 1 rfl) (by decide) (fun h => absurd h (nI_pos (by omega))) (fun _ => ?_)
  refine e_iload_n 4 hC 0 (dg DJ3_checkIndex_8e157 2 rfl) rfl rfl ?_
  refine e_iload_n 5 hC 1 (dg DJ3_checkIndex_8e157 3 rfl) rfl rfl ?_
  refine e_icmp_lt 6 16 hC (dg DJ3_checkIndex_8e157 4 rfl) (by decide) (fun _ => ?_) (fun h => absurd (nI_lt hi hn) h)
  refine e_iload_n 16 hC 0 (dg DJ3_checkIndex_8e157 10 rfl) rfl rfl ?_
  exact hR 17 _ _ _ (dg DJ3_checkIndex_8e157 11 rfl) rfl (fun H h => ⟨h.1, _, rfl, rfl⟩)
set_option maxRecDepth 100000 in
set_option maxHeartbeats 4000000 in
theorem m_pre1 {z : Z4} {i n t : Nat} (hi : i < n) (hn : n < 2 ^ 31) : HC2 yJ3_checkIndex_8e157 cJ3_checkIndex_8e157 3 (some .int) 0 0 z [.int (nI i), .int (nI n), (.ref t)] (fun _ _ => True) none (fun v => ∃ r, v = some (.int r) ∧ r = nI i) := by
  refine HC2.mkI (by decide +kernel) (Nat.le_of_ble_eq_true rfl) (fun X hC hR => ?_)
  refine e_iload_n 0 hC 0 (dg DJ3_checkIndex_8e157 0 rfl) rfl rfl ?_
  refine e_if_lt 1 9 hC (dg DJ3_checkIndex_8e157 1 rfl) (by decide) (fun h => absurd h (nI_pos (by omega))) (fun _ => ?_)
  refine e_iload_n 4 hC 0 (dg DJ3_checkIndex_8e157 2 rfl) rfl rfl ?_
  refine e_iload_n 5 hC 1 (dg DJ3_checkIndex_8e157 3 rfl) rfl rfl ?_
  refine e_icmp_lt 6 16 hC (dg DJ3_checkIndex_8e157 4 rfl) (by decide) (fun _ => ?_) (fun h => absurd (nI_lt hi hn) h)
  refine e_iload_n 16 hC 0 (dg DJ3_checkIndex_8e157 10 rfl) rfl rfl ?_
  exact hR 17 _ _ _ (dg DJ3_checkIndex_8e157 11 rfl) rfl (fun H h => ⟨h.1, _, rfl, rfl⟩)
theorem m_pre {z : Z4} {i n : Nat} {v : Value} (hv : v = .null ∨ ∃ t, v = .ref t) (hi : i < n) (hn : n < 2 ^ 31) : HC2 yJ3_checkIndex_8e157 cJ3_checkIndex_8e157 3 (some .int) 0 0 z [.int (nI i), .int (nI n), v] (fun _ _ => True) none (fun v => ∃ r, v = some (.int r) ∧ r = nI i) := by
  rcases hv with rfl | ⟨t, rfl⟩
  · exact m_pre0 hi hn
  · exact m_pre1 hi hn
set_option maxRecDepth 100000 in
set_option maxHeartbeats 4000000 in
theorem m_check {z : Z4} {i n : Nat} (hi : i < n) (hn : n < 2 ^ 31) : HC2 yJ0_checkIndex_df160 cJ0_checkIndex_df160 2 none 1 22 z [.int (nI i), .int (nI n)] (fun _ _ => True) none (fun v => v = none) := by
  refine HC2.mkV (by decide +kernel) (Nat.le_of_ble_eq_true rfl) (fun X hC hR => ?_)
  refine e_iload_n 0 hC 0 (dg DJ0_checkIndex_df160 0 rfl) rfl rfl ?_
  refine e_iload_n 1 hC 1 (dg DJ0_checkIndex_df160 1 rfl) rfl rfl ?_
  refine e_fmt 2 hC u_721 (dg DJ0_checkIndex_df160 2 rfl) (fun v hv => ?_)
  refine h_run (run_S (As := [.int (nI i), .int (nI n), v]) 5 hC (m_pre hv hi hn) qJ0_1059 ⟨⟨(Nat.le_of_ble_eq_true rfl), (Nat.le_of_ble_eq_true rfl)⟩, (Nat.le_of_ble_eq_true rfl), (Nat.le_of_ble_eq_true rfl)⟩ rfl rfl (Nat.le_of_ble_eq_true rfl) (dg DJ0_checkIndex_df160 3 rfl) (fun H h => ⟨trivial, trivial⟩)) (h_int (fun r hr => ?_))
  subst hr
  refine e_pop 8 hC (dg DJ0_checkIndex_df160 4 rfl) rfl ?_
  exact hR 9 _ _ (dg DJ0_checkIndex_df160 5 rfl) (fun H h => ⟨h.1, rfl⟩)
set_option maxRecDepth 100000 in
set_option maxHeartbeats 4000000 in
theorem m_char0 {z : Z4} {q : Q4} {i c : Nat} (hi : i < q.2.2.1) (hn : q.2.2.1 < 2 ^ 31) (hc : q.2.2.2 i = nI c) (hc2 : c < 128) : HC2 yJ1_charAt_3b067 cJ1_charAt_3b067 2 (some .char) 2 43 z [.ref q.2.1, .int (nI i)] (fun _ _ => True) (some q) (fun v => ∃ r, v = some (.int r) ∧ r = nI c) := by
  refine HC2.mkI (by decide +kernel) (Nat.le_of_ble_eq_true rfl) (fun X hC hR => ?_)
  refine e_iload_n 0 hC 1 (dg DJ1_charAt_3b067 0 rfl) rfl rfl ?_
  refine e_aload_n 1 hC 0 (dg DJ1_charAt_3b067 1 rfl) rfl rfl ?_
  refine e_salen (q := q) 2 hC (fun H h => h.2.2) rfl (dg DJ1_charAt_3b067 2 rfl) ?_
  refine e_eq (y := nI q.2.2.1) rfl ?_
  refine h_run (run_S (As := [.int (nI i), .int (nI q.2.2.1)]) 3 hC (m_check hi hn) qJ1_9 ⟨⟨(Nat.le_of_ble_eq_true rfl), (Nat.le_of_ble_eq_true rfl)⟩, (Nat.le_of_ble_eq_true rfl), (Nat.le_of_ble_eq_true rfl)⟩ rfl rfl (Nat.le_of_ble_eq_true rfl) (dg DJ1_charAt_3b067 3 rfl) (fun H h => ⟨trivial, trivial⟩)) (h_void ?_)
  refine e_aload_n 6 hC 0 (dg DJ1_charAt_3b067 4 rfl) rfl rfl ?_
  refine e_iload_n 7 hC 1 (dg DJ1_charAt_3b067 5 rfl) rfl rfl ?_
  refine e_sbld (q := q) 8 i hC (fun H h => h.2.2) rfl hi (by omega) (dg DJ1_charAt_3b067 6 rfl) ?_
  refine e_sipush 9 hC (dg DJ1_charAt_3b067 7 rfl) (v := 255) (by decide) ?_
  refine e_iand 12 hC (dg DJ1_charAt_3b067 8 rfl) ?_
  refine e_eq (y := (nI c)) (by rw [hc]; exact i_and255 hc2) ?_
  refine e_i2c 13 hC (dg DJ1_charAt_3b067 9 rfl) (v := nI c) (i_c2 hc2) ?_
  exact hR 14 _ _ _ (dg DJ1_charAt_3b067 10 rfl) (pk_charN (by omega)).1 (fun H h => ⟨h.1, _, rfl, rfl⟩)
set_option maxRecDepth 100000 in
set_option maxHeartbeats 4000000 in
theorem m_char {z : Z4} {q : Q4} {i c : Nat} (hi : i < q.2.2.1) (hn : q.2.2.1 < 2 ^ 31) (hc : q.2.2.2 i = nI c) (hc2 : c < 128) : HC2 yJ0_charAt_5068e cJ0_charAt_5068e 2 (some .char) 3 64 z [.ref q.1, .int (nI i)] (fun _ _ => True) (some q) (fun v => ∃ r, v = some (.int r) ∧ r = nI c) := by
  refine HC2.mkI (by decide +kernel) (Nat.le_of_ble_eq_true rfl) (fun X hC hR => ?_)
  refine e_aload_n 0 hC 0 (dg DJ0_charAt_5068e 0 rfl) rfl rfl ?_
  refine h_run (run_V (As := []) 1 hC m_sLat qJ0_492 ⟨⟨(Nat.le_of_ble_eq_true rfl), (Nat.le_of_ble_eq_true rfl)⟩, (Nat.le_of_ble_eq_true rfl), (Nat.le_of_ble_eq_true rfl)⟩ rfl rfl (Nat.le_of_ble_eq_true rfl) (dg DJ0_charAt_5068e 1 rfl) (fun H h => ⟨trivial, (fun H h => h.2.2) H h, recS h.2.2⟩)) (h_int (fun r hr => ?_))
  subst hr
  refine e_if_eq 4 16 hC (dg DJ0_charAt_5068e 2 rfl) (by decide) (fun h => absurd h (by decide)) (fun _ => ?_)
  refine e_aload_n 7 hC 0 (dg DJ0_charAt_5068e 3 rfl) rfl rfl ?_
  refine e_sval (q := q) 8 hC u_856 (fun H h => h.2.2) (dg DJ0_charAt_5068e 4 rfl) ?_
  refine e_iload_n 11 hC 1 (dg DJ0_charAt_5068e 5 rfl) rfl rfl ?_
  refine h_run (run_S (As := [.ref q.2.1, .int (nI i)]) 12 hC (m_char0 hi hn hc hc2) qJ0_495 ⟨⟨(Nat.le_of_ble_eq_true rfl), (Nat.le_of_ble_eq_true rfl)⟩, (Nat.le_of_ble_eq_true rfl), (Nat.le_of_ble_eq_true rfl)⟩ rfl rfl (Nat.le_of_ble_eq_true rfl) (dg DJ0_charAt_5068e 6 rfl) (fun H h => ⟨trivial, (fun H h => h.2.2) H h⟩)) (h_int (fun r hr => ?_))
  subst hr
  exact hR 15 _ _ _ (dg DJ0_charAt_5068e 7 rfl) (pk_charN (by omega)).1 (fun H h => ⟨h.1, _, rfl, rfl⟩)
