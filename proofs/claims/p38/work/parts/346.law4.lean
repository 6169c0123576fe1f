/-! the law itself -/
set_option maxRecDepth 100000 in
set_option maxHeartbeats 4000000 in
theorem law_end {X : XE} {z : Z4} {B : Nat} (hC : CE X z 5 cL_law RL room_1) (hA : aX X = A0 z.1) (hL : z.2.2.1 < 2 ^ 31) (hE : ∀ (pc : Nat) (lv : List (Nat × Value)) (P : Heap → Prop) (cn sn : Nat), decode cL_law pc = .ok (.ireturn, 1) → cn ≤ 600000 → sn ≤ 7302250 → G X 5 P cn sn lv pc [.int 1]) {w : WW} {n : Nat} {Hi : Nat → WW} {τ : SS} {lv : List (Nat × Value)} (ht : LA w n Hi none [] τ) (hlv : lv = [(1, .ref (B + 0)), (0, .ref z.2.1)]) : G X 5 (PE (kX X) z.1 B τ []) 300 6000 lv 128 [] := by
  subst hlv
  refine e_aload_n 128 hC 0 (dg DL_law_1 7 rfl) rfl rfl ?_
  refine g_run hA (run_S (o := none) (As := [.ref (B + 0)]) 129 hC (m_seen (B := B) (E := fun K => []) ht) qL_163 ⟨⟨(Nat.le_of_ble_eq_true rfl), (Nat.le_of_ble_eq_true rfl)⟩, (by show _ ≤ 600000; omega), (by show _ ≤ 7302250; omega)⟩ rfl rfl (Nat.le_of_ble_eq_true rfl) (dg DL_law_1 8 rfl) (fun H h => ⟨h, trivial⟩)) (g_ref (fun a => ?_))
  refine e_ex (fun τ1 => ?_)
  refine e_pure (fun H h => h.1) (fun h1 => ?_)
  refine e_imp (fun H h => h.2) ?_
  refine e_astore_n 132 hC [(2, .ref a), (1, .ref (B + 0)), (0, .ref z.2.1)] (dg DL_law_1 9 rfl) rfl (by decide) rfl ?_
  refine e_aload_n 133 hC 1 (dg DL_law_1 10 rfl) rfl rfl ?_
  refine g_cls (C := "") (n2 := 0) (As := []) 134 hC hA (m_X9_save (d_save h1)) qL_178 ⟨⟨(Nat.le_of_ble_eq_true rfl), (Nat.le_of_ble_eq_true rfl)⟩, (by show _ ≤ 600000; omega), (by show _ ≤ 7302250; omega)⟩ rfl rfl (Nat.le_of_ble_eq_true rfl) (dg DL_law_1 11 rfl) (fun H h => h) (fun r1 τ2 ⟨hr, h2⟩ => ?_)
  subst hr
  refine e_istore_n 137 hC [(3, .int (nI (w.1 0))), (2, .ref a), (1, .ref (B + 0)), (0, .ref z.2.1)] (dg DL_law_1 12 rfl) rfl (by decide) rfl ?_
  refine e_aload_n 138 hC 2 (dg DL_law_1 13 rfl) rfl rfl ?_
  refine g_cls (C := "") (n2 := 0) (As := []) 139 hC hA (m_X9_spare (d_spare h2)) qL_181 ⟨⟨(Nat.le_of_ble_eq_true rfl), (Nat.le_of_ble_eq_true rfl)⟩, (by show _ ≤ 600000; omega), (by show _ ≤ 7302250; omega)⟩ rfl rfl (Nat.le_of_ble_eq_true rfl) (dg DL_law_1 14 rfl) (fun H h => h) (fun s1 τ3 ⟨g1, h3⟩ => ?_)
  refine e_aload_n 142 hC 2 (dg DL_law_1 15 rfl) rfl rfl ?_
  refine g_cls (C := "") (n2 := 0) (As := []) 143 hC hA (m_X9_next (d_next h3)) qL_184 ⟨⟨(Nat.le_of_ble_eq_true rfl), (Nat.le_of_ble_eq_true rfl)⟩, (by show _ ≤ 600000; omega), (by show _ ≤ 7302250; omega)⟩ rfl rfl (Nat.le_of_ble_eq_true rfl) (dg DL_law_1 16 rfl) (fun H h => h) (fun s2 τ4 ⟨g2, h4⟩ => ?_)
  refine e_iadd 146 hC (dg DL_law_1 17 rfl) ?_
  refine e_top (fun y2 ey2 => ?_)
  have hy2 : bd (1 + 1) y2 := by rw [ey2]; exact bd_add g1.bd g2.bd (by omega)
  refine e_aload_n 147 hC 2 (dg DL_law_1 18 rfl) rfl rfl ?_
  refine g_cls (C := "") (n2 := 0) (As := []) 148 hC hA (m_X9_greedy (d_greedy h4)) qL_187 ⟨⟨(Nat.le_of_ble_eq_true rfl), (Nat.le_of_ble_eq_true rfl)⟩, (by show _ ≤ 600000; omega), (by show _ ≤ 7302250; omega)⟩ rfl rfl (Nat.le_of_ble_eq_true rfl) (dg DL_law_1 19 rfl) (fun H h => h) (fun s3 τ5 ⟨g3, h5⟩ => ?_)
  refine e_iadd 151 hC (dg DL_law_1 20 rfl) ?_
  refine e_top (fun y3 ey3 => ?_)
  have hy3 : bd (1 + 1 + 1) y3 := by rw [ey3]; exact bd_add hy2 g3.bd (by omega)
  refine e_aload_n 152 hC 2 (dg DL_law_1 21 rfl) rfl rfl ?_
  refine e_iconst 153 hC (dg DL_law_1 22 rfl) (v := 5) (by decide) ?_
  refine g_cls (C := "") (n2 := 0) (As := [.int 5]) 154 hC hA (m_X9_wouldTurn (d_wouldTurn h5 5)) qL_190 ⟨⟨(Nat.le_of_ble_eq_true rfl), (Nat.le_of_ble_eq_true rfl)⟩, (by show _ ≤ 600000; omega), (by show _ ≤ 7302250; omega)⟩ rfl rfl (Nat.le_of_ble_eq_true rfl) (dg DL_law_1 23 rfl) (fun H h => h) (fun s4 τ6 ⟨g4, h6⟩ => ?_)
  refine e_iadd 157 hC (dg DL_law_1 24 rfl) ?_
  refine e_top (fun y4 ey4 => ?_)
  have hy4 : bd (1 + 1 + 1 + 1) y4 := by rw [ey4]; exact bd_add hy3 g4.bd (by omega)
  refine e_aload_n 158 hC 2 (dg DL_law_1 25 rfl) rfl rfl ?_
  refine e_bipush 159 hC (dg DL_law_1 26 rfl) (v := 11) (by decide) ?_
  refine g_cls (C := "") (n2 := 0) (As := [.int 11]) 161 hC hA (m_X9_wouldNeed (d_wouldNeed h6 11)) qL_135 ⟨⟨(Nat.le_of_ble_eq_true rfl), (Nat.le_of_ble_eq_true rfl)⟩, (by show _ ≤ 600000; omega), (by show _ ≤ 7302250; omega)⟩ rfl rfl (Nat.le_of_ble_eq_true rfl) (dg DL_law_1 27 rfl) (fun H h => h) (fun s5 τ7 ⟨g5, h7⟩ => ?_)
  refine e_iadd 164 hC (dg DL_law_1 28 rfl) ?_
  refine e_top (fun y5 ey5 => ?_)
  have hy5 : bd (1 + 1 + 1 + 1 + 1) y5 := by rw [ey5]; exact bd_add hy4 g5.bd (by omega)
  refine e_aload_n 165 hC 2 (dg DL_law_1 29 rfl) rfl rfl ?_
  refine e_iconst 166 hC (dg DL_law_1 30 rfl) (v := 2) (by decide) ?_
  refine e_iconst 167 hC (dg DL_law_1 31 rfl) (v := 0) (by decide) ?_
  refine g_cls (C := "") (n2 := 0) (As := [.int 2, .int 0]) 168 hC hA (m_X9_ranked (d_ranked h7 2 0)) qL_193 ⟨⟨(Nat.le_of_ble_eq_true rfl), (Nat.le_of_ble_eq_true rfl)⟩, (by show _ ≤ 600000; omega), (by show _ ≤ 7302250; omega)⟩ rfl rfl (Nat.le_of_ble_eq_true rfl) (dg DL_law_1 32 rfl) (fun H h => h) (fun s6 τ8 ⟨g6, h8⟩ => ?_)
  refine e_iadd 171 hC (dg DL_law_1 33 rfl) ?_
  refine e_top (fun y6 ey6 => ?_)
  have hy6 : bd (1 + 1 + 1 + 1 + 1 + 1) y6 := by rw [ey6]; exact bd_add hy5 g6.bd (by omega)
  refine e_istore 172 hC [(4, .int y6), (3, .int (nI (w.1 0))), (2, .ref a), (1, .ref (B + 0)), (0, .ref z.2.1)] (dg DL_law_1 34 rfl) (by decide) rfl ?_
  refine e_aload_n 174 hC 2 (dg DL_law_1 35 rfl) rfl rfl ?_
  refine e_aload_n 175 hC 3 (dg DL_law_1 36 rfl) rfl rfl ?_
  refine g_run hA (run_S (o := none) (As := [.ref (B + 0)]) 176 hC (m_seen (B := B) (E := fun K => [(a, (.inl (K.2.1.1, (100, .inl (sc w))) : va_E))]) h8) qL_163 ⟨⟨(Nat.le_of_ble_eq_true rfl), (Nat.le_of_ble_eq_true rfl)⟩, (by show _ ≤ 600000; omega), (by show _ ≤ 7302250; omega)⟩ rfl rfl (Nat.le_of_ble_eq_true rfl) (dg DL_law_1 37 rfl) (fun H h => ⟨h, trivial⟩)) (g_ref (fun a2 => ?_))
  refine e_ex (fun τ9 => ?_)
  refine e_pure (fun H h => h.1) (fun h9 => ?_)
  refine e_imp (fun H h => h.2) ?_
  refine h_run (run_S (o := none) (As := [.ref a, .ref a2]) 179 hC (m_alike (B := B) (E := fun K => [(a, (.inl (K.2.1.1, (100, .inl (sc w))) : va_E)), (a2, (.inl (K.2.1.1, (100, .inl (sc w))) : va_E))]) (i := 0) (j := 1) (fun _ => rfl) (fun _ => rfl)) qL_171 ⟨⟨(Nat.le_of_ble_eq_true rfl), (Nat.le_of_ble_eq_true rfl)⟩, (by show _ ≤ 600000; omega), (by show _ ≤ 7302250; omega)⟩ rfl rfl (Nat.le_of_ble_eq_true rfl) (dg DL_law_1 38 rfl) (fun H h => ⟨h, trivial⟩)) (h_int (fun r hr => ?_))
  subst hr
  refine e_if_ne 182 187 hC (dg DL_law_1 39 rfl) (by decide) (fun _ => ?_) (fun h => absurd h (by decide))
  refine e_iload 187 hC 0 (dg DL_law_1 42 rfl) rfl ?_
  refine e_aload_n 189 hC 3 (dg DL_law_1 43 rfl) rfl rfl ?_
  refine e_iconst 190 hC (dg DL_law_1 44 rfl) (v := 3) (by decide) ?_
  refine e_iconst 191 hC (dg DL_law_1 45 rfl) (v := 3) (by decide) ?_
  refine e_iconst 192 hC (dg DL_law_1 46 rfl) (v := 3) (by decide) ?_
  refine g_cls (C := "") (n2 := 0) (As := [.int 3, .int 3, .int 3]) 193 hC hA (m_X9_post (d_post h9 _ _ _)) qL_40 ⟨⟨(Nat.le_of_ble_eq_true rfl), (Nat.le_of_ble_eq_true rfl)⟩, (by show _ ≤ 600000; omega), (by show _ ≤ 7302250; omega)⟩ rfl rfl (Nat.le_of_ble_eq_true rfl) (dg DL_law_1 47 rfl) (fun H h => h) (fun s7 τ10 g7 => ?_)
  obtain ⟨w2, n2, Hi2, k2⟩ := g7.le
  refine e_aload_n 196 hC 3 (dg DL_law_1 48 rfl) rfl rfl ?_
  refine e_iconst 197 hC (dg DL_law_1 49 rfl) (v := 0) (by decide) ?_
  refine g_cls (C := "") (n2 := 0) (As := [.int 0]) 198 hC hA (m_X9_tear (d_tear k2 _)) qL_55 ⟨⟨(Nat.le_of_ble_eq_true rfl), (Nat.le_of_ble_eq_true rfl)⟩, (by show _ ≤ 600000; omega), (by show _ ≤ 7302250; omega)⟩ rfl rfl (Nat.le_of_ble_eq_true rfl) (dg DL_law_1 50 rfl) (fun H h => h) (fun s8 τ11 g8 => ?_)
  refine e_iadd 201 hC (dg DL_law_1 51 rfl) ?_
  refine e_top (fun y8 ey8 => ?_)
  have hy8 : bd (1 + 1) y8 := by rw [ey8]; exact bd_add g7.1.bd g8.1.bd (by omega)
  obtain ⟨w3, n3, Hi3, k3⟩ := g8.le
  refine e_aload_n 202 hC 3 (dg DL_law_1 52 rfl) rfl rfl ?_
  refine g_cls (C := "") (n2 := 0) (As := []) 203 hC hA (m_X9_watch (d_watch k3)) qL_93 ⟨⟨(Nat.le_of_ble_eq_true rfl), (Nat.le_of_ble_eq_true rfl)⟩, (by show _ ≤ 600000; omega), (by show _ ≤ 7302250; omega)⟩ rfl rfl (Nat.le_of_ble_eq_true rfl) (dg DL_law_1 53 rfl) (fun H h => h) (fun s9 τ12 g9 => ?_)
  refine e_iadd 206 hC (dg DL_law_1 54 rfl) ?_
  refine e_top (fun y9 ey9 => ?_)
  have hy9 : bd (1 + 1 + 1) y9 := by rw [ey9]; exact bd_add hy8 g9.1.bd (by omega)
  obtain ⟨w4, n4, Hi4, k4⟩ := g9.le
  refine e_aload_n 207 hC 3 (dg DL_law_1 55 rfl) rfl rfl ?_
  refine e_bipush 208 hC (dg DL_law_1 56 rfl) (v := 7) (by decide) ?_
  refine g_cls (C := "") (n2 := 0) (As := [.int 7]) 210 hC hA (m_X9_hour (d_hour k4 _)) qL_51 ⟨⟨(Nat.le_of_ble_eq_true rfl), (Nat.le_of_ble_eq_true rfl)⟩, (by show _ ≤ 600000; omega), (by show _ ≤ 7302250; omega)⟩ rfl rfl (Nat.le_of_ble_eq_true rfl) (dg DL_law_1 57 rfl) (fun H h => h) (fun s10 τ13 g10 => ?_)
  refine e_iadd 213 hC (dg DL_law_1 58 rfl) ?_
  refine e_top (fun y10 ey10 => ?_)
  have hy10 : bd (1 + 1 + 1 + 1) y10 := by rw [ey10]; exact bd_add hy9 g10.1.bd (by omega)
  obtain ⟨w5, n5, Hi5, k5⟩ := g10.le
  refine e_iadd 214 hC (dg DL_law_1 59 rfl) ?_
  refine e_top (fun y11 ey11 => ?_)
  have hy11 : bd (1 + 1 + 1 + 1 + 1 + 1 + (1 + 1 + 1 + 1)) y11 := by rw [ey11]; exact bd_add hy6 hy10 (by omega)
  refine e_istore 215 hC [(4, .int y11), (3, .int (nI (w.1 0))), (2, .ref a), (1, .ref (B + 0)), (0, .ref z.2.1)] (dg DL_law_2 0 rfl) (by decide) rfl ?_
  refine e_aload_n 217 hC 3 (dg DL_law_2 1 rfl) rfl rfl ?_
  refine g_cls (C := "") (n2 := 0) (As := []) 218 hC hA (m_X9_restore (d_restore k5)) qL_196 ⟨⟨(Nat.le_of_ble_eq_true rfl), (Nat.le_of_ble_eq_true rfl)⟩, (by show _ ≤ 600000; omega), (by show _ ≤ 7302250; omega)⟩ rfl rfl (Nat.le_of_ble_eq_true rfl) (dg DL_law_2 2 rfl) (fun H h => h) (fun s11 τ14 ⟨hr, k6⟩ => ?_)
  subst hr
  refine e_iload_n 221 hC 1 (dg DL_law_2 3 rfl) rfl rfl ?_
  refine e_icmp_ne 222 256 hC (dg DL_law_2 4 rfl) (by decide) (fun h => absurd rfl h) (fun _ => ?_)
  refine e_aload_n 225 hC 2 (dg DL_law_2 5 rfl) rfl rfl ?_
  refine e_aload_n 226 hC 3 (dg DL_law_2 6 rfl) rfl rfl ?_
  refine g_run hA (run_S (o := none) (As := [.ref (B + 0)]) 227 hC (m_seen (B := B) (E := fun K => [(a, (.inl (K.2.1.1, (100, .inl (sc w))) : va_E)), (a2, (.inl (K.2.1.1, (100, .inl (sc w))) : va_E))]) k6) qL_163 ⟨⟨(Nat.le_of_ble_eq_true rfl), (Nat.le_of_ble_eq_true rfl)⟩, (by show _ ≤ 600000; omega), (by show _ ≤ 7302250; omega)⟩ rfl rfl (Nat.le_of_ble_eq_true rfl) (dg DL_law_2 7 rfl) (fun H h => ⟨h, trivial⟩)) (g_ref (fun a3 => ?_))
  refine e_ex (fun τ15 => ?_)
  refine e_pure (fun H h => h.1) (fun k7 => ?_)
  refine e_imp (fun H h => h.2) ?_
  refine h_run (run_S (o := none) (As := [.ref a, .ref a3]) 230 hC (m_alike (B := B) (E := fun K => [(a, (.inl (K.2.1.1, (100, .inl (sc w))) : va_E)), (a2, (.inl (K.2.1.1, (100, .inl (sc w))) : va_E)), (a3, (.inl (K.2.1.1, (100, .inl (sc w))) : va_E))]) (i := 0) (j := 2) (fun _ => rfl) (fun _ => rfl)) qL_171 ⟨⟨(Nat.le_of_ble_eq_true rfl), (Nat.le_of_ble_eq_true rfl)⟩, (by show _ ≤ 600000; omega), (by show _ ≤ 7302250; omega)⟩ rfl rfl (Nat.le_of_ble_eq_true rfl) (dg DL_law_2 8 rfl) (fun H h => ⟨h, trivial⟩)) (h_int (fun r hr => ?_))
  subst hr
  refine e_if_eq 233 256 hC (dg DL_law_2 9 rfl) (by decide) (fun h => absurd h (by decide)) (fun _ => ?_)
  refine e_aload_n 236 hC 3 (dg DL_law_2 10 rfl) rfl rfl ?_
  refine e_bipush 237 hC (dg DL_law_2 11 rfl) (v := 12) (by decide) ?_
  refine g_cls (C := "") (n2 := 0) (As := [.int 12]) 239 hC hA (m_X9_account (d_account k7 12)) qL_96 ⟨⟨(Nat.le_of_ble_eq_true rfl), (Nat.le_of_ble_eq_true rfl)⟩, (by show _ ≤ 600000; omega), (by show _ ≤ 7302250; omega)⟩ rfl rfl (Nat.le_of_ble_eq_true rfl) (dg DL_law_2 12 rfl) (fun H h => h) (fun s12 τ16 ⟨hr, k8⟩ => ?_)
  subst hr
  rw [a_account_12]
  refine e_if_ne 242 256 hC (dg DL_law_2 13 rfl) (by decide) (fun h => absurd rfl h) (fun _ => ?_)
  refine e_iload 245 hC 0 (dg DL_law_2 14 rfl) rfl ?_
  refine e_ldc 247 hC (dg DL_law_2 15 rfl) u_609 (v := (-90000)) ?_
  refine e_icmp_le 249 256 hC (dg DL_law_2 16 rfl) (by decide) (fun h => absurd h (bd_big hy11 (by omega)).2) (fun _ => ?_)
  refine e_iconst 252 hC (dg DL_law_2 17 rfl) (v := 1) (by decide) ?_
  refine e_goto 253 257 hC (dg DL_law_2 18 rfl) (by decide) ?_
  exact hE 257 _ _ _ _ (dg DL_law_2 20 rfl) (by omega) (by omega)
set_option maxRecDepth 100000 in
set_option maxHeartbeats 4000000 in
theorem law_loop {X : XE} {z : Z4} {B : Nat} (hC : CE X z 5 cL_law RL room_1) (hA : aX X = A0 z.1) (hL : z.2.2.1 < 2 ^ 31) (hE : ∀ (pc : Nat) (lv : List (Nat × Value)) (P : Heap → Prop) (cn sn : Nat), decode cL_law pc = .ok (.ireturn, 1) → cn ≤ 600000 → sn ≤ 7302250 → G X 5 P cn sn lv pc [.int 1]) : ∀ d k τ (w : WW) (n : Nat) (Hi : Nat → WW), k + d = 10 → LA w n Hi none [] τ → G X 5 (PE (kX X) z.1 B τ []) (95 + 11 * k) (1435 + 380 * k) [(2, .int (nI k)), (1, .ref (B + 0)), (0, .ref z.2.1)] 20 [] := by
  intro d
  induction d with
  | zero =>
    intro k τ w n Hi hk ht
    obtain rfl : k = 10 := by omega
    refine e_iload_n 20 hC 0 (dg DL_law_0 12 rfl) rfl rfl ?_
    refine e_bipush 21 hC (dg DL_law_0 13 rfl) (v := 10) (by decide) ?_
    refine e_icmp_ge 23 128 hC (dg DL_law_0 14 rfl) (by decide) (fun _ => ?_) (fun h => absurd (by decide) h)
    refine e_lv [1, 2] rfl ?_
    refine e_wid (cn' := 300) (sn' := 6000) (by omega) (by omega) ?_
    exact law_end hC hA hL hE ht rfl
  | succ d ih =>
    intro k τ w n Hi hk ht
    refine e_iload_n 20 hC 0 (dg DL_law_0 12 rfl) rfl rfl ?_
    refine e_bipush 21 hC (dg DL_law_0 13 rfl) (v := 10) (by decide) ?_
    refine e_icmp_ge 23 128 hC (dg DL_law_0 14 rfl) (by decide) (fun h => absurd h (c_nle 10 (by omega))) (fun _ => ?_)
    refine e_aload_n 26 hC 1 (dg DL_law_0 15 rfl) rfl rfl ?_
    refine g_run hA (run_S (o := none) (As := [.ref (B + 0)]) 27 hC (m_seen (B := B) (E := fun K => []) ht) qL_163 ⟨⟨(Nat.le_of_ble_eq_true rfl), (Nat.le_of_ble_eq_true rfl)⟩, (by show _ ≤ 600000; omega), (by show _ ≤ 7302250; omega)⟩ rfl rfl (Nat.le_of_ble_eq_true rfl) (dg DL_law_0 16 rfl) (fun H h => ⟨h, trivial⟩)) (g_ref (fun a => ?_))
    refine e_ex (fun τ1 => ?_)
    refine e_pure (fun H h => h.1) (fun h1 => ?_)
    refine e_imp (fun H h => h.2) ?_
    refine e_astore_n 30 hC [(3, .ref a), (2, .int (nI k)), (1, .ref (B + 0)), (0, .ref z.2.1)] (dg DL_law_0 17 rfl) rfl (by decide) rfl ?_
    refine e_aload_n 31 hC 2 (dg DL_law_0 18 rfl) rfl rfl ?_
    refine e_aload_n 32 hC 3 (dg DL_law_0 19 rfl) rfl rfl ?_
    refine e_bipush 33 hC (dg DL_law_0 20 rfl) (v := 40) (by decide) ?_
    refine e_iconst 35 hC (dg DL_law_0 21 rfl) (v := 4) (by decide) ?_
    refine e_iload_n 36 hC 1 (dg DL_law_0 22 rfl) rfl rfl ?_
    refine e_imul 37 hC (dg DL_law_0 23 rfl) ?_
    refine e_eq (y := (nI (4 * k))) (pk_mul 4 k) ?_
    refine e_iadd 38 hC (dg DL_law_0 24 rfl) ?_
    refine e_eq (y := (nI (40 + 4 * k))) (nI_add 40 _) ?_
    refine g_run hA (run_S (o := none) (As := [.ref (B + 0), .ref z.2.1, .int (nI (40 + 4 * k))]) 39 hC (m_does (B := B) (E := fun K => [(a, (.inl (K.2.1.1, (100, .inl (sc w))) : va_E))]) (L := 1) hL (by omega) (fun _ => rfl) h1) qL_167 ⟨⟨(Nat.le_of_ble_eq_true rfl), (Nat.le_of_ble_eq_true rfl)⟩, (by show _ ≤ 600000; omega), (by show _ ≤ 7302250; omega)⟩ rfl rfl (Nat.le_of_ble_eq_true rfl) (dg DL_law_0 25 rfl) (fun H h => ⟨h, trivial⟩)) (g_int (fun r => ?_))
    refine e_ex (fun τ2 => ?_)
    refine e_pure (fun H h => h.1) (fun hd => ?_)
    refine e_imp (fun H h => h.2) ?_
    obtain ⟨hsm, h99, hd⟩ := hd
    refine e_istore 42 hC [(4, .int r), (3, .ref a), (2, .int (nI k)), (1, .ref (B + 0)), (0, .ref z.2.1)] (dg DL_law_0 26 rfl) (by decide) rfl ?_
    refine e_iload 44 hC 0 (dg DL_law_0 27 rfl) rfl ?_
    refine e_bipush 46 hC (dg DL_law_0 28 rfl) (v := (-99)) (by decide) ?_
    refine e_icmp_eq 48 83 hC (dg DL_law_0 29 rfl) (by decide) (fun h => absurd h h99) (fun _ => ?_)
    refine e_aload_n 51 hC 3 (dg DL_law_0 30 rfl) rfl rfl ?_
    have hle : LE none τ2 := DN.le ⟨hsm, h99, hd⟩
    obtain ⟨w2, n2, Hi2, hw2⟩ := hle
    clear hw2 w2 n2 Hi2
    rcases hd with ⟨hneg, hd⟩ | ⟨hneg, w3, hd⟩
    · refine g_clsS (As := [.ref (B + 0)]) 52 hC hA (m_L_isWell (d_isWell hd)) qL_160 ⟨⟨(Nat.le_of_ble_eq_true rfl), (Nat.le_of_ble_eq_true rfl)⟩, (by show _ ≤ 600000; omega), (by show _ ≤ 7302250; omega)⟩ rfl rfl (Nat.le_of_ble_eq_true rfl) (dg DL_law_0 31 rfl) (fun H h => h) (fun r τ3 ⟨hr, h3⟩ => ?_)
      subst hr
      refine e_if_eq 55 83 hC (dg DL_law_0 32 rfl) (by decide) (fun h => absurd h (by decide)) (fun _ => ?_)
      refine e_aload_n 58 hC 3 (dg DL_law_0 33 rfl) rfl rfl ?_
      refine e_bipush 59 hC (dg DL_law_0 34 rfl) (v := 11) (by decide) ?_
      refine g_cls (C := "") (n2 := 0) (As := [.int 11]) 61 hC hA (m_X9_account (d_account h3 11)) qL_96 ⟨⟨(Nat.le_of_ble_eq_true rfl), (Nat.le_of_ble_eq_true rfl)⟩, (by show _ ≤ 600000; omega), (by show _ ≤ 7302250; omega)⟩ rfl rfl (Nat.le_of_ble_eq_true rfl) (dg DL_law_0 35 rfl) (fun H h => h) (fun r3 τ4 ⟨hr, h4⟩ => ?_)
      subst hr
      rw [a_account_11]
      refine e_if_ne 64 83 hC (dg DL_law_0 36 rfl) (by decide) (fun h => absurd rfl h) (fun _ => ?_)
      refine e_iload 67 hC 0 (dg DL_law_0 37 rfl) rfl ?_
      refine e_if_ge 69 85 hC (dg DL_law_0 38 rfl) (by decide) (fun h => absurd h (i_not1 hneg)) (fun _ => ?_)
      refine e_aload_n 72 hC 1 (dg DL_law_0 39 rfl) rfl rfl ?_
      refine e_aload_n 73 hC 3 (dg DL_law_0 40 rfl) rfl rfl ?_
      refine g_run hA (run_S (o := none) (As := [.ref (B + 0)]) 74 hC (m_seen (B := B) (E := fun K => [(a, (.inl (K.2.1.1, (100, .inl (sc w))) : va_E))]) h4) qL_163 ⟨⟨(Nat.le_of_ble_eq_true rfl), (Nat.le_of_ble_eq_true rfl)⟩, (by show _ ≤ 600000; omega), (by show _ ≤ 7302250; omega)⟩ rfl rfl (Nat.le_of_ble_eq_true rfl) (dg DL_law_0 41 rfl) (fun H h => ⟨h, trivial⟩)) (g_ref (fun a2 => ?_))
      refine e_ex (fun τ5 => ?_)
      refine e_pure (fun H h => h.1) (fun h5 => ?_)
      refine e_imp (fun H h => h.2) ?_
      refine h_run (run_S (o := none) (As := [.ref a, .ref a2]) 77 hC (m_alike (B := B) (E := fun K => [(a, (.inl (K.2.1.1, (100, .inl (sc w))) : va_E)), (a2, (.inl (K.2.1.1, (100, .inl (sc w))) : va_E))]) (i := 0) (j := 1) (fun _ => rfl) (fun _ => rfl)) qL_171 ⟨⟨(Nat.le_of_ble_eq_true rfl), (Nat.le_of_ble_eq_true rfl)⟩, (by show _ ≤ 600000; omega), (by show _ ≤ 7302250; omega)⟩ rfl rfl (Nat.le_of_ble_eq_true rfl) (dg DL_law_0 42 rfl) (fun H h => ⟨h, trivial⟩)) (h_int (fun r hr => ?_))
      subst hr
      refine e_if_ne 80 85 hC (dg DL_law_0 43 rfl) (by decide) (fun _ => ?_) (fun h => absurd h (by decide))
      refine e_iload 85 hC 0 (dg DL_law_0 46 rfl) rfl ?_
      refine e_if_lt 87 122 hC (dg DL_law_0 47 rfl) (by decide) (fun _ => ?_) (fun h => absurd hneg h)
      refine e_iinc 122 hC 2 (nI (k + 1)) [(2, .int (nI (k + 1))), (4, .int r), (3, .ref a), (1, .ref (B + 0)), (0, .ref z.2.1)] (dg DL_law_1 5 rfl) rfl (nI_1 k) (by decide) rfl ?_
      refine e_goto 125 20 hC (dg DL_law_1 6 rfl) (by decide) ?_
      refine e_lv [0, 3, 4] rfl ?_
      refine e_imp (fun H h => h.nil) ?_
      refine e_wid (cn' := 95 + 11 * (k + 1)) (sn' := 1435 + 380 * (k + 1)) (by omega) (by omega) ?_
      exact ih (k + 1) _ _ _ _ (by omega) h5
    · refine g_clsS (As := [.ref (B + 0)]) 52 hC hA (m_L_isWell (d_isWell hd)) qL_160 ⟨⟨(Nat.le_of_ble_eq_true rfl), (Nat.le_of_ble_eq_true rfl)⟩, (by show _ ≤ 600000; omega), (by show _ ≤ 7302250; omega)⟩ rfl rfl (Nat.le_of_ble_eq_true rfl) (dg DL_law_0 31 rfl) (fun H h => h) (fun r τ3 ⟨hr, h3⟩ => ?_)
      subst hr
      refine e_if_eq 55 83 hC (dg DL_law_0 32 rfl) (by decide) (fun h => absurd h (by decide)) (fun _ => ?_)
      refine e_aload_n 58 hC 3 (dg DL_law_0 33 rfl) rfl rfl ?_
      refine e_bipush 59 hC (dg DL_law_0 34 rfl) (v := 11) (by decide) ?_
      refine g_cls (C := "") (n2 := 0) (As := [.int 11]) 61 hC hA (m_X9_account (d_account h3 11)) qL_96 ⟨⟨(Nat.le_of_ble_eq_true rfl), (Nat.le_of_ble_eq_true rfl)⟩, (by show _ ≤ 600000; omega), (by show _ ≤ 7302250; omega)⟩ rfl rfl (Nat.le_of_ble_eq_true rfl) (dg DL_law_0 35 rfl) (fun H h => h) (fun r3 τ4 ⟨hr, h4⟩ => ?_)
      subst hr
      rw [a_account_11]
      refine e_if_ne 64 83 hC (dg DL_law_0 36 rfl) (by decide) (fun h => absurd rfl h) (fun _ => ?_)
      refine e_iload 67 hC 0 (dg DL_law_0 37 rfl) rfl ?_
      refine e_if_ge 69 85 hC (dg DL_law_0 38 rfl) (by decide) (fun _ => ?_) (fun h => absurd (by rw [Int32.le_iff_toInt_le]; rw [Int32.lt_iff_toInt_lt] at hneg; exact Int.not_lt.mp hneg) h)
      refine e_iload 85 hC 0 (dg DL_law_0 46 rfl) rfl ?_
      refine e_if_lt 87 122 hC (dg DL_law_0 47 rfl) (by decide) (fun h => absurd h hneg) (fun _ => ?_)
      refine e_aload_n 90 hC 4 (dg DL_law_0 48 rfl) rfl rfl ?_
      refine e_bipush 91 hC (dg DL_law_0 49 rfl) (v := 81) (by decide) ?_
      refine e_iload_n 93 hC 2 (dg DL_law_0 50 rfl) rfl rfl ?_
      refine e_iadd 94 hC (dg DL_law_0 51 rfl) ?_
      refine e_eq (y := (nI (81 + k))) (nI_add 81 k) ?_
      refine e_iconst 95 hC (dg DL_law_0 52 rfl) (v := 5) (by decide) ?_
      refine h_run (run_S (o := none) (As := [.ref z.2.1, .int (nI (81 + k)), .int 5]) 96 hC (m_in (m := 5) hL (by omega) (by decide) (by decide)) qL_36 ⟨⟨(Nat.le_of_ble_eq_true rfl), (Nat.le_of_ble_eq_true rfl)⟩, (by show _ ≤ 600000; omega), (by show _ ≤ 7302250; omega)⟩ rfl rfl (Nat.le_of_ble_eq_true rfl) (dg DL_law_0 53 rfl) (fun H h => ⟨trivial, trivial⟩)) (h_int (fun rj1 ⟨j1, hj1, ej1⟩ => ?_))
      subst ej1
      refine e_if_ne 99 122 hC (dg DL_law_0 54 rfl) (by decide) (fun k1 => ?_) (fun k1 => ?_)
      · refine e_iinc 122 hC 2 (nI (k + 1)) [(2, .int (nI (k + 1))), (4, .int r), (3, .ref a), (1, .ref (B + 0)), (0, .ref z.2.1)] (dg DL_law_1 5 rfl) rfl (nI_1 k) (by decide) rfl ?_
        refine e_goto 125 20 hC (dg DL_law_1 6 rfl) (by decide) ?_
        refine e_lv [0, 3, 4] rfl ?_
        refine e_imp (fun H h => h.nil) ?_
        refine e_wid (cn' := 95 + 11 * (k + 1)) (sn' := 1435 + 380 * (k + 1)) (by omega) (by omega) ?_
        exact ih (k + 1) _ _ _ _ (by omega) h4
      · refine e_aload_n 102 hC 3 (dg DL_law_0 55 rfl) rfl rfl ?_
        refine g_cls (C := "") (n2 := 0) (As := []) 103 hC hA (m_X9_undo (d_undo h4 (pN_pos n))) qL_175 ⟨⟨(Nat.le_of_ble_eq_true rfl), (Nat.le_of_ble_eq_true rfl)⟩, (by show _ ≤ 600000; omega), (by show _ ≤ 7302250; omega)⟩ rfl rfl (Nat.le_of_ble_eq_true rfl) (dg DL_law_0 56 rfl) (fun H h => h) (fun r5 τ5 ⟨hr, h5⟩ => ?_)
        subst hr
        rw [pH_top] at h5
        have p8 := pN_le (n := n)
        refine e_if_lt 106 120 hC (dg DL_law_0 57 rfl) (by decide) (fun h => absurd h (nI_n0 (by omega))) (fun _ => ?_)
        refine e_aload_n 109 hC 1 (dg DL_law_0 58 rfl) rfl rfl ?_
        refine e_aload_n 110 hC 3 (dg DL_law_0 59 rfl) rfl rfl ?_
        refine g_run hA (run_S (o := none) (As := [.ref (B + 0)]) 111 hC (m_seen (B := B) (E := fun K => [(a, (.inl (K.2.1.1, (100, .inl (sc w))) : va_E))]) h5) qL_163 ⟨⟨(Nat.le_of_ble_eq_true rfl), (Nat.le_of_ble_eq_true rfl)⟩, (by show _ ≤ 600000; omega), (by show _ ≤ 7302250; omega)⟩ rfl rfl (Nat.le_of_ble_eq_true rfl) (dg DL_law_1 0 rfl) (fun H h => ⟨h, trivial⟩)) (g_ref (fun a2 => ?_))
        refine e_ex (fun τ6 => ?_)
        refine e_pure (fun H h => h.1) (fun h6 => ?_)
        refine e_imp (fun H h => h.2) ?_
        refine h_run (run_S (o := none) (As := [.ref a, .ref a2]) 114 hC (m_alike (B := B) (E := fun K => [(a, (.inl (K.2.1.1, (100, .inl (sc w))) : va_E)), (a2, (.inl (K.2.1.1, (100, .inl (sc w))) : va_E))]) (i := 0) (j := 1) (fun _ => rfl) (fun _ => rfl)) qL_171 ⟨⟨(Nat.le_of_ble_eq_true rfl), (Nat.le_of_ble_eq_true rfl)⟩, (by show _ ≤ 600000; omega), (by show _ ≤ 7302250; omega)⟩ rfl rfl (Nat.le_of_ble_eq_true rfl) (dg DL_law_1 1 rfl) (fun H h => ⟨h, trivial⟩)) (h_int (fun r hr => ?_))
        subst hr
        refine e_if_ne 117 122 hC (dg DL_law_1 2 rfl) (by decide) (fun _ => ?_) (fun h => absurd h (by decide))
        refine e_iinc 122 hC 2 (nI (k + 1)) [(2, .int (nI (k + 1))), (4, .int r), (3, .ref a), (1, .ref (B + 0)), (0, .ref z.2.1)] (dg DL_law_1 5 rfl) rfl (nI_1 k) (by decide) rfl ?_
        refine e_goto 125 20 hC (dg DL_law_1 6 rfl) (by decide) ?_
        refine e_lv [0, 3, 4] rfl ?_
        refine e_imp (fun H h => h.nil) ?_
        refine e_wid (cn' := 95 + 11 * (k + 1)) (sn' := 1435 + 380 * (k + 1)) (by omega) (by omega) ?_
        exact ih (k + 1) _ _ _ _ (by omega) h6
set_option maxRecDepth 100000 in
set_option maxHeartbeats 4000000 in
theorem law_run {X : XE} {z : Z4} (hC : CE X z 5 cL_law RL room_1) (hA : aX X = A0 z.1) (hL : z.2.2.1 < 2 ^ 31) (hE : ∀ (pc : Nat) (lv : List (Nat × Value)) (P : Heap → Prop) (cn sn : Nat), decode cL_law pc = .ok (.ireturn, 1) → cn ≤ 600000 → sn ≤ 7302250 → G X 5 P cn sn lv pc [.int 1]) {P : Heap → Prop} : G X 5 P 0 0 [(0, .ref z.2.1)] 0 [] := by
  refine e_aload_n 0 hC 0 (dg DL_law_0 0 rfl) rfl rfl ?_
  refine g_run hA (run_S (o := none) (As := [.ref z.2.1]) 1 hC (m_begun hL) qL_156 ⟨⟨(Nat.le_of_ble_eq_true rfl), (Nat.le_of_ble_eq_true rfl)⟩, (by show _ ≤ 600000; omega), (by show _ ≤ 7302250; omega)⟩ rfl rfl (Nat.le_of_ble_eq_true rfl) (dg DL_law_0 1 rfl) (fun H h => ⟨trivial, trivial⟩)) (g_ref (fun a => ?_))
  refine e_ex (fun B => e_ex (fun τ => ?_))
  refine e_pure (φ := a = B + 0 ∧ LE none τ) (fun H h => ⟨h.1, h.2.1⟩) (fun hh => ?_)
  refine e_imp (fun H h => h.2.2) ?_
  obtain ⟨ea, w, n, Hi, ht⟩ := hh
  rw [ea]
  refine e_astore_n 4 hC [(1, .ref (B + 0)), (0, .ref z.2.1)] (dg DL_law_0 2 rfl) rfl (by decide) rfl ?_
  refine e_aload_n 5 hC 0 (dg DL_law_0 3 rfl) rfl rfl ?_
  refine e_ifnull 6 hC (dg DL_law_0 4 rfl) ?_
  refine e_aload_n 9 hC 0 (dg DL_law_0 5 rfl) rfl rfl ?_
  refine g_clsS (As := [.ref (B + 0)]) 10 hC hA (m_L_isWell (d_isWell ht)) qL_160 ⟨⟨(Nat.le_of_ble_eq_true rfl), (Nat.le_of_ble_eq_true rfl)⟩, (by show _ ≤ 600000; omega), (by show _ ≤ 7302250; omega)⟩ rfl rfl (Nat.le_of_ble_eq_true rfl) (dg DL_law_0 6 rfl) (fun H h => h) (fun r τ1 ⟨hr, h1⟩ => ?_)
  subst hr
  refine e_if_ne 13 18 hC (dg DL_law_0 7 rfl) (by decide) (fun _ => ?_) (fun h => absurd h (by decide))
  refine e_iconst 18 hC (dg DL_law_0 10 rfl) (v := 0) (by decide) ?_
  refine e_istore_n 19 hC [(2, .int 0), (1, .ref (B + 0)), (0, .ref z.2.1)] (dg DL_law_0 11 rfl) rfl (by decide) rfl ?_
  refine e_cs (cn' := 95 + 11 * 0) (sn' := 1435 + 380 * 0) (by omega) (by omega) ?_
  exact law_loop hC hA hL hE 10 0 τ1 w n Hi rfl h1
