/-! the law's own methods: begun -/
theorem LA_sgF : LA (fun _ => 0, fun _ _ => 0) 0 (fun _ => (fun _ => 0, fun _ _ => 0)) none [] sgF := by
  refine ⟨⟨⟨⟨by decide, by decide, fun p hp => absurd hp (Nat.not_lt_zero p)⟩, rfl⟩, by decide, fun i hi => absurd hi (Nat.not_lt_zero i), TOK.nil⟩, ?_, ⟨?_, fun i hi => absurd hi (Nat.not_lt_zero i)⟩, ⟨?_, fun i hi => absurd hi (Nat.not_lt_zero i)⟩, ?_, ?_⟩
  · unfold RC
    decide +kernel
  · decide +kernel
  · decide +kernel
  · decide +kernel
  · show sgF 0 11 = 0
    decide +kernel
def LE (sb : Option WW) (τ : SS) : Prop := ∃ w n Hi, LA w n Hi sb [] τ
theorem DN.le {w : WW} {n : Nat} {Hi : Nat → WW} {sb : Option WW} {r : Int32} {τ : SS} (h : DN w n Hi sb r τ) : LE sb τ := by
  rcases h.2.2 with ⟨_, h⟩ | ⟨_, w', h⟩
  · exact ⟨_, _, _, h⟩
  · exact ⟨_, _, _, h⟩
/-- a sum of c small answers -/
def bd (c : Nat) (v : Int32) : Prop := -200 * (c : Int) ≤ v.toInt ∧ v.toInt ≤ 2000 * (c : Int)
theorem sm.bd {r : Int32} (h : sm r) : bd 1 r := by
  exact ⟨by have := h.1; omega, by have := h.2; omega⟩
theorem bd_add {c d : Nat} {x y : Int32} (h : bd c x) (h2 : bd d y) (hc : c + d ≤ 1000) : bd (c + d) (x + y) := by
  unfold bd at *
  rw [fb_addI (by omega) (by omega)]
  omega
theorem bd_0 : bd 1 0 := by unfold bd; decide
theorem bd_z : bd 0 0 := by unfold bd; decide
theorem bd_big {c : Nat} {x : Int32} (h : bd c x) (hc : c ≤ 400) : (-90000 : Int32) ≤ x ∧ ¬ x ≤ -90000 := by
  unfold bd at h
  rw [Int32.le_iff_toInt_le, Int32.le_iff_toInt_le, show (-90000 : Int32).toInt = -90000 from by decide]
  omega
set_option maxRecDepth 100000 in
set_option maxHeartbeats 4000000 in
theorem begun_end {X : XE} {z : Z4} {B : Nat} (hC : CE X z 4 cL_begun RL (rmC 5 95 1435 135)) (hA : aX X = A0 z.1) (hL : z.2.2.1 < 2 ^ 31) (hR : EndR X 4 cL_begun 95 1435 (fun v H => ∃ a, v = some (.ref a) ∧ ∃ B τ, a = B + 0 ∧ LE none τ ∧ PE (kX X) z.1 B τ [] H)) {v : Int32} {lv : List (Nat × Value)} {x : Int32} {τ : SS} (ht : LE none τ) (hx : bd 15 x) (hlv : lv = [(2, .int x), (3, .int (nI 4)), (1, .ref (B + 0)), (0, .ref z.2.1)]) : G X 4 (PE (kX X) z.1 B τ []) 95 1435 lv 173 [] := by
  subst hlv
  refine e_iload_n 173 hC 0 (dg DL_begun 103 rfl) rfl rfl ?_
  refine e_ldc 174 hC (dg DL_begun 104 rfl) u_609 (v := (-90000)) ?_
  refine e_icmp_ge 176 183 hC (dg DL_begun 105 rfl) (by decide) (fun _ => ?_) (fun h => absurd (bd_big hx (by omega)).1 h)
  refine e_aload_n 183 hC 2 (dg DL_begun 108 rfl) rfl rfl ?_
  exact hR 184 _ _ _ (dg DL_begun 109 rfl) (fun H h => ⟨_, rfl, B, τ, rfl, ht, h⟩)
set_option maxRecDepth 100000 in
set_option maxHeartbeats 4000000 in
theorem begun_hour {X : XE} {z : Z4} {B : Nat} (hC : CE X z 4 cL_begun RL (rmC 5 95 1435 135)) (hA : aX X = A0 z.1) (hL : z.2.2.1 < 2 ^ 31) (hR : EndR X 4 cL_begun 95 1435 (fun v H => ∃ a, v = some (.ref a) ∧ ∃ B τ, a = B + 0 ∧ LE none τ ∧ PE (kX X) z.1 B τ [] H)) {v : Int32} {τ : SS} (ht : LE none τ) (hv : bd 14 v) : G X 4 (PE (kX X) z.1 B τ []) 95 1435 [(3, .int (nI 4)), (2, .int v), (1, .ref (B + 0)), (0, .ref z.2.1)] 144 [] := by
  obtain ⟨w, n, Hi, hw⟩ := ht
  refine e_iload_n 144 hC 1 (dg DL_begun 87 rfl) rfl rfl ?_
  refine e_aload_n 145 hC 3 (dg DL_begun 88 rfl) rfl rfl ?_
  refine e_bipush 146 hC (dg DL_begun 89 rfl) (v := 38) (by decide) ?_
  refine e_iconst 148 hC (dg DL_begun 90 rfl) (v := 2) (by decide) ?_
  refine h_run (run_S (o := none) (As := [.ref z.2.1, .int 38, .int 2]) 149 hC (m_in (i := 38) (m := 2) hL (by decide) (by decide) (by decide)) qL_36 ⟨⟨(Nat.le_of_ble_eq_true rfl), (Nat.le_of_ble_eq_true rfl)⟩, (Nat.le_of_ble_eq_true rfl), (Nat.le_of_ble_eq_true rfl)⟩ rfl rfl (Nat.le_of_ble_eq_true rfl) (dg DL_begun 91 rfl) (fun H h => ⟨trivial, trivial⟩)) (h_int (fun rj1 ⟨j1, hj1, ej1⟩ => ?_))
  subst ej1
  refine e_if_ne 152 170 hC (dg DL_begun 92 rfl) (by decide) (fun k1 => ?_) (fun k1 => ?_)
  · refine e_iconst 170 hC (dg DL_begun 100 rfl) (v := 0) (by decide) ?_
    refine e_iadd 171 hC (dg DL_begun 101 rfl) ?_
    refine e_top (fun y ey => ?_)
    have hy : bd 15 y := by rw [ey]; exact bd_add hv bd_0 (by omega)
    refine e_istore_n 172 hC [(2, .int y), (3, .int (nI 4)), (1, .ref (B + 0)), (0, .ref z.2.1)] (dg DL_begun 102 rfl) rfl (by decide) rfl ?_
    exact begun_end hC hA hL hR (v := v) ⟨w, n, Hi, hw⟩ hy rfl
  · refine e_aload_n 155 hC 2 (dg DL_begun 93 rfl) rfl rfl ?_
    refine e_aload_n 156 hC 3 (dg DL_begun 94 rfl) rfl rfl ?_
    refine e_bipush 157 hC (dg DL_begun 95 rfl) (v := 39) (by decide) ?_
    refine e_bipush 159 hC (dg DL_begun 96 rfl) (v := 12) (by decide) ?_
    refine h_run (run_S (o := none) (As := [.ref z.2.1, .int 39, .int 12]) 161 hC (m_in (i := 39) (m := 12) hL (by decide) (by decide) (by decide)) qL_36 ⟨⟨(Nat.le_of_ble_eq_true rfl), (Nat.le_of_ble_eq_true rfl)⟩, (Nat.le_of_ble_eq_true rfl), (Nat.le_of_ble_eq_true rfl)⟩ rfl rfl (Nat.le_of_ble_eq_true rfl) (dg DL_begun 97 rfl) (fun H h => ⟨trivial, trivial⟩)) (h_int (fun rj2 ⟨j2, hj2, ej2⟩ => ?_))
    subst ej2
    refine g_cls (C := "") (n2 := 0) (As := [.int (nI j2)]) 164 hC hA (m_X9_hour (d_hour hw _)) qL_51 ⟨⟨(Nat.le_of_ble_eq_true rfl), (Nat.le_of_ble_eq_true rfl)⟩, (Nat.le_of_ble_eq_true rfl), (Nat.le_of_ble_eq_true rfl)⟩ rfl rfl (Nat.le_of_ble_eq_true rfl) (dg DL_begun 98 rfl) (fun H h => h) (fun r υ hr => ?_)
    refine e_goto 167 171 hC (dg DL_begun 99 rfl) (by decide) ?_
    refine e_iadd 171 hC (dg DL_begun 101 rfl) ?_
    refine e_top (fun y ey => ?_)
    have hy : bd 15 y := by rw [ey]; exact bd_add hv hr.1.bd (by omega)
    refine e_istore_n 172 hC [(2, .int y), (3, .int (nI 4)), (1, .ref (B + 0)), (0, .ref z.2.1)] (dg DL_begun 102 rfl) rfl (by decide) rfl ?_
    exact begun_end hC hA hL hR (v := v) hr.le hy rfl
set_option maxRecDepth 100000 in
set_option maxHeartbeats 4000000 in
theorem begun_two {X : XE} {z : Z4} {B : Nat} (hC : CE X z 4 cL_begun RL (rmC 5 95 1435 135)) (hA : aX X = A0 z.1) (hL : z.2.2.1 < 2 ^ 31) (hR : EndR X 4 cL_begun 95 1435 (fun v H => ∃ a, v = some (.ref a) ∧ ∃ B τ, a = B + 0 ∧ LE none τ ∧ PE (kX X) z.1 B τ [] H)) : ∀ d k v τ, k + d = 4 → bd (6 + 2 * k) v → LE none τ → G X 4 (PE (kX X) z.1 B τ []) 95 1435 [(3, .int (nI k)), (2, .int v), (1, .ref (B + 0)), (0, .ref z.2.1)] 60 [] := by
  intro d
  induction d with
  | zero =>
    intro k v τ hk hv ht
    obtain rfl : k = 4 := by omega
    refine e_iload_n 60 hC 0 (dg DL_begun 36 rfl) rfl rfl ?_
    refine e_iconst 61 hC (dg DL_begun 37 rfl) (v := 4) (by decide) ?_
    refine e_icmp_ge 62 144 hC (dg DL_begun 38 rfl) (by decide) (fun _ => ?_) (fun h => absurd (by decide) h)
    exact begun_hour hC hA hL hR ht hv
  | succ d ih =>
    intro k v τ hk hv ht
    obtain ⟨w, n, Hi, hw⟩ := ht
    refine e_iload_n 60 hC 0 (dg DL_begun 36 rfl) rfl rfl ?_
    refine e_iconst 61 hC (dg DL_begun 37 rfl) (v := 4) (by decide) ?_
    refine e_icmp_ge 62 144 hC (dg DL_begun 38 rfl) (by decide) (fun h => absurd h (c_nle 4 (by omega))) (fun _ => ?_)
    refine e_iload_n 65 hC 1 (dg DL_begun 39 rfl) rfl rfl ?_
    refine e_aload_n 66 hC 2 (dg DL_begun 40 rfl) rfl rfl ?_
    refine e_aload_n 67 hC 3 (dg DL_begun 41 rfl) rfl rfl ?_
    refine e_bipush 68 hC (dg DL_begun 42 rfl) (v := 18) (by decide) ?_
    refine e_iload_n 70 hC 0 (dg DL_begun 43 rfl) rfl rfl ?_
    refine e_iadd 71 hC (dg DL_begun 44 rfl) ?_
    refine e_eq (y := (nI (18 + k))) (nI_add 18 k) ?_
    refine e_bipush 72 hC (dg DL_begun 45 rfl) (v := 6) (by decide) ?_
    refine h_run (run_S (o := none) (As := [.ref z.2.1, .int (nI (18 + k)), .int 6]) 74 hC (m_in (m := 6) hL (by omega) (by decide) (by decide)) qL_36 ⟨⟨(Nat.le_of_ble_eq_true rfl), (Nat.le_of_ble_eq_true rfl)⟩, (Nat.le_of_ble_eq_true rfl), (Nat.le_of_ble_eq_true rfl)⟩ rfl rfl (Nat.le_of_ble_eq_true rfl) (dg DL_begun 46 rfl) (fun H h => ⟨trivial, trivial⟩)) (h_int (fun rj1 ⟨j1, hj1, ej1⟩ => ?_))
    subst ej1
    refine e_iconst 77 hC (dg DL_begun 47 rfl) (v := 1) (by decide) ?_
    refine g_cls (C := "") (n2 := 0) (As := [.int (nI j1), .int 1]) 78 hC hA (m_X9_man (d_man hw _ _)) qL_44 ⟨⟨(Nat.le_of_ble_eq_true rfl), (Nat.le_of_ble_eq_true rfl)⟩, (Nat.le_of_ble_eq_true rfl), (Nat.le_of_ble_eq_true rfl)⟩ rfl rfl (Nat.le_of_ble_eq_true rfl) (dg DL_begun 48 rfl) (fun H h => h) (fun r υ hr => ?_)
    refine e_iadd 81 hC (dg DL_begun 49 rfl) ?_
    refine e_top (fun y ey => ?_)
    have hy : bd (6 + 2 * k + 1) y := by rw [ey]; exact bd_add hv hr.1.bd (by omega)
    refine e_istore_n 82 hC [(2, .int y), (3, .int (nI k)), (1, .ref (B + 0)), (0, .ref z.2.1)] (dg DL_begun 50 rfl) rfl (by decide) rfl ?_
    refine e_iload_n 83 hC 0 (dg DL_begun 51 rfl) rfl rfl ?_
    refine e_aload_n 84 hC 3 (dg DL_begun 52 rfl) rfl rfl ?_
    refine e_bipush 85 hC (dg DL_begun 53 rfl) (v := 22) (by decide) ?_
    refine e_iload_n 87 hC 1 (dg DL_begun 54 rfl) rfl rfl ?_
    refine e_iadd 88 hC (dg DL_begun 55 rfl) ?_
    refine e_eq (y := (nI (22 + k))) (nI_add 22 k) ?_
    refine e_iconst 89 hC (dg DL_begun 56 rfl) (v := 2) (by decide) ?_
    refine h_run (run_S (o := none) (As := [.ref z.2.1, .int (nI (22 + k)), .int 2]) 90 hC (m_in (m := 2) hL (by omega) (by decide) (by decide)) qL_36 ⟨⟨(Nat.le_of_ble_eq_true rfl), (Nat.le_of_ble_eq_true rfl)⟩, (Nat.le_of_ble_eq_true rfl), (Nat.le_of_ble_eq_true rfl)⟩ rfl rfl (Nat.le_of_ble_eq_true rfl) (dg DL_begun 57 rfl) (fun H h => ⟨trivial, trivial⟩)) (h_int (fun rj2 ⟨j2, hj2, ej2⟩ => ?_))
    subst ej2
    refine e_if_ne 93 135 hC (dg DL_begun 58 rfl) (by decide) (fun k1 => ?_) (fun k1 => ?_)
    · refine e_iconst 135 hC (dg DL_begun 82 rfl) (v := 0) (by decide) ?_
      refine e_iadd 136 hC (dg DL_begun 83 rfl) ?_
      refine e_top (fun y2 ey2 => ?_)
      have hy2 : bd (6 + 2 * (k + 1)) y2 := by rw [ey2, show 6 + 2 * (k + 1) = 6 + 2 * k + 1 + 1 by omega]; exact bd_add hy bd_0 (by omega)
      refine e_istore_n 137 hC [(2, .int y2), (3, .int (nI k)), (1, .ref (B + 0)), (0, .ref z.2.1)] (dg DL_begun 84 rfl) rfl (by decide) rfl ?_
      refine e_iinc 138 hC 1 (nI (k + 1)) [(3, .int (nI (k + 1))), (2, .int y2), (1, .ref (B + 0)), (0, .ref z.2.1)] (dg DL_begun 85 rfl) rfl (nI_1 k) (by decide) rfl ?_
      refine e_goto 141 60 hC (dg DL_begun 86 rfl) (by decide) ?_
      exact ih (k + 1) y2 _ (by omega) hy2 hr.le
    · obtain ⟨w2, n2, Hi2, hw2⟩ := hr.le
      refine e_aload_n 96 hC 2 (dg DL_begun 59 rfl) rfl rfl ?_
      refine e_aload_n 97 hC 3 (dg DL_begun 60 rfl) rfl rfl ?_
      refine e_bipush 98 hC (dg DL_begun 61 rfl) (v := 26) (by decide) ?_
      refine e_iload_n 100 hC 1 (dg DL_begun 62 rfl) rfl rfl ?_
      refine e_iadd 101 hC (dg DL_begun 63 rfl) ?_
      refine e_eq (y := (nI (26 + k))) (nI_add 26 k) ?_
      refine e_bipush 102 hC (dg DL_begun 64 rfl) (v := 6) (by decide) ?_
      refine h_run (run_S (o := none) (As := [.ref z.2.1, .int (nI (26 + k)), .int 6]) 104 hC (m_in (m := 6) hL (by omega) (by decide) (by decide)) qL_36 ⟨⟨(Nat.le_of_ble_eq_true rfl), (Nat.le_of_ble_eq_true rfl)⟩, (Nat.le_of_ble_eq_true rfl), (Nat.le_of_ble_eq_true rfl)⟩ rfl rfl (Nat.le_of_ble_eq_true rfl) (dg DL_begun 65 rfl) (fun H h => ⟨trivial, trivial⟩)) (h_int (fun rj3 ⟨j3, hj3, ej3⟩ => ?_))
      subst ej3
      refine e_aload_n 107 hC 3 (dg DL_begun 66 rfl) rfl rfl ?_
      refine e_bipush 108 hC (dg DL_begun 67 rfl) (v := 30) (by decide) ?_
      refine e_iload_n 110 hC 1 (dg DL_begun 68 rfl) rfl rfl ?_
      refine e_iadd 111 hC (dg DL_begun 69 rfl) ?_
      refine e_eq (y := (nI (30 + k))) (nI_add 30 k) ?_
      refine e_bipush 112 hC (dg DL_begun 70 rfl) (v := 24) (by decide) ?_
      refine h_run (run_S (o := none) (As := [.ref z.2.1, .int (nI (30 + k)), .int 24]) 114 hC (m_in (m := 24) hL (by omega) (by decide) (by decide)) qL_36 ⟨⟨(Nat.le_of_ble_eq_true rfl), (Nat.le_of_ble_eq_true rfl)⟩, (Nat.le_of_ble_eq_true rfl), (Nat.le_of_ble_eq_true rfl)⟩ rfl rfl (Nat.le_of_ble_eq_true rfl) (dg DL_begun 71 rfl) (fun H h => ⟨trivial, trivial⟩)) (h_int (fun rj4 ⟨j4, hj4, ej4⟩ => ?_))
      subst ej4
      refine e_iconst 117 hC (dg DL_begun 72 rfl) (v := 1) (by decide) ?_
      refine e_aload_n 118 hC 3 (dg DL_begun 73 rfl) rfl rfl ?_
      refine e_bipush 119 hC (dg DL_begun 74 rfl) (v := 34) (by decide) ?_
      refine e_iload_n 121 hC 1 (dg DL_begun 75 rfl) rfl rfl ?_
      refine e_iadd 122 hC (dg DL_begun 76 rfl) ?_
      refine e_eq (y := (nI (34 + k))) (nI_add 34 k) ?_
      refine e_bipush 123 hC (dg DL_begun 77 rfl) (v := 8) (by decide) ?_
      refine h_run (run_S (o := none) (As := [.ref z.2.1, .int (nI (34 + k)), .int 8]) 125 hC (m_in (m := 8) hL (by omega) (by decide) (by decide)) qL_36 ⟨⟨(Nat.le_of_ble_eq_true rfl), (Nat.le_of_ble_eq_true rfl)⟩, (Nat.le_of_ble_eq_true rfl), (Nat.le_of_ble_eq_true rfl)⟩ rfl rfl (Nat.le_of_ble_eq_true rfl) (dg DL_begun 78 rfl) (fun H h => ⟨trivial, trivial⟩)) (h_int (fun rj5 ⟨j5, hj5, ej5⟩ => ?_))
      subst ej5
      refine e_iadd 128 hC (dg DL_begun 79 rfl) ?_
      refine e_eq (y := (nI (1 + j5))) (nI_add 1 j5) ?_
      refine g_cls (C := "") (n2 := 0) (As := [.int (nI j3), .int (nI j4), .int (nI (1 + j5))]) 129 hC hA (m_X9_blind (d_blind hw2 _ _ _)) qL_48 ⟨⟨(Nat.le_of_ble_eq_true rfl), (Nat.le_of_ble_eq_true rfl)⟩, (Nat.le_of_ble_eq_true rfl), (Nat.le_of_ble_eq_true rfl)⟩ rfl rfl (Nat.le_of_ble_eq_true rfl) (dg DL_begun 80 rfl) (fun H h => h) (fun r2 υ2 hr2 => ?_)
      refine e_goto 132 136 hC (dg DL_begun 81 rfl) (by decide) ?_
      refine e_iadd 136 hC (dg DL_begun 83 rfl) ?_
      refine e_top (fun y2 ey2 => ?_)
      have hy2 : bd (6 + 2 * (k + 1)) y2 := by rw [ey2, show 6 + 2 * (k + 1) = 6 + 2 * k + 1 + 1 by omega]; exact bd_add hy hr2.1.bd (by omega)
      refine e_istore_n 137 hC [(2, .int y2), (3, .int (nI k)), (1, .ref (B + 0)), (0, .ref z.2.1)] (dg DL_begun 84 rfl) rfl (by decide) rfl ?_
      refine e_iinc 138 hC 1 (nI (k + 1)) [(3, .int (nI (k + 1))), (2, .int y2), (1, .ref (B + 0)), (0, .ref z.2.1)] (dg DL_begun 85 rfl) rfl (nI_1 k) (by decide) rfl ?_
      refine e_goto 141 60 hC (dg DL_begun 86 rfl) (by decide) ?_
      exact ih (k + 1) y2 _ (by omega) hy2 hr2.le
set_option maxRecDepth 100000 in
set_option maxHeartbeats 4000000 in
theorem begun_one {X : XE} {z : Z4} {B : Nat} (hC : CE X z 4 cL_begun RL (rmC 5 95 1435 135)) (hA : aX X = A0 z.1) (hL : z.2.2.1 < 2 ^ 31) (hR : EndR X 4 cL_begun 95 1435 (fun v H => ∃ a, v = some (.ref a) ∧ ∃ B τ, a = B + 0 ∧ LE none τ ∧ PE (kX X) z.1 B τ [] H)) : ∀ d k v τ, k + d = 6 → bd k v → LE none τ → G X 4 (PE (kX X) z.1 B τ []) 95 1435 [(3, .int (nI k)), (2, .int v), (1, .ref (B + 0)), (0, .ref z.2.1)] 12 [] := by
  intro d
  induction d with
  | zero =>
    intro k v τ hk hv ht
    obtain rfl : k = 6 := by omega
    refine e_iload_n 12 hC 0 (dg DL_begun 8 rfl) rfl rfl ?_
    refine e_bipush 13 hC (dg DL_begun 9 rfl) (v := 6) (by decide) ?_
    refine e_icmp_ge 15 58 hC (dg DL_begun 10 rfl) (by decide) (fun _ => ?_) (fun h => absurd (by decide) h)
    refine e_iconst 58 hC (dg DL_begun 34 rfl) (v := 0) (by decide) ?_
    refine e_istore_n 59 hC [(3, .int 0), (2, .int v), (1, .ref (B + 0)), (0, .ref z.2.1)] (dg DL_begun 35 rfl) rfl (by decide) rfl ?_
    exact begun_two hC hA hL hR 4 0 v τ rfl hv ht
  | succ d ih =>
    intro k v τ hk hv ht
    obtain ⟨w, n, Hi, hw⟩ := ht
    refine e_iload_n 12 hC 0 (dg DL_begun 8 rfl) rfl rfl ?_
    refine e_bipush 13 hC (dg DL_begun 9 rfl) (v := 6) (by decide) ?_
    refine e_icmp_ge 15 58 hC (dg DL_begun 10 rfl) (by decide) (fun h => absurd h (c_nle 6 (by omega))) (fun _ => ?_)
    refine e_iload_n 18 hC 1 (dg DL_begun 11 rfl) rfl rfl ?_
    refine e_aload_n 19 hC 2 (dg DL_begun 12 rfl) rfl rfl ?_
    refine e_aload_n 20 hC 3 (dg DL_begun 13 rfl) rfl rfl ?_
    refine e_iload_n 21 hC 0 (dg DL_begun 14 rfl) rfl rfl ?_
    refine e_bipush 22 hC (dg DL_begun 15 rfl) (v := 24) (by decide) ?_
    refine h_run (run_S (o := none) (As := [.ref z.2.1, .int (nI k), .int 24]) 24 hC (m_in (m := 24) hL (by omega) (by decide) (by decide)) qL_36 ⟨⟨(Nat.le_of_ble_eq_true rfl), (Nat.le_of_ble_eq_true rfl)⟩, (Nat.le_of_ble_eq_true rfl), (Nat.le_of_ble_eq_true rfl)⟩ rfl rfl (Nat.le_of_ble_eq_true rfl) (dg DL_begun 16 rfl) (fun H h => ⟨trivial, trivial⟩)) (h_int (fun rj1 ⟨j1, hj1, ej1⟩ => ?_))
    subst ej1
    refine e_aload_n 27 hC 3 (dg DL_begun 17 rfl) rfl rfl ?_
    refine e_bipush 28 hC (dg DL_begun 18 rfl) (v := 6) (by decide) ?_
    refine e_iload_n 30 hC 0 (dg DL_begun 19 rfl) rfl rfl ?_
    refine e_iadd 31 hC (dg DL_begun 20 rfl) ?_
    refine e_eq (y := (nI (6 + k))) (nI_add 6 k) ?_
    refine e_bipush 32 hC (dg DL_begun 21 rfl) (v := 12) (by decide) ?_
    refine h_run (run_S (o := none) (As := [.ref z.2.1, .int (nI (6 + k)), .int 12]) 34 hC (m_in (m := 12) hL (by omega) (by decide) (by decide)) qL_36 ⟨⟨(Nat.le_of_ble_eq_true rfl), (Nat.le_of_ble_eq_true rfl)⟩, (Nat.le_of_ble_eq_true rfl), (Nat.le_of_ble_eq_true rfl)⟩ rfl rfl (Nat.le_of_ble_eq_true rfl) (dg DL_begun 22 rfl) (fun H h => ⟨trivial, trivial⟩)) (h_int (fun rj2 ⟨j2, hj2, ej2⟩ => ?_))
    subst ej2
    refine e_aload_n 37 hC 3 (dg DL_begun 23 rfl) rfl rfl ?_
    refine e_bipush 38 hC (dg DL_begun 24 rfl) (v := 12) (by decide) ?_
    refine e_iload_n 40 hC 0 (dg DL_begun 25 rfl) rfl rfl ?_
    refine e_iadd 41 hC (dg DL_begun 26 rfl) ?_
    refine e_eq (y := (nI (12 + k))) (nI_add 12 k) ?_
    refine e_bipush 42 hC (dg DL_begun 27 rfl) (v := 12) (by decide) ?_
    refine h_run (run_S (o := none) (As := [.ref z.2.1, .int (nI (12 + k)), .int 12]) 44 hC (m_in (m := 12) hL (by omega) (by decide) (by decide)) qL_36 ⟨⟨(Nat.le_of_ble_eq_true rfl), (Nat.le_of_ble_eq_true rfl)⟩, (Nat.le_of_ble_eq_true rfl), (Nat.le_of_ble_eq_true rfl)⟩ rfl rfl (Nat.le_of_ble_eq_true rfl) (dg DL_begun 28 rfl) (fun H h => ⟨trivial, trivial⟩)) (h_int (fun rj3 ⟨j3, hj3, ej3⟩ => ?_))
    subst ej3
    refine g_cls (C := "") (n2 := 0) (As := [.int (nI j1), .int (nI j2), .int (nI j3)]) 47 hC hA (m_X9_post (d_post hw _ _ _)) qL_40 ⟨⟨(Nat.le_of_ble_eq_true rfl), (Nat.le_of_ble_eq_true rfl)⟩, (Nat.le_of_ble_eq_true rfl), (Nat.le_of_ble_eq_true rfl)⟩ rfl rfl (Nat.le_of_ble_eq_true rfl) (dg DL_begun 29 rfl) (fun H h => h) (fun r υ hr => ?_)
    refine e_iadd 50 hC (dg DL_begun 30 rfl) ?_
    refine e_top (fun y ey => ?_)
    have hy : bd (k + 1) y := by rw [ey]; exact bd_add hv hr.1.bd (by omega)
    refine e_istore_n 51 hC [(2, .int y), (3, .int (nI k)), (1, .ref (B + 0)), (0, .ref z.2.1)] (dg DL_begun 31 rfl) rfl (by decide) rfl ?_
    refine e_iinc 52 hC 1 (nI (k + 1)) [(3, .int (nI (k + 1))), (2, .int y), (1, .ref (B + 0)), (0, .ref z.2.1)] (dg DL_begun 32 rfl) rfl (nI_1 k) (by decide) rfl ?_
    refine e_goto 55 12 hC (dg DL_begun 33 rfl) (by decide) ?_
    exact ih (k + 1) y υ (by omega) hy hr.le
set_option maxRecDepth 100000 in
set_option maxHeartbeats 4000000 in
theorem m_begun {z : Z4} (hL : z.2.2.1 < 2 ^ 31) : GC yL_begun cL_begun 4 (some (.object "FortressWatch")) 5 135 95 1435 z [.ref z.2.1] (fun _ _ => True) none (fun K v H => ∃ a, v = some (.ref a) ∧ ∃ B τ, a = B + 0 ∧ LE none τ ∧ PE K z.1 B τ [] H) := by
  refine GC.mkR (by decide +kernel) (Nat.le_of_ble_eq_true rfl) (Or.inl ⟨_, rfl⟩) (fun X hC hA hR => ?_)
  refine e_newO (t := 9) 0 hC rfl inX9 tyX9_ok u_341 u_67 u_29 k_0 (fun B => df9 (B := B)) (Nat.le_of_ble_eq_true rfl) (Nat.le_of_ble_eq_true rfl) (dg DL_begun 0 rfl) (fun B hB => ?_)
  refine e_dup 3 hC (dg DL_begun 1 rfl) rfl ?_
  refine e_initX 4 hC hA hB qL_35 ⟨⟨(Nat.le_of_ble_eq_true rfl), (Nat.le_of_ble_eq_true rfl)⟩, (Nat.le_of_ble_eq_true rfl), (Nat.le_of_ble_eq_true rfl)⟩ (Nat.le_of_ble_eq_true rfl) (dg DL_begun 2 rfl) ?_
  refine e_cs (cn' := 95) (sn' := 1435) (by omega) (by omega) ?_
  refine e_astore_n 7 hC [(1, .ref (B + 0)), (0, .ref z.2.1)] (dg DL_begun 3 rfl) rfl (by decide) rfl ?_
  refine e_iconst 8 hC (dg DL_begun 4 rfl) (v := 0) (by decide) ?_
  refine e_istore_n 9 hC [(2, .int 0), (1, .ref (B + 0)), (0, .ref z.2.1)] (dg DL_begun 5 rfl) rfl (by decide) rfl ?_
  refine e_iconst 10 hC (dg DL_begun 6 rfl) (v := 0) (by decide) ?_
  refine e_istore_n 11 hC [(3, .int 0), (2, .int 0), (1, .ref (B + 0)), (0, .ref z.2.1)] (dg DL_begun 7 rfl) rfl (by decide) rfl ?_
  exact begun_one hC hA hL hR 6 0 0 sgF rfl bd_z ⟨_, _, _, LA_sgF⟩
