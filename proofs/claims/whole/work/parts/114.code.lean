-- FortressWatchModel.closest
def bd_X10_closest_39    (Q : Int32 → SS → Prop) (l1 : Int32) (l2 : Int32) (rc : SS → Int32 → Int32 → Int32 → Prop) (σ : SS) (v3 : Int32) (v4 : Int32) (v5 : Int32) : Prop :=
  (((σ 96 0) ≤ v5 →
      Q v3 σ) ∧
    (¬ (σ 96 0) ≤ v5 →
      wp_X10_sight σ v5 (fun r4 σ3 =>
        wp_X10_bits σ3 (r4 &&& l2) (fun r6 σ5 =>
          ((r6 ≤ v4 →
              wp_X10_greater σ5 v4 r6 (fun r8 σ7 =>
                rc σ7 v3 r8 (v5 + 1))) ∧
            (¬ r6 ≤ v4 →
              wp_X10_greater σ5 v4 r6 (fun r10 σ9 =>
                rc σ9 v5 r10 (v5 + 1))))))))
def bd_X10_closest_4    (Q : Int32 → SS → Prop) (l1 : Int32) (rc : SS → Int32 → Int32 → Prop) (σ : SS) (v2 : Int32) (v3 : Int32) : Prop :=
  wp_X10_gapLength σ l1 (fun r2 σ1 =>
    ((r2 ≤ v3 →
        ∃ k11, Liii (bd_X10_closest_39 Q l1 v2) k11 σ1 (-4) 0 0) ∧
      (¬ r2 ≤ v3 →
        ∀ x12 : Int32, x12 = v2 ||| ((1 : Int32) <<< (((l1 + v3) - (l1 + v3) / 24 * 24) &&& 31)) →
        rc σ1 x12 (v3 + 1))))
def wp_X10_closest  (σ : SS) (p1 : Int32) (Q : Int32 → SS → Prop) : Prop :=
  ∃ k13, Lii (bd_X10_closest_4 Q p1) k13 σ 0 0
set_option maxRecDepth 100000 in
set_option maxHeartbeats 4000000 in
theorem tb_X10_closest_39 {X : XT} {B : Nat} (hC : Cx X 7 cX10_closest RX10 (rmN 5 116)) {Q : Int32 → SS → Prop} {l1 : Int32} {l2 : Int32} (hR : RtI X 7 B 103 RS cX10_closest Q) {rc : SS → Int32 → Int32 → Int32 → Prop} (hrc : ∀ (σ : SS) (v3 : Int32) (v4 : Int32) (v5 : Int32), rc σ v3 v4 v5 → J X 7 B 103 RS 0 0 σ [(0, .ref (B + 95)), (1, .int l1), (2, .int l2), (3, .int v3), (4, .int v4), (5, .int v5)] 39 []) : ∀ (σ : SS) (v3 : Int32) (v4 : Int32) (v5 : Int32), bd_X10_closest_39 Q l1 l2 rc σ v3 v4 v5 → J X 7 B 103 RS 0 0 σ [(0, .ref (B + 95)), (1, .int l1), (2, .int l2), (3, .int v3), (4, .int v4), (5, .int v5)] 39 [] := by
  intro σ v3 v4 v5 hw
  unfold bd_X10_closest_39 at hw
  refine j_iload 39 hC 5 (dg DX10_closest 27 rfl) rfl ?_
  refine j_aload_n 41 hC 0 (dg DX10_closest 28 rfl) rfl rfl ?_
  refine j_getR 42 hC fX10_9 (k_95) (by decide) (by decide) rfl (dg DX10_closest 29 rfl) ?_
  refine j_iconst 45 hC (dg DX10_closest 30 rfl) (v := 0) (by decide) ?_
  refine j_iald0 46 0 hC (k_96) (by decide) (by unfold vp_in; decide) rfl (dg DX10_closest 31 rfl) ?_
  refine j_icmp_ge 47 92 hC (dg DX10_closest 32 rfl) (by decide) (fun hbr => ?_) (fun hbr => ?_)
  · replace hw := hw.1 hbr
    refine j_iload_n 92 hC 3 (dg DX10_closest 53 rfl) rfl rfl ?_
    exact hR 93 _ _ _ (dg DX10_closest 54 rfl) hw
  · replace hw := hw.2 hbr
    refine j_aload_n 50 hC 0 (dg DX10_closest 33 rfl) rfl rfl ?_
    refine j_iload 51 hC 5 (dg DX10_closest 34 rfl) rfl ?_
    refine j_Vi (As := [.int v5]) 53 hC (m_X10_sight  hw) kX10_116 (k_95) (by decide) ⟨_, _, rfl⟩ (rmN_ok (by decide) (by decide)) rfl rfl (Nat.le_of_ble_eq_true rfl) (dg DX10_closest 35 rfl) (fun r4 σ3 hw => ?_)
    refine j_iload_n 56 hC 2 (dg DX10_closest 36 rfl) rfl rfl ?_
    refine j_iand 57 hC (dg DX10_closest 37 rfl) ?_
    refine j_Si (As := [.int (r4 &&& l2)]) 58 hC (m_X10_bits  hw) kX10_119 (rmN_ok (by decide) (by decide)) rfl rfl (Nat.le_of_ble_eq_true rfl) (dg DX10_closest 38 rfl) (fun r6 σ5 hw => ?_)
    refine j_istore 61 hC [(6, .int r6), (0, .ref (B + 95)), (1, .int l1), (2, .int l2), (3, .int v3), (4, .int v4), (5, .int v5)] (dg DX10_closest 39 rfl) (by decide) rfl ?_
    refine j_iload 63 hC 0 (dg DX10_closest 40 rfl) rfl ?_
    refine j_iload 65 hC 5 (dg DX10_closest 41 rfl) rfl ?_
    refine j_icmp_le 67 75 hC (dg DX10_closest 42 rfl) (by decide) (fun hbr => ?_) (fun hbr => ?_)
    · replace hw := hw.1 hbr
      refine j_iload_n 75 hC 4 (dg DX10_closest 45 rfl) rfl rfl ?_
      refine j_istore_n 76 hC [(3, .int v3), (6, .int r6), (0, .ref (B + 95)), (1, .int l1), (2, .int l2), (4, .int v4), (5, .int v5)] (dg DX10_closest 46 rfl) rfl (by decide) rfl ?_
      refine j_iload 77 hC 5 (dg DX10_closest 47 rfl) rfl ?_
      refine j_iload 79 hC 1 (dg DX10_closest 48 rfl) rfl ?_
      refine j_Si (As := [.int v4, .int r6]) 81 hC (m_X10_greater  hw) kX10_63 (rmN_ok (by decide) (by decide)) rfl rfl (Nat.le_of_ble_eq_true rfl) (dg DX10_closest 49 rfl) (fun r8 σ7 hw => ?_)
      refine j_istore 84 hC [(4, .int r8), (3, .int v3), (6, .int r6), (0, .ref (B + 95)), (1, .int l1), (2, .int l2), (5, .int v5)] (dg DX10_closest 50 rfl) (by decide) rfl ?_
      refine j_iinc 86 hC 6 (v5 + 1) [(5, .int (v5 + 1)), (4, .int r8), (3, .int v3), (6, .int r6), (0, .ref (B + 95)), (1, .int l1), (2, .int l2)] (dg DX10_closest 51 rfl) rfl rfl (by decide) rfl ?_
      refine j_goto 89 39 hC (dg DX10_closest 52 rfl) (by decide) ?_
      refine j_lv [4, 5, 6, 2, 1, 0] (lv' := [(0, .ref (B + 95)), (1, .int l1), (2, .int l2), (3, .int v3), (4, .int r8), (5, .int (v5 + 1))]) rfl ?_
      exact hrc _ _ _ _ hw
    · replace hw := hw.2 hbr
      refine j_iload 70 hC 6 (dg DX10_closest 43 rfl) rfl ?_
      refine j_goto 72 76 hC (dg DX10_closest 44 rfl) (by decide) ?_
      refine j_istore_n 76 hC [(3, .int v5), (6, .int r6), (0, .ref (B + 95)), (1, .int l1), (2, .int l2), (4, .int v4), (5, .int v5)] (dg DX10_closest 46 rfl) rfl (by decide) rfl ?_
      refine j_iload 77 hC 5 (dg DX10_closest 47 rfl) rfl ?_
      refine j_iload 79 hC 1 (dg DX10_closest 48 rfl) rfl ?_
      refine j_Si (As := [.int v4, .int r6]) 81 hC (m_X10_greater  hw) kX10_63 (rmN_ok (by decide) (by decide)) rfl rfl (Nat.le_of_ble_eq_true rfl) (dg DX10_closest 49 rfl) (fun r10 σ9 hw => ?_)
      refine j_istore 84 hC [(4, .int r10), (3, .int v5), (6, .int r6), (0, .ref (B + 95)), (1, .int l1), (2, .int l2), (5, .int v5)] (dg DX10_closest 50 rfl) (by decide) rfl ?_
      refine j_iinc 86 hC 6 (v5 + 1) [(5, .int (v5 + 1)), (4, .int r10), (3, .int v5), (6, .int r6), (0, .ref (B + 95)), (1, .int l1), (2, .int l2)] (dg DX10_closest 51 rfl) rfl rfl (by decide) rfl ?_
      refine j_goto 89 39 hC (dg DX10_closest 52 rfl) (by decide) ?_
      refine j_lv [4, 5, 6, 2, 1, 0] (lv' := [(0, .ref (B + 95)), (1, .int l1), (2, .int l2), (3, .int v5), (4, .int r10), (5, .int (v5 + 1))]) rfl ?_
      exact hrc _ _ _ _ hw
set_option maxRecDepth 100000 in
set_option maxHeartbeats 4000000 in
theorem tb_X10_closest_4 {X : XT} {B : Nat} (hC : Cx X 7 cX10_closest RX10 (rmN 5 116)) {Q : Int32 → SS → Prop} {l1 : Int32} (hR : RtI X 7 B 103 RS cX10_closest Q) {rc : SS → Int32 → Int32 → Prop} (hrc : ∀ (σ : SS) (v2 : Int32) (v3 : Int32), rc σ v2 v3 → J X 7 B 103 RS 0 0 σ [(0, .ref (B + 95)), (1, .int l1), (2, .int v2), (3, .int v3)] 4 []) : ∀ (σ : SS) (v2 : Int32) (v3 : Int32), bd_X10_closest_4 Q l1 rc σ v2 v3 → J X 7 B 103 RS 0 0 σ [(0, .ref (B + 95)), (1, .int l1), (2, .int v2), (3, .int v3)] 4 [] := by
  intro σ v2 v3 hw
  unfold bd_X10_closest_4 at hw
  refine j_iload_n 4 hC 3 (dg DX10_closest 4 rfl) rfl rfl ?_
  refine j_aload_n 5 hC 0 (dg DX10_closest 5 rfl) rfl rfl ?_
  refine j_iload_n 6 hC 1 (dg DX10_closest 6 rfl) rfl rfl ?_
  refine j_Vi (As := [.int l1]) 7 hC (m_X10_gapLength  hw) kX10_172 (k_95) (by decide) ⟨_, _, rfl⟩ (rmN_ok (by decide) (by decide)) rfl rfl (Nat.le_of_ble_eq_true rfl) (dg DX10_closest 7 rfl) (fun r2 σ1 hw => ?_)
  refine j_icmp_ge 10 30 hC (dg DX10_closest 8 rfl) (by decide) (fun hbr => ?_) (fun hbr => ?_)
  · replace hw := hw.1 hbr
    refine j_bipush 30 hC (dg DX10_closest 21 rfl) (v := (-4)) (by decide) ?_
    refine j_istore_n 32 hC [(3, .int (-4)), (0, .ref (B + 95)), (1, .int l1), (2, .int v2)] (dg DX10_closest 22 rfl) rfl (by decide) rfl ?_
    refine j_iconst 33 hC (dg DX10_closest 23 rfl) (v := 0) (by decide) ?_
    refine j_istore 34 hC [(4, .int 0), (3, .int (-4)), (0, .ref (B + 95)), (1, .int l1), (2, .int v2)] (dg DX10_closest 24 rfl) (by decide) rfl ?_
    refine j_iconst 36 hC (dg DX10_closest 25 rfl) (v := 0) (by decide) ?_
    refine j_istore 37 hC [(5, .int 0), (4, .int 0), (3, .int (-4)), (0, .ref (B + 95)), (1, .int l1), (2, .int v2)] (dg DX10_closest 26 rfl) (by decide) rfl ?_
    obtain ⟨k11, hw⟩ := hw
    refine j_lv [3, 4, 5, 2, 1, 0] (lv' := [(0, .ref (B + 95)), (1, .int l1), (2, .int v2), (3, .int (-4)), (4, .int 0), (5, .int 0)]) rfl ?_
    exact Liii.snd (P := fun τ w3 w4 w5 => J X 7 B 103 RS 0 0 τ [(0, .ref (B + 95)), (1, .int l1), (2, .int v2), (3, .int w3), (4, .int w4), (5, .int w5)] 39 []) (fun rcc hrcc => tb_X10_closest_39 hC  hR  hrcc) k11 _ _ _ _ hw
  · replace hw := hw.2 hbr
    refine j_iload_n 13 hC 2 (dg DX10_closest 9 rfl) rfl rfl ?_
    refine j_iconst 14 hC (dg DX10_closest 10 rfl) (v := 1) (by decide) ?_
    refine j_iload_n 15 hC 1 (dg DX10_closest 11 rfl) rfl rfl ?_
    refine j_iload_n 16 hC 3 (dg DX10_closest 12 rfl) rfl rfl ?_
    refine j_iadd 17 hC (dg DX10_closest 13 rfl) ?_
    refine j_bipush 18 hC (dg DX10_closest 14 rfl) (v := 24) (by decide) ?_
    refine j_irem 20 hC (dg DX10_closest 15 rfl) (by decide) ?_
    refine j_ishl 21 hC (dg DX10_closest 16 rfl) ?_
    refine j_ior 22 hC (dg DX10_closest 17 rfl) ?_
    refine j_top (fun x12 ex => ?_)
    replace hw := hw _ ex
    refine j_istore_n 23 hC [(2, .int x12), (0, .ref (B + 95)), (1, .int l1), (3, .int v3)] (dg DX10_closest 18 rfl) rfl (by decide) rfl ?_
    refine j_iinc 24 hC 3 (v3 + 1) [(3, .int (v3 + 1)), (2, .int x12), (0, .ref (B + 95)), (1, .int l1)] (dg DX10_closest 19 rfl) rfl rfl (by decide) rfl ?_
    refine j_goto 27 4 hC (dg DX10_closest 20 rfl) (by decide) ?_
    refine j_lv [2, 3, 1, 0] (lv' := [(0, .ref (B + 95)), (1, .int l1), (2, .int x12), (3, .int (v3 + 1))]) rfl ?_
    exact hrc _ _ _ hw
set_option maxRecDepth 100000 in
set_option maxHeartbeats 4000000 in
theorem t_X10_closest {X : XT} {B : Nat} (hC : Cx X 7 cX10_closest RX10 (rmN 5 116)) {Q : Int32 → SS → Prop} (hR : RtI X 7 B 103 RS cX10_closest Q) {σ : SS} {p1 : Int32} (hw : wp_X10_closest  σ p1 Q) : J X 7 B 103 RS 0 0 σ [(0, .ref (B + 95)), (1, .int p1)] 0 [] := by
  unfold wp_X10_closest at hw
  refine j_iconst 0 hC (dg DX10_closest 0 rfl) (v := 0) (by decide) ?_
  refine j_istore_n 1 hC [(2, .int 0), (0, .ref (B + 95)), (1, .int p1)] (dg DX10_closest 1 rfl) rfl (by decide) rfl ?_
  refine j_iconst 2 hC (dg DX10_closest 2 rfl) (v := 0) (by decide) ?_
  refine j_istore_n 3 hC [(3, .int 0), (2, .int 0), (0, .ref (B + 95)), (1, .int p1)] (dg DX10_closest 3 rfl) rfl (by decide) rfl ?_
  obtain ⟨k13, hw⟩ := hw
  refine j_lv [2, 3, 1, 0] (lv' := [(0, .ref (B + 95)), (1, .int p1), (2, .int 0), (3, .int 0)]) rfl ?_
  exact Lii.snd (P := fun τ w2 w3 => J X 7 B 103 RS 0 0 τ [(0, .ref (B + 95)), (1, .int p1), (2, .int w2), (3, .int w3)] 4 []) (fun rcc hrcc => tb_X10_closest_4 hC  hR  hrcc) k13 _ _ _ hw
theorem m_X10_closest {B : Nat} {σ : SS} {p1 : Int32} {Q : Int32 → SS → Prop} (hw : wp_X10_closest  σ p1 Q) : MI yX10_closest cX10_closest 7 (some .int) 5 116 B 103 RS [.ref (B + 95), .int p1] σ Q := MI.mk (plainFor_of_name (by decide)) (Nat.le_of_ble_eq_true rfl) (fun X hC hR => t_X10_closest hC  hR hw)
-- FortressWatchModel.gapOf
def wp_X10_gapOf  (σ : SS) (p1 : Int32) (p2 : Int32) (Q : Int32 → SS → Prop) : Prop :=
  wp_X10_gapAt σ p1 (fun r2 σ1 =>
    ((r2 = (-1) →
        Q (-1) σ1) ∧
      (¬ r2 = (-1) →
        ((p2 = 0 →
            Q r2 σ1) ∧
          (¬ p2 = 0 →
            ((p2 = 1 →
                wp_X10_gapLength σ1 r2 (fun r6 σ5 =>
                  Q r6 σ5)) ∧
              (¬ p2 = 1 →
                ((p2 = 2 →
                    wp_X10_closest σ1 r2 (fun r4 σ3 =>
                      Q r4 σ3)) ∧
                  (¬ p2 = 2 →
                    Q (-2) σ1)))))))))
set_option maxRecDepth 100000 in
set_option maxHeartbeats 4000000 in
theorem t_X10_gapOf {X : XT} {B : Nat} (hC : Cx X 4 cX10_gapOf RX10 (rmN 6 142)) {Q : Int32 → SS → Prop} (hR : RtI X 4 B 103 RS cX10_gapOf Q) {σ : SS} {p1 : Int32} {p2 : Int32} (hw : wp_X10_gapOf  σ p1 p2 Q) : J X 4 B 103 RS 0 0 σ [(0, .ref (B + 95)), (1, .int p1), (2, .int p2)] 0 [] := by
  unfold wp_X10_gapOf at hw
  refine j_aload_n 0 hC 0 (dg DX10_gapOf 0 rfl) rfl rfl ?_
  refine j_iload_n 1 hC 1 (dg DX10_gapOf 1 rfl) rfl rfl ?_
  refine j_Vi (As := [.int p1]) 2 hC (m_X10_gapAt  hw) kX10_175 (k_95) (by decide) ⟨_, _, rfl⟩ (rmN_ok (by decide) (by decide)) rfl rfl (Nat.le_of_ble_eq_true rfl) (dg DX10_gapOf 2 rfl) (fun r2 σ1 hw => ?_)
  refine j_istore_n 5 hC [(3, .int r2), (0, .ref (B + 95)), (1, .int p1), (2, .int p2)] (dg DX10_gapOf 3 rfl) rfl (by decide) rfl ?_
  refine j_iload_n 6 hC 0 (dg DX10_gapOf 4 rfl) rfl rfl ?_
  refine j_iconst 7 hC (dg DX10_gapOf 5 rfl) (v := (-1)) (by decide) ?_
  refine j_icmp_ne 8 13 hC (dg DX10_gapOf 6 rfl) (by decide) (fun hbr => ?_) (fun hbr => ?_)
  · replace hw := hw.2 hbr
    refine j_iload_n 13 hC 3 (dg DX10_gapOf 9 rfl) rfl rfl ?_
    refine j_if_ne 14 21 hC (dg DX10_gapOf 10 rfl) (by decide) (fun hbr => ?_) (fun hbr => ?_)
    · replace hw := hw.2 hbr
      refine j_iload_n 21 hC 3 (dg DX10_gapOf 13 rfl) rfl rfl ?_
      refine j_iconst 22 hC (dg DX10_gapOf 14 rfl) (v := 1) (by decide) ?_
      refine j_icmp_ne 23 34 hC (dg DX10_gapOf 15 rfl) (by decide) (fun hbr => ?_) (fun hbr => ?_)
      · replace hw := hw.2 hbr
        refine j_iload_n 34 hC 3 (dg DX10_gapOf 20 rfl) rfl rfl ?_
        refine j_iconst 35 hC (dg DX10_gapOf 21 rfl) (v := 2) (by decide) ?_
        refine j_icmp_ne 36 47 hC (dg DX10_gapOf 22 rfl) (by decide) (fun hbr => ?_) (fun hbr => ?_)
        · replace hw := hw.2 hbr
          refine j_bipush 47 hC (dg DX10_gapOf 27 rfl) (v := (-2)) (by decide) ?_
          exact hR 49 _ _ _ (dg DX10_gapOf 28 rfl) hw
        · replace hw := hw.1 hbr
          refine j_aload_n 39 hC 1 (dg DX10_gapOf 23 rfl) rfl rfl ?_
          refine j_iload_n 40 hC 0 (dg DX10_gapOf 24 rfl) rfl rfl ?_
          refine j_Vi (As := [.int r2]) 41 hC (m_X10_closest  hw) kX10_178 (k_95) (by decide) ⟨_, _, rfl⟩ (rmN_ok (by decide) (by decide)) rfl rfl (Nat.le_of_ble_eq_true rfl) (dg DX10_gapOf 25 rfl) (fun r4 σ3 hw => ?_)
          refine j_goto 44 49 hC (dg DX10_gapOf 26 rfl) (by decide) ?_
          exact hR 49 _ _ _ (dg DX10_gapOf 28 rfl) hw
      · replace hw := hw.1 hbr
        refine j_aload_n 26 hC 1 (dg DX10_gapOf 16 rfl) rfl rfl ?_
        refine j_iload_n 27 hC 0 (dg DX10_gapOf 17 rfl) rfl rfl ?_
        refine j_Vi (As := [.int r2]) 28 hC (m_X10_gapLength  hw) kX10_172 (k_95) (by decide) ⟨_, _, rfl⟩ (rmN_ok (by decide) (by decide)) rfl rfl (Nat.le_of_ble_eq_true rfl) (dg DX10_gapOf 18 rfl) (fun r6 σ5 hw => ?_)
        refine j_goto 31 49 hC (dg DX10_gapOf 19 rfl) (by decide) ?_
        exact hR 49 _ _ _ (dg DX10_gapOf 28 rfl) hw
    · replace hw := hw.1 hbr
      refine j_iload_n 17 hC 0 (dg DX10_gapOf 11 rfl) rfl rfl ?_
      refine j_goto 18 49 hC (dg DX10_gapOf 12 rfl) (by decide) ?_
      exact hR 49 _ _ _ (dg DX10_gapOf 28 rfl) hw
  · replace hw := hw.1 hbr
    refine j_iconst 11 hC (dg DX10_gapOf 7 rfl) (v := (-1)) (by decide) ?_
    exact hR 12 _ _ _ (dg DX10_gapOf 8 rfl) hw
theorem m_X10_gapOf {B : Nat} {σ : SS} {p1 : Int32} {p2 : Int32} {Q : Int32 → SS → Prop} (hw : wp_X10_gapOf  σ p1 p2 Q) : MI yX10_gapOf cX10_gapOf 4 (some .int) 6 142 B 103 RS [.ref (B + 95), .int p1, .int p2] σ Q := MI.mk (plainFor_of_name (by decide)) (Nat.le_of_ble_eq_true rfl) (fun X hC hR => t_X10_gapOf hC  hR hw)
-- FortressWatchModel.longestGap
def bd_X10_longestGap_4    (Q : Int32 → SS → Prop)  (rc : SS → Int32 → Int32 → Prop) (σ : SS) (v1 : Int32) (v2 : Int32) : Prop :=
  wp_X10_gapMany σ (fun r2 σ1 =>
    ((r2 ≤ v2 →
        Q v1 σ1) ∧
      (¬ r2 ≤ v2 →
        wp_X10_gapAt σ1 v2 (fun r4 σ3 =>
          wp_X10_gapLength σ3 r4 (fun r6 σ5 =>
            wp_X10_greater σ5 v1 r6 (fun r8 σ7 =>
              rc σ7 r8 (v2 + 1)))))))
def wp_X10_longestGap  (σ : SS)  (Q : Int32 → SS → Prop) : Prop :=
  ∃ k9, Lii (bd_X10_longestGap_4 Q) k9 σ 0 0
set_option maxRecDepth 100000 in
set_option maxHeartbeats 4000000 in
theorem tb_X10_longestGap_4 {X : XT} {B : Nat} (hC : Cx X 3 cX10_longestGap RX10 (rmN 5 117)) {Q : Int32 → SS → Prop} (hR : RtI X 3 B 103 RS cX10_longestGap Q) {rc : SS → Int32 → Int32 → Prop} (hrc : ∀ (σ : SS) (v1 : Int32) (v2 : Int32), rc σ v1 v2 → J X 3 B 103 RS 0 0 σ [(0, .ref (B + 95)), (1, .int v1), (2, .int v2)] 4 []) : ∀ (σ : SS) (v1 : Int32) (v2 : Int32), bd_X10_longestGap_4 Q rc σ v1 v2 → J X 3 B 103 RS 0 0 σ [(0, .ref (B + 95)), (1, .int v1), (2, .int v2)] 4 [] := by
  intro σ v1 v2 hw
  unfold bd_X10_longestGap_4 at hw
  refine j_iload_n 4 hC 2 (dg DX10_longestGap 4 rfl) rfl rfl ?_
  refine j_aload_n 5 hC 0 (dg DX10_longestGap 5 rfl) rfl rfl ?_
  refine j_Vi (As := []) 6 hC (m_X10_gapMany  hw) kX10_181 (k_95) (by decide) ⟨_, _, rfl⟩ (rmN_ok (by decide) (by decide)) rfl rfl (Nat.le_of_ble_eq_true rfl) (dg DX10_longestGap 6 rfl) (fun r2 σ1 hw => ?_)
  refine j_icmp_ge 9 32 hC (dg DX10_longestGap 7 rfl) (by decide) (fun hbr => ?_) (fun hbr => ?_)
  · replace hw := hw.1 hbr
    refine j_iload_n 32 hC 1 (dg DX10_longestGap 18 rfl) rfl rfl ?_
    exact hR 33 _ _ _ (dg DX10_longestGap 19 rfl) hw
  · replace hw := hw.2 hbr
    refine j_iload_n 12 hC 1 (dg DX10_longestGap 8 rfl) rfl rfl ?_
    refine j_aload_n 13 hC 0 (dg DX10_longestGap 9 rfl) rfl rfl ?_
    refine j_aload_n 14 hC 0 (dg DX10_longestGap 10 rfl) rfl rfl ?_
    refine j_iload_n 15 hC 2 (dg DX10_longestGap 11 rfl) rfl rfl ?_
    refine j_Vi (As := [.int v2]) 16 hC (m_X10_gapAt  hw) kX10_175 (k_95) (by decide) ⟨_, _, rfl⟩ (rmN_ok (by decide) (by decide)) rfl rfl (Nat.le_of_ble_eq_true rfl) (dg DX10_longestGap 12 rfl) (fun r4 σ3 hw => ?_)
    refine j_Vi (As := [.int r4]) 19 hC (m_X10_gapLength  hw) kX10_172 (k_95) (by decide) ⟨_, _, rfl⟩ (rmN_ok (by decide) (by decide)) rfl rfl (Nat.le_of_ble_eq_true rfl) (dg DX10_longestGap 13 rfl) (fun r6 σ5 hw => ?_)
    refine j_Si (As := [.int v1, .int r6]) 22 hC (m_X10_greater  hw) kX10_63 (rmN_ok (by decide) (by decide)) rfl rfl (Nat.le_of_ble_eq_true rfl) (dg DX10_longestGap 14 rfl) (fun r8 σ7 hw => ?_)
    refine j_istore_n 25 hC [(1, .int r8), (0, .ref (B + 95)), (2, .int v2)] (dg DX10_longestGap 15 rfl) rfl (by decide) rfl ?_
    refine j_iinc 26 hC 2 (v2 + 1) [(2, .int (v2 + 1)), (1, .int r8), (0, .ref (B + 95))] (dg DX10_longestGap 16 rfl) rfl rfl (by decide) rfl ?_
    refine j_goto 29 4 hC (dg DX10_longestGap 17 rfl) (by decide) ?_
    refine j_lv [2, 1, 0] (lv' := [(0, .ref (B + 95)), (1, .int r8), (2, .int (v2 + 1))]) rfl ?_
    exact hrc _ _ _ hw
set_option maxRecDepth 100000 in
set_option maxHeartbeats 4000000 in
theorem t_X10_longestGap {X : XT} {B : Nat} (hC : Cx X 3 cX10_longestGap RX10 (rmN 5 117)) {Q : Int32 → SS → Prop} (hR : RtI X 3 B 103 RS cX10_longestGap Q) {σ : SS} (hw : wp_X10_longestGap  σ  Q) : J X 3 B 103 RS 0 0 σ [(0, .ref (B + 95))] 0 [] := by
  unfold wp_X10_longestGap at hw
  refine j_iconst 0 hC (dg DX10_longestGap 0 rfl) (v := 0) (by decide) ?_
  refine j_istore_n 1 hC [(1, .int 0), (0, .ref (B + 95))] (dg DX10_longestGap 1 rfl) rfl (by decide) rfl ?_
  refine j_iconst 2 hC (dg DX10_longestGap 2 rfl) (v := 0) (by decide) ?_
  refine j_istore_n 3 hC [(2, .int 0), (1, .int 0), (0, .ref (B + 95))] (dg DX10_longestGap 3 rfl) rfl (by decide) rfl ?_
  obtain ⟨k9, hw⟩ := hw
  refine j_lv [2, 1, 0] (lv' := [(0, .ref (B + 95)), (1, .int 0), (2, .int 0)]) rfl ?_
  exact Lii.snd (P := fun τ w1 w2 => J X 3 B 103 RS 0 0 τ [(0, .ref (B + 95)), (1, .int w1), (2, .int w2)] 4 []) (fun rcc hrcc => tb_X10_longestGap_4 hC  hR  hrcc) k9 _ _ _ hw
theorem m_X10_longestGap {B : Nat} {σ : SS} {Q : Int32 → SS → Prop} (hw : wp_X10_longestGap  σ  Q) : MI yX10_longestGap cX10_longestGap 3 (some .int) 5 117 B 103 RS [.ref (B + 95)] σ Q := MI.mk (plainFor_of_name (by decide)) (Nat.le_of_ble_eq_true rfl) (fun X hC hR => t_X10_longestGap hC  hR hw)
-- FortressWatchModel.isAhead
def wp_X10_isAhead  (σ : SS) (p1 : Int32) (p2 : Int32) (p3 : Int32) (Q : Int32 → SS → Prop) : Prop :=
  ((p1 = 0 →
      wp_X10_sight σ p2 (fun r10 σ9 =>
        wp_X10_bits σ9 r10 (fun r12 σ11 =>
          wp_X10_sight σ11 p3 (fun r14 σ13 =>
            wp_X10_bits σ13 r14 (fun r16 σ15 =>
              (((r12 - r16) = 0 →
                  ((p3 ≤ p2 →
                      Q 0 σ15) ∧
                    (¬ p3 ≤ p2 →
                      Q 1 σ15))) ∧
                (¬ (r12 - r16) = 0 →
                  (((r12 - r16) ≤ 0 →
                      Q 0 σ15) ∧
                    (¬ (r12 - r16) ≤ 0 →
                      Q 1 σ15))))))))) ∧
    (¬ p1 = 0 →
      ((p1 = 1 →
          wp_X10_of σ p3 0 (fun r6 σ5 =>
            wp_X10_of σ5 p2 0 (fun r8 σ7 =>
              (((r6 - r8) = 0 →
                  ((p3 ≤ p2 →
                      Q 0 σ7) ∧
                    (¬ p3 ≤ p2 →
                      Q 1 σ7))) ∧
                (¬ (r6 - r8) = 0 →
                  (((r6 - r8) ≤ 0 →
                      Q 0 σ7) ∧
                    (¬ (r6 - r8) ≤ 0 →
                      Q 1 σ7))))))) ∧
        (¬ p1 = 1 →
          wp_X10_alone σ p2 (fun r2 σ1 =>
            wp_X10_alone σ1 p3 (fun r4 σ3 =>
              (((r2 - r4) = 0 →
                  ((p3 ≤ p2 →
                      Q 0 σ3) ∧
                    (¬ p3 ≤ p2 →
                      Q 1 σ3))) ∧
                (¬ (r2 - r4) = 0 →
                  (((r2 - r4) ≤ 0 →
                      Q 0 σ3) ∧
                    (¬ (r2 - r4) ≤ 0 →
                      Q 1 σ3))))))))))
set_option maxRecDepth 100000 in
set_option maxHeartbeats 4000000 in
theorem t_X10_isAhead {X : XT} {B : Nat} (hC : Cx X 5 cX10_isAhead RX10 (rmN 5 114)) {Q : Int32 → SS → Prop} (hR : RtZ X 5 B 103 RS cX10_isAhead Q) {σ : SS} {p1 : Int32} {p2 : Int32} {p3 : Int32} (hw : wp_X10_isAhead  σ p1 p2 p3 Q) : J X 5 B 103 RS 0 0 σ [(0, .ref (B + 95)), (1, .int p1), (2, .int p2), (3, .int p3)] 0 [] := by
  unfold wp_X10_isAhead at hw
  refine j_iload_n 0 hC 1 (dg DX10_isAhead 0 rfl) rfl rfl ?_
  refine j_if_ne 1 24 hC (dg DX10_isAhead 1 rfl) (by decide) (fun hbr => ?_) (fun hbr => ?_)
  · replace hw := hw.2 hbr
    refine j_iload_n 24 hC 1 (dg DX10_isAhead 12 rfl) rfl rfl ?_
    refine j_iconst 25 hC (dg DX10_isAhead 13 rfl) (v := 1) (by decide) ?_
    refine j_icmp_ne 26 45 hC (dg DX10_isAhead 14 rfl) (by decide) (fun hbr => ?_) (fun hbr => ?_)
    · replace hw := hw.2 hbr
      refine j_aload_n 45 hC 0 (dg DX10_isAhead 25 rfl) rfl rfl ?_
      refine j_iload_n 46 hC 2 (dg DX10_isAhead 26 rfl) rfl rfl ?_
      refine j_Vi (As := [.int p2]) 47 hC (m_X10_alone  hw) kX10_160 (k_95) (by decide) ⟨_, _, rfl⟩ (rmN_ok (by decide) (by decide)) rfl rfl (Nat.le_of_ble_eq_true rfl) (dg DX10_isAhead 27 rfl) (fun r2 σ1 hw => ?_)
      refine j_aload_n 50 hC 0 (dg DX10_isAhead 28 rfl) rfl rfl ?_
      refine j_iload_n 51 hC 3 (dg DX10_isAhead 29 rfl) rfl rfl ?_
      refine j_Vi (As := [.int p3]) 52 hC (m_X10_alone  hw) kX10_160 (k_95) (by decide) ⟨_, _, rfl⟩ (rmN_ok (by decide) (by decide)) rfl rfl (Nat.le_of_ble_eq_true rfl) (dg DX10_isAhead 30 rfl) (fun r4 σ3 hw => ?_)
      refine j_isub 55 hC (dg DX10_isAhead 31 rfl) ?_
      refine j_istore 56 hC [(4, .int (r2 - r4)), (0, .ref (B + 95)), (1, .int p1), (2, .int p2), (3, .int p3)] (dg DX10_isAhead 32 rfl) (by decide) rfl ?_
      refine j_iload 58 hC 0 (dg DX10_isAhead 33 rfl) rfl ?_
      refine j_if_eq 60 76 hC (dg DX10_isAhead 34 rfl) (by decide) (fun hbr => ?_) (fun hbr => ?_)
      · replace hw := hw.1 hbr
        refine j_iload_n 76 hC 3 (dg DX10_isAhead 41 rfl) rfl rfl ?_
        refine j_iload_n 77 hC 4 (dg DX10_isAhead 42 rfl) rfl rfl ?_
        refine j_icmp_ge 78 85 hC (dg DX10_isAhead 43 rfl) (by decide) (fun hbr => ?_) (fun hbr => ?_)
        · replace hw := hw.1 hbr
          refine j_iconst 85 hC (dg DX10_isAhead 46 rfl) (v := 0) (by decide) ?_
          exact hR 86 _ _ _ (dg DX10_isAhead 47 rfl) ⟨by decide, hw⟩
        · replace hw := hw.2 hbr
          refine j_iconst 81 hC (dg DX10_isAhead 44 rfl) (v := 1) (by decide) ?_
          refine j_goto 82 86 hC (dg DX10_isAhead 45 rfl) (by decide) ?_
          exact hR 86 _ _ _ (dg DX10_isAhead 47 rfl) ⟨by decide, hw⟩
      · replace hw := hw.2 hbr
        refine j_iload 63 hC 0 (dg DX10_isAhead 35 rfl) rfl ?_
        refine j_if_le 65 72 hC (dg DX10_isAhead 36 rfl) (by decide) (fun hbr => ?_) (fun hbr => ?_)
        · replace hw := hw.1 hbr
          refine j_iconst 72 hC (dg DX10_isAhead 39 rfl) (v := 0) (by decide) ?_
          refine j_goto 73 86 hC (dg DX10_isAhead 40 rfl) (by decide) ?_
          exact hR 86 _ _ _ (dg DX10_isAhead 47 rfl) ⟨by decide, hw⟩
        · replace hw := hw.2 hbr
          refine j_iconst 68 hC (dg DX10_isAhead 37 rfl) (v := 1) (by decide) ?_
          refine j_goto 69 86 hC (dg DX10_isAhead 38 rfl) (by decide) ?_
          exact hR 86 _ _ _ (dg DX10_isAhead 47 rfl) ⟨by decide, hw⟩
    · replace hw := hw.1 hbr
      refine j_aload_n 29 hC 0 (dg DX10_isAhead 15 rfl) rfl rfl ?_
      refine j_iload_n 30 hC 3 (dg DX10_isAhead 16 rfl) rfl rfl ?_
      refine j_iconst 31 hC (dg DX10_isAhead 17 rfl) (v := 0) (by decide) ?_
      refine j_Vi (As := [.int p3, .int 0]) 32 hC (m_X10_of  hw) kX10_55 (k_95) (by decide) ⟨_, _, rfl⟩ (rmN_ok (by decide) (by decide)) rfl rfl (Nat.le_of_ble_eq_true rfl) (dg DX10_isAhead 18 rfl) (fun r6 σ5 hw => ?_)
      refine j_aload_n 35 hC 0 (dg DX10_isAhead 19 rfl) rfl rfl ?_
      refine j_iload_n 36 hC 2 (dg DX10_isAhead 20 rfl) rfl rfl ?_
      refine j_iconst 37 hC (dg DX10_isAhead 21 rfl) (v := 0) (by decide) ?_
      refine j_Vi (As := [.int p2, .int 0]) 38 hC (m_X10_of  hw) kX10_55 (k_95) (by decide) ⟨_, _, rfl⟩ (rmN_ok (by decide) (by decide)) rfl rfl (Nat.le_of_ble_eq_true rfl) (dg DX10_isAhead 22 rfl) (fun r8 σ7 hw => ?_)
      refine j_isub 41 hC (dg DX10_isAhead 23 rfl) ?_
      refine j_goto 42 56 hC (dg DX10_isAhead 24 rfl) (by decide) ?_
      refine j_istore 56 hC [(4, .int (r6 - r8)), (0, .ref (B + 95)), (1, .int p1), (2, .int p2), (3, .int p3)] (dg DX10_isAhead 32 rfl) (by decide) rfl ?_
      refine j_iload 58 hC 0 (dg DX10_isAhead 33 rfl) rfl ?_
      refine j_if_eq 60 76 hC (dg DX10_isAhead 34 rfl) (by decide) (fun hbr => ?_) (fun hbr => ?_)
      · replace hw := hw.1 hbr
        refine j_iload_n 76 hC 3 (dg DX10_isAhead 41 rfl) rfl rfl ?_
        refine j_iload_n 77 hC 4 (dg DX10_isAhead 42 rfl) rfl rfl ?_
        refine j_icmp_ge 78 85 hC (dg DX10_isAhead 43 rfl) (by decide) (fun hbr => ?_) (fun hbr => ?_)
        · replace hw := hw.1 hbr
          refine j_iconst 85 hC (dg DX10_isAhead 46 rfl) (v := 0) (by decide) ?_
          exact hR 86 _ _ _ (dg DX10_isAhead 47 rfl) ⟨by decide, hw⟩
        · replace hw := hw.2 hbr
          refine j_iconst 81 hC (dg DX10_isAhead 44 rfl) (v := 1) (by decide) ?_
          refine j_goto 82 86 hC (dg DX10_isAhead 45 rfl) (by decide) ?_
          exact hR 86 _ _ _ (dg DX10_isAhead 47 rfl) ⟨by decide, hw⟩
      · replace hw := hw.2 hbr
        refine j_iload 63 hC 0 (dg DX10_isAhead 35 rfl) rfl ?_
        refine j_if_le 65 72 hC (dg DX10_isAhead 36 rfl) (by decide) (fun hbr => ?_) (fun hbr => ?_)
        · replace hw := hw.1 hbr
          refine j_iconst 72 hC (dg DX10_isAhead 39 rfl) (v := 0) (by decide) ?_
          refine j_goto 73 86 hC (dg DX10_isAhead 40 rfl) (by decide) ?_
          exact hR 86 _ _ _ (dg DX10_isAhead 47 rfl) ⟨by decide, hw⟩
        · replace hw := hw.2 hbr
          refine j_iconst 68 hC (dg DX10_isAhead 37 rfl) (v := 1) (by decide) ?_
          refine j_goto 69 86 hC (dg DX10_isAhead 38 rfl) (by decide) ?_
          exact hR 86 _ _ _ (dg DX10_isAhead 47 rfl) ⟨by decide, hw⟩
  · replace hw := hw.1 hbr
    refine j_aload_n 4 hC 0 (dg DX10_isAhead 2 rfl) rfl rfl ?_
    refine j_iload_n 5 hC 2 (dg DX10_isAhead 3 rfl) rfl rfl ?_
    refine j_Vi (As := [.int p2]) 6 hC (m_X10_sight  hw) kX10_116 (k_95) (by decide) ⟨_, _, rfl⟩ (rmN_ok (by decide) (by decide)) rfl rfl (Nat.le_of_ble_eq_true rfl) (dg DX10_isAhead 4 rfl) (fun r10 σ9 hw => ?_)
    refine j_Si (As := [.int r10]) 9 hC (m_X10_bits  hw) kX10_119 (rmN_ok (by decide) (by decide)) rfl rfl (Nat.le_of_ble_eq_true rfl) (dg DX10_isAhead 5 rfl) (fun r12 σ11 hw => ?_)
    refine j_aload_n 12 hC 0 (dg DX10_isAhead 6 rfl) rfl rfl ?_
    refine j_iload_n 13 hC 3 (dg DX10_isAhead 7 rfl) rfl rfl ?_
    refine j_Vi (As := [.int p3]) 14 hC (m_X10_sight  hw) kX10_116 (k_95) (by decide) ⟨_, _, rfl⟩ (rmN_ok (by decide) (by decide)) rfl rfl (Nat.le_of_ble_eq_true rfl) (dg DX10_isAhead 8 rfl) (fun r14 σ13 hw => ?_)
    refine j_Si (As := [.int r14]) 17 hC (m_X10_bits  hw) kX10_119 (rmN_ok (by decide) (by decide)) rfl rfl (Nat.le_of_ble_eq_true rfl) (dg DX10_isAhead 9 rfl) (fun r16 σ15 hw => ?_)
    refine j_isub 20 hC (dg DX10_isAhead 10 rfl) ?_
    refine j_goto 21 56 hC (dg DX10_isAhead 11 rfl) (by decide) ?_
    refine j_istore 56 hC [(4, .int (r12 - r16)), (0, .ref (B + 95)), (1, .int p1), (2, .int p2), (3, .int p3)] (dg DX10_isAhead 32 rfl) (by decide) rfl ?_
    refine j_iload 58 hC 0 (dg DX10_isAhead 33 rfl) rfl ?_
    refine j_if_eq 60 76 hC (dg DX10_isAhead 34 rfl) (by decide) (fun hbr => ?_) (fun hbr => ?_)
    · replace hw := hw.1 hbr
      refine j_iload_n 76 hC 3 (dg DX10_isAhead 41 rfl) rfl rfl ?_
      refine j_iload_n 77 hC 4 (dg DX10_isAhead 42 rfl) rfl rfl ?_
      refine j_icmp_ge 78 85 hC (dg DX10_isAhead 43 rfl) (by decide) (fun hbr => ?_) (fun hbr => ?_)
      · replace hw := hw.1 hbr
        refine j_iconst 85 hC (dg DX10_isAhead 46 rfl) (v := 0) (by decide) ?_
        exact hR 86 _ _ _ (dg DX10_isAhead 47 rfl) ⟨by decide, hw⟩
      · replace hw := hw.2 hbr
        refine j_iconst 81 hC (dg DX10_isAhead 44 rfl) (v := 1) (by decide) ?_
        refine j_goto 82 86 hC (dg DX10_isAhead 45 rfl) (by decide) ?_
        exact hR 86 _ _ _ (dg DX10_isAhead 47 rfl) ⟨by decide, hw⟩
    · replace hw := hw.2 hbr
      refine j_iload 63 hC 0 (dg DX10_isAhead 35 rfl) rfl ?_
      refine j_if_le 65 72 hC (dg DX10_isAhead 36 rfl) (by decide) (fun hbr => ?_) (fun hbr => ?_)
      · replace hw := hw.1 hbr
        refine j_iconst 72 hC (dg DX10_isAhead 39 rfl) (v := 0) (by decide) ?_
        refine j_goto 73 86 hC (dg DX10_isAhead 40 rfl) (by decide) ?_
        exact hR 86 _ _ _ (dg DX10_isAhead 47 rfl) ⟨by decide, hw⟩
      · replace hw := hw.2 hbr
        refine j_iconst 68 hC (dg DX10_isAhead 37 rfl) (v := 1) (by decide) ?_
        refine j_goto 69 86 hC (dg DX10_isAhead 38 rfl) (by decide) ?_
        exact hR 86 _ _ _ (dg DX10_isAhead 47 rfl) ⟨by decide, hw⟩
theorem m_X10_isAhead {B : Nat} {σ : SS} {p1 : Int32} {p2 : Int32} {p3 : Int32} {Q : Int32 → SS → Prop} (hw : wp_X10_isAhead  σ p1 p2 p3 Q) : MI yX10_isAhead cX10_isAhead 5 (some .boolean) 5 114 B 103 RS [.ref (B + 95), .int p1, .int p2, .int p3] σ Q := MI.mkZ (plainFor_of_name (by decide)) (Nat.le_of_ble_eq_true rfl) (fun X hC hR => t_X10_isAhead hC  hR hw)
-- FortressWatchModel.ranked
def bd_X10_ranked_30   (K14 : SS → Int32 → Prop) (Q : Int32 → SS → Prop) (l1 : Int32) (l2 : Int32) (l3 : Int32) (rc : SS → Int32 → Int32 → Prop) (σ : SS) (v4 : Int32) (v5 : Int32) : Prop :=
  (((σ 96 0) ≤ v5 →
      ((v4 = l2 →
          Q l3 σ) ∧
        (¬ v4 = l2 →
          K14 σ (l3 + 1)))) ∧
    (¬ (σ 96 0) ≤ v5 →
      ((v5 = l3 →
          rc σ (v4 + 0) (v5 + 1)) ∧
        (¬ v5 = l3 →
          wp_X10_isAhead σ l1 v5 l3 (fun r4 σ3 =>
            ((r4 = 0 →
                rc σ3 (v4 + 0) (v5 + 1)) ∧
              (¬ r4 = 0 →
                rc σ3 (v4 + 1) (v5 + 1))))))))
def bd_X10_ranked_14    (Q : Int32 → SS → Prop) (l1 : Int32) (l2 : Int32) (rc : SS → Int32 → Prop) (σ : SS) (v3 : Int32) : Prop :=
  (((σ 96 0) ≤ v3 →
      Q (-1) σ) ∧
    (¬ (σ 96 0) ≤ v3 →
      ∃ k5, Lii (bd_X10_ranked_30 rc Q l1 l2 v3) k5 σ 0 0))
def wp_X10_ranked  (σ : SS) (p1 : Int32) (p2 : Int32) (Q : Int32 → SS → Prop) : Prop :=
  wp_X10_isIn σ p1 0 2 (fun r2 σ1 =>
    ((r2 = 0 →
        Q (-2) σ1) ∧
      (¬ r2 = 0 →
        ∃ k6, Li (bd_X10_ranked_14 Q p1 p2) k6 σ1 0)))
set_option maxRecDepth 100000 in
set_option maxHeartbeats 4000000 in
theorem tb_X10_ranked_30 {X : XT} {B : Nat} (hC : Cx X 6 cX10_ranked RX10 (rmN 6 138)) {K14 : SS → Int32 → Prop} {Q : Int32 → SS → Prop} {l1 : Int32} {l2 : Int32} {l3 : Int32} (hR : RtI X 6 B 103 RS cX10_ranked Q) (hK14 : ∀ (σ : SS) (v3 : Int32), K14 σ v3 → J X 6 B 103 RS 0 0 σ [(0, .ref (B + 95)), (1, .int l1), (2, .int l2), (3, .int v3)] 14 []) {rc : SS → Int32 → Int32 → Prop} (hrc : ∀ (σ : SS) (v4 : Int32) (v5 : Int32), rc σ v4 v5 → J X 6 B 103 RS 0 0 σ [(0, .ref (B + 95)), (1, .int l1), (2, .int l2), (3, .int l3), (4, .int v4), (5, .int v5)] 30 []) : ∀ (σ : SS) (v4 : Int32) (v5 : Int32), bd_X10_ranked_30 K14 Q l1 l2 l3 rc σ v4 v5 → J X 6 B 103 RS 0 0 σ [(0, .ref (B + 95)), (1, .int l1), (2, .int l2), (3, .int l3), (4, .int v4), (5, .int v5)] 30 [] := by
  intro σ v4 v5 hw
  unfold bd_X10_ranked_30 at hw
  refine j_iload 30 hC 5 (dg DX10_ranked 19 rfl) rfl ?_
  refine j_aload_n 32 hC 0 (dg DX10_ranked 20 rfl) rfl rfl ?_
  refine j_getR 33 hC fX10_9 (k_95) (by decide) (by decide) rfl (dg DX10_ranked 21 rfl) ?_
  refine j_iconst 36 hC (dg DX10_ranked 22 rfl) (v := 0) (by decide) ?_
  refine j_iald0 37 0 hC (k_96) (by decide) (by unfold vp_in; decide) rfl (dg DX10_ranked 23 rfl) ?_
  refine j_icmp_ge 38 74 hC (dg DX10_ranked 24 rfl) (by decide) (fun hbr => ?_) (fun hbr => ?_)
  · replace hw := hw.1 hbr
    refine j_iload 74 hC 4 (dg DX10_ranked 42 rfl) rfl ?_
    refine j_iload_n 76 hC 2 (dg DX10_ranked 43 rfl) rfl rfl ?_
    refine j_icmp_ne 77 82 hC (dg DX10_ranked 44 rfl) (by decide) (fun hbr => ?_) (fun hbr => ?_)
    · replace hw := hw.2 hbr
      refine j_iinc 82 hC 3 (l3 + 1) [(3, .int (l3 + 1)), (0, .ref (B + 95)), (1, .int l1), (2, .int l2), (4, .int v4), (5, .int v5)] (dg DX10_ranked 47 rfl) rfl rfl (by decide) rfl ?_
      refine j_goto 85 14 hC (dg DX10_ranked 48 rfl) (by decide) ?_
      refine j_lv [1, 2, 3, 0] (lv' := [(0, .ref (B + 95)), (1, .int l1), (2, .int l2), (3, .int (l3 + 1))]) rfl ?_
      exact hK14 _ _ hw
    · replace hw := hw.1 hbr
      refine j_iload_n 80 hC 3 (dg DX10_ranked 45 rfl) rfl rfl ?_
      exact hR 81 _ _ _ (dg DX10_ranked 46 rfl) hw
  · replace hw := hw.2 hbr
    refine j_iload 41 hC 4 (dg DX10_ranked 25 rfl) rfl ?_
    refine j_iload 43 hC 5 (dg DX10_ranked 26 rfl) rfl ?_
    refine j_iload_n 45 hC 3 (dg DX10_ranked 27 rfl) rfl rfl ?_
    refine j_icmp_eq 46 64 hC (dg DX10_ranked 28 rfl) (by decide) (fun hbr => ?_) (fun hbr => ?_)
    · replace hw := hw.1 hbr
      refine j_iconst 64 hC (dg DX10_ranked 37 rfl) (v := 0) (by decide) ?_
      refine j_iadd 65 hC (dg DX10_ranked 38 rfl) ?_
      refine j_istore 66 hC [(4, .int (v4 + 0)), (0, .ref (B + 95)), (1, .int l1), (2, .int l2), (3, .int l3), (5, .int v5)] (dg DX10_ranked 39 rfl) (by decide) rfl ?_
      refine j_iinc 68 hC 5 (v5 + 1) [(5, .int (v5 + 1)), (4, .int (v4 + 0)), (0, .ref (B + 95)), (1, .int l1), (2, .int l2), (3, .int l3)] (dg DX10_ranked 40 rfl) rfl rfl (by decide) rfl ?_
      refine j_goto 71 30 hC (dg DX10_ranked 41 rfl) (by decide) ?_
      refine j_lv [2, 3, 4, 5, 1, 0] (lv' := [(0, .ref (B + 95)), (1, .int l1), (2, .int l2), (3, .int l3), (4, .int (v4 + 0)), (5, .int (v5 + 1))]) rfl ?_
      exact hrc _ _ _ hw
    · replace hw := hw.2 hbr
      refine j_aload_n 49 hC 0 (dg DX10_ranked 29 rfl) rfl rfl ?_
      refine j_iload_n 50 hC 1 (dg DX10_ranked 30 rfl) rfl rfl ?_
      refine j_iload 51 hC 5 (dg DX10_ranked 31 rfl) rfl ?_
      refine j_iload_n 53 hC 3 (dg DX10_ranked 32 rfl) rfl rfl ?_
      refine j_Vi (As := [.int l1, .int v5, .int l3]) 54 hC (m_X10_isAhead  hw) kX10_184 (k_95) (by decide) ⟨_, _, rfl⟩ (rmN_ok (by decide) (by decide)) rfl rfl (Nat.le_of_ble_eq_true rfl) (dg DX10_ranked 33 rfl) (fun r4 σ3 hw => ?_)
      refine j_if_eq 57 64 hC (dg DX10_ranked 34 rfl) (by decide) (fun hbr => ?_) (fun hbr => ?_)
      · replace hw := hw.1 hbr
        refine j_iconst 64 hC (dg DX10_ranked 37 rfl) (v := 0) (by decide) ?_
        refine j_iadd 65 hC (dg DX10_ranked 38 rfl) ?_
        refine j_istore 66 hC [(4, .int (v4 + 0)), (0, .ref (B + 95)), (1, .int l1), (2, .int l2), (3, .int l3), (5, .int v5)] (dg DX10_ranked 39 rfl) (by decide) rfl ?_
        refine j_iinc 68 hC 5 (v5 + 1) [(5, .int (v5 + 1)), (4, .int (v4 + 0)), (0, .ref (B + 95)), (1, .int l1), (2, .int l2), (3, .int l3)] (dg DX10_ranked 40 rfl) rfl rfl (by decide) rfl ?_
        refine j_goto 71 30 hC (dg DX10_ranked 41 rfl) (by decide) ?_
        refine j_lv [2, 3, 4, 5, 1, 0] (lv' := [(0, .ref (B + 95)), (1, .int l1), (2, .int l2), (3, .int l3), (4, .int (v4 + 0)), (5, .int (v5 + 1))]) rfl ?_
        exact hrc _ _ _ hw
      · replace hw := hw.2 hbr
        refine j_iconst 60 hC (dg DX10_ranked 35 rfl) (v := 1) (by decide) ?_
        refine j_goto 61 65 hC (dg DX10_ranked 36 rfl) (by decide) ?_
        refine j_iadd 65 hC (dg DX10_ranked 38 rfl) ?_
        refine j_istore 66 hC [(4, .int (v4 + 1)), (0, .ref (B + 95)), (1, .int l1), (2, .int l2), (3, .int l3), (5, .int v5)] (dg DX10_ranked 39 rfl) (by decide) rfl ?_
        refine j_iinc 68 hC 5 (v5 + 1) [(5, .int (v5 + 1)), (4, .int (v4 + 1)), (0, .ref (B + 95)), (1, .int l1), (2, .int l2), (3, .int l3)] (dg DX10_ranked 40 rfl) rfl rfl (by decide) rfl ?_
        refine j_goto 71 30 hC (dg DX10_ranked 41 rfl) (by decide) ?_
        refine j_lv [2, 3, 4, 5, 1, 0] (lv' := [(0, .ref (B + 95)), (1, .int l1), (2, .int l2), (3, .int l3), (4, .int (v4 + 1)), (5, .int (v5 + 1))]) rfl ?_
        exact hrc _ _ _ hw
set_option maxRecDepth 100000 in
set_option maxHeartbeats 4000000 in
theorem tb_X10_ranked_14 {X : XT} {B : Nat} (hC : Cx X 6 cX10_ranked RX10 (rmN 6 138)) {Q : Int32 → SS → Prop} {l1 : Int32} {l2 : Int32} (hR : RtI X 6 B 103 RS cX10_ranked Q) {rc : SS → Int32 → Prop} (hrc : ∀ (σ : SS) (v3 : Int32), rc σ v3 → J X 6 B 103 RS 0 0 σ [(0, .ref (B + 95)), (1, .int l1), (2, .int l2), (3, .int v3)] 14 []) : ∀ (σ : SS) (v3 : Int32), bd_X10_ranked_14 Q l1 l2 rc σ v3 → J X 6 B 103 RS 0 0 σ [(0, .ref (B + 95)), (1, .int l1), (2, .int l2), (3, .int v3)] 14 [] := by
  intro σ v3 hw
  unfold bd_X10_ranked_14 at hw
  refine j_iload_n 14 hC 3 (dg DX10_ranked 9 rfl) rfl rfl ?_
  refine j_aload_n 15 hC 0 (dg DX10_ranked 10 rfl) rfl rfl ?_
  refine j_getR 16 hC fX10_9 (k_95) (by decide) (by decide) rfl (dg DX10_ranked 11 rfl) ?_
  refine j_iconst 19 hC (dg DX10_ranked 12 rfl) (v := 0) (by decide) ?_
  refine j_iald0 20 0 hC (k_96) (by decide) (by unfold vp_in; decide) rfl (dg DX10_ranked 13 rfl) ?_
  refine j_icmp_ge 21 88 hC (dg DX10_ranked 14 rfl) (by decide) (fun hbr => ?_) (fun hbr => ?_)
  · replace hw := hw.1 hbr
    refine j_iconst 88 hC (dg DX10_ranked 49 rfl) (v := (-1)) (by decide) ?_
    exact hR 89 _ _ _ (dg DX10_ranked 50 rfl) hw
  · replace hw := hw.2 hbr
    refine j_iconst 24 hC (dg DX10_ranked 15 rfl) (v := 0) (by decide) ?_
    refine j_istore 25 hC [(4, .int 0), (0, .ref (B + 95)), (1, .int l1), (2, .int l2), (3, .int v3)] (dg DX10_ranked 16 rfl) (by decide) rfl ?_
    refine j_iconst 27 hC (dg DX10_ranked 17 rfl) (v := 0) (by decide) ?_
    refine j_istore 28 hC [(5, .int 0), (4, .int 0), (0, .ref (B + 95)), (1, .int l1), (2, .int l2), (3, .int v3)] (dg DX10_ranked 18 rfl) (by decide) rfl ?_
    obtain ⟨k5, hw⟩ := hw
    refine j_lv [2, 3, 4, 5, 1, 0] (lv' := [(0, .ref (B + 95)), (1, .int l1), (2, .int l2), (3, .int v3), (4, .int 0), (5, .int 0)]) rfl ?_
    exact Lii.snd (P := fun τ w4 w5 => J X 6 B 103 RS 0 0 τ [(0, .ref (B + 95)), (1, .int l1), (2, .int l2), (3, .int v3), (4, .int w4), (5, .int w5)] 30 []) (fun rcc hrcc => tb_X10_ranked_30 hC  hR hrc hrcc) k5 _ _ _ hw
set_option maxRecDepth 100000 in
set_option maxHeartbeats 4000000 in
theorem t_X10_ranked {X : XT} {B : Nat} (hC : Cx X 6 cX10_ranked RX10 (rmN 6 138)) {Q : Int32 → SS → Prop} (hR : RtI X 6 B 103 RS cX10_ranked Q) {σ : SS} {p1 : Int32} {p2 : Int32} (hw : wp_X10_ranked  σ p1 p2 Q) : J X 6 B 103 RS 0 0 σ [(0, .ref (B + 95)), (1, .int p1), (2, .int p2)] 0 [] := by
  unfold wp_X10_ranked at hw
  refine j_iload_n 0 hC 1 (dg DX10_ranked 0 rfl) rfl rfl ?_
  refine j_iconst 1 hC (dg DX10_ranked 1 rfl) (v := 0) (by decide) ?_
  refine j_iconst 2 hC (dg DX10_ranked 2 rfl) (v := 2) (by decide) ?_
  refine j_Si (As := [.int p1, .int 0, .int 2]) 3 hC (m_X10_isIn  hw) kX10_51 (rmN_ok (by decide) (by decide)) rfl rfl (Nat.le_of_ble_eq_true rfl) (dg DX10_ranked 3 rfl) (fun r2 σ1 hw => ?_)
  refine j_if_ne 6 12 hC (dg DX10_ranked 4 rfl) (by decide) (fun hbr => ?_) (fun hbr => ?_)
  · replace hw := hw.2 hbr
    refine j_iconst 12 hC (dg DX10_ranked 7 rfl) (v := 0) (by decide) ?_
    refine j_istore_n 13 hC [(3, .int 0), (0, .ref (B + 95)), (1, .int p1), (2, .int p2)] (dg DX10_ranked 8 rfl) rfl (by decide) rfl ?_
    obtain ⟨k6, hw⟩ := hw
    refine j_lv [1, 2, 3, 0] (lv' := [(0, .ref (B + 95)), (1, .int p1), (2, .int p2), (3, .int 0)]) rfl ?_
    exact Li.snd (P := fun τ w3 => J X 6 B 103 RS 0 0 τ [(0, .ref (B + 95)), (1, .int p1), (2, .int p2), (3, .int w3)] 14 []) (fun rcc hrcc => tb_X10_ranked_14 hC  hR  hrcc) k6 _ _ hw
  · replace hw := hw.1 hbr
    refine j_bipush 9 hC (dg DX10_ranked 5 rfl) (v := (-2)) (by decide) ?_
    exact hR 11 _ _ _ (dg DX10_ranked 6 rfl) hw
theorem m_X10_ranked {B : Nat} {σ : SS} {p1 : Int32} {p2 : Int32} {Q : Int32 → SS → Prop} (hw : wp_X10_ranked  σ p1 p2 Q) : MI yX10_ranked cX10_ranked 6 (some .int) 6 138 B 103 RS [.ref (B + 95), .int p1, .int p2] σ Q := MI.mk (plainFor_of_name (by decide)) (Nat.le_of_ble_eq_true rfl) (fun X hC hR => t_X10_ranked hC  hR hw)
-- FortressWatchModel.puts
def wp_X10_puts  (σ : SS) (p1 : Int32) (Q : SS → Prop) : Prop :=
  vp_in (σ 95 10) 24 ∧
  ∀ σ1 : SS, σ1 = u2 σ 100 (σ 95 10).toNatClampNeg p1 →
  Q (u2 σ1 95 10 ((σ1 95 10) + 1))
set_option maxRecDepth 100000 in
set_option maxHeartbeats 4000000 in
theorem t_X10_puts {X : XT} {B : Nat} (hC : Cx X 2 cX10_puts RX10 (rmN 0 0)) {Q : SS → Prop} (hR : RtV X 2 B 103 RS cX10_puts Q) {σ : SS} {p1 : Int32} (hw : wp_X10_puts  σ p1 Q) : J X 2 B 103 RS 0 0 σ [(0, .ref (B + 95)), (1, .int p1)] 0 [] := by
  unfold wp_X10_puts at hw
  refine j_aload_n 0 hC 0 (dg DX10_puts 0 rfl) rfl rfl ?_
  refine j_getR 1 hC fX10_26 (k_95) (by decide) (by decide) rfl (dg DX10_puts 1 rfl) ?_
  refine j_aload_n 4 hC 0 (dg DX10_puts 2 rfl) rfl rfl ?_
  refine j_getI 5 hC fX10_187 (k_95) (by decide) (by decide) rfl (dg DX10_puts 3 rfl) ?_
  refine j_iload_n 8 hC 1 (dg DX10_puts 4 rfl) rfl rfl ?_
  refine j_iast0 9 _ hC (k_100) (by decide) hw.1 rfl (dg DX10_puts 5 rfl) ?_
  replace hw := hw.2
  refine j_sg (fun σ1 es => ?_)
  replace hw := hw _ es
  refine j_aload_n 10 hC 0 (dg DX10_puts 6 rfl) rfl rfl ?_
  refine j_dup 11 hC (dg DX10_puts 7 rfl) rfl ?_
  refine j_getI 12 hC fX10_187 (k_95) (by decide) (by decide) rfl (dg DX10_puts 8 rfl) ?_
  refine j_iconst 15 hC (dg DX10_puts 9 rfl) (v := 1) (by decide) ?_
  refine j_iadd 16 hC (dg DX10_puts 10 rfl) ?_
  refine j_putI 17 hC fX10_187 (k_95) (by decide) (by decide) rfl fp10_10 rfl (dg DX10_puts 11 rfl) ?_
  exact hR 20 _ _ (dg DX10_puts 12 rfl) hw
theorem m_X10_puts {B : Nat} {σ : SS} {p1 : Int32} {Q : SS → Prop} (hw : wp_X10_puts  σ p1 Q) : MV yX10_puts cX10_puts 2 0 0 B 103 RS [.ref (B + 95), .int p1] σ Q := MV.mk (plainFor_of_name (by decide)) (Nat.le_of_ble_eq_true rfl) (fun X hC hR => t_X10_puts hC  hR hw)
-- FortressWatchModel.number
def bs_X10_number (self : SS → Int32 → (SS → Prop) → Prop) (σ : SS) (p1 : Int32) (Q : SS → Prop) : Prop :=
  ((p1 < 10 →
      wp_X10_puts σ (48 + (p1 - p1 / 10 * 10)) (fun σ1 =>
        Q σ1)) ∧
    (¬ p1 < 10 →
      self σ (p1 / 10) (fun σ2 =>
        wp_X10_puts σ2 (48 + (p1 - p1 / 10 * 10)) (fun σ3 =>
          Q σ3))))
def wp_X10_number : Nat → SS → Int32 → (SS → Prop) → Prop
    | 0 => fun _ _ _ => False
    | d + 1 => bs_X10_number (wp_X10_number d)
set_option maxRecDepth 100000 in
set_option maxHeartbeats 4000000 in
theorem t_X10_number {X : XT} {B : Nat} {fr lo : Nat} (hge : 1 ≤ fr ∧ 21 ≤ lo) (hRm : RmOk (rmN (fr + 1) (lo + 21)) fr lo 2 0 0) (hC : Cx X 2 cX10_number RX10 (rmN (fr + 1) (lo + 21))) {self : SS → Int32 → (SS → Prop) → Prop} {Q : SS → Prop} (hR : RtV X 2 B 103 RS cX10_number Q) (hself : ∀ {σ : SS} {p1 : Int32} {Q : SS → Prop}, self σ p1 Q → MV yX10_number cX10_number 2 fr lo B 103 RS [.ref (B + 95), .int p1] σ Q) {σ : SS} {p1 : Int32} (hw : bs_X10_number self σ p1 Q) : J X 2 B 103 RS 0 0 σ [(0, .ref (B + 95)), (1, .int p1)] 0 [] := by
  unfold bs_X10_number at hw
  refine j_iload_n 0 hC 1 (dg DX10_number 0 rfl) rfl rfl ?_
  refine j_bipush 1 hC (dg DX10_number 1 rfl) (v := 10) (by decide) ?_
  refine j_icmp_lt 3 14 hC (dg DX10_number 2 rfl) (by decide) (fun hbr => ?_) (fun hbr => ?_)
  · replace hw := hw.1 hbr
    refine j_aload_n 14 hC 0 (dg DX10_number 8 rfl) rfl rfl ?_
    refine j_bipush 15 hC (dg DX10_number 9 rfl) (v := 48) (by decide) ?_
    refine j_iload_n 17 hC 1 (dg DX10_number 10 rfl) rfl rfl ?_
    refine j_bipush 18 hC (dg DX10_number 11 rfl) (v := 10) (by decide) ?_
    refine j_irem 20 hC (dg DX10_number 12 rfl) (by decide) ?_
    refine j_iadd 21 hC (dg DX10_number 13 rfl) ?_
    refine j_Vv (As := [.int (48 + (p1 - p1 / 10 * 10))]) 22 hC (m_X10_puts  hw) kX10_194 (k_95) (by decide) ⟨_, _, rfl⟩ (rmN_ok (by omega) (by omega)) rfl rfl (Nat.le_of_ble_eq_true rfl) (dg DX10_number 14 rfl) (fun σ1 hw => ?_)
    exact hR 25 _ _ (dg DX10_number 15 rfl) hw
  · replace hw := hw.2 hbr
    refine j_aload_n 6 hC 0 (dg DX10_number 3 rfl) rfl rfl ?_
    refine j_iload_n 7 hC 1 (dg DX10_number 4 rfl) rfl rfl ?_
    refine j_bipush 8 hC (dg DX10_number 5 rfl) (v := 10) (by decide) ?_
    refine j_idiv 10 hC (dg DX10_number 6 rfl) (by decide) ?_
    refine j_Vv (As := [.int (p1 / 10)]) 11 hC (hself hw) kX10_190 (k_95) (by decide) ⟨_, _, rfl⟩ hRm rfl rfl (Nat.le_of_ble_eq_true rfl) (dg DX10_number 7 rfl) (fun σ2 hw => ?_)
    refine j_aload_n 14 hC 0 (dg DX10_number 8 rfl) rfl rfl ?_
    refine j_bipush 15 hC (dg DX10_number 9 rfl) (v := 48) (by decide) ?_
    refine j_iload_n 17 hC 1 (dg DX10_number 10 rfl) rfl rfl ?_
    refine j_bipush 18 hC (dg DX10_number 11 rfl) (v := 10) (by decide) ?_
    refine j_irem 20 hC (dg DX10_number 12 rfl) (by decide) ?_
    refine j_iadd 21 hC (dg DX10_number 13 rfl) ?_
    refine j_Vv (As := [.int (48 + (p1 - p1 / 10 * 10))]) 22 hC (m_X10_puts  hw) kX10_194 (k_95) (by decide) ⟨_, _, rfl⟩ (rmN_ok (by omega) (by omega)) rfl rfl (Nat.le_of_ble_eq_true rfl) (dg DX10_number 14 rfl) (fun σ3 hw => ?_)
    exact hR 25 _ _ (dg DX10_number 15 rfl) hw
theorem m_X10_number (d : Nat) : ∀ {B : Nat} {σ : SS} {p1 : Int32} {Q : SS → Prop}, wp_X10_number d σ p1 Q → MV yX10_number cX10_number 2 (1 + d) (21 + 21 * d) B 103 RS [.ref (B + 95), .int p1] σ Q := by
  induction d with
  | zero => exact fun h => h.elim
  | succ d ih =>
    intro B σ p1 Q hw
    have e : 21 + 21 * (d + 1) = (21 + 21 * d) + 21 := by omega
    rw [e]
    exact MV.mk (fr := (1 + d) + 1) (plainFor_of_name (by decide)) (Nat.le_of_ble_eq_true rfl) (fun X hC hR => t_X10_number ⟨by omega, by omega⟩ (rmN_ok (Nat.le_refl _) (by omega)) hC hR (fun h => ih h) hw)
-- FortressWatchModel.describe
def wp_X10_describe  (σ : SS) (p1 : Int32) (Q : Int32 → SS → Prop) : Prop :=
  wp_X10_isPost σ p1 (fun r2 σ1 =>
    ((r2 = 0 →
        Q (-1) σ1) ∧
      (¬ r2 = 0 →
        wp_X10_number 3 (u2 σ1 95 10 0) p1 (fun σ3 =>
          wp_X10_puts σ3 64 (fun σ4 =>
            wp_X10_of σ4 p1 0 (fun r6 σ5 =>
              wp_X10_number 3 σ5 r6 (fun σ7 =>
                wp_X10_puts σ7 60 (fun σ8 =>
                  wp_X10_of σ8 p1 1 (fun r10 σ9 =>
                    wp_X10_number 3 σ9 r10 (fun σ11 =>
                      wp_X10_puts σ11 62 (fun σ12 =>
                        wp_X10_of σ12 p1 2 (fun r14 σ13 =>
                          wp_X10_number 3 σ13 r14 (fun σ15 =>
                            wp_X10_of σ15 p1 4 (fun r17 σ16 =>
                              ((r17 ≤ 0 →
                                  wp_X10_isManned σ16 p1 (fun r19 σ18 =>
                                    ((r19 = 0 →
                                        Q (σ18 95 10) σ18) ∧
                                      (¬ r19 = 0 →
                                        wp_X10_puts σ18 42 (fun σ20 =>
                                          Q (σ20 95 10) σ20))))) ∧
                                (¬ r17 ≤ 0 →
                                  wp_X10_puts σ16 33 (fun σ21 =>
                                    wp_X10_of σ21 p1 3 (fun r23 σ22 =>
                                      wp_X10_number 3 σ22 r23 (fun σ24 =>
                                        wp_X10_puts σ24 43 (fun σ25 =>
                                          wp_X10_of σ25 p1 4 (fun r27 σ26 =>
                                            wp_X10_number 3 σ26 r27 (fun σ28 =>
                                              wp_X10_isManned σ28 p1 (fun r30 σ29 =>
                                                ((r30 = 0 →
                                                    Q (σ29 95 10) σ29) ∧
                                                  (¬ r30 = 0 →
                                                    wp_X10_puts σ29 42 (fun σ31 =>
                                                      Q (σ31 95 10) σ31))))))))))))))))))))))))))
set_option maxRecDepth 100000 in
set_option maxHeartbeats 4000000 in
theorem t_X10_describe {X : XT} {B : Nat} (hC : Cx X 2 cX10_describe RX10 (rmN 5 105)) {Q : Int32 → SS → Prop} (hR : RtI X 2 B 103 RS cX10_describe Q) {σ : SS} {p1 : Int32} (hw : wp_X10_describe  σ p1 Q) : J X 2 B 103 RS 0 0 σ [(0, .ref (B + 95)), (1, .int p1)] 0 [] := by
  unfold wp_X10_describe at hw
  refine j_aload_n 0 hC 0 (dg DX10_describe 0 rfl) rfl rfl ?_
  refine j_iload_n 1 hC 1 (dg DX10_describe 1 rfl) rfl rfl ?_
  refine j_Vi (As := [.int p1]) 2 hC (m_X10_isPost  hw) kX10_107 (k_95) (by decide) ⟨_, _, rfl⟩ (rmN_ok (by decide) (by decide)) rfl rfl (Nat.le_of_ble_eq_true rfl) (dg DX10_describe 2 rfl) (fun r2 σ1 hw => ?_)
  refine j_if_ne 5 10 hC (dg DX10_describe 3 rfl) (by decide) (fun hbr => ?_) (fun hbr => ?_)
  · replace hw := hw.2 hbr
    refine j_aload_n 10 hC 0 (dg DX10_describe 6 rfl) rfl rfl ?_
    refine j_iconst 11 hC (dg DX10_describe 7 rfl) (v := 0) (by decide) ?_
    refine j_putI 12 hC fX10_187 (k_95) (by decide) (by decide) rfl fp10_10 rfl (dg DX10_describe 8 rfl) ?_
    refine j_aload_n 15 hC 0 (dg DX10_describe 9 rfl) rfl rfl ?_
    refine j_iload_n 16 hC 1 (dg DX10_describe 10 rfl) rfl rfl ?_
    refine j_Vv (As := [.int p1]) 17 hC (m_X10_number 3 hw) kX10_190 (k_95) (by decide) ⟨_, _, rfl⟩ (rmN_ok (by decide) (by decide)) rfl rfl (Nat.le_of_ble_eq_true rfl) (dg DX10_describe 11 rfl) (fun σ3 hw => ?_)
    refine j_aload_n 20 hC 0 (dg DX10_describe 12 rfl) rfl rfl ?_
    refine j_bipush 21 hC (dg DX10_describe 13 rfl) (v := 64) (by decide) ?_
    refine j_Vv (As := [.int 64]) 23 hC (m_X10_puts  hw) kX10_194 (k_95) (by decide) ⟨_, _, rfl⟩ (rmN_ok (by decide) (by decide)) rfl rfl (Nat.le_of_ble_eq_true rfl) (dg DX10_describe 14 rfl) (fun σ4 hw => ?_)
    refine j_aload_n 26 hC 0 (dg DX10_describe 15 rfl) rfl rfl ?_
    refine j_aload_n 27 hC 0 (dg DX10_describe 16 rfl) rfl rfl ?_
    refine j_iload_n 28 hC 1 (dg DX10_describe 17 rfl) rfl rfl ?_
    refine j_iconst 29 hC (dg DX10_describe 18 rfl) (v := 0) (by decide) ?_
    refine j_Vi (As := [.int p1, .int 0]) 30 hC (m_X10_of  hw) kX10_55 (k_95) (by decide) ⟨_, _, rfl⟩ (rmN_ok (by decide) (by decide)) rfl rfl (Nat.le_of_ble_eq_true rfl) (dg DX10_describe 19 rfl) (fun r6 σ5 hw => ?_)
    refine j_Vv (As := [.int r6]) 33 hC (m_X10_number 3 hw) kX10_190 (k_95) (by decide) ⟨_, _, rfl⟩ (rmN_ok (by decide) (by decide)) rfl rfl (Nat.le_of_ble_eq_true rfl) (dg DX10_describe 20 rfl) (fun σ7 hw => ?_)
    refine j_aload_n 36 hC 0 (dg DX10_describe 21 rfl) rfl rfl ?_
    refine j_bipush 37 hC (dg DX10_describe 22 rfl) (v := 60) (by decide) ?_
    refine j_Vv (As := [.int 60]) 39 hC (m_X10_puts  hw) kX10_194 (k_95) (by decide) ⟨_, _, rfl⟩ (rmN_ok (by decide) (by decide)) rfl rfl (Nat.le_of_ble_eq_true rfl) (dg DX10_describe 23 rfl) (fun σ8 hw => ?_)
    refine j_aload_n 42 hC 0 (dg DX10_describe 24 rfl) rfl rfl ?_
    refine j_aload_n 43 hC 0 (dg DX10_describe 25 rfl) rfl rfl ?_
    refine j_iload_n 44 hC 1 (dg DX10_describe 26 rfl) rfl rfl ?_
    refine j_iconst 45 hC (dg DX10_describe 27 rfl) (v := 1) (by decide) ?_
    refine j_Vi (As := [.int p1, .int 1]) 46 hC (m_X10_of  hw) kX10_55 (k_95) (by decide) ⟨_, _, rfl⟩ (rmN_ok (by decide) (by decide)) rfl rfl (Nat.le_of_ble_eq_true rfl) (dg DX10_describe 28 rfl) (fun r10 σ9 hw => ?_)
    refine j_Vv (As := [.int r10]) 49 hC (m_X10_number 3 hw) kX10_190 (k_95) (by decide) ⟨_, _, rfl⟩ (rmN_ok (by decide) (by decide)) rfl rfl (Nat.le_of_ble_eq_true rfl) (dg DX10_describe 29 rfl) (fun σ11 hw => ?_)
    refine j_aload_n 52 hC 0 (dg DX10_describe 30 rfl) rfl rfl ?_
    refine j_bipush 53 hC (dg DX10_describe 31 rfl) (v := 62) (by decide) ?_
    refine j_Vv (As := [.int 62]) 55 hC (m_X10_puts  hw) kX10_194 (k_95) (by decide) ⟨_, _, rfl⟩ (rmN_ok (by decide) (by decide)) rfl rfl (Nat.le_of_ble_eq_true rfl) (dg DX10_describe 32 rfl) (fun σ12 hw => ?_)
    refine j_aload_n 58 hC 0 (dg DX10_describe 33 rfl) rfl rfl ?_
    refine j_aload_n 59 hC 0 (dg DX10_describe 34 rfl) rfl rfl ?_
    refine j_iload_n 60 hC 1 (dg DX10_describe 35 rfl) rfl rfl ?_
    refine j_iconst 61 hC (dg DX10_describe 36 rfl) (v := 2) (by decide) ?_
    refine j_Vi (As := [.int p1, .int 2]) 62 hC (m_X10_of  hw) kX10_55 (k_95) (by decide) ⟨_, _, rfl⟩ (rmN_ok (by decide) (by decide)) rfl rfl (Nat.le_of_ble_eq_true rfl) (dg DX10_describe 37 rfl) (fun r14 σ13 hw => ?_)
    refine j_Vv (As := [.int r14]) 65 hC (m_X10_number 3 hw) kX10_190 (k_95) (by decide) ⟨_, _, rfl⟩ (rmN_ok (by decide) (by decide)) rfl rfl (Nat.le_of_ble_eq_true rfl) (dg DX10_describe 38 rfl) (fun σ15 hw => ?_)
    refine j_aload_n 68 hC 0 (dg DX10_describe 39 rfl) rfl rfl ?_
    refine j_iload_n 69 hC 1 (dg DX10_describe 40 rfl) rfl rfl ?_
    refine j_iconst 70 hC (dg DX10_describe 41 rfl) (v := 4) (by decide) ?_
    refine j_Vi (As := [.int p1, .int 4]) 71 hC (m_X10_of  hw) kX10_55 (k_95) (by decide) ⟨_, _, rfl⟩ (rmN_ok (by decide) (by decide)) rfl rfl (Nat.le_of_ble_eq_true rfl) (dg DX10_describe 42 rfl) (fun r17 σ16 hw => ?_)
    refine j_if_le 74 109 hC (dg DX10_describe 43 rfl) (by decide) (fun hbr => ?_) (fun hbr => ?_)
    · replace hw := hw.1 hbr
      refine j_aload_n 109 hC 0 (dg DX10_describe 62 rfl) rfl rfl ?_
      refine j_iload_n 110 hC 1 (dg DX10_describe 63 rfl) rfl rfl ?_
      refine j_Vi (As := [.int p1]) 111 hC (m_X10_isManned  hw) kX10_69 (k_95) (by decide) ⟨_, _, rfl⟩ (rmN_ok (by decide) (by decide)) rfl rfl (Nat.le_of_ble_eq_true rfl) (dg DX10_describe 64 rfl) (fun r19 σ18 hw => ?_)
      refine j_if_eq 114 123 hC (dg DX10_describe 65 rfl) (by decide) (fun hbr => ?_) (fun hbr => ?_)
      · replace hw := hw.1 hbr
        refine j_aload_n 123 hC 0 (dg DX10_describe 69 rfl) rfl rfl ?_
        refine j_getI 124 hC fX10_187 (k_95) (by decide) (by decide) rfl (dg DX10_describe 70 rfl) ?_
        exact hR 127 _ _ _ (dg DX10_describe 71 rfl) hw
      · replace hw := hw.2 hbr
        refine j_aload_n 117 hC 0 (dg DX10_describe 66 rfl) rfl rfl ?_
        refine j_bipush 118 hC (dg DX10_describe 67 rfl) (v := 42) (by decide) ?_
        refine j_Vv (As := [.int 42]) 120 hC (m_X10_puts  hw) kX10_194 (k_95) (by decide) ⟨_, _, rfl⟩ (rmN_ok (by decide) (by decide)) rfl rfl (Nat.le_of_ble_eq_true rfl) (dg DX10_describe 68 rfl) (fun σ20 hw => ?_)
        refine j_aload_n 123 hC 0 (dg DX10_describe 69 rfl) rfl rfl ?_
        refine j_getI 124 hC fX10_187 (k_95) (by decide) (by decide) rfl (dg DX10_describe 70 rfl) ?_
        exact hR 127 _ _ _ (dg DX10_describe 71 rfl) hw
    · replace hw := hw.2 hbr
      refine j_aload_n 77 hC 0 (dg DX10_describe 44 rfl) rfl rfl ?_
      refine j_bipush 78 hC (dg DX10_describe 45 rfl) (v := 33) (by decide) ?_
      refine j_Vv (As := [.int 33]) 80 hC (m_X10_puts  hw) kX10_194 (k_95) (by decide) ⟨_, _, rfl⟩ (rmN_ok (by decide) (by decide)) rfl rfl (Nat.le_of_ble_eq_true rfl) (dg DX10_describe 46 rfl) (fun σ21 hw => ?_)
      refine j_aload_n 83 hC 0 (dg DX10_describe 47 rfl) rfl rfl ?_
      refine j_aload_n 84 hC 0 (dg DX10_describe 48 rfl) rfl rfl ?_
      refine j_iload_n 85 hC 1 (dg DX10_describe 49 rfl) rfl rfl ?_
      refine j_iconst 86 hC (dg DX10_describe 50 rfl) (v := 3) (by decide) ?_
      refine j_Vi (As := [.int p1, .int 3]) 87 hC (m_X10_of  hw) kX10_55 (k_95) (by decide) ⟨_, _, rfl⟩ (rmN_ok (by decide) (by decide)) rfl rfl (Nat.le_of_ble_eq_true rfl) (dg DX10_describe 51 rfl) (fun r23 σ22 hw => ?_)
      refine j_Vv (As := [.int r23]) 90 hC (m_X10_number 3 hw) kX10_190 (k_95) (by decide) ⟨_, _, rfl⟩ (rmN_ok (by decide) (by decide)) rfl rfl (Nat.le_of_ble_eq_true rfl) (dg DX10_describe 52 rfl) (fun σ24 hw => ?_)
      refine j_aload_n 93 hC 0 (dg DX10_describe 53 rfl) rfl rfl ?_
      refine j_bipush 94 hC (dg DX10_describe 54 rfl) (v := 43) (by decide) ?_
      refine j_Vv (As := [.int 43]) 96 hC (m_X10_puts  hw) kX10_194 (k_95) (by decide) ⟨_, _, rfl⟩ (rmN_ok (by decide) (by decide)) rfl rfl (Nat.le_of_ble_eq_true rfl) (dg DX10_describe 55 rfl) (fun σ25 hw => ?_)
      refine j_aload_n 99 hC 0 (dg DX10_describe 56 rfl) rfl rfl ?_
      refine j_aload_n 100 hC 0 (dg DX10_describe 57 rfl) rfl rfl ?_
      refine j_iload_n 101 hC 1 (dg DX10_describe 58 rfl) rfl rfl ?_
      refine j_iconst 102 hC (dg DX10_describe 59 rfl) (v := 4) (by decide) ?_
      refine j_Vi (As := [.int p1, .int 4]) 103 hC (m_X10_of  hw) kX10_55 (k_95) (by decide) ⟨_, _, rfl⟩ (rmN_ok (by decide) (by decide)) rfl rfl (Nat.le_of_ble_eq_true rfl) (dg DX10_describe 60 rfl) (fun r27 σ26 hw => ?_)
      refine j_Vv (As := [.int r27]) 106 hC (m_X10_number 3 hw) kX10_190 (k_95) (by decide) ⟨_, _, rfl⟩ (rmN_ok (by decide) (by decide)) rfl rfl (Nat.le_of_ble_eq_true rfl) (dg DX10_describe 61 rfl) (fun σ28 hw => ?_)
      refine j_aload_n 109 hC 0 (dg DX10_describe 62 rfl) rfl rfl ?_
      refine j_iload_n 110 hC 1 (dg DX10_describe 63 rfl) rfl rfl ?_
      refine j_Vi (As := [.int p1]) 111 hC (m_X10_isManned  hw) kX10_69 (k_95) (by decide) ⟨_, _, rfl⟩ (rmN_ok (by decide) (by decide)) rfl rfl (Nat.le_of_ble_eq_true rfl) (dg DX10_describe 64 rfl) (fun r30 σ29 hw => ?_)
      refine j_if_eq 114 123 hC (dg DX10_describe 65 rfl) (by decide) (fun hbr => ?_) (fun hbr => ?_)
      · replace hw := hw.1 hbr
        refine j_aload_n 123 hC 0 (dg DX10_describe 69 rfl) rfl rfl ?_
        refine j_getI 124 hC fX10_187 (k_95) (by decide) (by decide) rfl (dg DX10_describe 70 rfl) ?_
        exact hR 127 _ _ _ (dg DX10_describe 71 rfl) hw
      · replace hw := hw.2 hbr
        refine j_aload_n 117 hC 0 (dg DX10_describe 66 rfl) rfl rfl ?_
        refine j_bipush 118 hC (dg DX10_describe 67 rfl) (v := 42) (by decide) ?_
        refine j_Vv (As := [.int 42]) 120 hC (m_X10_puts  hw) kX10_194 (k_95) (by decide) ⟨_, _, rfl⟩ (rmN_ok (by decide) (by decide)) rfl rfl (Nat.le_of_ble_eq_true rfl) (dg DX10_describe 68 rfl) (fun σ31 hw => ?_)
        refine j_aload_n 123 hC 0 (dg DX10_describe 69 rfl) rfl rfl ?_
        refine j_getI 124 hC fX10_187 (k_95) (by decide) (by decide) rfl (dg DX10_describe 70 rfl) ?_
        exact hR 127 _ _ _ (dg DX10_describe 71 rfl) hw
  · replace hw := hw.1 hbr
    refine j_iconst 8 hC (dg DX10_describe 4 rfl) (v := (-1)) (by decide) ?_
    exact hR 9 _ _ _ (dg DX10_describe 5 rfl) hw
theorem m_X10_describe {B : Nat} {σ : SS} {p1 : Int32} {Q : Int32 → SS → Prop} (hw : wp_X10_describe  σ p1 Q) : MI yX10_describe cX10_describe 2 (some .int) 5 105 B 103 RS [.ref (B + 95), .int p1] σ Q := MI.mk (plainFor_of_name (by decide)) (Nat.le_of_ble_eq_true rfl) (fun X hC hR => t_X10_describe hC  hR hw)
