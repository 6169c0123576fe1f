-- FortressWatchLaw.should
def wp_L_should  (σ : SS) (p1 : Int32) (p2 : Int32) (Q : Int32 → SS → Prop) : Prop :=
  wp_X9_account σ 7 (fun r2 σ1 =>
    ((6 ≤ r2 →
        wp_X9_postOf σ1 p1 0 (fun r4 σ3 =>
          ∀ x5 : Int32, x5 = ((p2 - r4) + 24) - ((p2 - r4) + 24) / 24 * 24 →
          wp_X9_postOf σ3 p1 0 (fun r7 σ6 =>
            ∀ x8 : Int32, x8 = ((r7 - p2) + 24) - ((r7 - p2) + 24) / 24 * 24 →
            wp_X9_postOf σ6 p1 0 (fun r10 σ9 =>
              ((p2 = r10 →
                  wp_X9_postOf σ9 p1 3 (fun r12 σ11 =>
                    ((r12 < 0 →
                        Q 1 σ11) ∧
                      (¬ r12 < 0 →
                        wp_X9_postOf σ11 p1 4 (fun r14 σ13 =>
                          (((((p2 - r12) + 24) - ((p2 - r12) + 24) / 24 * 24) < r14 →
                              Q 0 σ13) ∧
                            (¬ (((p2 - r12) + 24) - ((p2 - r12) + 24) / 24 * 24) < r14 →
                              Q 1 σ13))))))) ∧
                (¬ p2 = r10 →
                  wp_X9_postOf σ9 p1 2 (fun r16 σ15 =>
                    ((x5 ≤ (r16 - ((r2 - 4) / 2)) →
                        wp_X9_postOf σ15 p1 3 (fun r18 σ17 =>
                          ((r18 < 0 →
                              Q 1 σ17) ∧
                            (¬ r18 < 0 →
                              wp_X9_postOf σ17 p1 4 (fun r20 σ19 =>
                                (((((p2 - r18) + 24) - ((p2 - r18) + 24) / 24 * 24) < r20 →
                                    Q 0 σ19) ∧
                                  (¬ (((p2 - r18) + 24) - ((p2 - r18) + 24) / 24 * 24) < r20 →
                                    Q 1 σ19))))))) ∧
                      (¬ x5 ≤ (r16 - ((r2 - 4) / 2)) →
                        wp_X9_postOf σ15 p1 1 (fun r22 σ21 =>
                          (((r22 - ((r2 - 4) / 2)) < x8 →
                              wp_X9_postOf σ21 p1 3 (fun r24 σ23 =>
                                Q 0 σ23)) ∧
                            (¬ (r22 - ((r2 - 4) / 2)) < x8 →
                              wp_X9_postOf σ21 p1 3 (fun r26 σ25 =>
                                ((r26 < 0 →
                                    Q 1 σ25) ∧
                                  (¬ r26 < 0 →
                                    wp_X9_postOf σ25 p1 4 (fun r28 σ27 =>
                                      (((((p2 - r26) + 24) - ((p2 - r26) + 24) / 24 * 24) < r28 →
                                          Q 0 σ27) ∧
                                        (¬ (((p2 - r26) + 24) - ((p2 - r26) + 24) / 24 * 24) < r28 →
                                          Q 1 σ27)))))))))))))))))) ∧
      (¬ 6 ≤ r2 →
        wp_X9_postOf σ1 p1 0 (fun r30 σ29 =>
          ∀ x31 : Int32, x31 = ((p2 - r30) + 24) - ((p2 - r30) + 24) / 24 * 24 →
          wp_X9_postOf σ29 p1 0 (fun r33 σ32 =>
            ∀ x34 : Int32, x34 = ((r33 - p2) + 24) - ((r33 - p2) + 24) / 24 * 24 →
            wp_X9_postOf σ32 p1 0 (fun r36 σ35 =>
              ((p2 = r36 →
                  wp_X9_postOf σ35 p1 3 (fun r38 σ37 =>
                    ((r38 < 0 →
                        Q 1 σ37) ∧
                      (¬ r38 < 0 →
                        wp_X9_postOf σ37 p1 4 (fun r40 σ39 =>
                          (((((p2 - r38) + 24) - ((p2 - r38) + 24) / 24 * 24) < r40 →
                              Q 0 σ39) ∧
                            (¬ (((p2 - r38) + 24) - ((p2 - r38) + 24) / 24 * 24) < r40 →
                              Q 1 σ39))))))) ∧
                (¬ p2 = r36 →
                  wp_X9_postOf σ35 p1 2 (fun r42 σ41 =>
                    ((x31 ≤ (r42 - 0) →
                        wp_X9_postOf σ41 p1 3 (fun r44 σ43 =>
                          ((r44 < 0 →
                              Q 1 σ43) ∧
                            (¬ r44 < 0 →
                              wp_X9_postOf σ43 p1 4 (fun r46 σ45 =>
                                (((((p2 - r44) + 24) - ((p2 - r44) + 24) / 24 * 24) < r46 →
                                    Q 0 σ45) ∧
                                  (¬ (((p2 - r44) + 24) - ((p2 - r44) + 24) / 24 * 24) < r46 →
                                    Q 1 σ45))))))) ∧
                      (¬ x31 ≤ (r42 - 0) →
                        wp_X9_postOf σ41 p1 1 (fun r48 σ47 =>
                          (((r48 - 0) < x34 →
                              wp_X9_postOf σ47 p1 3 (fun r50 σ49 =>
                                Q 0 σ49)) ∧
                            (¬ (r48 - 0) < x34 →
                              wp_X9_postOf σ47 p1 3 (fun r52 σ51 =>
                                ((r52 < 0 →
                                    Q 1 σ51) ∧
                                  (¬ r52 < 0 →
                                    wp_X9_postOf σ51 p1 4 (fun r54 σ53 =>
                                      (((((p2 - r52) + 24) - ((p2 - r52) + 24) / 24 * 24) < r54 →
                                          Q 0 σ53) ∧
                                        (¬ (((p2 - r52) + 24) - ((p2 - r52) + 24) / 24 * 24) < r54 →
                                          Q 1 σ53))))))))))))))))))))
set_option maxRecDepth 100000 in
set_option maxHeartbeats 4000000 in
theorem t_L_should {X : XT} {B : Nat} (hC : Cx X 9 cL_should RL (rmN 5 133)) {Q : Int32 → SS → Prop} (hR : RtZ X 9 B 95 RS cL_should Q) {σ : SS} {p1 : Int32} {p2 : Int32} (hw : wp_L_should  σ p1 p2 Q) : J X 9 B 95 RS 0 0 σ [(0, .ref (B + 0)), (1, .int p1), (2, .int p2)] 0 [] := by
  unfold wp_L_should at hw
  refine j_aload_n 0 hC 0 (dg DL_should 0 rfl) rfl rfl ?_
  refine j_bipush 1 hC (dg DL_should 1 rfl) (v := 7) (by decide) ?_
  refine j_Vi (As := [.int 7]) 3 hC (m_X9_account  hw) kL_96 (k_0) (by decide) ⟨_, _, rfl⟩ (rmN_ok (by decide) (by decide)) rfl rfl (Nat.le_of_ble_eq_true rfl) (dg DL_should 2 rfl) (fun r2 σ1 hw => ?_)
  refine j_istore_n 6 hC [(3, .int r2), (0, .ref (B + 0)), (1, .int p1), (2, .int p2)] (dg DL_should 3 rfl) rfl (by decide) rfl ?_
  refine j_iload_n 7 hC 0 (dg DL_should 4 rfl) rfl rfl ?_
  refine j_bipush 8 hC (dg DL_should 5 rfl) (v := 6) (by decide) ?_
  refine j_icmp_ge 10 17 hC (dg DL_should 6 rfl) (by decide) (fun hbr => ?_) (fun hbr => ?_)
  · replace hw := hw.1 hbr
    refine j_iload_n 17 hC 0 (dg DL_should 9 rfl) rfl rfl ?_
    refine j_iconst 18 hC (dg DL_should 10 rfl) (v := 4) (by decide) ?_
    refine j_isub 19 hC (dg DL_should 11 rfl) ?_
    refine j_iconst 20 hC (dg DL_should 12 rfl) (v := 2) (by decide) ?_
    refine j_idiv 21 hC (dg DL_should 13 rfl) (by decide) ?_
    refine j_istore 22 hC [(4, .int ((r2 - 4) / 2)), (3, .int r2), (0, .ref (B + 0)), (1, .int p1), (2, .int p2)] (dg DL_should 14 rfl) (by decide) rfl ?_
    refine j_iload_n 24 hC 4 (dg DL_should 15 rfl) rfl rfl ?_
    refine j_aload_n 25 hC 2 (dg DL_should 16 rfl) rfl rfl ?_
    refine j_iload_n 26 hC 3 (dg DL_should 17 rfl) rfl rfl ?_
    refine j_iconst 27 hC (dg DL_should 18 rfl) (v := 0) (by decide) ?_
    refine j_Vi (As := [.int p1, .int 0]) 28 hC (m_X9_postOf  hw) kL_99 (k_0) (by decide) ⟨_, _, rfl⟩ (rmN_ok (by decide) (by decide)) rfl rfl (Nat.le_of_ble_eq_true rfl) (dg DL_should 19 rfl) (fun r4 σ3 hw => ?_)
    refine j_isub 31 hC (dg DL_should 20 rfl) ?_
    refine j_bipush 32 hC (dg DL_should 21 rfl) (v := 24) (by decide) ?_
    refine j_iadd 34 hC (dg DL_should 22 rfl) ?_
    refine j_bipush 35 hC (dg DL_should 23 rfl) (v := 24) (by decide) ?_
    refine j_irem 37 hC (dg DL_should 24 rfl) (by decide) ?_
    refine j_top (fun x5 ex => ?_)
    replace hw := hw _ ex
    refine j_istore 38 hC [(5, .int x5), (4, .int ((r2 - 4) / 2)), (3, .int r2), (0, .ref (B + 0)), (1, .int p1), (2, .int p2)] (dg DL_should 25 rfl) (by decide) rfl ?_
    refine j_aload_n 40 hC 3 (dg DL_should 26 rfl) rfl rfl ?_
    refine j_iload_n 41 hC 4 (dg DL_should 27 rfl) rfl rfl ?_
    refine j_iconst 42 hC (dg DL_should 28 rfl) (v := 0) (by decide) ?_
    refine j_Vi (As := [.int p1, .int 0]) 43 hC (m_X9_postOf  hw) kL_99 (k_0) (by decide) ⟨_, _, rfl⟩ (rmN_ok (by decide) (by decide)) rfl rfl (Nat.le_of_ble_eq_true rfl) (dg DL_should 29 rfl) (fun r7 σ6 hw => ?_)
    refine j_iload_n 46 hC 5 (dg DL_should 30 rfl) rfl rfl ?_
    refine j_isub 47 hC (dg DL_should 31 rfl) ?_
    refine j_bipush 48 hC (dg DL_should 32 rfl) (v := 24) (by decide) ?_
    refine j_iadd 50 hC (dg DL_should 33 rfl) ?_
    refine j_bipush 51 hC (dg DL_should 34 rfl) (v := 24) (by decide) ?_
    refine j_irem 53 hC (dg DL_should 35 rfl) (by decide) ?_
    refine j_top (fun x8 ex => ?_)
    replace hw := hw _ ex
    refine j_istore 54 hC [(6, .int x8), (5, .int x5), (4, .int ((r2 - 4) / 2)), (3, .int r2), (0, .ref (B + 0)), (1, .int p1), (2, .int p2)] (dg DL_should 36 rfl) (by decide) rfl ?_
    refine j_iload_n 56 hC 6 (dg DL_should 37 rfl) rfl rfl ?_
    refine j_aload_n 57 hC 4 (dg DL_should 38 rfl) rfl rfl ?_
    refine j_iload_n 58 hC 5 (dg DL_should 39 rfl) rfl rfl ?_
    refine j_iconst 59 hC (dg DL_should 40 rfl) (v := 0) (by decide) ?_
    refine j_Vi (As := [.int p1, .int 0]) 60 hC (m_X9_postOf  hw) kL_99 (k_0) (by decide) ⟨_, _, rfl⟩ (rmN_ok (by decide) (by decide)) rfl rfl (Nat.le_of_ble_eq_true rfl) (dg DL_should 41 rfl) (fun r10 σ9 hw => ?_)
    refine j_icmp_eq 63 94 hC (dg DL_should 42 rfl) (by decide) (fun hbr => ?_) (fun hbr => ?_)
    · replace hw := hw.1 hbr
      refine j_iconst 94 hC (dg DL_should 59 rfl) (v := 1) (by decide) ?_
      refine j_goto 95 99 hC (dg DL_should 60 rfl) (by decide) ?_
      refine j_istore 99 hC [(7, .int 1), (6, .int x8), (5, .int x5), (4, .int ((r2 - 4) / 2)), (3, .int r2), (0, .ref (B + 0)), (1, .int p1), (2, .int p2)] (dg DL_should 62 rfl) (by decide) rfl ?_
      refine j_aload_n 101 hC 5 (dg DL_should 63 rfl) rfl rfl ?_
      refine j_iload_n 102 hC 6 (dg DL_should 64 rfl) rfl rfl ?_
      refine j_iconst 103 hC (dg DL_should 65 rfl) (v := 3) (by decide) ?_
      refine j_Vi (As := [.int p1, .int 3]) 104 hC (m_X9_postOf  hw) kL_99 (k_0) (by decide) ⟨_, _, rfl⟩ (rmN_ok (by decide) (by decide)) rfl rfl (Nat.le_of_ble_eq_true rfl) (dg DL_should 66 rfl) (fun r12 σ11 hw => ?_)
      refine j_istore 107 hC [(8, .int r12), (7, .int 1), (6, .int x8), (5, .int x5), (4, .int ((r2 - 4) / 2)), (3, .int r2), (0, .ref (B + 0)), (1, .int p1), (2, .int p2)] (dg DL_should 67 rfl) (by decide) rfl ?_
      refine j_iload 109 hC 1 (dg DL_should 68 rfl) rfl ?_
      refine j_if_eq 111 142 hC (dg DL_should 69 rfl) (by decide) (fun c => absurd c (by decide)) (fun _ => ?_)
      refine j_iload 114 hC 0 (dg DL_should 70 rfl) rfl ?_
      refine j_if_lt 116 138 hC (dg DL_should 71 rfl) (by decide) (fun hbr => ?_) (fun hbr => ?_)
      · replace hw := hw.1 hbr
        refine j_iconst 138 hC (dg DL_should 84 rfl) (v := 1) (by decide) ?_
        refine j_goto 139 143 hC (dg DL_should 85 rfl) (by decide) ?_
        exact hR 143 _ _ _ (dg DL_should 87 rfl) ⟨by decide, hw⟩
      · replace hw := hw.2 hbr
        refine j_iload_n 119 hC 8 (dg DL_should 72 rfl) rfl rfl ?_
        refine j_iload 120 hC 0 (dg DL_should 73 rfl) rfl ?_
        refine j_isub 122 hC (dg DL_should 74 rfl) ?_
        refine j_bipush 123 hC (dg DL_should 75 rfl) (v := 24) (by decide) ?_
        refine j_iadd 125 hC (dg DL_should 76 rfl) ?_
        refine j_bipush 126 hC (dg DL_should 77 rfl) (v := 24) (by decide) ?_
        refine j_irem 128 hC (dg DL_should 78 rfl) (by decide) ?_
        refine j_aload_n 129 hC 6 (dg DL_should 79 rfl) rfl rfl ?_
        refine j_iload_n 130 hC 7 (dg DL_should 80 rfl) rfl rfl ?_
        refine j_iconst 131 hC (dg DL_should 81 rfl) (v := 4) (by decide) ?_
        refine j_Vi (As := [.int p1, .int 4]) 132 hC (m_X9_postOf  hw) kL_99 (k_0) (by decide) ⟨_, _, rfl⟩ (rmN_ok (by decide) (by decide)) rfl rfl (Nat.le_of_ble_eq_true rfl) (dg DL_should 82 rfl) (fun r14 σ13 hw => ?_)
        refine j_icmp_lt 135 142 hC (dg DL_should 83 rfl) (by decide) (fun hbr => ?_) (fun hbr => ?_)
        · replace hw := hw.1 hbr
          refine j_iconst 142 hC (dg DL_should 86 rfl) (v := 0) (by decide) ?_
          exact hR 143 _ _ _ (dg DL_should 87 rfl) ⟨by decide, hw⟩
        · replace hw := hw.2 hbr
          refine j_iconst 138 hC (dg DL_should 84 rfl) (v := 1) (by decide) ?_
          refine j_goto 139 143 hC (dg DL_should 85 rfl) (by decide) ?_
          exact hR 143 _ _ _ (dg DL_should 87 rfl) ⟨by decide, hw⟩
    · replace hw := hw.2 hbr
      refine j_iload 66 hC 1 (dg DL_should 43 rfl) rfl ?_
      refine j_aload_n 68 hC 4 (dg DL_should 44 rfl) rfl rfl ?_
      refine j_iload_n 69 hC 5 (dg DL_should 45 rfl) rfl rfl ?_
      refine j_iconst 70 hC (dg DL_should 46 rfl) (v := 2) (by decide) ?_
      refine j_Vi (As := [.int p1, .int 2]) 71 hC (m_X9_postOf  hw) kL_99 (k_0) (by decide) ⟨_, _, rfl⟩ (rmN_ok (by decide) (by decide)) rfl rfl (Nat.le_of_ble_eq_true rfl) (dg DL_should 47 rfl) (fun r16 σ15 hw => ?_)
      refine j_iload 74 hC 2 (dg DL_should 48 rfl) rfl ?_
      refine j_isub 76 hC (dg DL_should 49 rfl) ?_
      refine j_icmp_le 77 94 hC (dg DL_should 50 rfl) (by decide) (fun hbr => ?_) (fun hbr => ?_)
      · replace hw := hw.1 hbr
        refine j_iconst 94 hC (dg DL_should 59 rfl) (v := 1) (by decide) ?_
        refine j_goto 95 99 hC (dg DL_should 60 rfl) (by decide) ?_
        refine j_istore 99 hC [(7, .int 1), (6, .int x8), (5, .int x5), (4, .int ((r2 - 4) / 2)), (3, .int r2), (0, .ref (B + 0)), (1, .int p1), (2, .int p2)] (dg DL_should 62 rfl) (by decide) rfl ?_
        refine j_aload_n 101 hC 5 (dg DL_should 63 rfl) rfl rfl ?_
        refine j_iload_n 102 hC 6 (dg DL_should 64 rfl) rfl rfl ?_
        refine j_iconst 103 hC (dg DL_should 65 rfl) (v := 3) (by decide) ?_
        refine j_Vi (As := [.int p1, .int 3]) 104 hC (m_X9_postOf  hw) kL_99 (k_0) (by decide) ⟨_, _, rfl⟩ (rmN_ok (by decide) (by decide)) rfl rfl (Nat.le_of_ble_eq_true rfl) (dg DL_should 66 rfl) (fun r18 σ17 hw => ?_)
        refine j_istore 107 hC [(8, .int r18), (7, .int 1), (6, .int x8), (5, .int x5), (4, .int ((r2 - 4) / 2)), (3, .int r2), (0, .ref (B + 0)), (1, .int p1), (2, .int p2)] (dg DL_should 67 rfl) (by decide) rfl ?_
        refine j_iload 109 hC 1 (dg DL_should 68 rfl) rfl ?_
        refine j_if_eq 111 142 hC (dg DL_should 69 rfl) (by decide) (fun c => absurd c (by decide)) (fun _ => ?_)
        refine j_iload 114 hC 0 (dg DL_should 70 rfl) rfl ?_
        refine j_if_lt 116 138 hC (dg DL_should 71 rfl) (by decide) (fun hbr => ?_) (fun hbr => ?_)
        · replace hw := hw.1 hbr
          refine j_iconst 138 hC (dg DL_should 84 rfl) (v := 1) (by decide) ?_
          refine j_goto 139 143 hC (dg DL_should 85 rfl) (by decide) ?_
          exact hR 143 _ _ _ (dg DL_should 87 rfl) ⟨by decide, hw⟩
        · replace hw := hw.2 hbr
          refine j_iload_n 119 hC 8 (dg DL_should 72 rfl) rfl rfl ?_
          refine j_iload 120 hC 0 (dg DL_should 73 rfl) rfl ?_
          refine j_isub 122 hC (dg DL_should 74 rfl) ?_
          refine j_bipush 123 hC (dg DL_should 75 rfl) (v := 24) (by decide) ?_
          refine j_iadd 125 hC (dg DL_should 76 rfl) ?_
          refine j_bipush 126 hC (dg DL_should 77 rfl) (v := 24) (by decide) ?_
          refine j_irem 128 hC (dg DL_should 78 rfl) (by decide) ?_
          refine j_aload_n 129 hC 6 (dg DL_should 79 rfl) rfl rfl ?_
          refine j_iload_n 130 hC 7 (dg DL_should 80 rfl) rfl rfl ?_
          refine j_iconst 131 hC (dg DL_should 81 rfl) (v := 4) (by decide) ?_
          refine j_Vi (As := [.int p1, .int 4]) 132 hC (m_X9_postOf  hw) kL_99 (k_0) (by decide) ⟨_, _, rfl⟩ (rmN_ok (by decide) (by decide)) rfl rfl (Nat.le_of_ble_eq_true rfl) (dg DL_should 82 rfl) (fun r20 σ19 hw => ?_)
          refine j_icmp_lt 135 142 hC (dg DL_should 83 rfl) (by decide) (fun hbr => ?_) (fun hbr => ?_)
          · replace hw := hw.1 hbr
            refine j_iconst 142 hC (dg DL_should 86 rfl) (v := 0) (by decide) ?_
            exact hR 143 _ _ _ (dg DL_should 87 rfl) ⟨by decide, hw⟩
          · replace hw := hw.2 hbr
            refine j_iconst 138 hC (dg DL_should 84 rfl) (v := 1) (by decide) ?_
            refine j_goto 139 143 hC (dg DL_should 85 rfl) (by decide) ?_
            exact hR 143 _ _ _ (dg DL_should 87 rfl) ⟨by decide, hw⟩
      · replace hw := hw.2 hbr
        refine j_iload 80 hC 0 (dg DL_should 51 rfl) rfl ?_
        refine j_aload_n 82 hC 4 (dg DL_should 52 rfl) rfl rfl ?_
        refine j_iload_n 83 hC 5 (dg DL_should 53 rfl) rfl rfl ?_
        refine j_iconst 84 hC (dg DL_should 54 rfl) (v := 1) (by decide) ?_
        refine j_Vi (As := [.int p1, .int 1]) 85 hC (m_X9_postOf  hw) kL_99 (k_0) (by decide) ⟨_, _, rfl⟩ (rmN_ok (by decide) (by decide)) rfl rfl (Nat.le_of_ble_eq_true rfl) (dg DL_should 55 rfl) (fun r22 σ21 hw => ?_)
        refine j_iload 88 hC 2 (dg DL_should 56 rfl) rfl ?_
        refine j_isub 90 hC (dg DL_should 57 rfl) ?_
        refine j_icmp_gt 91 98 hC (dg DL_should 58 rfl) (by decide) (fun hbr => ?_) (fun hbr => ?_)
        · replace hw := hw.1 hbr
          refine j_iconst 98 hC (dg DL_should 61 rfl) (v := 0) (by decide) ?_
          refine j_istore 99 hC [(7, .int 0), (6, .int x8), (5, .int x5), (4, .int ((r2 - 4) / 2)), (3, .int r2), (0, .ref (B + 0)), (1, .int p1), (2, .int p2)] (dg DL_should 62 rfl) (by decide) rfl ?_
          refine j_aload_n 101 hC 5 (dg DL_should 63 rfl) rfl rfl ?_
          refine j_iload_n 102 hC 6 (dg DL_should 64 rfl) rfl rfl ?_
          refine j_iconst 103 hC (dg DL_should 65 rfl) (v := 3) (by decide) ?_
          refine j_Vi (As := [.int p1, .int 3]) 104 hC (m_X9_postOf  hw) kL_99 (k_0) (by decide) ⟨_, _, rfl⟩ (rmN_ok (by decide) (by decide)) rfl rfl (Nat.le_of_ble_eq_true rfl) (dg DL_should 66 rfl) (fun r24 σ23 hw => ?_)
          refine j_istore 107 hC [(8, .int r24), (7, .int 0), (6, .int x8), (5, .int x5), (4, .int ((r2 - 4) / 2)), (3, .int r2), (0, .ref (B + 0)), (1, .int p1), (2, .int p2)] (dg DL_should 67 rfl) (by decide) rfl ?_
          refine j_iload 109 hC 1 (dg DL_should 68 rfl) rfl ?_
          refine j_if_eq 111 142 hC (dg DL_should 69 rfl) (by decide) (fun _ => ?_) (fun c => absurd c (by decide))
          refine j_iconst 142 hC (dg DL_should 86 rfl) (v := 0) (by decide) ?_
          exact hR 143 _ _ _ (dg DL_should 87 rfl) ⟨by decide, hw⟩
        · replace hw := hw.2 hbr
          refine j_iconst 94 hC (dg DL_should 59 rfl) (v := 1) (by decide) ?_
          refine j_goto 95 99 hC (dg DL_should 60 rfl) (by decide) ?_
          refine j_istore 99 hC [(7, .int 1), (6, .int x8), (5, .int x5), (4, .int ((r2 - 4) / 2)), (3, .int r2), (0, .ref (B + 0)), (1, .int p1), (2, .int p2)] (dg DL_should 62 rfl) (by decide) rfl ?_
          refine j_aload_n 101 hC 5 (dg DL_should 63 rfl) rfl rfl ?_
          refine j_iload_n 102 hC 6 (dg DL_should 64 rfl) rfl rfl ?_
          refine j_iconst 103 hC (dg DL_should 65 rfl) (v := 3) (by decide) ?_
          refine j_Vi (As := [.int p1, .int 3]) 104 hC (m_X9_postOf  hw) kL_99 (k_0) (by decide) ⟨_, _, rfl⟩ (rmN_ok (by decide) (by decide)) rfl rfl (Nat.le_of_ble_eq_true rfl) (dg DL_should 66 rfl) (fun r26 σ25 hw => ?_)
          refine j_istore 107 hC [(8, .int r26), (7, .int 1), (6, .int x8), (5, .int x5), (4, .int ((r2 - 4) / 2)), (3, .int r2), (0, .ref (B + 0)), (1, .int p1), (2, .int p2)] (dg DL_should 67 rfl) (by decide) rfl ?_
          refine j_iload 109 hC 1 (dg DL_should 68 rfl) rfl ?_
          refine j_if_eq 111 142 hC (dg DL_should 69 rfl) (by decide) (fun c => absurd c (by decide)) (fun _ => ?_)
          refine j_iload 114 hC 0 (dg DL_should 70 rfl) rfl ?_
          refine j_if_lt 116 138 hC (dg DL_should 71 rfl) (by decide) (fun hbr => ?_) (fun hbr => ?_)
          · replace hw := hw.1 hbr
            refine j_iconst 138 hC (dg DL_should 84 rfl) (v := 1) (by decide) ?_
            refine j_goto 139 143 hC (dg DL_should 85 rfl) (by decide) ?_
            exact hR 143 _ _ _ (dg DL_should 87 rfl) ⟨by decide, hw⟩
          · replace hw := hw.2 hbr
            refine j_iload_n 119 hC 8 (dg DL_should 72 rfl) rfl rfl ?_
            refine j_iload 120 hC 0 (dg DL_should 73 rfl) rfl ?_
            refine j_isub 122 hC (dg DL_should 74 rfl) ?_
            refine j_bipush 123 hC (dg DL_should 75 rfl) (v := 24) (by decide) ?_
            refine j_iadd 125 hC (dg DL_should 76 rfl) ?_
            refine j_bipush 126 hC (dg DL_should 77 rfl) (v := 24) (by decide) ?_
            refine j_irem 128 hC (dg DL_should 78 rfl) (by decide) ?_
            refine j_aload_n 129 hC 6 (dg DL_should 79 rfl) rfl rfl ?_
            refine j_iload_n 130 hC 7 (dg DL_should 80 rfl) rfl rfl ?_
            refine j_iconst 131 hC (dg DL_should 81 rfl) (v := 4) (by decide) ?_
            refine j_Vi (As := [.int p1, .int 4]) 132 hC (m_X9_postOf  hw) kL_99 (k_0) (by decide) ⟨_, _, rfl⟩ (rmN_ok (by decide) (by decide)) rfl rfl (Nat.le_of_ble_eq_true rfl) (dg DL_should 82 rfl) (fun r28 σ27 hw => ?_)
            refine j_icmp_lt 135 142 hC (dg DL_should 83 rfl) (by decide) (fun hbr => ?_) (fun hbr => ?_)
            · replace hw := hw.1 hbr
              refine j_iconst 142 hC (dg DL_should 86 rfl) (v := 0) (by decide) ?_
              exact hR 143 _ _ _ (dg DL_should 87 rfl) ⟨by decide, hw⟩
            · replace hw := hw.2 hbr
              refine j_iconst 138 hC (dg DL_should 84 rfl) (v := 1) (by decide) ?_
              refine j_goto 139 143 hC (dg DL_should 85 rfl) (by decide) ?_
              exact hR 143 _ _ _ (dg DL_should 87 rfl) ⟨by decide, hw⟩
  · replace hw := hw.2 hbr
    refine j_iconst 13 hC (dg DL_should 7 rfl) (v := 0) (by decide) ?_
    refine j_goto 14 22 hC (dg DL_should 8 rfl) (by decide) ?_
    refine j_istore 22 hC [(4, .int 0), (3, .int r2), (0, .ref (B + 0)), (1, .int p1), (2, .int p2)] (dg DL_should 14 rfl) (by decide) rfl ?_
    refine j_iload_n 24 hC 4 (dg DL_should 15 rfl) rfl rfl ?_
    refine j_aload_n 25 hC 2 (dg DL_should 16 rfl) rfl rfl ?_
    refine j_iload_n 26 hC 3 (dg DL_should 17 rfl) rfl rfl ?_
    refine j_iconst 27 hC (dg DL_should 18 rfl) (v := 0) (by decide) ?_
    refine j_Vi (As := [.int p1, .int 0]) 28 hC (m_X9_postOf  hw) kL_99 (k_0) (by decide) ⟨_, _, rfl⟩ (rmN_ok (by decide) (by decide)) rfl rfl (Nat.le_of_ble_eq_true rfl) (dg DL_should 19 rfl) (fun r30 σ29 hw => ?_)
    refine j_isub 31 hC (dg DL_should 20 rfl) ?_
    refine j_bipush 32 hC (dg DL_should 21 rfl) (v := 24) (by decide) ?_
    refine j_iadd 34 hC (dg DL_should 22 rfl) ?_
    refine j_bipush 35 hC (dg DL_should 23 rfl) (v := 24) (by decide) ?_
    refine j_irem 37 hC (dg DL_should 24 rfl) (by decide) ?_
    refine j_top (fun x31 ex => ?_)
    replace hw := hw _ ex
    refine j_istore 38 hC [(5, .int x31), (4, .int 0), (3, .int r2), (0, .ref (B + 0)), (1, .int p1), (2, .int p2)] (dg DL_should 25 rfl) (by decide) rfl ?_
    refine j_aload_n 40 hC 3 (dg DL_should 26 rfl) rfl rfl ?_
    refine j_iload_n 41 hC 4 (dg DL_should 27 rfl) rfl rfl ?_
    refine j_iconst 42 hC (dg DL_should 28 rfl) (v := 0) (by decide) ?_
    refine j_Vi (As := [.int p1, .int 0]) 43 hC (m_X9_postOf  hw) kL_99 (k_0) (by decide) ⟨_, _, rfl⟩ (rmN_ok (by decide) (by decide)) rfl rfl (Nat.le_of_ble_eq_true rfl) (dg DL_should 29 rfl) (fun r33 σ32 hw => ?_)
    refine j_iload_n 46 hC 5 (dg DL_should 30 rfl) rfl rfl ?_
    refine j_isub 47 hC (dg DL_should 31 rfl) ?_
    refine j_bipush 48 hC (dg DL_should 32 rfl) (v := 24) (by decide) ?_
    refine j_iadd 50 hC (dg DL_should 33 rfl) ?_
    refine j_bipush 51 hC (dg DL_should 34 rfl) (v := 24) (by decide) ?_
    refine j_irem 53 hC (dg DL_should 35 rfl) (by decide) ?_
    refine j_top (fun x34 ex => ?_)
    replace hw := hw _ ex
    refine j_istore 54 hC [(6, .int x34), (5, .int x31), (4, .int 0), (3, .int r2), (0, .ref (B + 0)), (1, .int p1), (2, .int p2)] (dg DL_should 36 rfl) (by decide) rfl ?_
    refine j_iload_n 56 hC 6 (dg DL_should 37 rfl) rfl rfl ?_
    refine j_aload_n 57 hC 4 (dg DL_should 38 rfl) rfl rfl ?_
    refine j_iload_n 58 hC 5 (dg DL_should 39 rfl) rfl rfl ?_
    refine j_iconst 59 hC (dg DL_should 40 rfl) (v := 0) (by decide) ?_
    refine j_Vi (As := [.int p1, .int 0]) 60 hC (m_X9_postOf  hw) kL_99 (k_0) (by decide) ⟨_, _, rfl⟩ (rmN_ok (by decide) (by decide)) rfl rfl (Nat.le_of_ble_eq_true rfl) (dg DL_should 41 rfl) (fun r36 σ35 hw => ?_)
    refine j_icmp_eq 63 94 hC (dg DL_should 42 rfl) (by decide) (fun hbr => ?_) (fun hbr => ?_)
    · replace hw := hw.1 hbr
      refine j_iconst 94 hC (dg DL_should 59 rfl) (v := 1) (by decide) ?_
      refine j_goto 95 99 hC (dg DL_should 60 rfl) (by decide) ?_
      refine j_istore 99 hC [(7, .int 1), (6, .int x34), (5, .int x31), (4, .int 0), (3, .int r2), (0, .ref (B + 0)), (1, .int p1), (2, .int p2)] (dg DL_should 62 rfl) (by decide) rfl ?_
      refine j_aload_n 101 hC 5 (dg DL_should 63 rfl) rfl rfl ?_
      refine j_iload_n 102 hC 6 (dg DL_should 64 rfl) rfl rfl ?_
      refine j_iconst 103 hC (dg DL_should 65 rfl) (v := 3) (by decide) ?_
      refine j_Vi (As := [.int p1, .int 3]) 104 hC (m_X9_postOf  hw) kL_99 (k_0) (by decide) ⟨_, _, rfl⟩ (rmN_ok (by decide) (by decide)) rfl rfl (Nat.le_of_ble_eq_true rfl) (dg DL_should 66 rfl) (fun r38 σ37 hw => ?_)
      refine j_istore 107 hC [(8, .int r38), (7, .int 1), (6, .int x34), (5, .int x31), (4, .int 0), (3, .int r2), (0, .ref (B + 0)), (1, .int p1), (2, .int p2)] (dg DL_should 67 rfl) (by decide) rfl ?_
      refine j_iload 109 hC 1 (dg DL_should 68 rfl) rfl ?_
      refine j_if_eq 111 142 hC (dg DL_should 69 rfl) (by decide) (fun c => absurd c (by decide)) (fun _ => ?_)
      refine j_iload 114 hC 0 (dg DL_should 70 rfl) rfl ?_
      refine j_if_lt 116 138 hC (dg DL_should 71 rfl) (by decide) (fun hbr => ?_) (fun hbr => ?_)
      · replace hw := hw.1 hbr
        refine j_iconst 138 hC (dg DL_should 84 rfl) (v := 1) (by decide) ?_
        refine j_goto 139 143 hC (dg DL_should 85 rfl) (by decide) ?_
        exact hR 143 _ _ _ (dg DL_should 87 rfl) ⟨by decide, hw⟩
      · replace hw := hw.2 hbr
        refine j_iload_n 119 hC 8 (dg DL_should 72 rfl) rfl rfl ?_
        refine j_iload 120 hC 0 (dg DL_should 73 rfl) rfl ?_
        refine j_isub 122 hC (dg DL_should 74 rfl) ?_
        refine j_bipush 123 hC (dg DL_should 75 rfl) (v := 24) (by decide) ?_
        refine j_iadd 125 hC (dg DL_should 76 rfl) ?_
        refine j_bipush 126 hC (dg DL_should 77 rfl) (v := 24) (by decide) ?_
        refine j_irem 128 hC (dg DL_should 78 rfl) (by decide) ?_
        refine j_aload_n 129 hC 6 (dg DL_should 79 rfl) rfl rfl ?_
        refine j_iload_n 130 hC 7 (dg DL_should 80 rfl) rfl rfl ?_
        refine j_iconst 131 hC (dg DL_should 81 rfl) (v := 4) (by decide) ?_
        refine j_Vi (As := [.int p1, .int 4]) 132 hC (m_X9_postOf  hw) kL_99 (k_0) (by decide) ⟨_, _, rfl⟩ (rmN_ok (by decide) (by decide)) rfl rfl (Nat.le_of_ble_eq_true rfl) (dg DL_should 82 rfl) (fun r40 σ39 hw => ?_)
        refine j_icmp_lt 135 142 hC (dg DL_should 83 rfl) (by decide) (fun hbr => ?_) (fun hbr => ?_)
        · replace hw := hw.1 hbr
          refine j_iconst 142 hC (dg DL_should 86 rfl) (v := 0) (by decide) ?_
          exact hR 143 _ _ _ (dg DL_should 87 rfl) ⟨by decide, hw⟩
        · replace hw := hw.2 hbr
          refine j_iconst 138 hC (dg DL_should 84 rfl) (v := 1) (by decide) ?_
          refine j_goto 139 143 hC (dg DL_should 85 rfl) (by decide) ?_
          exact hR 143 _ _ _ (dg DL_should 87 rfl) ⟨by decide, hw⟩
    · replace hw := hw.2 hbr
      refine j_iload 66 hC 1 (dg DL_should 43 rfl) rfl ?_
      refine j_aload_n 68 hC 4 (dg DL_should 44 rfl) rfl rfl ?_
      refine j_iload_n 69 hC 5 (dg DL_should 45 rfl) rfl rfl ?_
      refine j_iconst 70 hC (dg DL_should 46 rfl) (v := 2) (by decide) ?_
      refine j_Vi (As := [.int p1, .int 2]) 71 hC (m_X9_postOf  hw) kL_99 (k_0) (by decide) ⟨_, _, rfl⟩ (rmN_ok (by decide) (by decide)) rfl rfl (Nat.le_of_ble_eq_true rfl) (dg DL_should 47 rfl) (fun r42 σ41 hw => ?_)
      refine j_iload 74 hC 2 (dg DL_should 48 rfl) rfl ?_
      refine j_isub 76 hC (dg DL_should 49 rfl) ?_
      refine j_icmp_le 77 94 hC (dg DL_should 50 rfl) (by decide) (fun hbr => ?_) (fun hbr => ?_)
      · replace hw := hw.1 hbr
        refine j_iconst 94 hC (dg DL_should 59 rfl) (v := 1) (by decide) ?_
        refine j_goto 95 99 hC (dg DL_should 60 rfl) (by decide) ?_
        refine j_istore 99 hC [(7, .int 1), (6, .int x34), (5, .int x31), (4, .int 0), (3, .int r2), (0, .ref (B + 0)), (1, .int p1), (2, .int p2)] (dg DL_should 62 rfl) (by decide) rfl ?_
        refine j_aload_n 101 hC 5 (dg DL_should 63 rfl) rfl rfl ?_
        refine j_iload_n 102 hC 6 (dg DL_should 64 rfl) rfl rfl ?_
        refine j_iconst 103 hC (dg DL_should 65 rfl) (v := 3) (by decide) ?_
        refine j_Vi (As := [.int p1, .int 3]) 104 hC (m_X9_postOf  hw) kL_99 (k_0) (by decide) ⟨_, _, rfl⟩ (rmN_ok (by decide) (by decide)) rfl rfl (Nat.le_of_ble_eq_true rfl) (dg DL_should 66 rfl) (fun r44 σ43 hw => ?_)
        refine j_istore 107 hC [(8, .int r44), (7, .int 1), (6, .int x34), (5, .int x31), (4, .int 0), (3, .int r2), (0, .ref (B + 0)), (1, .int p1), (2, .int p2)] (dg DL_should 67 rfl) (by decide) rfl ?_
        refine j_iload 109 hC 1 (dg DL_should 68 rfl) rfl ?_
        refine j_if_eq 111 142 hC (dg DL_should 69 rfl) (by decide) (fun c => absurd c (by decide)) (fun _ => ?_)
        refine j_iload 114 hC 0 (dg DL_should 70 rfl) rfl ?_
        refine j_if_lt 116 138 hC (dg DL_should 71 rfl) (by decide) (fun hbr => ?_) (fun hbr => ?_)
        · replace hw := hw.1 hbr
          refine j_iconst 138 hC (dg DL_should 84 rfl) (v := 1) (by decide) ?_
          refine j_goto 139 143 hC (dg DL_should 85 rfl) (by decide) ?_
          exact hR 143 _ _ _ (dg DL_should 87 rfl) ⟨by decide, hw⟩
        · replace hw := hw.2 hbr
          refine j_iload_n 119 hC 8 (dg DL_should 72 rfl) rfl rfl ?_
          refine j_iload 120 hC 0 (dg DL_should 73 rfl) rfl ?_
          refine j_isub 122 hC (dg DL_should 74 rfl) ?_
          refine j_bipush 123 hC (dg DL_should 75 rfl) (v := 24) (by decide) ?_
          refine j_iadd 125 hC (dg DL_should 76 rfl) ?_
          refine j_bipush 126 hC (dg DL_should 77 rfl) (v := 24) (by decide) ?_
          refine j_irem 128 hC (dg DL_should 78 rfl) (by decide) ?_
          refine j_aload_n 129 hC 6 (dg DL_should 79 rfl) rfl rfl ?_
          refine j_iload_n 130 hC 7 (dg DL_should 80 rfl) rfl rfl ?_
          refine j_iconst 131 hC (dg DL_should 81 rfl) (v := 4) (by decide) ?_
          refine j_Vi (As := [.int p1, .int 4]) 132 hC (m_X9_postOf  hw) kL_99 (k_0) (by decide) ⟨_, _, rfl⟩ (rmN_ok (by decide) (by decide)) rfl rfl (Nat.le_of_ble_eq_true rfl) (dg DL_should 82 rfl) (fun r46 σ45 hw => ?_)
          refine j_icmp_lt 135 142 hC (dg DL_should 83 rfl) (by decide) (fun hbr => ?_) (fun hbr => ?_)
          · replace hw := hw.1 hbr
            refine j_iconst 142 hC (dg DL_should 86 rfl) (v := 0) (by decide) ?_
            exact hR 143 _ _ _ (dg DL_should 87 rfl) ⟨by decide, hw⟩
          · replace hw := hw.2 hbr
            refine j_iconst 138 hC (dg DL_should 84 rfl) (v := 1) (by decide) ?_
            refine j_goto 139 143 hC (dg DL_should 85 rfl) (by decide) ?_
            exact hR 143 _ _ _ (dg DL_should 87 rfl) ⟨by decide, hw⟩
      · replace hw := hw.2 hbr
        refine j_iload 80 hC 0 (dg DL_should 51 rfl) rfl ?_
        refine j_aload_n 82 hC 4 (dg DL_should 52 rfl) rfl rfl ?_
        refine j_iload_n 83 hC 5 (dg DL_should 53 rfl) rfl rfl ?_
        refine j_iconst 84 hC (dg DL_should 54 rfl) (v := 1) (by decide) ?_
        refine j_Vi (As := [.int p1, .int 1]) 85 hC (m_X9_postOf  hw) kL_99 (k_0) (by decide) ⟨_, _, rfl⟩ (rmN_ok (by decide) (by decide)) rfl rfl (Nat.le_of_ble_eq_true rfl) (dg DL_should 55 rfl) (fun r48 σ47 hw => ?_)
        refine j_iload 88 hC 2 (dg DL_should 56 rfl) rfl ?_
        refine j_isub 90 hC (dg DL_should 57 rfl) ?_
        refine j_icmp_gt 91 98 hC (dg DL_should 58 rfl) (by decide) (fun hbr => ?_) (fun hbr => ?_)
        · replace hw := hw.1 hbr
          refine j_iconst 98 hC (dg DL_should 61 rfl) (v := 0) (by decide) ?_
          refine j_istore 99 hC [(7, .int 0), (6, .int x34), (5, .int x31), (4, .int 0), (3, .int r2), (0, .ref (B + 0)), (1, .int p1), (2, .int p2)] (dg DL_should 62 rfl) (by decide) rfl ?_
          refine j_aload_n 101 hC 5 (dg DL_should 63 rfl) rfl rfl ?_
          refine j_iload_n 102 hC 6 (dg DL_should 64 rfl) rfl rfl ?_
          refine j_iconst 103 hC (dg DL_should 65 rfl) (v := 3) (by decide) ?_
          refine j_Vi (As := [.int p1, .int 3]) 104 hC (m_X9_postOf  hw) kL_99 (k_0) (by decide) ⟨_, _, rfl⟩ (rmN_ok (by decide) (by decide)) rfl rfl (Nat.le_of_ble_eq_true rfl) (dg DL_should 66 rfl) (fun r50 σ49 hw => ?_)
          refine j_istore 107 hC [(8, .int r50), (7, .int 0), (6, .int x34), (5, .int x31), (4, .int 0), (3, .int r2), (0, .ref (B + 0)), (1, .int p1), (2, .int p2)] (dg DL_should 67 rfl) (by decide) rfl ?_
          refine j_iload 109 hC 1 (dg DL_should 68 rfl) rfl ?_
          refine j_if_eq 111 142 hC (dg DL_should 69 rfl) (by decide) (fun _ => ?_) (fun c => absurd c (by decide))
          refine j_iconst 142 hC (dg DL_should 86 rfl) (v := 0) (by decide) ?_
          exact hR 143 _ _ _ (dg DL_should 87 rfl) ⟨by decide, hw⟩
        · replace hw := hw.2 hbr
          refine j_iconst 94 hC (dg DL_should 59 rfl) (v := 1) (by decide) ?_
          refine j_goto 95 99 hC (dg DL_should 60 rfl) (by decide) ?_
          refine j_istore 99 hC [(7, .int 1), (6, .int x34), (5, .int x31), (4, .int 0), (3, .int r2), (0, .ref (B + 0)), (1, .int p1), (2, .int p2)] (dg DL_should 62 rfl) (by decide) rfl ?_
          refine j_aload_n 101 hC 5 (dg DL_should 63 rfl) rfl rfl ?_
          refine j_iload_n 102 hC 6 (dg DL_should 64 rfl) rfl rfl ?_
          refine j_iconst 103 hC (dg DL_should 65 rfl) (v := 3) (by decide) ?_
          refine j_Vi (As := [.int p1, .int 3]) 104 hC (m_X9_postOf  hw) kL_99 (k_0) (by decide) ⟨_, _, rfl⟩ (rmN_ok (by decide) (by decide)) rfl rfl (Nat.le_of_ble_eq_true rfl) (dg DL_should 66 rfl) (fun r52 σ51 hw => ?_)
          refine j_istore 107 hC [(8, .int r52), (7, .int 1), (6, .int x34), (5, .int x31), (4, .int 0), (3, .int r2), (0, .ref (B + 0)), (1, .int p1), (2, .int p2)] (dg DL_should 67 rfl) (by decide) rfl ?_
          refine j_iload 109 hC 1 (dg DL_should 68 rfl) rfl ?_
          refine j_if_eq 111 142 hC (dg DL_should 69 rfl) (by decide) (fun c => absurd c (by decide)) (fun _ => ?_)
          refine j_iload 114 hC 0 (dg DL_should 70 rfl) rfl ?_
          refine j_if_lt 116 138 hC (dg DL_should 71 rfl) (by decide) (fun hbr => ?_) (fun hbr => ?_)
          · replace hw := hw.1 hbr
            refine j_iconst 138 hC (dg DL_should 84 rfl) (v := 1) (by decide) ?_
            refine j_goto 139 143 hC (dg DL_should 85 rfl) (by decide) ?_
            exact hR 143 _ _ _ (dg DL_should 87 rfl) ⟨by decide, hw⟩
          · replace hw := hw.2 hbr
            refine j_iload_n 119 hC 8 (dg DL_should 72 rfl) rfl rfl ?_
            refine j_iload 120 hC 0 (dg DL_should 73 rfl) rfl ?_
            refine j_isub 122 hC (dg DL_should 74 rfl) ?_
            refine j_bipush 123 hC (dg DL_should 75 rfl) (v := 24) (by decide) ?_
            refine j_iadd 125 hC (dg DL_should 76 rfl) ?_
            refine j_bipush 126 hC (dg DL_should 77 rfl) (v := 24) (by decide) ?_
            refine j_irem 128 hC (dg DL_should 78 rfl) (by decide) ?_
            refine j_aload_n 129 hC 6 (dg DL_should 79 rfl) rfl rfl ?_
            refine j_iload_n 130 hC 7 (dg DL_should 80 rfl) rfl rfl ?_
            refine j_iconst 131 hC (dg DL_should 81 rfl) (v := 4) (by decide) ?_
            refine j_Vi (As := [.int p1, .int 4]) 132 hC (m_X9_postOf  hw) kL_99 (k_0) (by decide) ⟨_, _, rfl⟩ (rmN_ok (by decide) (by decide)) rfl rfl (Nat.le_of_ble_eq_true rfl) (dg DL_should 82 rfl) (fun r54 σ53 hw => ?_)
            refine j_icmp_lt 135 142 hC (dg DL_should 83 rfl) (by decide) (fun hbr => ?_) (fun hbr => ?_)
            · replace hw := hw.1 hbr
              refine j_iconst 142 hC (dg DL_should 86 rfl) (v := 0) (by decide) ?_
              exact hR 143 _ _ _ (dg DL_should 87 rfl) ⟨by decide, hw⟩
            · replace hw := hw.2 hbr
              refine j_iconst 138 hC (dg DL_should 84 rfl) (v := 1) (by decide) ?_
              refine j_goto 139 143 hC (dg DL_should 85 rfl) (by decide) ?_
              exact hR 143 _ _ _ (dg DL_should 87 rfl) ⟨by decide, hw⟩
theorem m_L_should {B : Nat} {σ : SS} {p1 : Int32} {p2 : Int32} {Q : Int32 → SS → Prop} (hw : wp_L_should  σ p1 p2 Q) : MI yL_should cL_should 9 (some .boolean) 5 133 B 95 RS [.ref (B + 0), .int p1, .int p2] σ Q := MI.mkZ (plainFor_of_name (by decide)) (Nat.le_of_ble_eq_true rfl) (fun X hC hR => t_L_should hC  hR hw)
