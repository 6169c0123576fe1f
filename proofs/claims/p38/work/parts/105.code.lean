-- FortressWatch.tellReaches
def wp_X9_tellReaches  (σ : SS) (p1 : Int32) (p2 : Int32) (p3 : Int32) (Q : Int32 → SS → Prop) : Prop :=
  wp_X8_isPost 1 σ p1 (fun r2 σ1 =>
    ((r2 = 0 →
        Q (-1) σ1) ∧
      (¬ r2 = 0 →
        wp_X9_isReach σ1 p2 (fun r4 σ3 =>
          ((r4 = 0 →
              Q (-2) σ3) ∧
            (¬ r4 = 0 →
              wp_X9_isReach σ3 p3 (fun r6 σ5 =>
                ((r6 = 0 →
                    Q (-2) σ5) ∧
                  (¬ r6 = 0 →
                    vp_in p1 9 ∧
                    vp_in p1 9 ∧
                    (((σ5 3 p1.toNatClampNeg) = p2 →
                        (((σ5 4 p1.toNatClampNeg) = p3 →
                            wp_X9_refuse σ5 3 p2 (fun r10 σ9 =>
                              Q r10 σ9)) ∧
                          (¬ (σ5 4 p1.toNatClampNeg) = p3 →
                            vp_in p1 9 ∧
                            vp_in p1 9 ∧
                            ∀ σ8 : SS, σ8 = u2 (u2 σ5 3 p1.toNatClampNeg p2) 4 p1.toNatClampNeg p3 →
                            Q ((100 * (σ5 3 p1.toNatClampNeg)) + (σ5 4 p1.toNatClampNeg)) σ8))) ∧
                      (¬ (σ5 3 p1.toNatClampNeg) = p2 →
                        vp_in p1 9 ∧
                        vp_in p1 9 ∧
                        ∀ σ7 : SS, σ7 = u2 (u2 σ5 3 p1.toNatClampNeg p2) 4 p1.toNatClampNeg p3 →
                        Q ((100 * (σ5 3 p1.toNatClampNeg)) + (σ5 4 p1.toNatClampNeg)) σ7)))))))))))
set_option maxRecDepth 100000 in
set_option maxHeartbeats 4000000 in
theorem t_X9_tellReaches {X : XT} {B : Nat} (hC : Cx X 6 cX9_tellReaches RX9 (rmN 2 45)) {Q : Int32 → SS → Prop} (hR : RtI X 6 B 95 RS cX9_tellReaches Q) {σ : SS} {p1 : Int32} {p2 : Int32} {p3 : Int32} (hw : wp_X9_tellReaches  σ p1 p2 p3 Q) : J X 6 B 95 RS 0 0 σ [(0, .ref (B + 0)), (1, .int p1), (2, .int p2), (3, .int p3)] 0 [] := by
  unfold wp_X9_tellReaches at hw
  refine j_aload_n 0 hC 0 (dg DX9_tellReaches 0 rfl) rfl rfl ?_
  refine j_getR 1 hC fX9_10 (k_0) (by decide) (by decide) rfl (dg DX9_tellReaches 1 rfl) ?_
  refine j_iload_n 4 hC 1 (dg DX9_tellReaches 2 rfl) rfl rfl ?_
  refine j_Vi (As := [.int p1]) 5 hC (m_X8_isPost isW_1 hw) kX9_127 (k_1) (by decide) ⟨_, _, rfl⟩ (rmN_ok (by decide) (by decide)) rfl rfl (Nat.le_of_ble_eq_true rfl) (dg DX9_tellReaches 3 rfl) (fun r2 σ1 hw => ?_)
  refine j_if_ne 8 13 hC (dg DX9_tellReaches 4 rfl) (by decide) (fun hbr => ?_) (fun hbr => ?_)
  · replace hw := hw.2 hbr
    refine j_iload_n 13 hC 2 (dg DX9_tellReaches 7 rfl) rfl rfl ?_
    refine j_Si (As := [.int p2]) 14 hC (m_X9_isReach  hw) kX9_293 (rmN_ok (by decide) (by decide)) rfl rfl (Nat.le_of_ble_eq_true rfl) (dg DX9_tellReaches 8 rfl) (fun r4 σ3 hw => ?_)
    refine j_if_eq 17 27 hC (dg DX9_tellReaches 9 rfl) (by decide) (fun hbr => ?_) (fun hbr => ?_)
    · replace hw := hw.1 hbr
      refine j_bipush 27 hC (dg DX9_tellReaches 13 rfl) (v := (-2)) (by decide) ?_
      exact hR 29 _ _ _ (dg DX9_tellReaches 14 rfl) hw
    · replace hw := hw.2 hbr
      refine j_iload_n 20 hC 3 (dg DX9_tellReaches 10 rfl) rfl rfl ?_
      refine j_Si (As := [.int p3]) 21 hC (m_X9_isReach  hw) kX9_293 (rmN_ok (by decide) (by decide)) rfl rfl (Nat.le_of_ble_eq_true rfl) (dg DX9_tellReaches 11 rfl) (fun r6 σ5 hw => ?_)
      refine j_if_ne 24 30 hC (dg DX9_tellReaches 12 rfl) (by decide) (fun hbr => ?_) (fun hbr => ?_)
      · replace hw := hw.2 hbr
        refine j_aload_n 30 hC 0 (dg DX9_tellReaches 15 rfl) rfl rfl ?_
        refine j_getR 31 hC fX9_10 (k_0) (by decide) (by decide) rfl (dg DX9_tellReaches 16 rfl) ?_
        refine j_getR 34 hC fX9_308 (k_1) (by decide) (by decide) rfl (dg DX9_tellReaches 17 rfl) ?_
        refine j_iload_n 37 hC 1 (dg DX9_tellReaches 18 rfl) rfl rfl ?_
        refine j_iald0 38 _ hC (k_3) (by decide) hw.1 rfl (dg DX9_tellReaches 19 rfl) ?_
        replace hw := hw.2
        refine j_istore 39 hC [(4, .int (σ5 3 p1.toNatClampNeg)), (0, .ref (B + 0)), (1, .int p1), (2, .int p2), (3, .int p3)] (dg DX9_tellReaches 20 rfl) (by decide) rfl ?_
        refine j_aload_n 41 hC 1 (dg DX9_tellReaches 21 rfl) rfl rfl ?_
        refine j_getR 42 hC fX9_10 (k_0) (by decide) (by decide) rfl (dg DX9_tellReaches 22 rfl) ?_
        refine j_getR 45 hC fX9_312 (k_1) (by decide) (by decide) rfl (dg DX9_tellReaches 23 rfl) ?_
        refine j_iload_n 48 hC 2 (dg DX9_tellReaches 24 rfl) rfl rfl ?_
        refine j_iald0 49 _ hC (k_4) (by decide) hw.1 rfl (dg DX9_tellReaches 25 rfl) ?_
        replace hw := hw.2
        refine j_istore 50 hC [(5, .int (σ5 4 p1.toNatClampNeg)), (4, .int (σ5 3 p1.toNatClampNeg)), (0, .ref (B + 0)), (1, .int p1), (2, .int p2), (3, .int p3)] (dg DX9_tellReaches 26 rfl) (by decide) rfl ?_
        refine j_iload 52 hC 1 (dg DX9_tellReaches 27 rfl) rfl ?_
        refine j_iload_n 54 hC 4 (dg DX9_tellReaches 28 rfl) rfl rfl ?_
        refine j_icmp_ne 55 71 hC (dg DX9_tellReaches 29 rfl) (by decide) (fun hbr => ?_) (fun hbr => ?_)
        · replace hw := hw.2 hbr
          refine j_aload_n 71 hC 2 (dg DX9_tellReaches 38 rfl) rfl rfl ?_
          refine j_getR 72 hC fX9_10 (k_0) (by decide) (by decide) rfl (dg DX9_tellReaches 39 rfl) ?_
          refine j_getR 75 hC fX9_308 (k_1) (by decide) (by decide) rfl (dg DX9_tellReaches 40 rfl) ?_
          refine j_iload_n 78 hC 3 (dg DX9_tellReaches 41 rfl) rfl rfl ?_
          refine j_iload_n 79 hC 4 (dg DX9_tellReaches 42 rfl) rfl rfl ?_
          refine j_iast0 80 _ hC (k_3) (by decide) hw.1 rfl (dg DX9_tellReaches 43 rfl) ?_
          replace hw := hw.2
          refine j_aload_n 81 hC 2 (dg DX9_tellReaches 44 rfl) rfl rfl ?_
          refine j_getR 82 hC fX9_10 (k_0) (by decide) (by decide) rfl (dg DX9_tellReaches 45 rfl) ?_
          refine j_getR 85 hC fX9_312 (k_1) (by decide) (by decide) rfl (dg DX9_tellReaches 46 rfl) ?_
          refine j_iload_n 88 hC 3 (dg DX9_tellReaches 47 rfl) rfl rfl ?_
          refine j_iload_n 89 hC 5 (dg DX9_tellReaches 48 rfl) rfl rfl ?_
          refine j_iast0 90 _ hC (k_4) (by decide) hw.1 rfl (dg DX9_tellReaches 49 rfl) ?_
          replace hw := hw.2
          refine j_sg (fun σ7 es => ?_)
          replace hw := hw _ es
          refine j_bipush 91 hC (dg DX9_tellReaches 50 rfl) (v := 100) (by decide) ?_
          refine j_iload 93 hC 1 (dg DX9_tellReaches 51 rfl) rfl ?_
          refine j_imul 95 hC (dg DX9_tellReaches 52 rfl) ?_
          refine j_iload 96 hC 0 (dg DX9_tellReaches 53 rfl) rfl ?_
          refine j_iadd 98 hC (dg DX9_tellReaches 54 rfl) ?_
          exact hR 99 _ _ _ (dg DX9_tellReaches 55 rfl) hw
        · replace hw := hw.1 hbr
          refine j_iload 58 hC 0 (dg DX9_tellReaches 30 rfl) rfl ?_
          refine j_iload_n 60 hC 5 (dg DX9_tellReaches 31 rfl) rfl rfl ?_
          refine j_icmp_ne 61 71 hC (dg DX9_tellReaches 32 rfl) (by decide) (fun hbr => ?_) (fun hbr => ?_)
          · replace hw := hw.2 hbr
            refine j_aload_n 71 hC 2 (dg DX9_tellReaches 38 rfl) rfl rfl ?_
            refine j_getR 72 hC fX9_10 (k_0) (by decide) (by decide) rfl (dg DX9_tellReaches 39 rfl) ?_
            refine j_getR 75 hC fX9_308 (k_1) (by decide) (by decide) rfl (dg DX9_tellReaches 40 rfl) ?_
            refine j_iload_n 78 hC 3 (dg DX9_tellReaches 41 rfl) rfl rfl ?_
            refine j_iload_n 79 hC 4 (dg DX9_tellReaches 42 rfl) rfl rfl ?_
            refine j_iast0 80 _ hC (k_3) (by decide) hw.1 rfl (dg DX9_tellReaches 43 rfl) ?_
            replace hw := hw.2
            refine j_aload_n 81 hC 2 (dg DX9_tellReaches 44 rfl) rfl rfl ?_
            refine j_getR 82 hC fX9_10 (k_0) (by decide) (by decide) rfl (dg DX9_tellReaches 45 rfl) ?_
            refine j_getR 85 hC fX9_312 (k_1) (by decide) (by decide) rfl (dg DX9_tellReaches 46 rfl) ?_
            refine j_iload_n 88 hC 3 (dg DX9_tellReaches 47 rfl) rfl rfl ?_
            refine j_iload_n 89 hC 5 (dg DX9_tellReaches 48 rfl) rfl rfl ?_
            refine j_iast0 90 _ hC (k_4) (by decide) hw.1 rfl (dg DX9_tellReaches 49 rfl) ?_
            replace hw := hw.2
            refine j_sg (fun σ8 es => ?_)
            replace hw := hw _ es
            refine j_bipush 91 hC (dg DX9_tellReaches 50 rfl) (v := 100) (by decide) ?_
            refine j_iload 93 hC 1 (dg DX9_tellReaches 51 rfl) rfl ?_
            refine j_imul 95 hC (dg DX9_tellReaches 52 rfl) ?_
            refine j_iload 96 hC 0 (dg DX9_tellReaches 53 rfl) rfl ?_
            refine j_iadd 98 hC (dg DX9_tellReaches 54 rfl) ?_
            exact hR 99 _ _ _ (dg DX9_tellReaches 55 rfl) hw
          · replace hw := hw.1 hbr
            refine j_aload_n 64 hC 2 (dg DX9_tellReaches 33 rfl) rfl rfl ?_
            refine j_iconst 65 hC (dg DX9_tellReaches 34 rfl) (v := 3) (by decide) ?_
            refine j_iload_n 66 hC 4 (dg DX9_tellReaches 35 rfl) rfl rfl ?_
            refine j_Vi (As := [.int 3, .int p2]) 67 hC (m_X9_refuse  hw) kX9_299 (k_0) (by decide) ⟨_, _, rfl⟩ (rmN_ok (by decide) (by decide)) rfl rfl (Nat.le_of_ble_eq_true rfl) (dg DX9_tellReaches 36 rfl) (fun r10 σ9 hw => ?_)
            exact hR 70 _ _ _ (dg DX9_tellReaches 37 rfl) hw
      · replace hw := hw.1 hbr
        refine j_bipush 27 hC (dg DX9_tellReaches 13 rfl) (v := (-2)) (by decide) ?_
        exact hR 29 _ _ _ (dg DX9_tellReaches 14 rfl) hw
  · replace hw := hw.1 hbr
    refine j_iconst 11 hC (dg DX9_tellReaches 5 rfl) (v := (-1)) (by decide) ?_
    exact hR 12 _ _ _ (dg DX9_tellReaches 6 rfl) hw
theorem m_X9_tellReaches {B : Nat} {σ : SS} {p1 : Int32} {p2 : Int32} {p3 : Int32} {Q : Int32 → SS → Prop} (hw : wp_X9_tellReaches  σ p1 p2 p3 Q) : MI yX9_tellReaches cX9_tellReaches 6 (some .int) 2 45 B 95 RS [.ref (B + 0), .int p1, .int p2, .int p3] σ Q := MI.mk (plainFor_of_name (by decide)) (Nat.le_of_ble_eq_true rfl) (fun X hC hR => t_X9_tellReaches hC  hR hw)
-- FortressWatch.reach
def wp_X9_reach  (σ : SS) (p1 : Int32) (p2 : Int32) (p3 : Int32) (Q : Int32 → SS → Prop) : Prop :=
  wp_X8_copyFrom 8 1 σ (fun σ1 =>
    wp_X9_tellReaches σ1 p1 p2 p3 (fun r3 σ2 =>
      wp_X9_kept σ2 r3 (fun r5 σ4 =>
        Q r5 σ4)))
set_option maxRecDepth 100000 in
set_option maxHeartbeats 4000000 in
theorem t_X9_reach {X : XT} {B : Nat} (hC : Cx X 4 cX9_reach RX9 (rmN 4 88)) {Q : Int32 → SS → Prop} (hR : RtI X 4 B 95 RS cX9_reach Q) {σ : SS} {p1 : Int32} {p2 : Int32} {p3 : Int32} (hw : wp_X9_reach  σ p1 p2 p3 Q) : J X 4 B 95 RS 0 0 σ [(0, .ref (B + 0)), (1, .int p1), (2, .int p2), (3, .int p3)] 0 [] := by
  unfold wp_X9_reach at hw
  refine j_aload_n 0 hC 0 (dg DX9_reach 0 rfl) rfl rfl ?_
  refine j_getR 1 hC fX9_16 (k_0) (by decide) (by decide) rfl (dg DX9_reach 1 rfl) ?_
  refine j_aload_n 4 hC 0 (dg DX9_reach 2 rfl) rfl rfl ?_
  refine j_getR 5 hC fX9_10 (k_0) (by decide) (by decide) rfl (dg DX9_reach 3 rfl) ?_
  refine j_Vv (As := [.ref (B + 1)]) 8 hC (m_X8_copyFrom isW_8 isW_1 hw) kX9_86 (k_8) (by decide) ⟨_, _, rfl⟩ (rmN_ok (by decide) (by decide)) rfl rfl (Nat.le_of_ble_eq_true rfl) (dg DX9_reach 4 rfl) (fun σ1 hw => ?_)
  refine j_aload_n 11 hC 0 (dg DX9_reach 5 rfl) rfl rfl ?_
  refine j_aload_n 12 hC 0 (dg DX9_reach 6 rfl) rfl rfl ?_
  refine j_iload_n 13 hC 1 (dg DX9_reach 7 rfl) rfl rfl ?_
  refine j_iload_n 14 hC 2 (dg DX9_reach 8 rfl) rfl rfl ?_
  refine j_iload_n 15 hC 3 (dg DX9_reach 9 rfl) rfl rfl ?_
  refine j_Vi (As := [.int p1, .int p2, .int p3]) 16 hC (m_X9_tellReaches  hw) kX9_101 (k_0) (by decide) ⟨_, _, rfl⟩ (rmN_ok (by decide) (by decide)) rfl rfl (Nat.le_of_ble_eq_true rfl) (dg DX9_reach 10 rfl) (fun r3 σ2 hw => ?_)
  refine j_Vi (As := [.int r3]) 19 hC (m_X9_kept  hw) kX9_94 (k_0) (by decide) ⟨_, _, rfl⟩ (rmN_ok (by decide) (by decide)) rfl rfl (Nat.le_of_ble_eq_true rfl) (dg DX9_reach 11 rfl) (fun r5 σ4 hw => ?_)
  exact hR 22 _ _ _ (dg DX9_reach 12 rfl) hw
theorem m_X9_reach {B : Nat} {σ : SS} {p1 : Int32} {p2 : Int32} {p3 : Int32} {Q : Int32 → SS → Prop} (hw : wp_X9_reach  σ p1 p2 p3 Q) : MI yX9_reach cX9_reach 4 (some .int) 4 88 B 95 RS [.ref (B + 0), .int p1, .int p2, .int p3] σ Q := MI.mk (plainFor_of_name (by decide)) (Nat.le_of_ble_eq_true rfl) (fun X hC hR => t_X9_reach hC  hR hw)
-- FortressWatch.tellBlindAngle
def wp_X9_tellBlindAngle  (σ : SS) (p1 : Int32) (p2 : Int32) (p3 : Int32) (Q : Int32 → SS → Prop) : Prop :=
  wp_X8_isPost 1 σ p1 (fun r2 σ1 =>
    ((r2 = 0 →
        Q (-1) σ1) ∧
      (¬ r2 = 0 →
        wp_X9_isStone σ1 p2 (fun r4 σ3 =>
          ((r4 = 0 →
              Q (-1) σ3) ∧
            (¬ r4 = 0 →
              ((p3 < 1 →
                  Q (-2) σ3) ∧
                (¬ p3 < 1 →
                  ((p3 ≤ 8 →
                      vp_in p1 9 ∧
                      (((σ3 5 p1.toNatClampNeg) = p2 →
                          vp_in p1 9 ∧
                          (((σ3 6 p1.toNatClampNeg) = p3 →
                              wp_X9_refuse σ3 3 p2 (fun r8 σ7 =>
                                Q r8 σ7)) ∧
                            (¬ (σ3 6 p1.toNatClampNeg) = p3 →
                              vp_in p1 9 ∧
                              vp_in p1 9 ∧
                              ∀ σ6 : SS, σ6 = u2 (u2 σ3 5 p1.toNatClampNeg p2) 6 p1.toNatClampNeg p3 →
                              Q 0 σ6))) ∧
                        (¬ (σ3 5 p1.toNatClampNeg) = p2 →
                          vp_in p1 9 ∧
                          vp_in p1 9 ∧
                          ∀ σ5 : SS, σ5 = u2 (u2 σ3 5 p1.toNatClampNeg p2) 6 p1.toNatClampNeg p3 →
                          Q 0 σ5))) ∧
                    (¬ p3 ≤ 8 →
                      Q (-2) σ3))))))))))
set_option maxRecDepth 100000 in
set_option maxHeartbeats 4000000 in
theorem t_X9_tellBlindAngle {X : XT} {B : Nat} (hC : Cx X 4 cX9_tellBlindAngle RX9 (rmN 2 45)) {Q : Int32 → SS → Prop} (hR : RtI X 4 B 95 RS cX9_tellBlindAngle Q) {σ : SS} {p1 : Int32} {p2 : Int32} {p3 : Int32} (hw : wp_X9_tellBlindAngle  σ p1 p2 p3 Q) : J X 4 B 95 RS 0 0 σ [(0, .ref (B + 0)), (1, .int p1), (2, .int p2), (3, .int p3)] 0 [] := by
  unfold wp_X9_tellBlindAngle at hw
  refine j_aload_n 0 hC 0 (dg DX9_tellBlindAngle 0 rfl) rfl rfl ?_
  refine j_getR 1 hC fX9_10 (k_0) (by decide) (by decide) rfl (dg DX9_tellBlindAngle 1 rfl) ?_
  refine j_iload_n 4 hC 1 (dg DX9_tellBlindAngle 2 rfl) rfl rfl ?_
  refine j_Vi (As := [.int p1]) 5 hC (m_X8_isPost isW_1 hw) kX9_127 (k_1) (by decide) ⟨_, _, rfl⟩ (rmN_ok (by decide) (by decide)) rfl rfl (Nat.le_of_ble_eq_true rfl) (dg DX9_tellBlindAngle 3 rfl) (fun r2 σ1 hw => ?_)
  refine j_if_eq 8 18 hC (dg DX9_tellBlindAngle 4 rfl) (by decide) (fun hbr => ?_) (fun hbr => ?_)
  · replace hw := hw.1 hbr
    refine j_iconst 18 hC (dg DX9_tellBlindAngle 8 rfl) (v := (-1)) (by decide) ?_
    exact hR 19 _ _ _ (dg DX9_tellBlindAngle 9 rfl) hw
  · replace hw := hw.2 hbr
    refine j_iload_n 11 hC 2 (dg DX9_tellBlindAngle 5 rfl) rfl rfl ?_
    refine j_Si (As := [.int p2]) 12 hC (m_X9_isStone  hw) kX9_154 (rmN_ok (by decide) (by decide)) rfl rfl (Nat.le_of_ble_eq_true rfl) (dg DX9_tellBlindAngle 6 rfl) (fun r4 σ3 hw => ?_)
    refine j_if_ne 15 20 hC (dg DX9_tellBlindAngle 7 rfl) (by decide) (fun hbr => ?_) (fun hbr => ?_)
    · replace hw := hw.2 hbr
      refine j_iload_n 20 hC 3 (dg DX9_tellBlindAngle 10 rfl) rfl rfl ?_
      refine j_iconst 21 hC (dg DX9_tellBlindAngle 11 rfl) (v := 1) (by decide) ?_
      refine j_icmp_lt 22 31 hC (dg DX9_tellBlindAngle 12 rfl) (by decide) (fun hbr => ?_) (fun hbr => ?_)
      · replace hw := hw.1 hbr
        refine j_bipush 31 hC (dg DX9_tellBlindAngle 16 rfl) (v := (-2)) (by decide) ?_
        exact hR 33 _ _ _ (dg DX9_tellBlindAngle 17 rfl) hw
      · replace hw := hw.2 hbr
        refine j_iload_n 25 hC 3 (dg DX9_tellBlindAngle 13 rfl) rfl rfl ?_
        refine j_bipush 26 hC (dg DX9_tellBlindAngle 14 rfl) (v := 8) (by decide) ?_
        refine j_icmp_le 28 34 hC (dg DX9_tellBlindAngle 15 rfl) (by decide) (fun hbr => ?_) (fun hbr => ?_)
        · replace hw := hw.1 hbr
          refine j_aload_n 34 hC 0 (dg DX9_tellBlindAngle 18 rfl) rfl rfl ?_
          refine j_getR 35 hC fX9_10 (k_0) (by decide) (by decide) rfl (dg DX9_tellBlindAngle 19 rfl) ?_
          refine j_getR 38 hC fX9_315 (k_1) (by decide) (by decide) rfl (dg DX9_tellBlindAngle 20 rfl) ?_
          refine j_iload_n 41 hC 1 (dg DX9_tellBlindAngle 21 rfl) rfl rfl ?_
          refine j_iald0 42 _ hC (k_5) (by decide) hw.1 rfl (dg DX9_tellBlindAngle 22 rfl) ?_
          replace hw := hw.2
          refine j_iload_n 43 hC 2 (dg DX9_tellBlindAngle 23 rfl) rfl rfl ?_
          refine j_icmp_ne 44 67 hC (dg DX9_tellBlindAngle 24 rfl) (by decide) (fun hbr => ?_) (fun hbr => ?_)
          · replace hw := hw.2 hbr
            refine j_aload_n 67 hC 0 (dg DX9_tellBlindAngle 37 rfl) rfl rfl ?_
            refine j_getR 68 hC fX9_10 (k_0) (by decide) (by decide) rfl (dg DX9_tellBlindAngle 38 rfl) ?_
            refine j_getR 71 hC fX9_315 (k_1) (by decide) (by decide) rfl (dg DX9_tellBlindAngle 39 rfl) ?_
            refine j_iload_n 74 hC 1 (dg DX9_tellBlindAngle 40 rfl) rfl rfl ?_
            refine j_iload_n 75 hC 2 (dg DX9_tellBlindAngle 41 rfl) rfl rfl ?_
            refine j_iast0 76 _ hC (k_5) (by decide) hw.1 rfl (dg DX9_tellBlindAngle 42 rfl) ?_
            replace hw := hw.2
            refine j_aload_n 77 hC 0 (dg DX9_tellBlindAngle 43 rfl) rfl rfl ?_
            refine j_getR 78 hC fX9_10 (k_0) (by decide) (by decide) rfl (dg DX9_tellBlindAngle 44 rfl) ?_
            refine j_getR 81 hC fX9_318 (k_1) (by decide) (by decide) rfl (dg DX9_tellBlindAngle 45 rfl) ?_
            refine j_iload_n 84 hC 1 (dg DX9_tellBlindAngle 46 rfl) rfl rfl ?_
            refine j_iload_n 85 hC 3 (dg DX9_tellBlindAngle 47 rfl) rfl rfl ?_
            refine j_iast0 86 _ hC (k_6) (by decide) hw.1 rfl (dg DX9_tellBlindAngle 48 rfl) ?_
            replace hw := hw.2
            refine j_sg (fun σ5 es => ?_)
            replace hw := hw _ es
            refine j_iconst 87 hC (dg DX9_tellBlindAngle 49 rfl) (v := 0) (by decide) ?_
            exact hR 88 _ _ _ (dg DX9_tellBlindAngle 50 rfl) hw
          · replace hw := hw.1 hbr
            refine j_aload_n 47 hC 0 (dg DX9_tellBlindAngle 25 rfl) rfl rfl ?_
            refine j_getR 48 hC fX9_10 (k_0) (by decide) (by decide) rfl (dg DX9_tellBlindAngle 26 rfl) ?_
            refine j_getR 51 hC fX9_318 (k_1) (by decide) (by decide) rfl (dg DX9_tellBlindAngle 27 rfl) ?_
            refine j_iload_n 54 hC 1 (dg DX9_tellBlindAngle 28 rfl) rfl rfl ?_
            refine j_iald0 55 _ hC (k_6) (by decide) hw.1 rfl (dg DX9_tellBlindAngle 29 rfl) ?_
            replace hw := hw.2
            refine j_iload_n 56 hC 3 (dg DX9_tellBlindAngle 30 rfl) rfl rfl ?_
            refine j_icmp_ne 57 67 hC (dg DX9_tellBlindAngle 31 rfl) (by decide) (fun hbr => ?_) (fun hbr => ?_)
            · replace hw := hw.2 hbr
              refine j_aload_n 67 hC 0 (dg DX9_tellBlindAngle 37 rfl) rfl rfl ?_
              refine j_getR 68 hC fX9_10 (k_0) (by decide) (by decide) rfl (dg DX9_tellBlindAngle 38 rfl) ?_
              refine j_getR 71 hC fX9_315 (k_1) (by decide) (by decide) rfl (dg DX9_tellBlindAngle 39 rfl) ?_
              refine j_iload_n 74 hC 1 (dg DX9_tellBlindAngle 40 rfl) rfl rfl ?_
              refine j_iload_n 75 hC 2 (dg DX9_tellBlindAngle 41 rfl) rfl rfl ?_
              refine j_iast0 76 _ hC (k_5) (by decide) hw.1 rfl (dg DX9_tellBlindAngle 42 rfl) ?_
              replace hw := hw.2
              refine j_aload_n 77 hC 0 (dg DX9_tellBlindAngle 43 rfl) rfl rfl ?_
              refine j_getR 78 hC fX9_10 (k_0) (by decide) (by decide) rfl (dg DX9_tellBlindAngle 44 rfl) ?_
              refine j_getR 81 hC fX9_318 (k_1) (by decide) (by decide) rfl (dg DX9_tellBlindAngle 45 rfl) ?_
              refine j_iload_n 84 hC 1 (dg DX9_tellBlindAngle 46 rfl) rfl rfl ?_
              refine j_iload_n 85 hC 3 (dg DX9_tellBlindAngle 47 rfl) rfl rfl ?_
              refine j_iast0 86 _ hC (k_6) (by decide) hw.1 rfl (dg DX9_tellBlindAngle 48 rfl) ?_
              replace hw := hw.2
              refine j_sg (fun σ6 es => ?_)
              replace hw := hw _ es
              refine j_iconst 87 hC (dg DX9_tellBlindAngle 49 rfl) (v := 0) (by decide) ?_
              exact hR 88 _ _ _ (dg DX9_tellBlindAngle 50 rfl) hw
            · replace hw := hw.1 hbr
              refine j_aload_n 60 hC 0 (dg DX9_tellBlindAngle 32 rfl) rfl rfl ?_
              refine j_iconst 61 hC (dg DX9_tellBlindAngle 33 rfl) (v := 3) (by decide) ?_
              refine j_iload_n 62 hC 2 (dg DX9_tellBlindAngle 34 rfl) rfl rfl ?_
              refine j_Vi (As := [.int 3, .int p2]) 63 hC (m_X9_refuse  hw) kX9_299 (k_0) (by decide) ⟨_, _, rfl⟩ (rmN_ok (by decide) (by decide)) rfl rfl (Nat.le_of_ble_eq_true rfl) (dg DX9_tellBlindAngle 35 rfl) (fun r8 σ7 hw => ?_)
              exact hR 66 _ _ _ (dg DX9_tellBlindAngle 36 rfl) hw
        · replace hw := hw.2 hbr
          refine j_bipush 31 hC (dg DX9_tellBlindAngle 16 rfl) (v := (-2)) (by decide) ?_
          exact hR 33 _ _ _ (dg DX9_tellBlindAngle 17 rfl) hw
    · replace hw := hw.1 hbr
      refine j_iconst 18 hC (dg DX9_tellBlindAngle 8 rfl) (v := (-1)) (by decide) ?_
      exact hR 19 _ _ _ (dg DX9_tellBlindAngle 9 rfl) hw
theorem m_X9_tellBlindAngle {B : Nat} {σ : SS} {p1 : Int32} {p2 : Int32} {p3 : Int32} {Q : Int32 → SS → Prop} (hw : wp_X9_tellBlindAngle  σ p1 p2 p3 Q) : MI yX9_tellBlindAngle cX9_tellBlindAngle 4 (some .int) 2 45 B 95 RS [.ref (B + 0), .int p1, .int p2, .int p3] σ Q := MI.mk (plainFor_of_name (by decide)) (Nat.le_of_ble_eq_true rfl) (fun X hC hR => t_X9_tellBlindAngle hC  hR hw)
-- FortressWatch.manySeenNow
def wp_X9_manySeenNow  (σ : SS) (p1 : Int32) (Q : Int32 → SS → Prop) : Prop :=
  wp_X6_lookAt 1 σ (σ 1 7) (fun σ1 =>
    wp_X6_manySeen σ1 p1 (fun r3 σ2 =>
      Q r3 σ2))
set_option maxRecDepth 100000 in
set_option maxHeartbeats 4000000 in
theorem t_X9_manySeenNow {X : XT} {B : Nat} (hC : Cx X 2 cX9_manySeenNow RX9 (rmN 3 90)) {Q : Int32 → SS → Prop} (hR : RtI X 2 B 95 RS cX9_manySeenNow Q) {σ : SS} {p1 : Int32} (hw : wp_X9_manySeenNow  σ p1 Q) : J X 2 B 95 RS 0 0 σ [(0, .ref (B + 0)), (1, .int p1)] 0 [] := by
  unfold wp_X9_manySeenNow at hw
  refine j_aload_n 0 hC 0 (dg DX9_manySeenNow 0 rfl) rfl rfl ?_
  refine j_getR 1 hC fX9_32 (k_0) (by decide) (by decide) rfl (dg DX9_manySeenNow 1 rfl) ?_
  refine j_aload_n 4 hC 0 (dg DX9_manySeenNow 2 rfl) rfl rfl ?_
  refine j_getR 5 hC fX9_10 (k_0) (by decide) (by decide) rfl (dg DX9_manySeenNow 3 rfl) ?_
  refine j_aload_n 8 hC 0 (dg DX9_manySeenNow 4 rfl) rfl rfl ?_
  refine j_getR 9 hC fX9_10 (k_0) (by decide) (by decide) rfl (dg DX9_manySeenNow 5 rfl) ?_
  refine j_getI 12 hC fX9_134 (k_1) (by decide) (by decide) rfl (dg DX9_manySeenNow 6 rfl) ?_
  refine j_Vv (As := [.ref (B + 1), .int (σ 1 7)]) 15 hC (m_X6_lookAt isW_1 hw) kX9_137 (k_80) (by decide) ⟨_, _, rfl⟩ (rmN_ok (by decide) (by decide)) rfl rfl (Nat.le_of_ble_eq_true rfl) (dg DX9_manySeenNow 7 rfl) (fun σ1 hw => ?_)
  refine j_aload_n 18 hC 0 (dg DX9_manySeenNow 8 rfl) rfl rfl ?_
  refine j_getR 19 hC fX9_32 (k_0) (by decide) (by decide) rfl (dg DX9_manySeenNow 9 rfl) ?_
  refine j_iload_n 22 hC 1 (dg DX9_manySeenNow 10 rfl) rfl rfl ?_
  refine j_Vi (As := [.int p1]) 23 hC (m_X6_manySeen  hw) kX9_141 (k_80) (by decide) ⟨_, _, rfl⟩ (rmN_ok (by decide) (by decide)) rfl rfl (Nat.le_of_ble_eq_true rfl) (dg DX9_manySeenNow 11 rfl) (fun r3 σ2 hw => ?_)
  exact hR 26 _ _ _ (dg DX9_manySeenNow 12 rfl) hw
theorem m_X9_manySeenNow {B : Nat} {σ : SS} {p1 : Int32} {Q : Int32 → SS → Prop} (hw : wp_X9_manySeenNow  σ p1 Q) : MI yX9_manySeenNow cX9_manySeenNow 2 (some .int) 3 90 B 95 RS [.ref (B + 0), .int p1] σ Q := MI.mk (plainFor_of_name (by decide)) (Nat.le_of_ble_eq_true rfl) (fun X hC hR => t_X9_manySeenNow hC  hR hw)
-- FortressWatch.blind
def wp_X9_blind  (σ : SS) (p1 : Int32) (p2 : Int32) (p3 : Int32) (Q : Int32 → SS → Prop) : Prop :=
  wp_X8_copyFrom 8 1 σ (fun σ1 =>
    wp_X9_tellBlindAngle σ1 p1 p2 p3 (fun r3 σ2 =>
      wp_X9_kept σ2 r3 (fun r5 σ4 =>
        ((0 ≤ r5 →
            wp_X9_manySeenNow σ4 p1 (fun r7 σ6 =>
              Q r7 σ6)) ∧
          (¬ 0 ≤ r5 →
            Q r5 σ4)))))
set_option maxRecDepth 100000 in
set_option maxHeartbeats 4000000 in
theorem t_X9_blind {X : XT} {B : Nat} (hC : Cx X 5 cX9_blind RX9 (rmN 4 111)) {Q : Int32 → SS → Prop} (hR : RtI X 5 B 95 RS cX9_blind Q) {σ : SS} {p1 : Int32} {p2 : Int32} {p3 : Int32} (hw : wp_X9_blind  σ p1 p2 p3 Q) : J X 5 B 95 RS 0 0 σ [(0, .ref (B + 0)), (1, .int p1), (2, .int p2), (3, .int p3)] 0 [] := by
  unfold wp_X9_blind at hw
  refine j_aload_n 0 hC 0 (dg DX9_blind 0 rfl) rfl rfl ?_
  refine j_getR 1 hC fX9_16 (k_0) (by decide) (by decide) rfl (dg DX9_blind 1 rfl) ?_
  refine j_aload_n 4 hC 0 (dg DX9_blind 2 rfl) rfl rfl ?_
  refine j_getR 5 hC fX9_10 (k_0) (by decide) (by decide) rfl (dg DX9_blind 3 rfl) ?_
  refine j_Vv (As := [.ref (B + 1)]) 8 hC (m_X8_copyFrom isW_8 isW_1 hw) kX9_86 (k_8) (by decide) ⟨_, _, rfl⟩ (rmN_ok (by decide) (by decide)) rfl rfl (Nat.le_of_ble_eq_true rfl) (dg DX9_blind 4 rfl) (fun σ1 hw => ?_)
  refine j_aload_n 11 hC 0 (dg DX9_blind 5 rfl) rfl rfl ?_
  refine j_aload_n 12 hC 0 (dg DX9_blind 6 rfl) rfl rfl ?_
  refine j_iload_n 13 hC 1 (dg DX9_blind 7 rfl) rfl rfl ?_
  refine j_iload_n 14 hC 2 (dg DX9_blind 8 rfl) rfl rfl ?_
  refine j_iload_n 15 hC 3 (dg DX9_blind 9 rfl) rfl rfl ?_
  refine j_Vi (As := [.int p1, .int p2, .int p3]) 16 hC (m_X9_tellBlindAngle  hw) kX9_104 (k_0) (by decide) ⟨_, _, rfl⟩ (rmN_ok (by decide) (by decide)) rfl rfl (Nat.le_of_ble_eq_true rfl) (dg DX9_blind 10 rfl) (fun r3 σ2 hw => ?_)
  refine j_Vi (As := [.int r3]) 19 hC (m_X9_kept  hw) kX9_94 (k_0) (by decide) ⟨_, _, rfl⟩ (rmN_ok (by decide) (by decide)) rfl rfl (Nat.le_of_ble_eq_true rfl) (dg DX9_blind 11 rfl) (fun r5 σ4 hw => ?_)
  refine j_istore 22 hC [(4, .int r5), (0, .ref (B + 0)), (1, .int p1), (2, .int p2), (3, .int p3)] (dg DX9_blind 12 rfl) (by decide) rfl ?_
  refine j_iload 24 hC 0 (dg DX9_blind 13 rfl) rfl ?_
  refine j_if_ge 26 34 hC (dg DX9_blind 14 rfl) (by decide) (fun hbr => ?_) (fun hbr => ?_)
  · replace hw := hw.1 hbr
    refine j_aload_n 34 hC 1 (dg DX9_blind 17 rfl) rfl rfl ?_
    refine j_iload_n 35 hC 2 (dg DX9_blind 18 rfl) rfl rfl ?_
    refine j_Vi (As := [.int p1]) 36 hC (m_X9_manySeenNow  hw) kX9_107 (k_0) (by decide) ⟨_, _, rfl⟩ (rmN_ok (by decide) (by decide)) rfl rfl (Nat.le_of_ble_eq_true rfl) (dg DX9_blind 19 rfl) (fun r7 σ6 hw => ?_)
    exact hR 39 _ _ _ (dg DX9_blind 20 rfl) hw
  · replace hw := hw.2 hbr
    refine j_iload 29 hC 0 (dg DX9_blind 15 rfl) rfl ?_
    refine j_goto 31 39 hC (dg DX9_blind 16 rfl) (by decide) ?_
    exact hR 39 _ _ _ (dg DX9_blind 20 rfl) hw
theorem m_X9_blind {B : Nat} {σ : SS} {p1 : Int32} {p2 : Int32} {p3 : Int32} {Q : Int32 → SS → Prop} (hw : wp_X9_blind  σ p1 p2 p3 Q) : MI yX9_blind cX9_blind 5 (some .int) 4 111 B 95 RS [.ref (B + 0), .int p1, .int p2, .int p3] σ Q := MI.mk (plainFor_of_name (by decide)) (Nat.le_of_ble_eq_true rfl) (fun X hC hR => t_X9_blind hC  hR hw)
-- FortressWatch.dropBlindAngle
def wp_X9_dropBlindAngle  (σ : SS) (p1 : Int32) (Q : Int32 → SS → Prop) : Prop :=
  wp_X8_isPost 1 σ p1 (fun r2 σ1 =>
    ((r2 = 0 →
        Q (-1) σ1) ∧
      (¬ r2 = 0 →
        vp_in p1 9 ∧
        (((σ1 6 p1.toNatClampNeg) = 0 →
            wp_X9_refuse σ1 5 p1 (fun r5 σ4 =>
              Q r5 σ4)) ∧
          (¬ (σ1 6 p1.toNatClampNeg) = 0 →
            vp_in p1 9 ∧
            vp_in p1 9 ∧
            ∀ σ3 : SS, σ3 = u2 (u2 σ1 5 p1.toNatClampNeg (-4)) 6 p1.toNatClampNeg 0 →
            Q 0 σ3)))))
set_option maxRecDepth 100000 in
set_option maxHeartbeats 4000000 in
theorem t_X9_dropBlindAngle {X : XT} {B : Nat} (hC : Cx X 2 cX9_dropBlindAngle RX9 (rmN 2 45)) {Q : Int32 → SS → Prop} (hR : RtI X 2 B 95 RS cX9_dropBlindAngle Q) {σ : SS} {p1 : Int32} (hw : wp_X9_dropBlindAngle  σ p1 Q) : J X 2 B 95 RS 0 0 σ [(0, .ref (B + 0)), (1, .int p1)] 0 [] := by
  unfold wp_X9_dropBlindAngle at hw
  refine j_aload_n 0 hC 0 (dg DX9_dropBlindAngle 0 rfl) rfl rfl ?_
  refine j_getR 1 hC fX9_10 (k_0) (by decide) (by decide) rfl (dg DX9_dropBlindAngle 1 rfl) ?_
  refine j_iload_n 4 hC 1 (dg DX9_dropBlindAngle 2 rfl) rfl rfl ?_
  refine j_Vi (As := [.int p1]) 5 hC (m_X8_isPost isW_1 hw) kX9_127 (k_1) (by decide) ⟨_, _, rfl⟩ (rmN_ok (by decide) (by decide)) rfl rfl (Nat.le_of_ble_eq_true rfl) (dg DX9_dropBlindAngle 3 rfl) (fun r2 σ1 hw => ?_)
  refine j_if_ne 8 13 hC (dg DX9_dropBlindAngle 4 rfl) (by decide) (fun hbr => ?_) (fun hbr => ?_)
  · replace hw := hw.2 hbr
    refine j_aload_n 13 hC 0 (dg DX9_dropBlindAngle 7 rfl) rfl rfl ?_
    refine j_getR 14 hC fX9_10 (k_0) (by decide) (by decide) rfl (dg DX9_dropBlindAngle 8 rfl) ?_
    refine j_getR 17 hC fX9_318 (k_1) (by decide) (by decide) rfl (dg DX9_dropBlindAngle 9 rfl) ?_
    refine j_iload_n 20 hC 1 (dg DX9_dropBlindAngle 10 rfl) rfl rfl ?_
    refine j_iald0 21 _ hC (k_6) (by decide) hw.1 rfl (dg DX9_dropBlindAngle 11 rfl) ?_
    replace hw := hw.2
    refine j_if_ne 22 32 hC (dg DX9_dropBlindAngle 12 rfl) (by decide) (fun hbr => ?_) (fun hbr => ?_)
    · replace hw := hw.2 hbr
      refine j_aload_n 32 hC 0 (dg DX9_dropBlindAngle 18 rfl) rfl rfl ?_
      refine j_getR 33 hC fX9_10 (k_0) (by decide) (by decide) rfl (dg DX9_dropBlindAngle 19 rfl) ?_
      refine j_getR 36 hC fX9_315 (k_1) (by decide) (by decide) rfl (dg DX9_dropBlindAngle 20 rfl) ?_
      refine j_iload_n 39 hC 1 (dg DX9_dropBlindAngle 21 rfl) rfl rfl ?_
      refine j_bipush 40 hC (dg DX9_dropBlindAngle 22 rfl) (v := (-4)) (by decide) ?_
      refine j_iast0 42 _ hC (k_5) (by decide) hw.1 rfl (dg DX9_dropBlindAngle 23 rfl) ?_
      replace hw := hw.2
      refine j_aload_n 43 hC 0 (dg DX9_dropBlindAngle 24 rfl) rfl rfl ?_
      refine j_getR 44 hC fX9_10 (k_0) (by decide) (by decide) rfl (dg DX9_dropBlindAngle 25 rfl) ?_
      refine j_getR 47 hC fX9_318 (k_1) (by decide) (by decide) rfl (dg DX9_dropBlindAngle 26 rfl) ?_
      refine j_iload_n 50 hC 1 (dg DX9_dropBlindAngle 27 rfl) rfl rfl ?_
      refine j_iconst 51 hC (dg DX9_dropBlindAngle 28 rfl) (v := 0) (by decide) ?_
      refine j_iast0 52 _ hC (k_6) (by decide) hw.1 rfl (dg DX9_dropBlindAngle 29 rfl) ?_
      replace hw := hw.2
      refine j_sg (fun σ3 es => ?_)
      replace hw := hw _ es
      refine j_iconst 53 hC (dg DX9_dropBlindAngle 30 rfl) (v := 0) (by decide) ?_
      exact hR 54 _ _ _ (dg DX9_dropBlindAngle 31 rfl) hw
    · replace hw := hw.1 hbr
      refine j_aload_n 25 hC 0 (dg DX9_dropBlindAngle 13 rfl) rfl rfl ?_
      refine j_iconst 26 hC (dg DX9_dropBlindAngle 14 rfl) (v := 5) (by decide) ?_
      refine j_iload_n 27 hC 1 (dg DX9_dropBlindAngle 15 rfl) rfl rfl ?_
      refine j_Vi (As := [.int 5, .int p1]) 28 hC (m_X9_refuse  hw) kX9_299 (k_0) (by decide) ⟨_, _, rfl⟩ (rmN_ok (by decide) (by decide)) rfl rfl (Nat.le_of_ble_eq_true rfl) (dg DX9_dropBlindAngle 16 rfl) (fun r5 σ4 hw => ?_)
      exact hR 31 _ _ _ (dg DX9_dropBlindAngle 17 rfl) hw
  · replace hw := hw.1 hbr
    refine j_iconst 11 hC (dg DX9_dropBlindAngle 5 rfl) (v := (-1)) (by decide) ?_
    exact hR 12 _ _ _ (dg DX9_dropBlindAngle 6 rfl) hw
theorem m_X9_dropBlindAngle {B : Nat} {σ : SS} {p1 : Int32} {Q : Int32 → SS → Prop} (hw : wp_X9_dropBlindAngle  σ p1 Q) : MI yX9_dropBlindAngle cX9_dropBlindAngle 2 (some .int) 2 45 B 95 RS [.ref (B + 0), .int p1] σ Q := MI.mk (plainFor_of_name (by decide)) (Nat.le_of_ble_eq_true rfl) (fun X hC hR => t_X9_dropBlindAngle hC  hR hw)
-- FortressWatch.see
def wp_X9_see  (σ : SS) (p1 : Int32) (Q : Int32 → SS → Prop) : Prop :=
  wp_X8_copyFrom 8 1 σ (fun σ1 =>
    wp_X9_dropBlindAngle σ1 p1 (fun r3 σ2 =>
      wp_X9_kept σ2 r3 (fun r5 σ4 =>
        ((0 ≤ r5 →
            wp_X9_manySeenNow σ4 p1 (fun r7 σ6 =>
              Q r7 σ6)) ∧
          (¬ 0 ≤ r5 →
            Q r5 σ4)))))
set_option maxRecDepth 100000 in
set_option maxHeartbeats 4000000 in
theorem t_X9_see {X : XT} {B : Nat} (hC : Cx X 3 cX9_see RX9 (rmN 4 111)) {Q : Int32 → SS → Prop} (hR : RtI X 3 B 95 RS cX9_see Q) {σ : SS} {p1 : Int32} (hw : wp_X9_see  σ p1 Q) : J X 3 B 95 RS 0 0 σ [(0, .ref (B + 0)), (1, .int p1)] 0 [] := by
  unfold wp_X9_see at hw
  refine j_aload_n 0 hC 0 (dg DX9_see 0 rfl) rfl rfl ?_
  refine j_getR 1 hC fX9_16 (k_0) (by decide) (by decide) rfl (dg DX9_see 1 rfl) ?_
  refine j_aload_n 4 hC 0 (dg DX9_see 2 rfl) rfl rfl ?_
  refine j_getR 5 hC fX9_10 (k_0) (by decide) (by decide) rfl (dg DX9_see 3 rfl) ?_
  refine j_Vv (As := [.ref (B + 1)]) 8 hC (m_X8_copyFrom isW_8 isW_1 hw) kX9_86 (k_8) (by decide) ⟨_, _, rfl⟩ (rmN_ok (by decide) (by decide)) rfl rfl (Nat.le_of_ble_eq_true rfl) (dg DX9_see 4 rfl) (fun σ1 hw => ?_)
  refine j_aload_n 11 hC 0 (dg DX9_see 5 rfl) rfl rfl ?_
  refine j_aload_n 12 hC 0 (dg DX9_see 6 rfl) rfl rfl ?_
  refine j_iload_n 13 hC 1 (dg DX9_see 7 rfl) rfl rfl ?_
  refine j_Vi (As := [.int p1]) 14 hC (m_X9_dropBlindAngle  hw) kX9_110 (k_0) (by decide) ⟨_, _, rfl⟩ (rmN_ok (by decide) (by decide)) rfl rfl (Nat.le_of_ble_eq_true rfl) (dg DX9_see 8 rfl) (fun r3 σ2 hw => ?_)
  refine j_Vi (As := [.int r3]) 17 hC (m_X9_kept  hw) kX9_94 (k_0) (by decide) ⟨_, _, rfl⟩ (rmN_ok (by decide) (by decide)) rfl rfl (Nat.le_of_ble_eq_true rfl) (dg DX9_see 9 rfl) (fun r5 σ4 hw => ?_)
  refine j_istore_n 20 hC [(2, .int r5), (0, .ref (B + 0)), (1, .int p1)] (dg DX9_see 10 rfl) rfl (by decide) rfl ?_
  refine j_iload_n 21 hC 0 (dg DX9_see 11 rfl) rfl rfl ?_
  refine j_if_ge 22 29 hC (dg DX9_see 12 rfl) (by decide) (fun hbr => ?_) (fun hbr => ?_)
  · replace hw := hw.1 hbr
    refine j_aload_n 29 hC 1 (dg DX9_see 15 rfl) rfl rfl ?_
    refine j_iload_n 30 hC 2 (dg DX9_see 16 rfl) rfl rfl ?_
    refine j_Vi (As := [.int p1]) 31 hC (m_X9_manySeenNow  hw) kX9_107 (k_0) (by decide) ⟨_, _, rfl⟩ (rmN_ok (by decide) (by decide)) rfl rfl (Nat.le_of_ble_eq_true rfl) (dg DX9_see 17 rfl) (fun r7 σ6 hw => ?_)
    exact hR 34 _ _ _ (dg DX9_see 18 rfl) hw
  · replace hw := hw.2 hbr
    refine j_iload_n 25 hC 0 (dg DX9_see 13 rfl) rfl rfl ?_
    refine j_goto 26 34 hC (dg DX9_see 14 rfl) (by decide) ?_
    exact hR 34 _ _ _ (dg DX9_see 18 rfl) hw
theorem m_X9_see {B : Nat} {σ : SS} {p1 : Int32} {Q : Int32 → SS → Prop} (hw : wp_X9_see  σ p1 Q) : MI yX9_see cX9_see 3 (some .int) 4 111 B 95 RS [.ref (B + 0), .int p1] σ Q := MI.mk (plainFor_of_name (by decide)) (Nat.le_of_ble_eq_true rfl) (fun X hC hR => t_X9_see hC  hR hw)
-- FortressWatch.letBeManned
def wp_X9_letBeManned  (σ : SS) (p1 : Int32) (p2 : Int32) (Q : Int32 → SS → Prop) : Prop :=
  wp_X8_isPost 1 σ p1 (fun r2 σ1 =>
    ((r2 = 0 →
        Q (-1) σ1) ∧
      (¬ r2 = 0 →
        ((p2 = 0 →
            vp_in p1 9 ∧
            (((σ1 7 p1.toNatClampNeg) = p2 →
                wp_X9_refuse σ1 3 p2 (fun r4 σ3 =>
                  Q r4 σ3)) ∧
              (¬ (σ1 7 p1.toNatClampNeg) = p2 →
                vp_in p1 9 ∧
                Q 0 (u2 σ1 7 p1.toNatClampNeg p2)))) ∧
          (¬ p2 = 0 →
            ((p2 = 1 →
                vp_in p1 9 ∧
                (((σ1 7 p1.toNatClampNeg) = p2 →
                    wp_X9_refuse σ1 3 p2 (fun r6 σ5 =>
                      Q r6 σ5)) ∧
                  (¬ (σ1 7 p1.toNatClampNeg) = p2 →
                    vp_in p1 9 ∧
                    Q 0 (u2 σ1 7 p1.toNatClampNeg p2)))) ∧
              (¬ p2 = 1 →
                Q (-2) σ1)))))))
set_option maxRecDepth 100000 in
set_option maxHeartbeats 4000000 in
theorem t_X9_letBeManned {X : XT} {B : Nat} (hC : Cx X 3 cX9_letBeManned RX9 (rmN 2 45)) {Q : Int32 → SS → Prop} (hR : RtI X 3 B 95 RS cX9_letBeManned Q) {σ : SS} {p1 : Int32} {p2 : Int32} (hw : wp_X9_letBeManned  σ p1 p2 Q) : J X 3 B 95 RS 0 0 σ [(0, .ref (B + 0)), (1, .int p1), (2, .int p2)] 0 [] := by
  unfold wp_X9_letBeManned at hw
  refine j_aload_n 0 hC 0 (dg DX9_letBeManned 0 rfl) rfl rfl ?_
  refine j_getR 1 hC fX9_10 (k_0) (by decide) (by decide) rfl (dg DX9_letBeManned 1 rfl) ?_
  refine j_iload_n 4 hC 1 (dg DX9_letBeManned 2 rfl) rfl rfl ?_
  refine j_Vi (As := [.int p1]) 5 hC (m_X8_isPost isW_1 hw) kX9_127 (k_1) (by decide) ⟨_, _, rfl⟩ (rmN_ok (by decide) (by decide)) rfl rfl (Nat.le_of_ble_eq_true rfl) (dg DX9_letBeManned 3 rfl) (fun r2 σ1 hw => ?_)
  refine j_if_ne 8 13 hC (dg DX9_letBeManned 4 rfl) (by decide) (fun hbr => ?_) (fun hbr => ?_)
  · replace hw := hw.2 hbr
    refine j_iload_n 13 hC 2 (dg DX9_letBeManned 7 rfl) rfl rfl ?_
    refine j_if_eq 14 25 hC (dg DX9_letBeManned 8 rfl) (by decide) (fun hbr => ?_) (fun hbr => ?_)
    · replace hw := hw.1 hbr
      refine j_aload_n 25 hC 0 (dg DX9_letBeManned 14 rfl) rfl rfl ?_
      refine j_getR 26 hC fX9_10 (k_0) (by decide) (by decide) rfl (dg DX9_letBeManned 15 rfl) ?_
      refine j_getR 29 hC fX9_321 (k_1) (by decide) (by decide) rfl (dg DX9_letBeManned 16 rfl) ?_
      refine j_iload_n 32 hC 1 (dg DX9_letBeManned 17 rfl) rfl rfl ?_
      refine j_iald0 33 _ hC (k_7) (by decide) hw.1 rfl (dg DX9_letBeManned 18 rfl) ?_
      replace hw := hw.2
      refine j_iload_n 34 hC 2 (dg DX9_letBeManned 19 rfl) rfl rfl ?_
      refine j_icmp_ne 35 45 hC (dg DX9_letBeManned 20 rfl) (by decide) (fun hbr => ?_) (fun hbr => ?_)
      · replace hw := hw.2 hbr
        refine j_aload_n 45 hC 0 (dg DX9_letBeManned 26 rfl) rfl rfl ?_
        refine j_getR 46 hC fX9_10 (k_0) (by decide) (by decide) rfl (dg DX9_letBeManned 27 rfl) ?_
        refine j_getR 49 hC fX9_321 (k_1) (by decide) (by decide) rfl (dg DX9_letBeManned 28 rfl) ?_
        refine j_iload_n 52 hC 1 (dg DX9_letBeManned 29 rfl) rfl rfl ?_
        refine j_iload_n 53 hC 2 (dg DX9_letBeManned 30 rfl) rfl rfl ?_
        refine j_iast0 54 _ hC (k_7) (by decide) hw.1 rfl (dg DX9_letBeManned 31 rfl) ?_
        replace hw := hw.2
        refine j_iconst 55 hC (dg DX9_letBeManned 32 rfl) (v := 0) (by decide) ?_
        exact hR 56 _ _ _ (dg DX9_letBeManned 33 rfl) hw
      · replace hw := hw.1 hbr
        refine j_aload_n 38 hC 0 (dg DX9_letBeManned 21 rfl) rfl rfl ?_
        refine j_iconst 39 hC (dg DX9_letBeManned 22 rfl) (v := 3) (by decide) ?_
        refine j_iload_n 40 hC 2 (dg DX9_letBeManned 23 rfl) rfl rfl ?_
        refine j_Vi (As := [.int 3, .int p2]) 41 hC (m_X9_refuse  hw) kX9_299 (k_0) (by decide) ⟨_, _, rfl⟩ (rmN_ok (by decide) (by decide)) rfl rfl (Nat.le_of_ble_eq_true rfl) (dg DX9_letBeManned 24 rfl) (fun r4 σ3 hw => ?_)
        exact hR 44 _ _ _ (dg DX9_letBeManned 25 rfl) hw
    · replace hw := hw.2 hbr
      refine j_iload_n 17 hC 2 (dg DX9_letBeManned 9 rfl) rfl rfl ?_
      refine j_iconst 18 hC (dg DX9_letBeManned 10 rfl) (v := 1) (by decide) ?_
      refine j_icmp_eq 19 25 hC (dg DX9_letBeManned 11 rfl) (by decide) (fun hbr => ?_) (fun hbr => ?_)
      · replace hw := hw.1 hbr
        refine j_aload_n 25 hC 0 (dg DX9_letBeManned 14 rfl) rfl rfl ?_
        refine j_getR 26 hC fX9_10 (k_0) (by decide) (by decide) rfl (dg DX9_letBeManned 15 rfl) ?_
        refine j_getR 29 hC fX9_321 (k_1) (by decide) (by decide) rfl (dg DX9_letBeManned 16 rfl) ?_
        refine j_iload_n 32 hC 1 (dg DX9_letBeManned 17 rfl) rfl rfl ?_
        refine j_iald0 33 _ hC (k_7) (by decide) hw.1 rfl (dg DX9_letBeManned 18 rfl) ?_
        replace hw := hw.2
        refine j_iload_n 34 hC 2 (dg DX9_letBeManned 19 rfl) rfl rfl ?_
        refine j_icmp_ne 35 45 hC (dg DX9_letBeManned 20 rfl) (by decide) (fun hbr => ?_) (fun hbr => ?_)
        · replace hw := hw.2 hbr
          refine j_aload_n 45 hC 0 (dg DX9_letBeManned 26 rfl) rfl rfl ?_
          refine j_getR 46 hC fX9_10 (k_0) (by decide) (by decide) rfl (dg DX9_letBeManned 27 rfl) ?_
          refine j_getR 49 hC fX9_321 (k_1) (by decide) (by decide) rfl (dg DX9_letBeManned 28 rfl) ?_
          refine j_iload_n 52 hC 1 (dg DX9_letBeManned 29 rfl) rfl rfl ?_
          refine j_iload_n 53 hC 2 (dg DX9_letBeManned 30 rfl) rfl rfl ?_
          refine j_iast0 54 _ hC (k_7) (by decide) hw.1 rfl (dg DX9_letBeManned 31 rfl) ?_
          replace hw := hw.2
          refine j_iconst 55 hC (dg DX9_letBeManned 32 rfl) (v := 0) (by decide) ?_
          exact hR 56 _ _ _ (dg DX9_letBeManned 33 rfl) hw
        · replace hw := hw.1 hbr
          refine j_aload_n 38 hC 0 (dg DX9_letBeManned 21 rfl) rfl rfl ?_
          refine j_iconst 39 hC (dg DX9_letBeManned 22 rfl) (v := 3) (by decide) ?_
          refine j_iload_n 40 hC 2 (dg DX9_letBeManned 23 rfl) rfl rfl ?_
          refine j_Vi (As := [.int 3, .int p2]) 41 hC (m_X9_refuse  hw) kX9_299 (k_0) (by decide) ⟨_, _, rfl⟩ (rmN_ok (by decide) (by decide)) rfl rfl (Nat.le_of_ble_eq_true rfl) (dg DX9_letBeManned 24 rfl) (fun r6 σ5 hw => ?_)
          exact hR 44 _ _ _ (dg DX9_letBeManned 25 rfl) hw
      · replace hw := hw.2 hbr
        refine j_bipush 22 hC (dg DX9_letBeManned 12 rfl) (v := (-2)) (by decide) ?_
        exact hR 24 _ _ _ (dg DX9_letBeManned 13 rfl) hw
  · replace hw := hw.1 hbr
    refine j_iconst 11 hC (dg DX9_letBeManned 5 rfl) (v := (-1)) (by decide) ?_
    exact hR 12 _ _ _ (dg DX9_letBeManned 6 rfl) hw
theorem m_X9_letBeManned {B : Nat} {σ : SS} {p1 : Int32} {p2 : Int32} {Q : Int32 → SS → Prop} (hw : wp_X9_letBeManned  σ p1 p2 Q) : MI yX9_letBeManned cX9_letBeManned 3 (some .int) 2 45 B 95 RS [.ref (B + 0), .int p1, .int p2] σ Q := MI.mk (plainFor_of_name (by decide)) (Nat.le_of_ble_eq_true rfl) (fun X hC hR => t_X9_letBeManned hC  hR hw)
-- FortressWatch.manyWatchedNow
def wp_X9_manyWatchedNow  (σ : SS)  (Q : Int32 → SS → Prop) : Prop :=
  wp_X6_lookAt 1 σ (σ 1 7) (fun σ1 =>
    wp_X6_seenBySet σ1 (σ1 80 2) (fun r3 σ2 =>
      wp_J6_bitCount_0f7a4 σ2 r3 (fun r5 σ4 =>
        Q r5 σ4)))
set_option maxRecDepth 100000 in
set_option maxHeartbeats 4000000 in
theorem t_X9_manyWatchedNow {X : XT} {B : Nat} (hC : Cx X 1 cX9_manyWatchedNow RX9 (rmN 3 90)) {Q : Int32 → SS → Prop} (hR : RtI X 1 B 95 RS cX9_manyWatchedNow Q) {σ : SS} (hw : wp_X9_manyWatchedNow  σ  Q) : J X 1 B 95 RS 0 0 σ [(0, .ref (B + 0))] 0 [] := by
  unfold wp_X9_manyWatchedNow at hw
  refine j_aload_n 0 hC 0 (dg DX9_manyWatchedNow 0 rfl) rfl rfl ?_
  refine j_getR 1 hC fX9_32 (k_0) (by decide) (by decide) rfl (dg DX9_manyWatchedNow 1 rfl) ?_
  refine j_aload_n 4 hC 0 (dg DX9_manyWatchedNow 2 rfl) rfl rfl ?_
  refine j_getR 5 hC fX9_10 (k_0) (by decide) (by decide) rfl (dg DX9_manyWatchedNow 3 rfl) ?_
  refine j_aload_n 8 hC 0 (dg DX9_manyWatchedNow 4 rfl) rfl rfl ?_
  refine j_getR 9 hC fX9_10 (k_0) (by decide) (by decide) rfl (dg DX9_manyWatchedNow 5 rfl) ?_
  refine j_getI 12 hC fX9_134 (k_1) (by decide) (by decide) rfl (dg DX9_manyWatchedNow 6 rfl) ?_
  refine j_Vv (As := [.ref (B + 1), .int (σ 1 7)]) 15 hC (m_X6_lookAt isW_1 hw) kX9_137 (k_80) (by decide) ⟨_, _, rfl⟩ (rmN_ok (by decide) (by decide)) rfl rfl (Nat.le_of_ble_eq_true rfl) (dg DX9_manyWatchedNow 7 rfl) (fun σ1 hw => ?_)
  refine j_aload_n 18 hC 0 (dg DX9_manyWatchedNow 8 rfl) rfl rfl ?_
  refine j_getR 19 hC fX9_32 (k_0) (by decide) (by decide) rfl (dg DX9_manyWatchedNow 9 rfl) ?_
  refine j_aload_n 22 hC 0 (dg DX9_manyWatchedNow 10 rfl) rfl rfl ?_
  refine j_getR 23 hC fX9_32 (k_0) (by decide) (by decide) rfl (dg DX9_manyWatchedNow 11 rfl) ?_
  refine j_getI 26 hC fX9_163 (k_80) (by decide) (by decide) rfl (dg DX9_manyWatchedNow 12 rfl) ?_
  refine j_Vi (As := [.int (σ1 80 2)]) 29 hC (m_X6_seenBySet  hw) kX9_171 (k_80) (by decide) ⟨_, _, rfl⟩ (rmN_ok (by decide) (by decide)) rfl rfl (Nat.le_of_ble_eq_true rfl) (dg DX9_manyWatchedNow 13 rfl) (fun r3 σ2 hw => ?_)
  refine j_Si (As := [.int r3]) 32 hC (m_J6_bitCount_0f7a4  hw) kX9_166 (rmN_ok (by decide) (by decide)) rfl rfl (Nat.le_of_ble_eq_true rfl) (dg DX9_manyWatchedNow 14 rfl) (fun r5 σ4 hw => ?_)
  exact hR 35 _ _ _ (dg DX9_manyWatchedNow 15 rfl) hw
theorem m_X9_manyWatchedNow {B : Nat} {σ : SS} {Q : Int32 → SS → Prop} (hw : wp_X9_manyWatchedNow  σ  Q) : MI yX9_manyWatchedNow cX9_manyWatchedNow 1 (some .int) 3 90 B 95 RS [.ref (B + 0)] σ Q := MI.mk (plainFor_of_name (by decide)) (Nat.le_of_ble_eq_true rfl) (fun X hC hR => t_X9_manyWatchedNow hC  hR hw)
-- FortressWatch.man
def wp_X9_man  (σ : SS) (p1 : Int32) (p2 : Int32) (Q : Int32 → SS → Prop) : Prop :=
  wp_X8_copyFrom 8 1 σ (fun σ1 =>
    wp_X9_letBeManned σ1 p1 p2 (fun r3 σ2 =>
      wp_X9_kept σ2 r3 (fun r5 σ4 =>
        ((0 ≤ r5 →
            wp_X9_manyWatchedNow σ4 (fun r7 σ6 =>
              Q r7 σ6)) ∧
          (¬ 0 ≤ r5 →
            Q r5 σ4)))))
set_option maxRecDepth 100000 in
set_option maxHeartbeats 4000000 in
theorem t_X9_man {X : XT} {B : Nat} (hC : Cx X 4 cX9_man RX9 (rmN 4 110)) {Q : Int32 → SS → Prop} (hR : RtI X 4 B 95 RS cX9_man Q) {σ : SS} {p1 : Int32} {p2 : Int32} (hw : wp_X9_man  σ p1 p2 Q) : J X 4 B 95 RS 0 0 σ [(0, .ref (B + 0)), (1, .int p1), (2, .int p2)] 0 [] := by
  unfold wp_X9_man at hw
  refine j_aload_n 0 hC 0 (dg DX9_man 0 rfl) rfl rfl ?_
  refine j_getR 1 hC fX9_16 (k_0) (by decide) (by decide) rfl (dg DX9_man 1 rfl) ?_
  refine j_aload_n 4 hC 0 (dg DX9_man 2 rfl) rfl rfl ?_
  refine j_getR 5 hC fX9_10 (k_0) (by decide) (by decide) rfl (dg DX9_man 3 rfl) ?_
  refine j_Vv (As := [.ref (B + 1)]) 8 hC (m_X8_copyFrom isW_8 isW_1 hw) kX9_86 (k_8) (by decide) ⟨_, _, rfl⟩ (rmN_ok (by decide) (by decide)) rfl rfl (Nat.le_of_ble_eq_true rfl) (dg DX9_man 4 rfl) (fun σ1 hw => ?_)
  refine j_aload_n 11 hC 0 (dg DX9_man 5 rfl) rfl rfl ?_
  refine j_aload_n 12 hC 0 (dg DX9_man 6 rfl) rfl rfl ?_
  refine j_iload_n 13 hC 1 (dg DX9_man 7 rfl) rfl rfl ?_
  refine j_iload_n 14 hC 2 (dg DX9_man 8 rfl) rfl rfl ?_
  refine j_Vi (As := [.int p1, .int p2]) 15 hC (m_X9_letBeManned  hw) kX9_113 (k_0) (by decide) ⟨_, _, rfl⟩ (rmN_ok (by decide) (by decide)) rfl rfl (Nat.le_of_ble_eq_true rfl) (dg DX9_man 9 rfl) (fun r3 σ2 hw => ?_)
  refine j_Vi (As := [.int r3]) 18 hC (m_X9_kept  hw) kX9_94 (k_0) (by decide) ⟨_, _, rfl⟩ (rmN_ok (by decide) (by decide)) rfl rfl (Nat.le_of_ble_eq_true rfl) (dg DX9_man 10 rfl) (fun r5 σ4 hw => ?_)
  refine j_istore_n 21 hC [(3, .int r5), (0, .ref (B + 0)), (1, .int p1), (2, .int p2)] (dg DX9_man 11 rfl) rfl (by decide) rfl ?_
  refine j_iload_n 22 hC 0 (dg DX9_man 12 rfl) rfl rfl ?_
  refine j_if_ge 23 30 hC (dg DX9_man 13 rfl) (by decide) (fun hbr => ?_) (fun hbr => ?_)
  · replace hw := hw.1 hbr
    refine j_aload_n 30 hC 1 (dg DX9_man 16 rfl) rfl rfl ?_
    refine j_Vi (As := []) 31 hC (m_X9_manyWatchedNow  hw) kX9_117 (k_0) (by decide) ⟨_, _, rfl⟩ (rmN_ok (by decide) (by decide)) rfl rfl (Nat.le_of_ble_eq_true rfl) (dg DX9_man 17 rfl) (fun r7 σ6 hw => ?_)
    exact hR 34 _ _ _ (dg DX9_man 18 rfl) hw
  · replace hw := hw.2 hbr
    refine j_iload_n 26 hC 0 (dg DX9_man 14 rfl) rfl rfl ?_
    refine j_goto 27 34 hC (dg DX9_man 15 rfl) (by decide) ?_
    exact hR 34 _ _ _ (dg DX9_man 18 rfl) hw
theorem m_X9_man {B : Nat} {σ : SS} {p1 : Int32} {p2 : Int32} {Q : Int32 → SS → Prop} (hw : wp_X9_man  σ p1 p2 Q) : MI yX9_man cX9_man 4 (some .int) 4 110 B 95 RS [.ref (B + 0), .int p1, .int p2] σ Q := MI.mk (plainFor_of_name (by decide)) (Nat.le_of_ble_eq_true rfl) (fun X hC hR => t_X9_man hC  hR hw)
-- FortressWatch.isHour
def wp_X9_isHour  (σ : SS) (p0 : Int32) (Q : Int32 → SS → Prop) : Prop :=
  ((p0 < 0 →
      Q 0 σ) ∧
    (¬ p0 < 0 →
      ((11 < p0 →
          Q 0 σ) ∧
        (¬ 11 < p0 →
          Q 1 σ))))
set_option maxRecDepth 100000 in
set_option maxHeartbeats 4000000 in
theorem t_X9_isHour {X : XT} {B : Nat} (hC : Cx X 1 cX9_isHour RX9 (rmN 0 0)) {Q : Int32 → SS → Prop} (hR : RtZ X 1 B 95 RS cX9_isHour Q) {σ : SS} {p0 : Int32} (hw : wp_X9_isHour  σ p0 Q) : J X 1 B 95 RS 0 0 σ [(0, .int p0)] 0 [] := by
  unfold wp_X9_isHour at hw
  refine j_iload_n 0 hC 0 (dg DX9_isHour 0 rfl) rfl rfl ?_
  refine j_if_lt 1 14 hC (dg DX9_isHour 1 rfl) (by decide) (fun hbr => ?_) (fun hbr => ?_)
  · replace hw := hw.1 hbr
    refine j_iconst 14 hC (dg DX9_isHour 7 rfl) (v := 0) (by decide) ?_
    exact hR 15 _ _ _ (dg DX9_isHour 8 rfl) ⟨by decide, hw⟩
  · replace hw := hw.2 hbr
    refine j_iload_n 4 hC 0 (dg DX9_isHour 2 rfl) rfl rfl ?_
    refine j_bipush 5 hC (dg DX9_isHour 3 rfl) (v := 11) (by decide) ?_
    refine j_icmp_gt 7 14 hC (dg DX9_isHour 4 rfl) (by decide) (fun hbr => ?_) (fun hbr => ?_)
    · replace hw := hw.1 hbr
      refine j_iconst 14 hC (dg DX9_isHour 7 rfl) (v := 0) (by decide) ?_
      exact hR 15 _ _ _ (dg DX9_isHour 8 rfl) ⟨by decide, hw⟩
    · replace hw := hw.2 hbr
      refine j_iconst 10 hC (dg DX9_isHour 5 rfl) (v := 1) (by decide) ?_
      refine j_goto 11 15 hC (dg DX9_isHour 6 rfl) (by decide) ?_
      exact hR 15 _ _ _ (dg DX9_isHour 8 rfl) ⟨by decide, hw⟩
theorem m_X9_isHour {B : Nat} {σ : SS} {p0 : Int32} {Q : Int32 → SS → Prop} (hw : wp_X9_isHour  σ p0 Q) : MI yX9_isHour cX9_isHour 1 (some .boolean) 0 0 B 95 RS [.int p0] σ Q := MI.mkZ (plainFor_of_name (by decide)) (Nat.le_of_ble_eq_true rfl) (fun X hC hR => t_X9_isHour hC  hR hw)
-- FortressWatch.tellHour
def wp_X9_tellHour  (σ : SS) (p1 : Int32) (Q : Int32 → SS → Prop) : Prop :=
  wp_X9_isHour σ p1 (fun r2 σ1 =>
    ((r2 = 0 →
        Q (-2) σ1) ∧
      (¬ r2 = 0 →
        (((σ1 1 7) = p1 →
            wp_X9_refuse σ1 3 p1 (fun r4 σ3 =>
              Q r4 σ3)) ∧
          (¬ (σ1 1 7) = p1 →
            Q (σ1 1 7) (u2 σ1 1 7 p1))))))
set_option maxRecDepth 100000 in
set_option maxHeartbeats 4000000 in
theorem t_X9_tellHour {X : XT} {B : Nat} (hC : Cx X 3 cX9_tellHour RX9 (rmN 2 45)) {Q : Int32 → SS → Prop} (hR : RtI X 3 B 95 RS cX9_tellHour Q) {σ : SS} {p1 : Int32} (hw : wp_X9_tellHour  σ p1 Q) : J X 3 B 95 RS 0 0 σ [(0, .ref (B + 0)), (1, .int p1)] 0 [] := by
  unfold wp_X9_tellHour at hw
  refine j_iload_n 0 hC 1 (dg DX9_tellHour 0 rfl) rfl rfl ?_
  refine j_Si (As := [.int p1]) 1 hC (m_X9_isHour  hw) kX9_210 (rmN_ok (by decide) (by decide)) rfl rfl (Nat.le_of_ble_eq_true rfl) (dg DX9_tellHour 1 rfl) (fun r2 σ1 hw => ?_)
  refine j_if_ne 4 10 hC (dg DX9_tellHour 2 rfl) (by decide) (fun hbr => ?_) (fun hbr => ?_)
  · replace hw := hw.2 hbr
    refine j_aload_n 10 hC 0 (dg DX9_tellHour 5 rfl) rfl rfl ?_
    refine j_getR 11 hC fX9_10 (k_0) (by decide) (by decide) rfl (dg DX9_tellHour 6 rfl) ?_
    refine j_getI 14 hC fX9_134 (k_1) (by decide) (by decide) rfl (dg DX9_tellHour 7 rfl) ?_
    refine j_istore_n 17 hC [(2, .int (σ1 1 7)), (0, .ref (B + 0)), (1, .int p1)] (dg DX9_tellHour 8 rfl) rfl (by decide) rfl ?_
    refine j_iload_n 18 hC 0 (dg DX9_tellHour 9 rfl) rfl rfl ?_
    refine j_iload_n 19 hC 2 (dg DX9_tellHour 10 rfl) rfl rfl ?_
    refine j_icmp_ne 20 30 hC (dg DX9_tellHour 11 rfl) (by decide) (fun hbr => ?_) (fun hbr => ?_)
    · replace hw := hw.2 hbr
      refine j_aload_n 30 hC 1 (dg DX9_tellHour 17 rfl) rfl rfl ?_
      refine j_getR 31 hC fX9_10 (k_0) (by decide) (by decide) rfl (dg DX9_tellHour 18 rfl) ?_
      refine j_iload_n 34 hC 2 (dg DX9_tellHour 19 rfl) rfl rfl ?_
      refine j_putI 35 hC fX9_134 (k_1) (by decide) (by decide) rfl fp8_7 rfl (dg DX9_tellHour 20 rfl) ?_
      refine j_iload_n 38 hC 0 (dg DX9_tellHour 21 rfl) rfl rfl ?_
      exact hR 39 _ _ _ (dg DX9_tellHour 22 rfl) hw
    · replace hw := hw.1 hbr
      refine j_aload_n 23 hC 1 (dg DX9_tellHour 12 rfl) rfl rfl ?_
      refine j_iconst 24 hC (dg DX9_tellHour 13 rfl) (v := 3) (by decide) ?_
      refine j_iload_n 25 hC 2 (dg DX9_tellHour 14 rfl) rfl rfl ?_
      refine j_Vi (As := [.int 3, .int p1]) 26 hC (m_X9_refuse  hw) kX9_299 (k_0) (by decide) ⟨_, _, rfl⟩ (rmN_ok (by decide) (by decide)) rfl rfl (Nat.le_of_ble_eq_true rfl) (dg DX9_tellHour 15 rfl) (fun r4 σ3 hw => ?_)
      exact hR 29 _ _ _ (dg DX9_tellHour 16 rfl) hw
  · replace hw := hw.1 hbr
    refine j_bipush 7 hC (dg DX9_tellHour 3 rfl) (v := (-2)) (by decide) ?_
    exact hR 9 _ _ _ (dg DX9_tellHour 4 rfl) hw
theorem m_X9_tellHour {B : Nat} {σ : SS} {p1 : Int32} {Q : Int32 → SS → Prop} (hw : wp_X9_tellHour  σ p1 Q) : MI yX9_tellHour cX9_tellHour 3 (some .int) 2 45 B 95 RS [.ref (B + 0), .int p1] σ Q := MI.mk (plainFor_of_name (by decide)) (Nat.le_of_ble_eq_true rfl) (fun X hC hR => t_X9_tellHour hC  hR hw)
