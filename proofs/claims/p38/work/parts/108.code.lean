-- FortressWatch.carryOutAll
def bd_X9_carryOutAll_11    (Q : Int32 → SS → Prop)  (rc : SS → Int32 → Int32 → Prop) (σ : SS) (v1 : Int32) (v2 : Int32) : Prop :=
  ((70 ≤ v2 →
      Q v1 σ) ∧
    (¬ 70 ≤ v2 →
      wp_X7_takeCommand σ (fun r3 σ2 =>
        ((r3 = 0 →
            Q v1 σ2) ∧
          (¬ r3 = 0 →
            wp_X9_carryOut (u2 σ2 0 12 v2) (fun r5 σ4 =>
              ((0 ≤ r5 →
                  wp_X7_skip σ4 59 (fun r7 σ6 =>
                    rc σ6 (v1 + 1) (v2 + 1))) ∧
                (¬ 0 ≤ r5 →
                  ((r5 = (-3) →
                      Q (-3) σ4) ∧
                    (¬ r5 = (-3) →
                      Q (-2) σ4))))))))))
def wp_X9_carryOutAll  (σ : SS)  (Q : Int32 → SS → Prop) : Prop :=
  wp_X7_rewind σ (fun σ1 =>
    ∃ k8, Lii (bd_X9_carryOutAll_11 Q) k8 σ1 0 0)
set_option maxRecDepth 100000 in
set_option maxHeartbeats 4000000 in
theorem tb_X9_carryOutAll_11 {X : XT} {B : Nat} (hC : Cx X 4 cX9_carryOutAll RX9 (rmN 5 130)) {Q : Int32 → SS → Prop} (hR : RtI X 4 B 95 RS cX9_carryOutAll Q) {rc : SS → Int32 → Int32 → Prop} (hrc : ∀ (σ : SS) (v1 : Int32) (v2 : Int32), rc σ v1 v2 → J X 4 B 95 RS 0 0 σ [(0, .ref (B + 0)), (1, .int v1), (2, .int v2)] 11 []) : ∀ (σ : SS) (v1 : Int32) (v2 : Int32), bd_X9_carryOutAll_11 Q rc σ v1 v2 → J X 4 B 95 RS 0 0 σ [(0, .ref (B + 0)), (1, .int v1), (2, .int v2)] 11 [] := by
  intro σ v1 v2 hw
  unfold bd_X9_carryOutAll_11 at hw
  refine j_iload_n 11 hC 2 (dg DX9_carryOutAll 7 rfl) rfl rfl ?_
  refine j_bipush 12 hC (dg DX9_carryOutAll 8 rfl) (v := 70) (by decide) ?_
  refine j_icmp_ge 14 74 hC (dg DX9_carryOutAll 9 rfl) (by decide) (fun hbr => ?_) (fun hbr => ?_)
  · replace hw := hw.1 hbr
    refine j_iload_n 74 hC 1 (dg DX9_carryOutAll 37 rfl) rfl rfl ?_
    exact hR 75 _ _ _ (dg DX9_carryOutAll 38 rfl) hw
  · replace hw := hw.2 hbr
    refine j_aload_n 17 hC 0 (dg DX9_carryOutAll 10 rfl) rfl rfl ?_
    refine j_getR 18 hC fX9_60 (k_0) (by decide) (by decide) rfl (dg DX9_carryOutAll 11 rfl) ?_
    refine j_Vi (As := []) 21 hC (m_X7_takeCommand  hw) kX9_332 (k_90) (by decide) ⟨_, _, rfl⟩ (rmN_ok (by decide) (by decide)) rfl rfl (Nat.le_of_ble_eq_true rfl) (dg DX9_carryOutAll 12 rfl) (fun r3 σ2 hw => ?_)
    refine j_if_eq 24 74 hC (dg DX9_carryOutAll 13 rfl) (by decide) (fun hbr => ?_) (fun hbr => ?_)
    · replace hw := hw.1 hbr
      refine j_iload_n 74 hC 1 (dg DX9_carryOutAll 37 rfl) rfl rfl ?_
      exact hR 75 _ _ _ (dg DX9_carryOutAll 38 rfl) hw
    · replace hw := hw.2 hbr
      refine j_aload_n 27 hC 0 (dg DX9_carryOutAll 14 rfl) rfl rfl ?_
      refine j_iload_n 28 hC 2 (dg DX9_carryOutAll 15 rfl) rfl rfl ?_
      refine j_putI 29 hC fX9_82 (k_0) (by decide) (by decide) rfl fp9_12 rfl (dg DX9_carryOutAll 16 rfl) ?_
      refine j_aload_n 32 hC 0 (dg DX9_carryOutAll 17 rfl) rfl rfl ?_
      refine j_Vi (As := []) 33 hC (m_X9_carryOut  hw) kX9_336 (k_0) (by decide) ⟨_, _, rfl⟩ (rmN_ok (by decide) (by decide)) rfl rfl (Nat.le_of_ble_eq_true rfl) (dg DX9_carryOutAll 18 rfl) (fun r5 σ4 hw => ?_)
      refine j_istore_n 36 hC [(3, .int r5), (0, .ref (B + 0)), (1, .int v1), (2, .int v2)] (dg DX9_carryOutAll 19 rfl) rfl (by decide) rfl ?_
      refine j_iload_n 37 hC 0 (dg DX9_carryOutAll 20 rfl) rfl rfl ?_
      refine j_if_ge 38 55 hC (dg DX9_carryOutAll 21 rfl) (by decide) (fun hbr => ?_) (fun hbr => ?_)
      · replace hw := hw.1 hbr
        refine j_iinc 55 hC 2 (v1 + 1) [(1, .int (v1 + 1)), (3, .int r5), (0, .ref (B + 0)), (2, .int v2)] (dg DX9_carryOutAll 29 rfl) rfl rfl (by decide) rfl ?_
        refine j_aload_n 58 hC 2 (dg DX9_carryOutAll 30 rfl) rfl rfl ?_
        refine j_getR 59 hC fX9_60 (k_0) (by decide) (by decide) rfl (dg DX9_carryOutAll 31 rfl) ?_
        refine j_bipush 62 hC (dg DX9_carryOutAll 32 rfl) (v := 59) (by decide) ?_
        refine j_Vi (As := [.int 59]) 64 hC (m_X7_skip  hw) kX9_339 (k_90) (by decide) ⟨_, _, rfl⟩ (rmN_ok (by decide) (by decide)) rfl rfl (Nat.le_of_ble_eq_true rfl) (dg DX9_carryOutAll 33 rfl) (fun r7 σ6 hw => ?_)
        refine j_pop 67 hC (dg DX9_carryOutAll 34 rfl) rfl ?_
        refine j_iinc 68 hC 3 (v2 + 1) [(2, .int (v2 + 1)), (1, .int (v1 + 1)), (3, .int r5), (0, .ref (B + 0))] (dg DX9_carryOutAll 35 rfl) rfl rfl (by decide) rfl ?_
        refine j_goto 71 11 hC (dg DX9_carryOutAll 36 rfl) (by decide) ?_
        refine j_lv [3, 1, 0] (lv' := [(0, .ref (B + 0)), (1, .int (v1 + 1)), (2, .int (v2 + 1))]) rfl ?_
        exact hrc _ _ _ hw
      · replace hw := hw.2 hbr
        refine j_iload_n 41 hC 0 (dg DX9_carryOutAll 22 rfl) rfl rfl ?_
        refine j_bipush 42 hC (dg DX9_carryOutAll 23 rfl) (v := (-3)) (by decide) ?_
        refine j_icmp_ne 44 52 hC (dg DX9_carryOutAll 24 rfl) (by decide) (fun hbr => ?_) (fun hbr => ?_)
        · replace hw := hw.2 hbr
          refine j_bipush 52 hC (dg DX9_carryOutAll 27 rfl) (v := (-2)) (by decide) ?_
          exact hR 54 _ _ _ (dg DX9_carryOutAll 28 rfl) hw
        · replace hw := hw.1 hbr
          refine j_bipush 47 hC (dg DX9_carryOutAll 25 rfl) (v := (-3)) (by decide) ?_
          refine j_goto 49 54 hC (dg DX9_carryOutAll 26 rfl) (by decide) ?_
          exact hR 54 _ _ _ (dg DX9_carryOutAll 28 rfl) hw
set_option maxRecDepth 100000 in
set_option maxHeartbeats 4000000 in
theorem t_X9_carryOutAll {X : XT} {B : Nat} (hC : Cx X 4 cX9_carryOutAll RX9 (rmN 5 130)) {Q : Int32 → SS → Prop} (hR : RtI X 4 B 95 RS cX9_carryOutAll Q) {σ : SS} (hw : wp_X9_carryOutAll  σ  Q) : J X 4 B 95 RS 0 0 σ [(0, .ref (B + 0))] 0 [] := by
  unfold wp_X9_carryOutAll at hw
  refine j_aload_n 0 hC 0 (dg DX9_carryOutAll 0 rfl) rfl rfl ?_
  refine j_getR 1 hC fX9_60 (k_0) (by decide) (by decide) rfl (dg DX9_carryOutAll 1 rfl) ?_
  refine j_Vv (As := []) 4 hC (m_X7_rewind  hw) kX9_329 (k_90) (by decide) ⟨_, _, rfl⟩ (rmN_ok (by decide) (by decide)) rfl rfl (Nat.le_of_ble_eq_true rfl) (dg DX9_carryOutAll 2 rfl) (fun σ1 hw => ?_)
  refine j_iconst 7 hC (dg DX9_carryOutAll 3 rfl) (v := 0) (by decide) ?_
  refine j_istore_n 8 hC [(1, .int 0), (0, .ref (B + 0))] (dg DX9_carryOutAll 4 rfl) rfl (by decide) rfl ?_
  refine j_iconst 9 hC (dg DX9_carryOutAll 5 rfl) (v := 0) (by decide) ?_
  refine j_istore_n 10 hC [(2, .int 0), (1, .int 0), (0, .ref (B + 0))] (dg DX9_carryOutAll 6 rfl) rfl (by decide) rfl ?_
  obtain ⟨k8, hw⟩ := hw
  refine j_lv [2, 1, 0] (lv' := [(0, .ref (B + 0)), (1, .int 0), (2, .int 0)]) rfl ?_
  exact Lii.snd (P := fun τ w1 w2 => J X 4 B 95 RS 0 0 τ [(0, .ref (B + 0)), (1, .int w1), (2, .int w2)] 11 []) (fun rcc hrcc => tb_X9_carryOutAll_11 hC  hR  hrcc) k8 _ _ _ hw
theorem m_X9_carryOutAll {B : Nat} {σ : SS} {Q : Int32 → SS → Prop} (hw : wp_X9_carryOutAll  σ  Q) : MI yX9_carryOutAll cX9_carryOutAll 4 (some .int) 5 130 B 95 RS [.ref (B + 0)] σ Q := MI.mk (plainFor_of_name (by decide)) (Nat.le_of_ble_eq_true rfl) (fun X hC hR => t_X9_carryOutAll hC  hR hw)
-- FortressWatch.read
def wp_X9_read  (σ : SS)  (Q : Int32 → SS → Prop) : Prop :=
  wp_X7_findFault σ (fun r2 σ1 =>
    ((r2 = (-1) →
        wp_X8_copyFrom 8 1 σ1 (fun σ3 =>
          wp_X9_carryOutAll σ3 (fun r5 σ4 =>
            wp_X9_kept σ4 r5 (fun r7 σ6 =>
              ((0 ≤ r7 →
                  wp_X7_clear (u2 σ6 0 12 (-4)) (fun σ8 =>
                    Q r7 σ8)) ∧
                (¬ 0 ≤ r7 →
                  wp_X8_copyFrom 1 8 σ6 (fun σ9 =>
                    wp_X7_clear (u2 σ9 0 12 (-4)) (fun σ10 =>
                      Q r7 σ10)))))))) ∧
      (¬ r2 = (-1) →
        wp_X7_clear σ1 (fun σ11 =>
          Q ((-100) - r2) σ11))))
set_option maxRecDepth 100000 in
set_option maxHeartbeats 4000000 in
theorem t_X9_read {X : XT} {B : Nat} (hC : Cx X 3 cX9_read RX9 (rmN 6 153)) {Q : Int32 → SS → Prop} (hR : RtI X 3 B 95 RS cX9_read Q) {σ : SS} (hw : wp_X9_read  σ  Q) : J X 3 B 95 RS 0 0 σ [(0, .ref (B + 0))] 0 [] := by
  unfold wp_X9_read at hw
  refine j_aload_n 0 hC 0 (dg DX9_read 0 rfl) rfl rfl ?_
  refine j_getR 1 hC fX9_60 (k_0) (by decide) (by decide) rfl (dg DX9_read 1 rfl) ?_
  refine j_Vi (As := []) 4 hC (m_X7_findFault  hw) kX9_249 (k_90) (by decide) ⟨_, _, rfl⟩ (rmN_ok (by decide) (by decide)) rfl rfl (Nat.le_of_ble_eq_true rfl) (dg DX9_read 2 rfl) (fun r2 σ1 hw => ?_)
  refine j_istore_n 7 hC [(1, .int r2), (0, .ref (B + 0))] (dg DX9_read 3 rfl) rfl (by decide) rfl ?_
  refine j_iload_n 8 hC 0 (dg DX9_read 4 rfl) rfl rfl ?_
  refine j_iconst 9 hC (dg DX9_read 5 rfl) (v := (-1)) (by decide) ?_
  refine j_icmp_eq 10 25 hC (dg DX9_read 6 rfl) (by decide) (fun hbr => ?_) (fun hbr => ?_)
  · replace hw := hw.1 hbr
    refine j_aload_n 25 hC 1 (dg DX9_read 14 rfl) rfl rfl ?_
    refine j_getR 26 hC fX9_16 (k_0) (by decide) (by decide) rfl (dg DX9_read 15 rfl) ?_
    refine j_aload_n 29 hC 1 (dg DX9_read 16 rfl) rfl rfl ?_
    refine j_getR 30 hC fX9_10 (k_0) (by decide) (by decide) rfl (dg DX9_read 17 rfl) ?_
    refine j_Vv (As := [.ref (B + 1)]) 33 hC (m_X8_copyFrom isW_8 isW_1 hw) kX9_86 (k_8) (by decide) ⟨_, _, rfl⟩ (rmN_ok (by decide) (by decide)) rfl rfl (Nat.le_of_ble_eq_true rfl) (dg DX9_read 18 rfl) (fun σ3 hw => ?_)
    refine j_aload_n 36 hC 1 (dg DX9_read 19 rfl) rfl rfl ?_
    refine j_aload_n 37 hC 1 (dg DX9_read 20 rfl) rfl rfl ?_
    refine j_Vi (As := []) 38 hC (m_X9_carryOutAll  hw) kX9_253 (k_0) (by decide) ⟨_, _, rfl⟩ (rmN_ok (by decide) (by decide)) rfl rfl (Nat.le_of_ble_eq_true rfl) (dg DX9_read 21 rfl) (fun r5 σ4 hw => ?_)
    refine j_Vi (As := [.int r5]) 41 hC (m_X9_kept  hw) kX9_94 (k_0) (by decide) ⟨_, _, rfl⟩ (rmN_ok (by decide) (by decide)) rfl rfl (Nat.le_of_ble_eq_true rfl) (dg DX9_read 22 rfl) (fun r7 σ6 hw => ?_)
    refine j_istore_n 44 hC [(2, .int r7), (1, .int r2), (0, .ref (B + 0))] (dg DX9_read 23 rfl) rfl (by decide) rfl ?_
    refine j_iload_n 45 hC 0 (dg DX9_read 24 rfl) rfl rfl ?_
    refine j_if_ge 46 60 hC (dg DX9_read 25 rfl) (by decide) (fun hbr => ?_) (fun hbr => ?_)
    · replace hw := hw.1 hbr
      refine j_aload_n 60 hC 2 (dg DX9_read 31 rfl) rfl rfl ?_
      refine j_bipush 61 hC (dg DX9_read 32 rfl) (v := (-4)) (by decide) ?_
      refine j_putI 63 hC fX9_82 (k_0) (by decide) (by decide) rfl fp9_12 rfl (dg DX9_read 33 rfl) ?_
      refine j_aload_n 66 hC 2 (dg DX9_read 34 rfl) rfl rfl ?_
      refine j_getR 67 hC fX9_60 (k_0) (by decide) (by decide) rfl (dg DX9_read 35 rfl) ?_
      refine j_Vv (As := []) 70 hC (m_X7_clear  hw) kX9_252 (k_90) (by decide) ⟨_, _, rfl⟩ (rmN_ok (by decide) (by decide)) rfl rfl (Nat.le_of_ble_eq_true rfl) (dg DX9_read 36 rfl) (fun σ8 hw => ?_)
      refine j_iload_n 73 hC 0 (dg DX9_read 37 rfl) rfl rfl ?_
      exact hR 74 _ _ _ (dg DX9_read 38 rfl) hw
    · replace hw := hw.2 hbr
      refine j_aload_n 49 hC 2 (dg DX9_read 26 rfl) rfl rfl ?_
      refine j_getR 50 hC fX9_10 (k_0) (by decide) (by decide) rfl (dg DX9_read 27 rfl) ?_
      refine j_aload_n 53 hC 2 (dg DX9_read 28 rfl) rfl rfl ?_
      refine j_getR 54 hC fX9_16 (k_0) (by decide) (by decide) rfl (dg DX9_read 29 rfl) ?_
      refine j_Vv (As := [.ref (B + 8)]) 57 hC (m_X8_copyFrom isW_1 isW_8 hw) kX9_86 (k_1) (by decide) ⟨_, _, rfl⟩ (rmN_ok (by decide) (by decide)) rfl rfl (Nat.le_of_ble_eq_true rfl) (dg DX9_read 30 rfl) (fun σ9 hw => ?_)
      refine j_aload_n 60 hC 2 (dg DX9_read 31 rfl) rfl rfl ?_
      refine j_bipush 61 hC (dg DX9_read 32 rfl) (v := (-4)) (by decide) ?_
      refine j_putI 63 hC fX9_82 (k_0) (by decide) (by decide) rfl fp9_12 rfl (dg DX9_read 33 rfl) ?_
      refine j_aload_n 66 hC 2 (dg DX9_read 34 rfl) rfl rfl ?_
      refine j_getR 67 hC fX9_60 (k_0) (by decide) (by decide) rfl (dg DX9_read 35 rfl) ?_
      refine j_Vv (As := []) 70 hC (m_X7_clear  hw) kX9_252 (k_90) (by decide) ⟨_, _, rfl⟩ (rmN_ok (by decide) (by decide)) rfl rfl (Nat.le_of_ble_eq_true rfl) (dg DX9_read 36 rfl) (fun σ10 hw => ?_)
      refine j_iload_n 73 hC 0 (dg DX9_read 37 rfl) rfl rfl ?_
      exact hR 74 _ _ _ (dg DX9_read 38 rfl) hw
  · replace hw := hw.2 hbr
    refine j_aload_n 13 hC 1 (dg DX9_read 7 rfl) rfl rfl ?_
    refine j_getR 14 hC fX9_60 (k_0) (by decide) (by decide) rfl (dg DX9_read 8 rfl) ?_
    refine j_Vv (As := []) 17 hC (m_X7_clear  hw) kX9_252 (k_90) (by decide) ⟨_, _, rfl⟩ (rmN_ok (by decide) (by decide)) rfl rfl (Nat.le_of_ble_eq_true rfl) (dg DX9_read 9 rfl) (fun σ11 hw => ?_)
    refine j_bipush 20 hC (dg DX9_read 10 rfl) (v := (-100)) (by decide) ?_
    refine j_iload_n 22 hC 0 (dg DX9_read 11 rfl) rfl rfl ?_
    refine j_isub 23 hC (dg DX9_read 12 rfl) ?_
    exact hR 24 _ _ _ (dg DX9_read 13 rfl) hw
theorem m_X9_read {B : Nat} {σ : SS} {Q : Int32 → SS → Prop} (hw : wp_X9_read  σ  Q) : MI yX9_read cX9_read 3 (some .int) 6 153 B 95 RS [.ref (B + 0)] σ Q := MI.mk (plainFor_of_name (by decide)) (Nat.le_of_ble_eq_true rfl) (fun X hC hR => t_X9_read hC  hR hw)
-- FortressWatch.sightAccount
def wp_X9_sightAccount  (σ : SS) (p1 : Int32) (Q : Int32 → SS → Prop) : Prop :=
  wp_X6_lookAt 1 σ (σ 1 7) (fun σ1 =>
    wp_X6_seenBySet σ1 (σ1 80 2) (fun r3 σ2 =>
      wp_X1_find σ2 r3 (fun σ4 =>
        ((p1 = 0 →
            Q (σ4 1 6) σ4) ∧
          (¬ p1 = 0 →
            ((p1 = 1 →
                wp_J6_bitCount_0f7a4 σ4 (σ4 80 2) (fun r6 σ5 =>
                  Q r6 σ5)) ∧
              (¬ p1 = 1 →
                ((p1 = 2 →
                    wp_J6_bitCount_0f7a4 σ4 r3 (fun r8 σ7 =>
                      Q r8 σ7)) ∧
                  (¬ p1 = 2 →
                    ((p1 = 3 →
                        wp_X6_overlaps σ4 (fun r10 σ9 =>
                          Q r10 σ9)) ∧
                      (¬ p1 = 3 →
                        ((p1 = 4 →
                            Q (σ4 85 2) σ4) ∧
                          (¬ p1 = 4 →
                            ((p1 = 5 →
                                wp_X1_longest σ4 (fun r12 σ11 =>
                                  Q r12 σ11)) ∧
                              (¬ p1 = 5 →
                                wp_X9_manyUnseen σ4 (fun r14 σ13 =>
                                  Q r14 σ13))))))))))))))))
set_option maxRecDepth 100000 in
set_option maxHeartbeats 4000000 in
theorem t_X9_sightAccount {X : XT} {B : Nat} (hC : Cx X 3 cX9_sightAccount RX9 (rmN 3 90)) {Q : Int32 → SS → Prop} (hR : RtI X 3 B 95 RS cX9_sightAccount Q) {σ : SS} {p1 : Int32} (hw : wp_X9_sightAccount  σ p1 Q) : J X 3 B 95 RS 0 0 σ [(0, .ref (B + 0)), (1, .int p1)] 0 [] := by
  unfold wp_X9_sightAccount at hw
  refine j_aload_n 0 hC 0 (dg DX9_sightAccount 0 rfl) rfl rfl ?_
  refine j_getR 1 hC fX9_32 (k_0) (by decide) (by decide) rfl (dg DX9_sightAccount 1 rfl) ?_
  refine j_aload_n 4 hC 0 (dg DX9_sightAccount 2 rfl) rfl rfl ?_
  refine j_getR 5 hC fX9_10 (k_0) (by decide) (by decide) rfl (dg DX9_sightAccount 3 rfl) ?_
  refine j_aload_n 8 hC 0 (dg DX9_sightAccount 4 rfl) rfl rfl ?_
  refine j_getR 9 hC fX9_10 (k_0) (by decide) (by decide) rfl (dg DX9_sightAccount 5 rfl) ?_
  refine j_getI 12 hC fX9_134 (k_1) (by decide) (by decide) rfl (dg DX9_sightAccount 6 rfl) ?_
  refine j_Vv (As := [.ref (B + 1), .int (σ 1 7)]) 15 hC (m_X6_lookAt isW_1 hw) kX9_137 (k_80) (by decide) ⟨_, _, rfl⟩ (rmN_ok (by decide) (by decide)) rfl rfl (Nat.le_of_ble_eq_true rfl) (dg DX9_sightAccount 7 rfl) (fun σ1 hw => ?_)
  refine j_aload_n 18 hC 0 (dg DX9_sightAccount 8 rfl) rfl rfl ?_
  refine j_getR 19 hC fX9_32 (k_0) (by decide) (by decide) rfl (dg DX9_sightAccount 9 rfl) ?_
  refine j_aload_n 22 hC 0 (dg DX9_sightAccount 10 rfl) rfl rfl ?_
  refine j_getR 23 hC fX9_32 (k_0) (by decide) (by decide) rfl (dg DX9_sightAccount 11 rfl) ?_
  refine j_getI 26 hC fX9_163 (k_80) (by decide) (by decide) rfl (dg DX9_sightAccount 12 rfl) ?_
  refine j_Vi (As := [.int (σ1 80 2)]) 29 hC (m_X6_seenBySet  hw) kX9_171 (k_80) (by decide) ⟨_, _, rfl⟩ (rmN_ok (by decide) (by decide)) rfl rfl (Nat.le_of_ble_eq_true rfl) (dg DX9_sightAccount 13 rfl) (fun r3 σ2 hw => ?_)
  refine j_istore_n 32 hC [(2, .int r3), (0, .ref (B + 0)), (1, .int p1)] (dg DX9_sightAccount 14 rfl) rfl (by decide) rfl ?_
  refine j_aload_n 33 hC 1 (dg DX9_sightAccount 15 rfl) rfl rfl ?_
  refine j_getR 34 hC fX9_46 (k_0) (by decide) (by decide) rfl (dg DX9_sightAccount 16 rfl) ?_
  refine j_iload_n 37 hC 0 (dg DX9_sightAccount 17 rfl) rfl rfl ?_
  refine j_Vv (As := [.int r3]) 38 hC (m_X1_find  hw) kX9_174 (k_85) (by decide) ⟨_, _, rfl⟩ (rmN_ok (by decide) (by decide)) rfl rfl (Nat.le_of_ble_eq_true rfl) (dg DX9_sightAccount 18 rfl) (fun σ4 hw => ?_)
  refine j_iload_n 41 hC 2 (dg DX9_sightAccount 19 rfl) rfl rfl ?_
  by_cases n0 : p1 = 0
  · replace hw := hw.1 n0
    refine j_tableIn 42 80 hC (dg DX9_sightAccount 20 rfl) (by rw [n0]; decide) (by rw [n0]; decide) (off := 38) (by rw [n0]; rfl) (by decide) ?_
    refine j_aload_n 80 hC 1 (dg DX9_sightAccount 21 rfl) rfl rfl ?_
    refine j_getR 81 hC fX9_10 (k_0) (by decide) (by decide) rfl (dg DX9_sightAccount 22 rfl) ?_
    refine j_getI 84 hC fX9_203 (k_1) (by decide) (by decide) rfl (dg DX9_sightAccount 23 rfl) ?_
    exact hR 87 _ _ _ (dg DX9_sightAccount 24 rfl) hw
  replace hw := hw.2 n0
  by_cases n1 : p1 = 1
  · replace hw := hw.1 n1
    refine j_tableIn 42 88 hC (dg DX9_sightAccount 20 rfl) (by rw [n1]; decide) (by rw [n1]; decide) (off := 46) (by rw [n1]; rfl) (by decide) ?_
    refine j_aload_n 88 hC 1 (dg DX9_sightAccount 25 rfl) rfl rfl ?_
    refine j_getR 89 hC fX9_32 (k_0) (by decide) (by decide) rfl (dg DX9_sightAccount 26 rfl) ?_
    refine j_getI 92 hC fX9_163 (k_80) (by decide) (by decide) rfl (dg DX9_sightAccount 27 rfl) ?_
    refine j_Si (As := [.int (σ4 80 2)]) 95 hC (m_J6_bitCount_0f7a4  hw) kX9_166 (rmN_ok (by decide) (by decide)) rfl rfl (Nat.le_of_ble_eq_true rfl) (dg DX9_sightAccount 28 rfl) (fun r6 σ5 hw => ?_)
    exact hR 98 _ _ _ (dg DX9_sightAccount 29 rfl) hw
  replace hw := hw.2 n1
  by_cases n2 : p1 = 2
  · replace hw := hw.1 n2
    refine j_tableIn 42 99 hC (dg DX9_sightAccount 20 rfl) (by rw [n2]; decide) (by rw [n2]; decide) (off := 57) (by rw [n2]; rfl) (by decide) ?_
    refine j_iload_n 99 hC 0 (dg DX9_sightAccount 30 rfl) rfl rfl ?_
    refine j_Si (As := [.int r3]) 100 hC (m_J6_bitCount_0f7a4  hw) kX9_166 (rmN_ok (by decide) (by decide)) rfl rfl (Nat.le_of_ble_eq_true rfl) (dg DX9_sightAccount 31 rfl) (fun r8 σ7 hw => ?_)
    exact hR 103 _ _ _ (dg DX9_sightAccount 32 rfl) hw
  replace hw := hw.2 n2
  by_cases n3 : p1 = 3
  · replace hw := hw.1 n3
    refine j_tableIn 42 104 hC (dg DX9_sightAccount 20 rfl) (by rw [n3]; decide) (by rw [n3]; decide) (off := 62) (by rw [n3]; rfl) (by decide) ?_
    refine j_aload_n 104 hC 1 (dg DX9_sightAccount 33 rfl) rfl rfl ?_
    refine j_getR 105 hC fX9_32 (k_0) (by decide) (by decide) rfl (dg DX9_sightAccount 34 rfl) ?_
    refine j_Vi (As := []) 108 hC (m_X6_overlaps  hw) kX9_354 (k_80) (by decide) ⟨_, _, rfl⟩ (rmN_ok (by decide) (by decide)) rfl rfl (Nat.le_of_ble_eq_true rfl) (dg DX9_sightAccount 35 rfl) (fun r10 σ9 hw => ?_)
    exact hR 111 _ _ _ (dg DX9_sightAccount 36 rfl) hw
  replace hw := hw.2 n3
  by_cases n4 : p1 = 4
  · replace hw := hw.1 n4
    refine j_tableIn 42 112 hC (dg DX9_sightAccount 20 rfl) (by rw [n4]; decide) (by rw [n4]; decide) (off := 70) (by rw [n4]; rfl) (by decide) ?_
    refine j_aload_n 112 hC 1 (dg DX9_sightAccount 37 rfl) rfl rfl ?_
    refine j_getR 113 hC fX9_46 (k_0) (by decide) (by decide) rfl (dg DX9_sightAccount 38 rfl) ?_
    refine j_getI 116 hC fX9_357 (k_85) (by decide) (by decide) rfl (dg DX9_sightAccount 39 rfl) ?_
    exact hR 119 _ _ _ (dg DX9_sightAccount 40 rfl) hw
  replace hw := hw.2 n4
  by_cases n5 : p1 = 5
  · replace hw := hw.1 n5
    refine j_tableIn 42 120 hC (dg DX9_sightAccount 20 rfl) (by rw [n5]; decide) (by rw [n5]; decide) (off := 78) (by rw [n5]; rfl) (by decide) ?_
    refine j_aload_n 120 hC 1 (dg DX9_sightAccount 41 rfl) rfl rfl ?_
    refine j_getR 121 hC fX9_46 (k_0) (by decide) (by decide) rfl (dg DX9_sightAccount 42 rfl) ?_
    refine j_Vi (As := []) 124 hC (m_X1_longest  hw) kX9_358 (k_85) (by decide) ⟨_, _, rfl⟩ (rmN_ok (by decide) (by decide)) rfl rfl (Nat.le_of_ble_eq_true rfl) (dg DX9_sightAccount 43 rfl) (fun r12 σ11 hw => ?_)
    exact hR 127 _ _ _ (dg DX9_sightAccount 44 rfl) hw
  replace hw := hw.2 n5
  have hout : (p1).toInt < 0 ∨ 5 < (p1).toInt := by
    have q0 : (p1).toInt ≠ 0 := i32_ne n0
    have q1 : (p1).toInt ≠ 1 := i32_ne n1
    have q2 : (p1).toInt ≠ 2 := i32_ne n2
    have q3 : (p1).toInt ≠ 3 := i32_ne n3
    have q4 : (p1).toInt ≠ 4 := i32_ne n4
    have q5 : (p1).toInt ≠ 5 := i32_ne n5
    omega
  refine j_tableOut 42 128 hC (dg DX9_sightAccount 20 rfl) hout (by decide) ?_
  refine j_aload_n 128 hC 1 (dg DX9_sightAccount 45 rfl) rfl rfl ?_
  refine j_Vi (As := []) 129 hC (m_X9_manyUnseen  hw) kX9_323 (k_0) (by decide) ⟨_, _, rfl⟩ (rmN_ok (by decide) (by decide)) rfl rfl (Nat.le_of_ble_eq_true rfl) (dg DX9_sightAccount 46 rfl) (fun r14 σ13 hw => ?_)
  exact hR 132 _ _ _ (dg DX9_sightAccount 47 rfl) hw
theorem m_X9_sightAccount {B : Nat} {σ : SS} {p1 : Int32} {Q : Int32 → SS → Prop} (hw : wp_X9_sightAccount  σ p1 Q) : MI yX9_sightAccount cX9_sightAccount 3 (some .int) 3 90 B 95 RS [.ref (B + 0), .int p1] σ Q := MI.mk (plainFor_of_name (by decide)) (Nat.le_of_ble_eq_true rfl) (fun X hC hR => t_X9_sightAccount hC  hR hw)
-- FortressWatch.account
def wp_X9_account  (σ : SS) (p1 : Int32) (Q : Int32 → SS → Prop) : Prop :=
  ((p1 < 0 →
      Q (-2) σ) ∧
    (¬ p1 < 0 →
      ((p1 ≤ 12 →
          ((p1 = 11 →
              Q (σ 90 2) σ) ∧
            (¬ p1 = 11 →
              ((p1 = 12 →
                  Q (σ 22 2) σ) ∧
                (¬ p1 = 12 →
                  ((p1 < 7 →
                      wp_X9_sightAccount σ p1 (fun r2 σ1 =>
                        Q r2 σ1)) ∧
                    (¬ p1 < 7 →
                      wp_X8_accountOf 1 σ p1 (fun r4 σ3 =>
                        Q r4 σ3)))))))) ∧
        (¬ p1 ≤ 12 →
          Q (-2) σ))))
set_option maxRecDepth 100000 in
set_option maxHeartbeats 4000000 in
theorem t_X9_account {X : XT} {B : Nat} (hC : Cx X 2 cX9_account RX9 (rmN 4 112)) {Q : Int32 → SS → Prop} (hR : RtI X 2 B 95 RS cX9_account Q) {σ : SS} {p1 : Int32} (hw : wp_X9_account  σ p1 Q) : J X 2 B 95 RS 0 0 σ [(0, .ref (B + 0)), (1, .int p1)] 0 [] := by
  unfold wp_X9_account at hw
  refine j_iload_n 0 hC 1 (dg DX9_account 0 rfl) rfl rfl ?_
  refine j_if_lt 1 10 hC (dg DX9_account 1 rfl) (by decide) (fun hbr => ?_) (fun hbr => ?_)
  · replace hw := hw.1 hbr
    refine j_bipush 10 hC (dg DX9_account 5 rfl) (v := (-2)) (by decide) ?_
    exact hR 12 _ _ _ (dg DX9_account 6 rfl) hw
  · replace hw := hw.2 hbr
    refine j_iload_n 4 hC 1 (dg DX9_account 2 rfl) rfl rfl ?_
    refine j_bipush 5 hC (dg DX9_account 3 rfl) (v := 12) (by decide) ?_
    refine j_icmp_le 7 13 hC (dg DX9_account 4 rfl) (by decide) (fun hbr => ?_) (fun hbr => ?_)
    · replace hw := hw.1 hbr
      refine j_iload_n 13 hC 1 (dg DX9_account 7 rfl) rfl rfl ?_
      refine j_bipush 14 hC (dg DX9_account 8 rfl) (v := 11) (by decide) ?_
      refine j_icmp_ne 16 27 hC (dg DX9_account 9 rfl) (by decide) (fun hbr => ?_) (fun hbr => ?_)
      · replace hw := hw.2 hbr
        refine j_iload_n 27 hC 1 (dg DX9_account 14 rfl) rfl rfl ?_
        refine j_bipush 28 hC (dg DX9_account 15 rfl) (v := 12) (by decide) ?_
        refine j_icmp_ne 30 41 hC (dg DX9_account 16 rfl) (by decide) (fun hbr => ?_) (fun hbr => ?_)
        · replace hw := hw.2 hbr
          refine j_iload_n 41 hC 1 (dg DX9_account 21 rfl) rfl rfl ?_
          refine j_bipush 42 hC (dg DX9_account 22 rfl) (v := 7) (by decide) ?_
          refine j_icmp_lt 44 58 hC (dg DX9_account 23 rfl) (by decide) (fun hbr => ?_) (fun hbr => ?_)
          · replace hw := hw.1 hbr
            refine j_aload_n 58 hC 0 (dg DX9_account 29 rfl) rfl rfl ?_
            refine j_iload_n 59 hC 1 (dg DX9_account 30 rfl) rfl rfl ?_
            refine j_Vi (As := [.int p1]) 60 hC (m_X9_sightAccount  hw) kX9_265 (k_0) (by decide) ⟨_, _, rfl⟩ (rmN_ok (by decide) (by decide)) rfl rfl (Nat.le_of_ble_eq_true rfl) (dg DX9_account 31 rfl) (fun r2 σ1 hw => ?_)
            exact hR 63 _ _ _ (dg DX9_account 32 rfl) hw
          · replace hw := hw.2 hbr
            refine j_aload_n 47 hC 0 (dg DX9_account 24 rfl) rfl rfl ?_
            refine j_getR 48 hC fX9_10 (k_0) (by decide) (by decide) rfl (dg DX9_account 25 rfl) ?_
            refine j_iload_n 51 hC 1 (dg DX9_account 26 rfl) rfl rfl ?_
            refine j_Vi (As := [.int p1]) 52 hC (m_X8_accountOf isW_1 hw) kX9_262 (k_1) (by decide) ⟨_, _, rfl⟩ (rmN_ok (by decide) (by decide)) rfl rfl (Nat.le_of_ble_eq_true rfl) (dg DX9_account 27 rfl) (fun r4 σ3 hw => ?_)
            refine j_goto 55 63 hC (dg DX9_account 28 rfl) (by decide) ?_
            exact hR 63 _ _ _ (dg DX9_account 32 rfl) hw
        · replace hw := hw.1 hbr
          refine j_aload_n 33 hC 0 (dg DX9_account 17 rfl) rfl rfl ?_
          refine j_getR 34 hC fX9_25 (k_0) (by decide) (by decide) rfl (dg DX9_account 18 rfl) ?_
          refine j_getI 37 hC fX9_259 (k_22) (by decide) (by decide) rfl (dg DX9_account 19 rfl) ?_
          exact hR 40 _ _ _ (dg DX9_account 20 rfl) hw
      · replace hw := hw.1 hbr
        refine j_aload_n 19 hC 0 (dg DX9_account 10 rfl) rfl rfl ?_
        refine j_getR 20 hC fX9_60 (k_0) (by decide) (by decide) rfl (dg DX9_account 11 rfl) ?_
        refine j_getI 23 hC fX9_258 (k_90) (by decide) (by decide) rfl (dg DX9_account 12 rfl) ?_
        exact hR 26 _ _ _ (dg DX9_account 13 rfl) hw
    · replace hw := hw.2 hbr
      refine j_bipush 10 hC (dg DX9_account 5 rfl) (v := (-2)) (by decide) ?_
      exact hR 12 _ _ _ (dg DX9_account 6 rfl) hw
theorem m_X9_account {B : Nat} {σ : SS} {p1 : Int32} {Q : Int32 → SS → Prop} (hw : wp_X9_account  σ p1 Q) : MI yX9_account cX9_account 2 (some .int) 4 112 B 95 RS [.ref (B + 0), .int p1] σ Q := MI.mk (plainFor_of_name (by decide)) (Nat.le_of_ble_eq_true rfl) (fun X hC hR => t_X9_account hC  hR hw)
-- FortressWatch.isWell
def wp_X9_isWell  (σ : SS)  (Q : Int32 → SS → Prop) : Prop :=
  wp_X6_lookAt 1 σ (σ 1 7) (fun σ1 =>
    wp_X0_trySets σ1 (fun σ2 =>
      wp_X0_searchStones σ2 (fun r4 σ3 =>
        (((σ2 82 2) = r4 →
            (((σ2 82 2) = (-4) →
                wp_X6_seenBySet σ3 (σ3 80 2) (fun r6 σ5 =>
                  wp_X1_find σ5 r6 (fun σ7 =>
                    wp_J6_bitCount_0f7a4 σ7 r6 (fun r9 σ8 =>
                      wp_X1_lengthOfAll σ8 (fun r11 σ10 =>
                        (((r9 + r11) = 24 →
                            Q 1 σ10) ∧
                          (¬ (r9 + r11) = 24 →
                            Q 0 σ10))))))) ∧
              (¬ (σ2 82 2) = (-4) →
                wp_X6_seenBySet σ3 (σ2 82 2) (fun r13 σ12 =>
                  ((r13 = 16777215 →
                      wp_X6_seenBySet σ12 (σ12 80 2) (fun r15 σ14 =>
                        wp_X1_find σ14 r15 (fun σ16 =>
                          wp_J6_bitCount_0f7a4 σ16 r15 (fun r18 σ17 =>
                            wp_X1_lengthOfAll σ17 (fun r20 σ19 =>
                              (((r18 + r20) = 24 →
                                  Q 1 σ19) ∧
                                (¬ (r18 + r20) = 24 →
                                  Q 0 σ19))))))) ∧
                    (¬ r13 = 16777215 →
                      Q 0 σ12)))))) ∧
          (¬ (σ2 82 2) = r4 →
            Q 0 σ3)))))
set_option maxRecDepth 100000 in
set_option maxHeartbeats 4000000 in
theorem t_X9_isWell {X : XT} {B : Nat} (hC : Cx X 3 cX9_isWell RX9 (rmN 16 432)) {Q : Int32 → SS → Prop} (hR : RtI X 3 B 95 RS cX9_isWell Q) {σ : SS} (hw : wp_X9_isWell  σ  Q) : J X 3 B 95 RS 0 0 σ [(0, .ref (B + 0))] 0 [] := by
  unfold wp_X9_isWell at hw
  refine j_aload_n 0 hC 0 (dg DX9_isWell 0 rfl) rfl rfl ?_
  refine j_getR 1 hC fX9_32 (k_0) (by decide) (by decide) rfl (dg DX9_isWell 1 rfl) ?_
  refine j_aload_n 4 hC 0 (dg DX9_isWell 2 rfl) rfl rfl ?_
  refine j_getR 5 hC fX9_10 (k_0) (by decide) (by decide) rfl (dg DX9_isWell 3 rfl) ?_
  refine j_aload_n 8 hC 0 (dg DX9_isWell 4 rfl) rfl rfl ?_
  refine j_getR 9 hC fX9_10 (k_0) (by decide) (by decide) rfl (dg DX9_isWell 5 rfl) ?_
  refine j_getI 12 hC fX9_134 (k_1) (by decide) (by decide) rfl (dg DX9_isWell 6 rfl) ?_
  refine j_Vv (As := [.ref (B + 1), .int (σ 1 7)]) 15 hC (m_X6_lookAt isW_1 hw) kX9_137 (k_80) (by decide) ⟨_, _, rfl⟩ (rmN_ok (by decide) (by decide)) rfl rfl (Nat.le_of_ble_eq_true rfl) (dg DX9_isWell 7 rfl) (fun σ1 hw => ?_)
  refine j_aload_n 18 hC 0 (dg DX9_isWell 8 rfl) rfl rfl ?_
  refine j_getR 19 hC fX9_39 (k_0) (by decide) (by decide) rfl (dg DX9_isWell 9 rfl) ?_
  refine j_aload_n 22 hC 0 (dg DX9_isWell 10 rfl) rfl rfl ?_
  refine j_getR 23 hC fX9_32 (k_0) (by decide) (by decide) rfl (dg DX9_isWell 11 rfl) ?_
  refine j_Vv (As := [.ref (B + 80)]) 26 hC (m_X0_trySets  hw) kX9_147 (k_82) (by decide) ⟨_, _, rfl⟩ (rmN_ok (by decide) (by decide)) rfl rfl (Nat.le_of_ble_eq_true rfl) (dg DX9_isWell 12 rfl) (fun σ2 hw => ?_)
  refine j_aload_n 29 hC 0 (dg DX9_isWell 13 rfl) rfl rfl ?_
  refine j_getR 30 hC fX9_39 (k_0) (by decide) (by decide) rfl (dg DX9_isWell 14 rfl) ?_
  refine j_getI 33 hC fX9_193 (k_82) (by decide) (by decide) rfl (dg DX9_isWell 15 rfl) ?_
  refine j_istore_n 36 hC [(1, .int (σ2 82 2)), (0, .ref (B + 0))] (dg DX9_isWell 16 rfl) rfl (by decide) rfl ?_
  refine j_iload_n 37 hC 0 (dg DX9_isWell 17 rfl) rfl rfl ?_
  refine j_aload_n 38 hC 1 (dg DX9_isWell 18 rfl) rfl rfl ?_
  refine j_getR 39 hC fX9_39 (k_0) (by decide) (by decide) rfl (dg DX9_isWell 19 rfl) ?_
  refine j_aload_n 42 hC 1 (dg DX9_isWell 20 rfl) rfl rfl ?_
  refine j_getR 43 hC fX9_32 (k_0) (by decide) (by decide) rfl (dg DX9_isWell 21 rfl) ?_
  refine j_Vi (As := [.ref (B + 80)]) 46 hC (m_X0_searchStones  hw) kX9_196 (k_82) (by decide) ⟨_, _, rfl⟩ (rmN_ok (by decide) (by decide)) rfl rfl (Nat.le_of_ble_eq_true rfl) (dg DX9_isWell 22 rfl) (fun r4 σ3 hw => ?_)
  refine j_icmp_eq 49 54 hC (dg DX9_isWell 23 rfl) (by decide) (fun hbr => ?_) (fun hbr => ?_)
  · replace hw := hw.1 hbr
    refine j_iload_n 54 hC 0 (dg DX9_isWell 26 rfl) rfl rfl ?_
    refine j_bipush 55 hC (dg DX9_isWell 27 rfl) (v := (-4)) (by decide) ?_
    refine j_icmp_eq 57 75 hC (dg DX9_isWell 28 rfl) (by decide) (fun hbr => ?_) (fun hbr => ?_)
    · replace hw := hw.1 hbr
      refine j_aload_n 75 hC 1 (dg DX9_isWell 37 rfl) rfl rfl ?_
      refine j_getR 76 hC fX9_32 (k_0) (by decide) (by decide) rfl (dg DX9_isWell 38 rfl) ?_
      refine j_aload_n 79 hC 1 (dg DX9_isWell 39 rfl) rfl rfl ?_
      refine j_getR 80 hC fX9_32 (k_0) (by decide) (by decide) rfl (dg DX9_isWell 40 rfl) ?_
      refine j_getI 83 hC fX9_163 (k_80) (by decide) (by decide) rfl (dg DX9_isWell 41 rfl) ?_
      refine j_Vi (As := [.int (σ3 80 2)]) 86 hC (m_X6_seenBySet  hw) kX9_171 (k_80) (by decide) ⟨_, _, rfl⟩ (rmN_ok (by decide) (by decide)) rfl rfl (Nat.le_of_ble_eq_true rfl) (dg DX9_isWell 42 rfl) (fun r6 σ5 hw => ?_)
      refine j_istore_n 89 hC [(2, .int r6), (1, .int (σ2 82 2)), (0, .ref (B + 0))] (dg DX9_isWell 43 rfl) rfl (by decide) rfl ?_
      refine j_aload_n 90 hC 2 (dg DX9_isWell 44 rfl) rfl rfl ?_
      refine j_getR 91 hC fX9_46 (k_0) (by decide) (by decide) rfl (dg DX9_isWell 45 rfl) ?_
      refine j_iload_n 94 hC 0 (dg DX9_isWell 46 rfl) rfl rfl ?_
      refine j_Vv (As := [.int r6]) 95 hC (m_X1_find  hw) kX9_174 (k_85) (by decide) ⟨_, _, rfl⟩ (rmN_ok (by decide) (by decide)) rfl rfl (Nat.le_of_ble_eq_true rfl) (dg DX9_isWell 47 rfl) (fun σ7 hw => ?_)
      refine j_iload_n 98 hC 0 (dg DX9_isWell 48 rfl) rfl rfl ?_
      refine j_Si (As := [.int r6]) 99 hC (m_J6_bitCount_0f7a4  hw) kX9_166 (rmN_ok (by decide) (by decide)) rfl rfl (Nat.le_of_ble_eq_true rfl) (dg DX9_isWell 49 rfl) (fun r9 σ8 hw => ?_)
      refine j_aload_n 102 hC 2 (dg DX9_isWell 50 rfl) rfl rfl ?_
      refine j_getR 103 hC fX9_46 (k_0) (by decide) (by decide) rfl (dg DX9_isWell 51 rfl) ?_
      refine j_Vi (As := []) 106 hC (m_X1_lengthOfAll  hw) kX9_268 (k_85) (by decide) ⟨_, _, rfl⟩ (rmN_ok (by decide) (by decide)) rfl rfl (Nat.le_of_ble_eq_true rfl) (dg DX9_isWell 52 rfl) (fun r11 σ10 hw => ?_)
      refine j_iadd 109 hC (dg DX9_isWell 53 rfl) ?_
      refine j_bipush 110 hC (dg DX9_isWell 54 rfl) (v := 24) (by decide) ?_
      refine j_icmp_ne 112 119 hC (dg DX9_isWell 55 rfl) (by decide) (fun hbr => ?_) (fun hbr => ?_)
      · replace hw := hw.2 hbr
        refine j_iconst 119 hC (dg DX9_isWell 58 rfl) (v := 0) (by decide) ?_
        exact hR 120 _ _ _ (dg DX9_isWell 59 rfl) hw
      · replace hw := hw.1 hbr
        refine j_iconst 115 hC (dg DX9_isWell 56 rfl) (v := 1) (by decide) ?_
        refine j_goto 116 120 hC (dg DX9_isWell 57 rfl) (by decide) ?_
        exact hR 120 _ _ _ (dg DX9_isWell 59 rfl) hw
    · replace hw := hw.2 hbr
      refine j_aload_n 60 hC 1 (dg DX9_isWell 29 rfl) rfl rfl ?_
      refine j_getR 61 hC fX9_32 (k_0) (by decide) (by decide) rfl (dg DX9_isWell 30 rfl) ?_
      refine j_iload_n 64 hC 0 (dg DX9_isWell 31 rfl) rfl rfl ?_
      refine j_Vi (As := [.int (σ2 82 2)]) 65 hC (m_X6_seenBySet  hw) kX9_171 (k_80) (by decide) ⟨_, _, rfl⟩ (rmN_ok (by decide) (by decide)) rfl rfl (Nat.le_of_ble_eq_true rfl) (dg DX9_isWell 32 rfl) (fun r13 σ12 hw => ?_)
      refine j_ldc 68 hC (dg DX9_isWell 33 rfl) w_210 ?_
      refine j_icmp_eq 70 75 hC (dg DX9_isWell 34 rfl) (by decide) (fun hbr => ?_) (fun hbr => ?_)
      · replace hw := hw.1 hbr
        refine j_aload_n 75 hC 1 (dg DX9_isWell 37 rfl) rfl rfl ?_
        refine j_getR 76 hC fX9_32 (k_0) (by decide) (by decide) rfl (dg DX9_isWell 38 rfl) ?_
        refine j_aload_n 79 hC 1 (dg DX9_isWell 39 rfl) rfl rfl ?_
        refine j_getR 80 hC fX9_32 (k_0) (by decide) (by decide) rfl (dg DX9_isWell 40 rfl) ?_
        refine j_getI 83 hC fX9_163 (k_80) (by decide) (by decide) rfl (dg DX9_isWell 41 rfl) ?_
        refine j_Vi (As := [.int (σ12 80 2)]) 86 hC (m_X6_seenBySet  hw) kX9_171 (k_80) (by decide) ⟨_, _, rfl⟩ (rmN_ok (by decide) (by decide)) rfl rfl (Nat.le_of_ble_eq_true rfl) (dg DX9_isWell 42 rfl) (fun r15 σ14 hw => ?_)
        refine j_istore_n 89 hC [(2, .int r15), (1, .int (σ2 82 2)), (0, .ref (B + 0))] (dg DX9_isWell 43 rfl) rfl (by decide) rfl ?_
        refine j_aload_n 90 hC 2 (dg DX9_isWell 44 rfl) rfl rfl ?_
        refine j_getR 91 hC fX9_46 (k_0) (by decide) (by decide) rfl (dg DX9_isWell 45 rfl) ?_
        refine j_iload_n 94 hC 0 (dg DX9_isWell 46 rfl) rfl rfl ?_
        refine j_Vv (As := [.int r15]) 95 hC (m_X1_find  hw) kX9_174 (k_85) (by decide) ⟨_, _, rfl⟩ (rmN_ok (by decide) (by decide)) rfl rfl (Nat.le_of_ble_eq_true rfl) (dg DX9_isWell 47 rfl) (fun σ16 hw => ?_)
        refine j_iload_n 98 hC 0 (dg DX9_isWell 48 rfl) rfl rfl ?_
        refine j_Si (As := [.int r15]) 99 hC (m_J6_bitCount_0f7a4  hw) kX9_166 (rmN_ok (by decide) (by decide)) rfl rfl (Nat.le_of_ble_eq_true rfl) (dg DX9_isWell 49 rfl) (fun r18 σ17 hw => ?_)
        refine j_aload_n 102 hC 2 (dg DX9_isWell 50 rfl) rfl rfl ?_
        refine j_getR 103 hC fX9_46 (k_0) (by decide) (by decide) rfl (dg DX9_isWell 51 rfl) ?_
        refine j_Vi (As := []) 106 hC (m_X1_lengthOfAll  hw) kX9_268 (k_85) (by decide) ⟨_, _, rfl⟩ (rmN_ok (by decide) (by decide)) rfl rfl (Nat.le_of_ble_eq_true rfl) (dg DX9_isWell 52 rfl) (fun r20 σ19 hw => ?_)
        refine j_iadd 109 hC (dg DX9_isWell 53 rfl) ?_
        refine j_bipush 110 hC (dg DX9_isWell 54 rfl) (v := 24) (by decide) ?_
        refine j_icmp_ne 112 119 hC (dg DX9_isWell 55 rfl) (by decide) (fun hbr => ?_) (fun hbr => ?_)
        · replace hw := hw.2 hbr
          refine j_iconst 119 hC (dg DX9_isWell 58 rfl) (v := 0) (by decide) ?_
          exact hR 120 _ _ _ (dg DX9_isWell 59 rfl) hw
        · replace hw := hw.1 hbr
          refine j_iconst 115 hC (dg DX9_isWell 56 rfl) (v := 1) (by decide) ?_
          refine j_goto 116 120 hC (dg DX9_isWell 57 rfl) (by decide) ?_
          exact hR 120 _ _ _ (dg DX9_isWell 59 rfl) hw
      · replace hw := hw.2 hbr
        refine j_iconst 73 hC (dg DX9_isWell 35 rfl) (v := 0) (by decide) ?_
        exact hR 74 _ _ _ (dg DX9_isWell 36 rfl) hw
  · replace hw := hw.2 hbr
    refine j_iconst 52 hC (dg DX9_isWell 24 rfl) (v := 0) (by decide) ?_
    exact hR 53 _ _ _ (dg DX9_isWell 25 rfl) hw
theorem m_X9_isWell {B : Nat} {σ : SS} {Q : Int32 → SS → Prop} (hw : wp_X9_isWell  σ  Q) : MI yX9_isWell cX9_isWell 3 (some .int) 16 432 B 95 RS [.ref (B + 0)] σ Q := MI.mk (plainFor_of_name (by decide)) (Nat.le_of_ble_eq_true rfl) (fun X hC hR => t_X9_isWell hC  hR hw)
-- FortressWatch.bitsOf
def bd_X9_bitsOf_42    (Q : Int32 → SS → Prop) (l0 : UInt32) (rc : SS → UInt32 → Int32 → Int32 → Prop) (σ : SS) (v1 : UInt32) (v2 : Int32) (v3 : Int32) : Prop :=
  ((126 ≤ v3 →
      vf_n32 (FP.fsub v1 FP.fconst1) ∧
      vf_n32 (FP.fmul (FP.fsub v1 FP.fconst1) 1258291200) ∧
      Q ((v2 <<< (23 &&& 31)) ||| (FP.f2i (FP.fmul (FP.fsub v1 FP.fconst1) 1258291200))) σ) ∧
    (¬ 126 ≤ v3 →
      ((0 ≤ (Op.cmpValue (FP.fcmp v1 FP.fconst1) .g) →
          vf_n32 (FP.fsub v1 FP.fconst1) ∧
          vf_n32 (FP.fmul (FP.fsub v1 FP.fconst1) 1258291200) ∧
          Q ((v2 <<< (23 &&& 31)) ||| (FP.f2i (FP.fmul (FP.fsub v1 FP.fconst1) 1258291200))) σ) ∧
        (¬ 0 ≤ (Op.cmpValue (FP.fcmp v1 FP.fconst1) .g) →
          vf_n32 (FP.fmul v1 FP.fconst2) ∧
          rc σ (FP.fmul v1 FP.fconst2) (v2 + (-1)) (v3 + 1)))))
def bd_X9_bitsOf_15    (Q : Int32 → SS → Prop) (l0 : UInt32) (rc : SS → UInt32 → Int32 → Int32 → Prop) (σ : SS) (v1 : UInt32) (v2 : Int32) (v3 : Int32) : Prop :=
  ((127 ≤ v3 →
      ∃ k1, Lfii (bd_X9_bitsOf_42 Q l0) k1 σ v1 v2 0) ∧
    (¬ 127 ≤ v3 →
      (((Op.cmpValue (FP.fcmp v1 FP.fconst2) .l) < 0 →
          ∃ k2, Lfii (bd_X9_bitsOf_42 Q l0) k2 σ v1 v2 0) ∧
        (¬ (Op.cmpValue (FP.fcmp v1 FP.fconst2) .l) < 0 →
          vf_n32 (FP.fdiv v1 FP.fconst2) ∧
          rc σ (FP.fdiv v1 FP.fconst2) (v2 + 1) (v3 + 1)))))
def wp_X9_bitsOf  (σ : SS) (p0 : UInt32) (Q : Int32 → SS → Prop) : Prop :=
  ((0 < (Op.cmpValue (FP.fcmp p0 FP.fconst0) .l) →
      ∃ k3, Lfii (bd_X9_bitsOf_15 Q p0) k3 σ p0 127 0) ∧
    (¬ 0 < (Op.cmpValue (FP.fcmp p0 FP.fconst0) .l) →
      Q 0 σ))
set_option maxRecDepth 100000 in
set_option maxHeartbeats 4000000 in
theorem tb_X9_bitsOf_42 {X : XT} {B : Nat} (hC : Cx X 4 cX9_bitsOf RX9 (rmN 0 0)) {Q : Int32 → SS → Prop} {l0 : UInt32} (hR : RtI X 4 B 95 RS cX9_bitsOf Q) {rc : SS → UInt32 → Int32 → Int32 → Prop} (hrc : ∀ (σ : SS) (v1 : UInt32) (v2 : Int32) (v3 : Int32), rc σ v1 v2 v3 → J X 4 B 95 RS 0 0 σ [(0, .float l0), (1, .float v1), (2, .int v2), (3, .int v3)] 42 []) : ∀ (σ : SS) (v1 : UInt32) (v2 : Int32) (v3 : Int32), bd_X9_bitsOf_42 Q l0 rc σ v1 v2 v3 → J X 4 B 95 RS 0 0 σ [(0, .float l0), (1, .float v1), (2, .int v2), (3, .int v3)] 42 [] := by
  intro σ v1 v2 v3 hw
  unfold bd_X9_bitsOf_42 at hw
  refine j_iload_n 42 hC 3 (dg DX9_bitsOf 28 rfl) rfl rfl ?_
  refine j_bipush 43 hC (dg DX9_bitsOf 29 rfl) (v := 126) (by decide) ?_
  refine j_icmp_ge 45 67 hC (dg DX9_bitsOf 30 rfl) (by decide) (fun hbr => ?_) (fun hbr => ?_)
  · replace hw := hw.1 hbr
    refine j_iload_n 67 hC 2 (dg DX9_bitsOf 42 rfl) rfl rfl ?_
    refine j_bipush 68 hC (dg DX9_bitsOf 43 rfl) (v := 23) (by decide) ?_
    refine j_ishl 70 hC (dg DX9_bitsOf 44 rfl) ?_
    refine j_fload_n 71 hC 1 (dg DX9_bitsOf 45 rfl) rfl rfl ?_
    refine j_fconst1 72 hC (dg DX9_bitsOf 46 rfl) ?_
    refine j_fsub 73 hC (dg DX9_bitsOf 47 rfl) hw.1 ?_
    replace hw := hw.2
    refine j_ldcwf 74 hC (dg DX9_bitsOf 48 rfl) w_1045 ?_
    refine j_fmul 77 hC (dg DX9_bitsOf 49 rfl) hw.1 ?_
    replace hw := hw.2
    refine j_f2i 78 hC (dg DX9_bitsOf 50 rfl) ?_
    refine j_ior 79 hC (dg DX9_bitsOf 51 rfl) ?_
    exact hR 80 _ _ _ (dg DX9_bitsOf 52 rfl) hw
  · replace hw := hw.2 hbr
    refine j_fload_n 48 hC 1 (dg DX9_bitsOf 31 rfl) rfl rfl ?_
    refine j_fconst1 49 hC (dg DX9_bitsOf 32 rfl) ?_
    refine j_fcmp 50 hC (dg DX9_bitsOf 33 rfl) ?_
    refine j_if_ge 51 67 hC (dg DX9_bitsOf 34 rfl) (by decide) (fun hbr => ?_) (fun hbr => ?_)
    · replace hw := hw.1 hbr
      refine j_iload_n 67 hC 2 (dg DX9_bitsOf 42 rfl) rfl rfl ?_
      refine j_bipush 68 hC (dg DX9_bitsOf 43 rfl) (v := 23) (by decide) ?_
      refine j_ishl 70 hC (dg DX9_bitsOf 44 rfl) ?_
      refine j_fload_n 71 hC 1 (dg DX9_bitsOf 45 rfl) rfl rfl ?_
      refine j_fconst1 72 hC (dg DX9_bitsOf 46 rfl) ?_
      refine j_fsub 73 hC (dg DX9_bitsOf 47 rfl) hw.1 ?_
      replace hw := hw.2
      refine j_ldcwf 74 hC (dg DX9_bitsOf 48 rfl) w_1045 ?_
      refine j_fmul 77 hC (dg DX9_bitsOf 49 rfl) hw.1 ?_
      replace hw := hw.2
      refine j_f2i 78 hC (dg DX9_bitsOf 50 rfl) ?_
      refine j_ior 79 hC (dg DX9_bitsOf 51 rfl) ?_
      exact hR 80 _ _ _ (dg DX9_bitsOf 52 rfl) hw
    · replace hw := hw.2 hbr
      refine j_fload_n 54 hC 1 (dg DX9_bitsOf 35 rfl) rfl rfl ?_
      refine j_fconst2 55 hC (dg DX9_bitsOf 36 rfl) ?_
      refine j_fmul 56 hC (dg DX9_bitsOf 37 rfl) hw.1 ?_
      replace hw := hw.2
      refine j_fstore_n 57 hC [(1, .float (FP.fmul v1 FP.fconst2)), (0, .float l0), (2, .int v2), (3, .int v3)] (dg DX9_bitsOf 38 rfl) rfl (by decide) rfl ?_
      refine j_iinc 58 hC 2 (v2 + (-1)) [(2, .int (v2 + (-1))), (1, .float (FP.fmul v1 FP.fconst2)), (0, .float l0), (3, .int v3)] (dg DX9_bitsOf 39 rfl) rfl rfl (by decide) rfl ?_
      refine j_iinc 61 hC 3 (v3 + 1) [(3, .int (v3 + 1)), (2, .int (v2 + (-1))), (1, .float (FP.fmul v1 FP.fconst2)), (0, .float l0)] (dg DX9_bitsOf 40 rfl) rfl rfl (by decide) rfl ?_
      refine j_goto 64 42 hC (dg DX9_bitsOf 41 rfl) (by decide) ?_
      refine j_lv [3, 2, 1, 0] (lv' := [(0, .float l0), (1, .float (FP.fmul v1 FP.fconst2)), (2, .int (v2 + (-1))), (3, .int (v3 + 1))]) rfl ?_
      exact hrc _ _ _ _ hw
set_option maxRecDepth 100000 in
set_option maxHeartbeats 4000000 in
theorem tb_X9_bitsOf_15 {X : XT} {B : Nat} (hC : Cx X 4 cX9_bitsOf RX9 (rmN 0 0)) {Q : Int32 → SS → Prop} {l0 : UInt32} (hR : RtI X 4 B 95 RS cX9_bitsOf Q) {rc : SS → UInt32 → Int32 → Int32 → Prop} (hrc : ∀ (σ : SS) (v1 : UInt32) (v2 : Int32) (v3 : Int32), rc σ v1 v2 v3 → J X 4 B 95 RS 0 0 σ [(0, .float l0), (1, .float v1), (2, .int v2), (3, .int v3)] 15 []) : ∀ (σ : SS) (v1 : UInt32) (v2 : Int32) (v3 : Int32), bd_X9_bitsOf_15 Q l0 rc σ v1 v2 v3 → J X 4 B 95 RS 0 0 σ [(0, .float l0), (1, .float v1), (2, .int v2), (3, .int v3)] 15 [] := by
  intro σ v1 v2 v3 hw
  unfold bd_X9_bitsOf_15 at hw
  refine j_iload_n 15 hC 3 (dg DX9_bitsOf 12 rfl) rfl rfl ?_
  refine j_bipush 16 hC (dg DX9_bitsOf 13 rfl) (v := 127) (by decide) ?_
  refine j_icmp_ge 18 40 hC (dg DX9_bitsOf 14 rfl) (by decide) (fun hbr => ?_) (fun hbr => ?_)
  · replace hw := hw.1 hbr
    refine j_iconst 40 hC (dg DX9_bitsOf 26 rfl) (v := 0) (by decide) ?_
    refine j_istore_n 41 hC [(3, .int 0), (0, .float l0), (1, .float v1), (2, .int v2)] (dg DX9_bitsOf 27 rfl) rfl (by decide) rfl ?_
    obtain ⟨k1, hw⟩ := hw
    refine j_lv [1, 2, 3, 0] (lv' := [(0, .float l0), (1, .float v1), (2, .int v2), (3, .int 0)]) rfl ?_
    exact Lfii.snd (P := fun τ w1 w2 w3 => J X 4 B 95 RS 0 0 τ [(0, .float l0), (1, .float w1), (2, .int w2), (3, .int w3)] 42 []) (fun rcc hrcc => tb_X9_bitsOf_42 hC  hR  hrcc) k1 _ _ _ _ hw
  · replace hw := hw.2 hbr
    refine j_fload_n 21 hC 1 (dg DX9_bitsOf 15 rfl) rfl rfl ?_
    refine j_fconst2 22 hC (dg DX9_bitsOf 16 rfl) ?_
    refine j_fcmp 23 hC (dg DX9_bitsOf 17 rfl) ?_
    refine j_if_lt 24 40 hC (dg DX9_bitsOf 18 rfl) (by decide) (fun hbr => ?_) (fun hbr => ?_)
    · replace hw := hw.1 hbr
      refine j_iconst 40 hC (dg DX9_bitsOf 26 rfl) (v := 0) (by decide) ?_
      refine j_istore_n 41 hC [(3, .int 0), (0, .float l0), (1, .float v1), (2, .int v2)] (dg DX9_bitsOf 27 rfl) rfl (by decide) rfl ?_
      obtain ⟨k2, hw⟩ := hw
      refine j_lv [1, 2, 3, 0] (lv' := [(0, .float l0), (1, .float v1), (2, .int v2), (3, .int 0)]) rfl ?_
      exact Lfii.snd (P := fun τ w1 w2 w3 => J X 4 B 95 RS 0 0 τ [(0, .float l0), (1, .float w1), (2, .int w2), (3, .int w3)] 42 []) (fun rcc hrcc => tb_X9_bitsOf_42 hC  hR  hrcc) k2 _ _ _ _ hw
    · replace hw := hw.2 hbr
      refine j_fload_n 27 hC 1 (dg DX9_bitsOf 19 rfl) rfl rfl ?_
      refine j_fconst2 28 hC (dg DX9_bitsOf 20 rfl) ?_
      refine j_fdiv 29 hC (dg DX9_bitsOf 21 rfl) hw.1 ?_
      replace hw := hw.2
      refine j_fstore_n 30 hC [(1, .float (FP.fdiv v1 FP.fconst2)), (0, .float l0), (2, .int v2), (3, .int v3)] (dg DX9_bitsOf 22 rfl) rfl (by decide) rfl ?_
      refine j_iinc 31 hC 2 (v2 + 1) [(2, .int (v2 + 1)), (1, .float (FP.fdiv v1 FP.fconst2)), (0, .float l0), (3, .int v3)] (dg DX9_bitsOf 23 rfl) rfl rfl (by decide) rfl ?_
      refine j_iinc 34 hC 3 (v3 + 1) [(3, .int (v3 + 1)), (2, .int (v2 + 1)), (1, .float (FP.fdiv v1 FP.fconst2)), (0, .float l0)] (dg DX9_bitsOf 24 rfl) rfl rfl (by decide) rfl ?_
      refine j_goto 37 15 hC (dg DX9_bitsOf 25 rfl) (by decide) ?_
      refine j_lv [3, 2, 1, 0] (lv' := [(0, .float l0), (1, .float (FP.fdiv v1 FP.fconst2)), (2, .int (v2 + 1)), (3, .int (v3 + 1))]) rfl ?_
      exact hrc _ _ _ _ hw
set_option maxRecDepth 100000 in
set_option maxHeartbeats 4000000 in
theorem t_X9_bitsOf {X : XT} {B : Nat} (hC : Cx X 4 cX9_bitsOf RX9 (rmN 0 0)) {Q : Int32 → SS → Prop} (hR : RtI X 4 B 95 RS cX9_bitsOf Q) {σ : SS} {p0 : UInt32} (hw : wp_X9_bitsOf  σ p0 Q) : J X 4 B 95 RS 0 0 σ [(0, .float p0)] 0 [] := by
  unfold wp_X9_bitsOf at hw
  refine j_fload_n 0 hC 0 (dg DX9_bitsOf 0 rfl) rfl rfl ?_
  refine j_fconst0 1 hC (dg DX9_bitsOf 1 rfl) ?_
  refine j_fcmp 2 hC (dg DX9_bitsOf 2 rfl) ?_
  refine j_if_gt 3 8 hC (dg DX9_bitsOf 3 rfl) (by decide) (fun hbr => ?_) (fun hbr => ?_)
  · replace hw := hw.1 hbr
    refine j_fload_n 8 hC 0 (dg DX9_bitsOf 6 rfl) rfl rfl ?_
    refine j_fstore_n 9 hC [(1, .float p0), (0, .float p0)] (dg DX9_bitsOf 7 rfl) rfl (by decide) rfl ?_
    refine j_bipush 10 hC (dg DX9_bitsOf 8 rfl) (v := 127) (by decide) ?_
    refine j_istore_n 12 hC [(2, .int 127), (1, .float p0), (0, .float p0)] (dg DX9_bitsOf 9 rfl) rfl (by decide) rfl ?_
    refine j_iconst 13 hC (dg DX9_bitsOf 10 rfl) (v := 0) (by decide) ?_
    refine j_istore_n 14 hC [(3, .int 0), (2, .int 127), (1, .float p0), (0, .float p0)] (dg DX9_bitsOf 11 rfl) rfl (by decide) rfl ?_
    obtain ⟨k3, hw⟩ := hw
    refine j_lv [3, 2, 1, 0] (lv' := [(0, .float p0), (1, .float p0), (2, .int 127), (3, .int 0)]) rfl ?_
    exact Lfii.snd (P := fun τ w1 w2 w3 => J X 4 B 95 RS 0 0 τ [(0, .float p0), (1, .float w1), (2, .int w2), (3, .int w3)] 15 []) (fun rcc hrcc => tb_X9_bitsOf_15 hC  hR  hrcc) k3 _ _ _ _ hw
  · replace hw := hw.2 hbr
    refine j_iconst 6 hC (dg DX9_bitsOf 4 rfl) (v := 0) (by decide) ?_
    exact hR 7 _ _ _ (dg DX9_bitsOf 5 rfl) hw
theorem m_X9_bitsOf {B : Nat} {σ : SS} {p0 : UInt32} {Q : Int32 → SS → Prop} (hw : wp_X9_bitsOf  σ p0 Q) : MI yX9_bitsOf cX9_bitsOf 4 (some .int) 0 0 B 95 RS [.float p0] σ Q := MI.mk (plainFor_of_name (by decide)) (Nat.le_of_ble_eq_true rfl) (fun X hC hR => t_X9_bitsOf hC  hR hw)
-- FortressWatch.mean
def bd_X9_mean_22    (Q : Int32 → SS → Prop)  (rc : SS → Int32 → Int32 → Prop) (σ : SS) (v1 : Int32) (v2 : Int32) : Prop :=
  ((9 ≤ v2 →
      vf_n32 (FP.fdiv (FP.i2f v1) 1103101952) ∧
      wp_X9_bitsOf σ (FP.fdiv (FP.i2f v1) 1103101952) (fun r3 σ2 =>
        Q r3 σ2)) ∧
    (¬ 9 ≤ v2 →
      wp_X9_isIn σ (σ 80 2) v2 (fun r5 σ4 =>
        ((r5 = 0 →
            rc σ4 v1 (v2 + 1)) ∧
          (¬ r5 = 0 →
            wp_X6_manySeen σ4 v2 (fun r7 σ6 =>
              rc σ6 (v1 + r7) (v2 + 1)))))))
def wp_X9_mean  (σ : SS)  (Q : Int32 → SS → Prop) : Prop :=
  wp_X6_lookAt 1 σ (σ 1 7) (fun σ1 =>
    ∃ k8, Lii (bd_X9_mean_22 Q) k8 σ1 0 0)
set_option maxRecDepth 100000 in
set_option maxHeartbeats 4000000 in
theorem tb_X9_mean_22 {X : XT} {B : Nat} (hC : Cx X 3 cX9_mean RX9 (rmN 3 90)) {Q : Int32 → SS → Prop} (hR : RtI X 3 B 95 RS cX9_mean Q) {rc : SS → Int32 → Int32 → Prop} (hrc : ∀ (σ : SS) (v1 : Int32) (v2 : Int32), rc σ v1 v2 → J X 3 B 95 RS 0 0 σ [(0, .ref (B + 0)), (1, .int v1), (2, .int v2)] 22 []) : ∀ (σ : SS) (v1 : Int32) (v2 : Int32), bd_X9_mean_22 Q rc σ v1 v2 → J X 3 B 95 RS 0 0 σ [(0, .ref (B + 0)), (1, .int v1), (2, .int v2)] 22 [] := by
  intro σ v1 v2 hw
  unfold bd_X9_mean_22 at hw
  refine j_iload_n 22 hC 2 (dg DX9_mean 12 rfl) rfl rfl ?_
  refine j_bipush 23 hC (dg DX9_mean 13 rfl) (v := 9) (by decide) ?_
  refine j_icmp_ge 25 59 hC (dg DX9_mean 14 rfl) (by decide) (fun hbr => ?_) (fun hbr => ?_)
  · replace hw := hw.1 hbr
    refine j_iload_n 59 hC 1 (dg DX9_mean 30 rfl) rfl rfl ?_
    refine j_i2f 60 hC (dg DX9_mean 31 rfl) ?_
    refine j_ldcwf 61 hC (dg DX9_mean 32 rfl) w_1041 ?_
    refine j_fdiv 64 hC (dg DX9_mean 33 rfl) hw.1 ?_
    replace hw := hw.2
    refine j_Si (As := [.float (FP.fdiv (FP.i2f v1) 1103101952)]) 65 hC (m_X9_bitsOf  hw) kX9_276 (rmN_ok (by decide) (by decide)) rfl rfl (Nat.le_of_ble_eq_true rfl) (dg DX9_mean 34 rfl) (fun r3 σ2 hw => ?_)
    exact hR 68 _ _ _ (dg DX9_mean 35 rfl) hw
  · replace hw := hw.2 hbr
    refine j_aload_n 28 hC 0 (dg DX9_mean 15 rfl) rfl rfl ?_
    refine j_getR 29 hC fX9_32 (k_0) (by decide) (by decide) rfl (dg DX9_mean 16 rfl) ?_
    refine j_getI 32 hC fX9_163 (k_80) (by decide) (by decide) rfl (dg DX9_mean 17 rfl) ?_
    refine j_iload_n 35 hC 2 (dg DX9_mean 18 rfl) rfl rfl ?_
    refine j_Si (As := [.int (σ 80 2), .int v2]) 36 hC (m_X9_isIn  hw) kX9_271 (rmN_ok (by decide) (by decide)) rfl rfl (Nat.le_of_ble_eq_true rfl) (dg DX9_mean 19 rfl) (fun r5 σ4 hw => ?_)
    refine j_if_eq 39 53 hC (dg DX9_mean 20 rfl) (by decide) (fun hbr => ?_) (fun hbr => ?_)
    · replace hw := hw.1 hbr
      refine j_iinc 53 hC 2 (v2 + 1) [(2, .int (v2 + 1)), (0, .ref (B + 0)), (1, .int v1)] (dg DX9_mean 28 rfl) rfl rfl (by decide) rfl ?_
      refine j_goto 56 22 hC (dg DX9_mean 29 rfl) (by decide) ?_
      refine j_lv [1, 2, 0] (lv' := [(0, .ref (B + 0)), (1, .int v1), (2, .int (v2 + 1))]) rfl ?_
      exact hrc _ _ _ hw
    · replace hw := hw.2 hbr
      refine j_iload_n 42 hC 1 (dg DX9_mean 21 rfl) rfl rfl ?_
      refine j_aload_n 43 hC 0 (dg DX9_mean 22 rfl) rfl rfl ?_
      refine j_getR 44 hC fX9_32 (k_0) (by decide) (by decide) rfl (dg DX9_mean 23 rfl) ?_
      refine j_iload_n 47 hC 2 (dg DX9_mean 24 rfl) rfl rfl ?_
      refine j_Vi (As := [.int v2]) 48 hC (m_X6_manySeen  hw) kX9_141 (k_80) (by decide) ⟨_, _, rfl⟩ (rmN_ok (by decide) (by decide)) rfl rfl (Nat.le_of_ble_eq_true rfl) (dg DX9_mean 25 rfl) (fun r7 σ6 hw => ?_)
      refine j_iadd 51 hC (dg DX9_mean 26 rfl) ?_
      refine j_istore_n 52 hC [(1, .int (v1 + r7)), (0, .ref (B + 0)), (2, .int v2)] (dg DX9_mean 27 rfl) rfl (by decide) rfl ?_
      refine j_iinc 53 hC 2 (v2 + 1) [(2, .int (v2 + 1)), (1, .int (v1 + r7)), (0, .ref (B + 0))] (dg DX9_mean 28 rfl) rfl rfl (by decide) rfl ?_
      refine j_goto 56 22 hC (dg DX9_mean 29 rfl) (by decide) ?_
      refine j_lv [2, 1, 0] (lv' := [(0, .ref (B + 0)), (1, .int (v1 + r7)), (2, .int (v2 + 1))]) rfl ?_
      exact hrc _ _ _ hw
set_option maxRecDepth 100000 in
set_option maxHeartbeats 4000000 in
theorem t_X9_mean {X : XT} {B : Nat} (hC : Cx X 3 cX9_mean RX9 (rmN 3 90)) {Q : Int32 → SS → Prop} (hR : RtI X 3 B 95 RS cX9_mean Q) {σ : SS} (hw : wp_X9_mean  σ  Q) : J X 3 B 95 RS 0 0 σ [(0, .ref (B + 0))] 0 [] := by
  unfold wp_X9_mean at hw
  refine j_aload_n 0 hC 0 (dg DX9_mean 0 rfl) rfl rfl ?_
  refine j_getR 1 hC fX9_32 (k_0) (by decide) (by decide) rfl (dg DX9_mean 1 rfl) ?_
  refine j_aload_n 4 hC 0 (dg DX9_mean 2 rfl) rfl rfl ?_
  refine j_getR 5 hC fX9_10 (k_0) (by decide) (by decide) rfl (dg DX9_mean 3 rfl) ?_
  refine j_aload_n 8 hC 0 (dg DX9_mean 4 rfl) rfl rfl ?_
  refine j_getR 9 hC fX9_10 (k_0) (by decide) (by decide) rfl (dg DX9_mean 5 rfl) ?_
  refine j_getI 12 hC fX9_134 (k_1) (by decide) (by decide) rfl (dg DX9_mean 6 rfl) ?_
  refine j_Vv (As := [.ref (B + 1), .int (σ 1 7)]) 15 hC (m_X6_lookAt isW_1 hw) kX9_137 (k_80) (by decide) ⟨_, _, rfl⟩ (rmN_ok (by decide) (by decide)) rfl rfl (Nat.le_of_ble_eq_true rfl) (dg DX9_mean 7 rfl) (fun σ1 hw => ?_)
  refine j_iconst 18 hC (dg DX9_mean 8 rfl) (v := 0) (by decide) ?_
  refine j_istore_n 19 hC [(1, .int 0), (0, .ref (B + 0))] (dg DX9_mean 9 rfl) rfl (by decide) rfl ?_
  refine j_iconst 20 hC (dg DX9_mean 10 rfl) (v := 0) (by decide) ?_
  refine j_istore_n 21 hC [(2, .int 0), (1, .int 0), (0, .ref (B + 0))] (dg DX9_mean 11 rfl) rfl (by decide) rfl ?_
  obtain ⟨k8, hw⟩ := hw
  refine j_lv [2, 1, 0] (lv' := [(0, .ref (B + 0)), (1, .int 0), (2, .int 0)]) rfl ?_
  exact Lii.snd (P := fun τ w1 w2 => J X 3 B 95 RS 0 0 τ [(0, .ref (B + 0)), (1, .int w1), (2, .int w2)] 22 []) (fun rcc hrcc => tb_X9_mean_22 hC  hR  hrcc) k8 _ _ _ hw
theorem m_X9_mean {B : Nat} {σ : SS} {Q : Int32 → SS → Prop} (hw : wp_X9_mean  σ  Q) : MI yX9_mean cX9_mean 3 (some .int) 3 90 B 95 RS [.ref (B + 0)] σ Q := MI.mk (plainFor_of_name (by decide)) (Nat.le_of_ble_eq_true rfl) (fun X hC hR => t_X9_mean hC  hR hw)
