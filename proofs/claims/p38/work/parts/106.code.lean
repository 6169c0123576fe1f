-- FortressWatch.hour
def wp_X9_hour  (σ : SS) (p1 : Int32) (Q : Int32 → SS → Prop) : Prop :=
  wp_X8_copyFrom 8 1 σ (fun σ1 =>
    wp_X9_tellHour σ1 p1 (fun r3 σ2 =>
      wp_X9_kept σ2 r3 (fun r5 σ4 =>
        Q r5 σ4)))
set_option maxRecDepth 100000 in
set_option maxHeartbeats 4000000 in
theorem t_X9_hour {X : XT} {B : Nat} (hC : Cx X 2 cX9_hour RX9 (rmN 4 88)) {Q : Int32 → SS → Prop} (hR : RtI X 2 B 95 RS cX9_hour Q) {σ : SS} {p1 : Int32} (hw : wp_X9_hour  σ p1 Q) : J X 2 B 95 RS 0 0 σ [(0, .ref (B + 0)), (1, .int p1)] 0 [] := by
  unfold wp_X9_hour at hw
  refine j_aload_n 0 hC 0 (dg DX9_hour 0 rfl) rfl rfl ?_
  refine j_getR 1 hC fX9_16 (k_0) (by decide) (by decide) rfl (dg DX9_hour 1 rfl) ?_
  refine j_aload_n 4 hC 0 (dg DX9_hour 2 rfl) rfl rfl ?_
  refine j_getR 5 hC fX9_10 (k_0) (by decide) (by decide) rfl (dg DX9_hour 3 rfl) ?_
  refine j_Vv (As := [.ref (B + 1)]) 8 hC (m_X8_copyFrom isW_8 isW_1 hw) kX9_86 (k_8) (by decide) ⟨_, _, rfl⟩ (rmN_ok (by decide) (by decide)) rfl rfl (Nat.le_of_ble_eq_true rfl) (dg DX9_hour 4 rfl) (fun σ1 hw => ?_)
  refine j_aload_n 11 hC 0 (dg DX9_hour 5 rfl) rfl rfl ?_
  refine j_aload_n 12 hC 0 (dg DX9_hour 6 rfl) rfl rfl ?_
  refine j_iload_n 13 hC 1 (dg DX9_hour 7 rfl) rfl rfl ?_
  refine j_Vi (As := [.int p1]) 14 hC (m_X9_tellHour  hw) kX9_121 (k_0) (by decide) ⟨_, _, rfl⟩ (rmN_ok (by decide) (by decide)) rfl rfl (Nat.le_of_ble_eq_true rfl) (dg DX9_hour 8 rfl) (fun r3 σ2 hw => ?_)
  refine j_Vi (As := [.int r3]) 17 hC (m_X9_kept  hw) kX9_94 (k_0) (by decide) ⟨_, _, rfl⟩ (rmN_ok (by decide) (by decide)) rfl rfl (Nat.le_of_ble_eq_true rfl) (dg DX9_hour 9 rfl) (fun r5 σ4 hw => ?_)
  exact hR 20 _ _ _ (dg DX9_hour 10 rfl) hw
theorem m_X9_hour {B : Nat} {σ : SS} {p1 : Int32} {Q : Int32 → SS → Prop} (hw : wp_X9_hour  σ p1 Q) : MI yX9_hour cX9_hour 2 (some .int) 4 88 B 95 RS [.ref (B + 0), .int p1] σ Q := MI.mk (plainFor_of_name (by decide)) (Nat.le_of_ble_eq_true rfl) (fun X hC hR => t_X9_hour hC  hR hw)
-- FortressWatch.manyUnseen
def wp_X9_manyUnseen  (σ : SS)  (Q : Int32 → SS → Prop) : Prop :=
  wp_X6_seenBySet σ 511 (fun r2 σ1 =>
    wp_J6_bitCount_0f7a4 σ1 r2 (fun r4 σ3 =>
      Q (24 - r4) σ3))
set_option maxRecDepth 100000 in
set_option maxHeartbeats 4000000 in
theorem t_X9_manyUnseen {X : XT} {B : Nat} (hC : Cx X 1 cX9_manyUnseen RX9 (rmN 2 44)) {Q : Int32 → SS → Prop} (hR : RtI X 1 B 95 RS cX9_manyUnseen Q) {σ : SS} (hw : wp_X9_manyUnseen  σ  Q) : J X 1 B 95 RS 0 0 σ [(0, .ref (B + 0))] 0 [] := by
  unfold wp_X9_manyUnseen at hw
  refine j_bipush 0 hC (dg DX9_manyUnseen 0 rfl) (v := 24) (by decide) ?_
  refine j_aload_n 2 hC 0 (dg DX9_manyUnseen 1 rfl) rfl rfl ?_
  refine j_getR 3 hC fX9_32 (k_0) (by decide) (by decide) rfl (dg DX9_manyUnseen 2 rfl) ?_
  refine j_sipush 6 hC (dg DX9_manyUnseen 3 rfl) (v := 511) (by decide) ?_
  refine j_Vi (As := [.int 511]) 9 hC (m_X6_seenBySet  hw) kX9_171 (k_80) (by decide) ⟨_, _, rfl⟩ (rmN_ok (by decide) (by decide)) rfl rfl (Nat.le_of_ble_eq_true rfl) (dg DX9_manyUnseen 4 rfl) (fun r2 σ1 hw => ?_)
  refine j_Si (As := [.int r2]) 12 hC (m_J6_bitCount_0f7a4  hw) kX9_166 (rmN_ok (by decide) (by decide)) rfl rfl (Nat.le_of_ble_eq_true rfl) (dg DX9_manyUnseen 5 rfl) (fun r4 σ3 hw => ?_)
  refine j_isub 15 hC (dg DX9_manyUnseen 6 rfl) ?_
  exact hR 16 _ _ _ (dg DX9_manyUnseen 7 rfl) hw
theorem m_X9_manyUnseen {B : Nat} {σ : SS} {Q : Int32 → SS → Prop} (hw : wp_X9_manyUnseen  σ  Q) : MI yX9_manyUnseen cX9_manyUnseen 1 (some .int) 2 44 B 95 RS [.ref (B + 0)] σ Q := MI.mk (plainFor_of_name (by decide)) (Nat.le_of_ble_eq_true rfl) (fun X hC hR => t_X9_manyUnseen hC  hR hw)
-- FortressWatch.manFewest
def wp_X9_manFewest  (σ : SS)  (Q : Int32 → SS → Prop) : Prop :=
  wp_X6_lookAt 1 σ (σ 1 7) (fun σ1 =>
    wp_X0_trySets σ1 (fun σ2 =>
      (((σ2 82 2) = (-4) →
          wp_X9_manyUnseen σ2 (fun r7 σ6 =>
            wp_X9_refuse σ6 4 r7 (fun r9 σ8 =>
              Q r9 σ8))) ∧
        (¬ (σ2 82 2) = (-4) →
          wp_X8_manJust 1 σ2 (σ2 82 2) (fun σ3 =>
            wp_J6_bitCount_0f7a4 σ3 (σ3 82 2) (fun r5 σ4 =>
              Q r5 σ4))))))
set_option maxRecDepth 100000 in
set_option maxHeartbeats 4000000 in
theorem t_X9_manFewest {X : XT} {B : Nat} (hC : Cx X 1 cX9_manFewest RX9 (rmN 3 90)) {Q : Int32 → SS → Prop} (hR : RtI X 1 B 95 RS cX9_manFewest Q) {σ : SS} (hw : wp_X9_manFewest  σ  Q) : J X 1 B 95 RS 0 0 σ [(0, .ref (B + 0))] 0 [] := by
  unfold wp_X9_manFewest at hw
  refine j_aload_n 0 hC 0 (dg DX9_manFewest 0 rfl) rfl rfl ?_
  refine j_getR 1 hC fX9_32 (k_0) (by decide) (by decide) rfl (dg DX9_manFewest 1 rfl) ?_
  refine j_aload_n 4 hC 0 (dg DX9_manFewest 2 rfl) rfl rfl ?_
  refine j_getR 5 hC fX9_10 (k_0) (by decide) (by decide) rfl (dg DX9_manFewest 3 rfl) ?_
  refine j_aload_n 8 hC 0 (dg DX9_manFewest 4 rfl) rfl rfl ?_
  refine j_getR 9 hC fX9_10 (k_0) (by decide) (by decide) rfl (dg DX9_manFewest 5 rfl) ?_
  refine j_getI 12 hC fX9_134 (k_1) (by decide) (by decide) rfl (dg DX9_manFewest 6 rfl) ?_
  refine j_Vv (As := [.ref (B + 1), .int (σ 1 7)]) 15 hC (m_X6_lookAt isW_1 hw) kX9_137 (k_80) (by decide) ⟨_, _, rfl⟩ (rmN_ok (by decide) (by decide)) rfl rfl (Nat.le_of_ble_eq_true rfl) (dg DX9_manFewest 7 rfl) (fun σ1 hw => ?_)
  refine j_aload_n 18 hC 0 (dg DX9_manFewest 8 rfl) rfl rfl ?_
  refine j_getR 19 hC fX9_39 (k_0) (by decide) (by decide) rfl (dg DX9_manFewest 9 rfl) ?_
  refine j_aload_n 22 hC 0 (dg DX9_manFewest 10 rfl) rfl rfl ?_
  refine j_getR 23 hC fX9_32 (k_0) (by decide) (by decide) rfl (dg DX9_manFewest 11 rfl) ?_
  refine j_Vv (As := [.ref (B + 80)]) 26 hC (m_X0_trySets  hw) kX9_147 (k_82) (by decide) ⟨_, _, rfl⟩ (rmN_ok (by decide) (by decide)) rfl rfl (Nat.le_of_ble_eq_true rfl) (dg DX9_manFewest 12 rfl) (fun σ2 hw => ?_)
  refine j_aload_n 29 hC 0 (dg DX9_manFewest 13 rfl) rfl rfl ?_
  refine j_getR 30 hC fX9_39 (k_0) (by decide) (by decide) rfl (dg DX9_manFewest 14 rfl) ?_
  refine j_getI 33 hC fX9_193 (k_82) (by decide) (by decide) rfl (dg DX9_manFewest 15 rfl) ?_
  refine j_bipush 36 hC (dg DX9_manFewest 16 rfl) (v := (-4)) (by decide) ?_
  refine j_icmp_ne 38 51 hC (dg DX9_manFewest 17 rfl) (by decide) (fun hbr => ?_) (fun hbr => ?_)
  · replace hw := hw.2 hbr
    refine j_aload_n 51 hC 0 (dg DX9_manFewest 24 rfl) rfl rfl ?_
    refine j_getR 52 hC fX9_10 (k_0) (by decide) (by decide) rfl (dg DX9_manFewest 25 rfl) ?_
    refine j_aload_n 55 hC 0 (dg DX9_manFewest 26 rfl) rfl rfl ?_
    refine j_getR 56 hC fX9_39 (k_0) (by decide) (by decide) rfl (dg DX9_manFewest 27 rfl) ?_
    refine j_getI 59 hC fX9_193 (k_82) (by decide) (by decide) rfl (dg DX9_manFewest 28 rfl) ?_
    refine j_Vv (As := [.int (σ2 82 2)]) 62 hC (m_X8_manJust isW_1 hw) kX9_326 (k_1) (by decide) ⟨_, _, rfl⟩ (rmN_ok (by decide) (by decide)) rfl rfl (Nat.le_of_ble_eq_true rfl) (dg DX9_manFewest 29 rfl) (fun σ3 hw => ?_)
    refine j_aload_n 65 hC 0 (dg DX9_manFewest 30 rfl) rfl rfl ?_
    refine j_getR 66 hC fX9_39 (k_0) (by decide) (by decide) rfl (dg DX9_manFewest 31 rfl) ?_
    refine j_getI 69 hC fX9_193 (k_82) (by decide) (by decide) rfl (dg DX9_manFewest 32 rfl) ?_
    refine j_Si (As := [.int (σ3 82 2)]) 72 hC (m_J6_bitCount_0f7a4  hw) kX9_166 (rmN_ok (by decide) (by decide)) rfl rfl (Nat.le_of_ble_eq_true rfl) (dg DX9_manFewest 33 rfl) (fun r5 σ4 hw => ?_)
    exact hR 75 _ _ _ (dg DX9_manFewest 34 rfl) hw
  · replace hw := hw.1 hbr
    refine j_aload_n 41 hC 0 (dg DX9_manFewest 18 rfl) rfl rfl ?_
    refine j_iconst 42 hC (dg DX9_manFewest 19 rfl) (v := 4) (by decide) ?_
    refine j_aload_n 43 hC 0 (dg DX9_manFewest 20 rfl) rfl rfl ?_
    refine j_Vi (As := []) 44 hC (m_X9_manyUnseen  hw) kX9_323 (k_0) (by decide) ⟨_, _, rfl⟩ (rmN_ok (by decide) (by decide)) rfl rfl (Nat.le_of_ble_eq_true rfl) (dg DX9_manFewest 21 rfl) (fun r7 σ6 hw => ?_)
    refine j_Vi (As := [.int 4, .int r7]) 47 hC (m_X9_refuse  hw) kX9_299 (k_0) (by decide) ⟨_, _, rfl⟩ (rmN_ok (by decide) (by decide)) rfl rfl (Nat.le_of_ble_eq_true rfl) (dg DX9_manFewest 22 rfl) (fun r9 σ8 hw => ?_)
    exact hR 50 _ _ _ (dg DX9_manFewest 23 rfl) hw
theorem m_X9_manFewest {B : Nat} {σ : SS} {Q : Int32 → SS → Prop} (hw : wp_X9_manFewest  σ  Q) : MI yX9_manFewest cX9_manFewest 1 (some .int) 3 90 B 95 RS [.ref (B + 0)] σ Q := MI.mk (plainFor_of_name (by decide)) (Nat.le_of_ble_eq_true rfl) (fun X hC hR => t_X9_manFewest hC  hR hw)
-- FortressWatch.watch
def wp_X9_watch  (σ : SS)  (Q : Int32 → SS → Prop) : Prop :=
  wp_X8_copyFrom 8 1 σ (fun σ1 =>
    wp_X9_manFewest σ1 (fun r3 σ2 =>
      wp_X9_kept σ2 r3 (fun r5 σ4 =>
        Q r5 σ4)))
set_option maxRecDepth 100000 in
set_option maxHeartbeats 4000000 in
theorem t_X9_watch {X : XT} {B : Nat} (hC : Cx X 1 cX9_watch RX9 (rmN 4 110)) {Q : Int32 → SS → Prop} (hR : RtI X 1 B 95 RS cX9_watch Q) {σ : SS} (hw : wp_X9_watch  σ  Q) : J X 1 B 95 RS 0 0 σ [(0, .ref (B + 0))] 0 [] := by
  unfold wp_X9_watch at hw
  refine j_aload_n 0 hC 0 (dg DX9_watch 0 rfl) rfl rfl ?_
  refine j_getR 1 hC fX9_16 (k_0) (by decide) (by decide) rfl (dg DX9_watch 1 rfl) ?_
  refine j_aload_n 4 hC 0 (dg DX9_watch 2 rfl) rfl rfl ?_
  refine j_getR 5 hC fX9_10 (k_0) (by decide) (by decide) rfl (dg DX9_watch 3 rfl) ?_
  refine j_Vv (As := [.ref (B + 1)]) 8 hC (m_X8_copyFrom isW_8 isW_1 hw) kX9_86 (k_8) (by decide) ⟨_, _, rfl⟩ (rmN_ok (by decide) (by decide)) rfl rfl (Nat.le_of_ble_eq_true rfl) (dg DX9_watch 4 rfl) (fun σ1 hw => ?_)
  refine j_aload_n 11 hC 0 (dg DX9_watch 5 rfl) rfl rfl ?_
  refine j_aload_n 12 hC 0 (dg DX9_watch 6 rfl) rfl rfl ?_
  refine j_Vi (As := []) 13 hC (m_X9_manFewest  hw) kX9_124 (k_0) (by decide) ⟨_, _, rfl⟩ (rmN_ok (by decide) (by decide)) rfl rfl (Nat.le_of_ble_eq_true rfl) (dg DX9_watch 7 rfl) (fun r3 σ2 hw => ?_)
  refine j_Vi (As := [.int r3]) 16 hC (m_X9_kept  hw) kX9_94 (k_0) (by decide) ⟨_, _, rfl⟩ (rmN_ok (by decide) (by decide)) rfl rfl (Nat.le_of_ble_eq_true rfl) (dg DX9_watch 8 rfl) (fun r5 σ4 hw => ?_)
  exact hR 19 _ _ _ (dg DX9_watch 9 rfl) hw
theorem m_X9_watch {B : Nat} {σ : SS} {Q : Int32 → SS → Prop} (hw : wp_X9_watch  σ  Q) : MI yX9_watch cX9_watch 1 (some .int) 4 110 B 95 RS [.ref (B + 0)] σ Q := MI.mk (plainFor_of_name (by decide)) (Nat.le_of_ble_eq_true rfl) (fun X hC hR => t_X9_watch hC  hR hw)
-- FortressWatch.postOf
def wp_X9_postOf  (σ : SS) (p1 : Int32) (p2 : Int32) (Q : Int32 → SS → Prop) : Prop :=
  wp_X8_isPost 1 σ p1 (fun r2 σ1 =>
    ((r2 = 0 →
        Q (-1) σ1) ∧
      (¬ r2 = 0 →
        ((p2 < 0 →
            Q (-2) σ1) ∧
          (¬ p2 < 0 →
            ((p2 ≤ 8 →
                ((5 < p2 →
                    wp_X6_lookAt 1 σ1 (σ1 1 7) (fun σ3 =>
                      ((p2 = 6 →
                          wp_X6_manySeen σ3 p1 (fun r8 σ7 =>
                            Q r8 σ7)) ∧
                        (¬ p2 = 6 →
                          ((p2 = 7 →
                              wp_X6_manySeenAlone σ3 p1 (fun r6 σ5 =>
                                Q r6 σ5)) ∧
                            (¬ p2 = 7 →
                              wp_X0_trySets σ3 (fun σ4 =>
                                Q ((((σ4 82 4).toUInt32 >>> (p1.toUInt32 &&& Int32.toUInt32 31)).toInt32) &&& 1) σ4))))))) ∧
                  (¬ 5 < p2 →
                    wp_X8_numberOf 1 σ1 p1 p2 (fun r10 σ9 =>
                      Q r10 σ9)))) ∧
              (¬ p2 ≤ 8 →
                Q (-2) σ1)))))))
set_option maxRecDepth 100000 in
set_option maxHeartbeats 4000000 in
theorem t_X9_postOf {X : XT} {B : Nat} (hC : Cx X 3 cX9_postOf RX9 (rmN 3 90)) {Q : Int32 → SS → Prop} (hR : RtI X 3 B 95 RS cX9_postOf Q) {σ : SS} {p1 : Int32} {p2 : Int32} (hw : wp_X9_postOf  σ p1 p2 Q) : J X 3 B 95 RS 0 0 σ [(0, .ref (B + 0)), (1, .int p1), (2, .int p2)] 0 [] := by
  unfold wp_X9_postOf at hw
  refine j_aload_n 0 hC 0 (dg DX9_postOf 0 rfl) rfl rfl ?_
  refine j_getR 1 hC fX9_10 (k_0) (by decide) (by decide) rfl (dg DX9_postOf 1 rfl) ?_
  refine j_iload_n 4 hC 1 (dg DX9_postOf 2 rfl) rfl rfl ?_
  refine j_Vi (As := [.int p1]) 5 hC (m_X8_isPost isW_1 hw) kX9_127 (k_1) (by decide) ⟨_, _, rfl⟩ (rmN_ok (by decide) (by decide)) rfl rfl (Nat.le_of_ble_eq_true rfl) (dg DX9_postOf 3 rfl) (fun r2 σ1 hw => ?_)
  refine j_if_ne 8 13 hC (dg DX9_postOf 4 rfl) (by decide) (fun hbr => ?_) (fun hbr => ?_)
  · replace hw := hw.2 hbr
    refine j_iload_n 13 hC 2 (dg DX9_postOf 7 rfl) rfl rfl ?_
    refine j_if_lt 14 23 hC (dg DX9_postOf 8 rfl) (by decide) (fun hbr => ?_) (fun hbr => ?_)
    · replace hw := hw.1 hbr
      refine j_bipush 23 hC (dg DX9_postOf 12 rfl) (v := (-2)) (by decide) ?_
      exact hR 25 _ _ _ (dg DX9_postOf 13 rfl) hw
    · replace hw := hw.2 hbr
      refine j_iload_n 17 hC 2 (dg DX9_postOf 9 rfl) rfl rfl ?_
      refine j_bipush 18 hC (dg DX9_postOf 10 rfl) (v := 8) (by decide) ?_
      refine j_icmp_le 20 26 hC (dg DX9_postOf 11 rfl) (by decide) (fun hbr => ?_) (fun hbr => ?_)
      · replace hw := hw.1 hbr
        refine j_iload_n 26 hC 2 (dg DX9_postOf 14 rfl) rfl rfl ?_
        refine j_iconst 27 hC (dg DX9_postOf 15 rfl) (v := 5) (by decide) ?_
        refine j_icmp_gt 28 41 hC (dg DX9_postOf 16 rfl) (by decide) (fun hbr => ?_) (fun hbr => ?_)
        · replace hw := hw.1 hbr
          refine j_aload_n 41 hC 0 (dg DX9_postOf 23 rfl) rfl rfl ?_
          refine j_getR 42 hC fX9_32 (k_0) (by decide) (by decide) rfl (dg DX9_postOf 24 rfl) ?_
          refine j_aload_n 45 hC 0 (dg DX9_postOf 25 rfl) rfl rfl ?_
          refine j_getR 46 hC fX9_10 (k_0) (by decide) (by decide) rfl (dg DX9_postOf 26 rfl) ?_
          refine j_aload_n 49 hC 0 (dg DX9_postOf 27 rfl) rfl rfl ?_
          refine j_getR 50 hC fX9_10 (k_0) (by decide) (by decide) rfl (dg DX9_postOf 28 rfl) ?_
          refine j_getI 53 hC fX9_134 (k_1) (by decide) (by decide) rfl (dg DX9_postOf 29 rfl) ?_
          refine j_Vv (As := [.ref (B + 1), .int (σ1 1 7)]) 56 hC (m_X6_lookAt isW_1 hw) kX9_137 (k_80) (by decide) ⟨_, _, rfl⟩ (rmN_ok (by decide) (by decide)) rfl rfl (Nat.le_of_ble_eq_true rfl) (dg DX9_postOf 30 rfl) (fun σ3 hw => ?_)
          refine j_iload_n 59 hC 2 (dg DX9_postOf 31 rfl) rfl rfl ?_
          refine j_bipush 60 hC (dg DX9_postOf 32 rfl) (v := 6) (by decide) ?_
          refine j_icmp_ne 62 74 hC (dg DX9_postOf 33 rfl) (by decide) (fun hbr => ?_) (fun hbr => ?_)
          · replace hw := hw.2 hbr
            refine j_iload_n 74 hC 2 (dg DX9_postOf 39 rfl) rfl rfl ?_
            refine j_bipush 75 hC (dg DX9_postOf 40 rfl) (v := 7) (by decide) ?_
            refine j_icmp_ne 77 89 hC (dg DX9_postOf 41 rfl) (by decide) (fun hbr => ?_) (fun hbr => ?_)
            · replace hw := hw.2 hbr
              refine j_aload_n 89 hC 0 (dg DX9_postOf 47 rfl) rfl rfl ?_
              refine j_getR 90 hC fX9_39 (k_0) (by decide) (by decide) rfl (dg DX9_postOf 48 rfl) ?_
              refine j_aload_n 93 hC 0 (dg DX9_postOf 49 rfl) rfl rfl ?_
              refine j_getR 94 hC fX9_32 (k_0) (by decide) (by decide) rfl (dg DX9_postOf 50 rfl) ?_
              refine j_Vv (As := [.ref (B + 80)]) 97 hC (m_X0_trySets  hw) kX9_147 (k_82) (by decide) ⟨_, _, rfl⟩ (rmN_ok (by decide) (by decide)) rfl rfl (Nat.le_of_ble_eq_true rfl) (dg DX9_postOf 51 rfl) (fun σ4 hw => ?_)
              refine j_aload_n 100 hC 0 (dg DX9_postOf 52 rfl) rfl rfl ?_
              refine j_getR 101 hC fX9_39 (k_0) (by decide) (by decide) rfl (dg DX9_postOf 53 rfl) ?_
              refine j_getI 104 hC fX9_151 (k_82) (by decide) (by decide) rfl (dg DX9_postOf 54 rfl) ?_
              refine j_iload_n 107 hC 1 (dg DX9_postOf 55 rfl) rfl rfl ?_
              refine j_iushr 108 hC (dg DX9_postOf 56 rfl) ?_
              refine j_iconst 109 hC (dg DX9_postOf 57 rfl) (v := 1) (by decide) ?_
              refine j_iand 110 hC (dg DX9_postOf 58 rfl) ?_
              exact hR 111 _ _ _ (dg DX9_postOf 59 rfl) hw
            · replace hw := hw.1 hbr
              refine j_aload_n 80 hC 0 (dg DX9_postOf 42 rfl) rfl rfl ?_
              refine j_getR 81 hC fX9_32 (k_0) (by decide) (by decide) rfl (dg DX9_postOf 43 rfl) ?_
              refine j_iload_n 84 hC 1 (dg DX9_postOf 44 rfl) rfl rfl ?_
              refine j_Vi (As := [.int p1]) 85 hC (m_X6_manySeenAlone  hw) kX9_144 (k_80) (by decide) ⟨_, _, rfl⟩ (rmN_ok (by decide) (by decide)) rfl rfl (Nat.le_of_ble_eq_true rfl) (dg DX9_postOf 45 rfl) (fun r6 σ5 hw => ?_)
              exact hR 88 _ _ _ (dg DX9_postOf 46 rfl) hw
          · replace hw := hw.1 hbr
            refine j_aload_n 65 hC 0 (dg DX9_postOf 34 rfl) rfl rfl ?_
            refine j_getR 66 hC fX9_32 (k_0) (by decide) (by decide) rfl (dg DX9_postOf 35 rfl) ?_
            refine j_iload_n 69 hC 1 (dg DX9_postOf 36 rfl) rfl rfl ?_
            refine j_Vi (As := [.int p1]) 70 hC (m_X6_manySeen  hw) kX9_141 (k_80) (by decide) ⟨_, _, rfl⟩ (rmN_ok (by decide) (by decide)) rfl rfl (Nat.le_of_ble_eq_true rfl) (dg DX9_postOf 37 rfl) (fun r8 σ7 hw => ?_)
            exact hR 73 _ _ _ (dg DX9_postOf 38 rfl) hw
        · replace hw := hw.2 hbr
          refine j_aload_n 31 hC 0 (dg DX9_postOf 17 rfl) rfl rfl ?_
          refine j_getR 32 hC fX9_10 (k_0) (by decide) (by decide) rfl (dg DX9_postOf 18 rfl) ?_
          refine j_iload_n 35 hC 1 (dg DX9_postOf 19 rfl) rfl rfl ?_
          refine j_iload_n 36 hC 2 (dg DX9_postOf 20 rfl) rfl rfl ?_
          refine j_Vi (As := [.int p1, .int p2]) 37 hC (m_X8_numberOf isW_1 hw) kX9_131 (k_1) (by decide) ⟨_, _, rfl⟩ (rmN_ok (by decide) (by decide)) rfl rfl (Nat.le_of_ble_eq_true rfl) (dg DX9_postOf 21 rfl) (fun r10 σ9 hw => ?_)
          exact hR 40 _ _ _ (dg DX9_postOf 22 rfl) hw
      · replace hw := hw.2 hbr
        refine j_bipush 23 hC (dg DX9_postOf 12 rfl) (v := (-2)) (by decide) ?_
        exact hR 25 _ _ _ (dg DX9_postOf 13 rfl) hw
  · replace hw := hw.1 hbr
    refine j_iconst 11 hC (dg DX9_postOf 5 rfl) (v := (-1)) (by decide) ?_
    exact hR 12 _ _ _ (dg DX9_postOf 6 rfl) hw
theorem m_X9_postOf {B : Nat} {σ : SS} {p1 : Int32} {p2 : Int32} {Q : Int32 → SS → Prop} (hw : wp_X9_postOf  σ p1 p2 Q) : MI yX9_postOf cX9_postOf 3 (some .int) 3 90 B 95 RS [.ref (B + 0), .int p1, .int p2] σ Q := MI.mk (plainFor_of_name (by decide)) (Nat.le_of_ble_eq_true rfl) (fun X hC hR => t_X9_postOf hC  hR hw)
-- FortressWatch.sees
def wp_X9_sees  (σ : SS) (p1 : Int32) (p2 : Int32) (Q : Int32 → SS → Prop) : Prop :=
  wp_X8_isPost 1 σ p1 (fun r2 σ1 =>
    ((r2 = 0 →
        Q (-1) σ1) ∧
      (¬ r2 = 0 →
        wp_X9_isStone σ1 p2 (fun r4 σ3 =>
          ((r4 = 0 →
              Q (-1) σ3) ∧
            (¬ r4 = 0 →
              wp_X6_lookAt 1 σ3 (σ3 1 7) (fun σ5 =>
                wp_X6_of σ5 p1 (fun r7 σ6 =>
                  Q (((r7.toUInt32 >>> (p2.toUInt32 &&& Int32.toUInt32 31)).toInt32) &&& 1) σ6))))))))
set_option maxRecDepth 100000 in
set_option maxHeartbeats 4000000 in
theorem t_X9_sees {X : XT} {B : Nat} (hC : Cx X 3 cX9_sees RX9 (rmN 3 90)) {Q : Int32 → SS → Prop} (hR : RtI X 3 B 95 RS cX9_sees Q) {σ : SS} {p1 : Int32} {p2 : Int32} (hw : wp_X9_sees  σ p1 p2 Q) : J X 3 B 95 RS 0 0 σ [(0, .ref (B + 0)), (1, .int p1), (2, .int p2)] 0 [] := by
  unfold wp_X9_sees at hw
  refine j_aload_n 0 hC 0 (dg DX9_sees 0 rfl) rfl rfl ?_
  refine j_getR 1 hC fX9_10 (k_0) (by decide) (by decide) rfl (dg DX9_sees 1 rfl) ?_
  refine j_iload_n 4 hC 1 (dg DX9_sees 2 rfl) rfl rfl ?_
  refine j_Vi (As := [.int p1]) 5 hC (m_X8_isPost isW_1 hw) kX9_127 (k_1) (by decide) ⟨_, _, rfl⟩ (rmN_ok (by decide) (by decide)) rfl rfl (Nat.le_of_ble_eq_true rfl) (dg DX9_sees 3 rfl) (fun r2 σ1 hw => ?_)
  refine j_if_eq 8 18 hC (dg DX9_sees 4 rfl) (by decide) (fun hbr => ?_) (fun hbr => ?_)
  · replace hw := hw.1 hbr
    refine j_iconst 18 hC (dg DX9_sees 8 rfl) (v := (-1)) (by decide) ?_
    exact hR 19 _ _ _ (dg DX9_sees 9 rfl) hw
  · replace hw := hw.2 hbr
    refine j_iload_n 11 hC 2 (dg DX9_sees 5 rfl) rfl rfl ?_
    refine j_Si (As := [.int p2]) 12 hC (m_X9_isStone  hw) kX9_154 (rmN_ok (by decide) (by decide)) rfl rfl (Nat.le_of_ble_eq_true rfl) (dg DX9_sees 6 rfl) (fun r4 σ3 hw => ?_)
    refine j_if_ne 15 20 hC (dg DX9_sees 7 rfl) (by decide) (fun hbr => ?_) (fun hbr => ?_)
    · replace hw := hw.2 hbr
      refine j_aload_n 20 hC 0 (dg DX9_sees 10 rfl) rfl rfl ?_
      refine j_getR 21 hC fX9_32 (k_0) (by decide) (by decide) rfl (dg DX9_sees 11 rfl) ?_
      refine j_aload_n 24 hC 0 (dg DX9_sees 12 rfl) rfl rfl ?_
      refine j_getR 25 hC fX9_10 (k_0) (by decide) (by decide) rfl (dg DX9_sees 13 rfl) ?_
      refine j_aload_n 28 hC 0 (dg DX9_sees 14 rfl) rfl rfl ?_
      refine j_getR 29 hC fX9_10 (k_0) (by decide) (by decide) rfl (dg DX9_sees 15 rfl) ?_
      refine j_getI 32 hC fX9_134 (k_1) (by decide) (by decide) rfl (dg DX9_sees 16 rfl) ?_
      refine j_Vv (As := [.ref (B + 1), .int (σ3 1 7)]) 35 hC (m_X6_lookAt isW_1 hw) kX9_137 (k_80) (by decide) ⟨_, _, rfl⟩ (rmN_ok (by decide) (by decide)) rfl rfl (Nat.le_of_ble_eq_true rfl) (dg DX9_sees 17 rfl) (fun σ5 hw => ?_)
      refine j_aload_n 38 hC 0 (dg DX9_sees 18 rfl) rfl rfl ?_
      refine j_getR 39 hC fX9_32 (k_0) (by decide) (by decide) rfl (dg DX9_sees 19 rfl) ?_
      refine j_iload_n 42 hC 1 (dg DX9_sees 20 rfl) rfl rfl ?_
      refine j_Vi (As := [.int p1]) 43 hC (m_X6_of  hw) kX9_157 (k_80) (by decide) ⟨_, _, rfl⟩ (rmN_ok (by decide) (by decide)) rfl rfl (Nat.le_of_ble_eq_true rfl) (dg DX9_sees 21 rfl) (fun r7 σ6 hw => ?_)
      refine j_iload_n 46 hC 2 (dg DX9_sees 22 rfl) rfl rfl ?_
      refine j_iushr 47 hC (dg DX9_sees 23 rfl) ?_
      refine j_iconst 48 hC (dg DX9_sees 24 rfl) (v := 1) (by decide) ?_
      refine j_iand 49 hC (dg DX9_sees 25 rfl) ?_
      exact hR 50 _ _ _ (dg DX9_sees 26 rfl) hw
    · replace hw := hw.1 hbr
      refine j_iconst 18 hC (dg DX9_sees 8 rfl) (v := (-1)) (by decide) ?_
      exact hR 19 _ _ _ (dg DX9_sees 9 rfl) hw
theorem m_X9_sees {B : Nat} {σ : SS} {p1 : Int32} {p2 : Int32} {Q : Int32 → SS → Prop} (hw : wp_X9_sees  σ p1 p2 Q) : MI yX9_sees cX9_sees 3 (some .int) 3 90 B 95 RS [.ref (B + 0), .int p1, .int p2] σ Q := MI.mk (plainFor_of_name (by decide)) (Nat.le_of_ble_eq_true rfl) (fun X hC hR => t_X9_sees hC  hR hw)
-- FortressWatch.watched
def wp_X9_watched  (σ : SS) (p1 : Int32) (Q : Int32 → SS → Prop) : Prop :=
  wp_X9_isStone σ p1 (fun r2 σ1 =>
    ((r2 = 0 →
        Q (-1) σ1) ∧
      (¬ r2 = 0 →
        wp_X6_lookAt 1 σ1 (σ1 1 7) (fun σ3 =>
          wp_X6_seersOf σ3 p1 (fun r5 σ4 =>
            wp_J6_bitCount_0f7a4 σ4 (r5 &&& (σ4 80 2)) (fun r7 σ6 =>
              Q r7 σ6))))))
set_option maxRecDepth 100000 in
set_option maxHeartbeats 4000000 in
theorem t_X9_watched {X : XT} {B : Nat} (hC : Cx X 2 cX9_watched RX9 (rmN 3 90)) {Q : Int32 → SS → Prop} (hR : RtI X 2 B 95 RS cX9_watched Q) {σ : SS} {p1 : Int32} (hw : wp_X9_watched  σ p1 Q) : J X 2 B 95 RS 0 0 σ [(0, .ref (B + 0)), (1, .int p1)] 0 [] := by
  unfold wp_X9_watched at hw
  refine j_iload_n 0 hC 1 (dg DX9_watched 0 rfl) rfl rfl ?_
  refine j_Si (As := [.int p1]) 1 hC (m_X9_isStone  hw) kX9_154 (rmN_ok (by decide) (by decide)) rfl rfl (Nat.le_of_ble_eq_true rfl) (dg DX9_watched 1 rfl) (fun r2 σ1 hw => ?_)
  refine j_if_ne 4 9 hC (dg DX9_watched 2 rfl) (by decide) (fun hbr => ?_) (fun hbr => ?_)
  · replace hw := hw.2 hbr
    refine j_aload_n 9 hC 0 (dg DX9_watched 5 rfl) rfl rfl ?_
    refine j_getR 10 hC fX9_32 (k_0) (by decide) (by decide) rfl (dg DX9_watched 6 rfl) ?_
    refine j_aload_n 13 hC 0 (dg DX9_watched 7 rfl) rfl rfl ?_
    refine j_getR 14 hC fX9_10 (k_0) (by decide) (by decide) rfl (dg DX9_watched 8 rfl) ?_
    refine j_aload_n 17 hC 0 (dg DX9_watched 9 rfl) rfl rfl ?_
    refine j_getR 18 hC fX9_10 (k_0) (by decide) (by decide) rfl (dg DX9_watched 10 rfl) ?_
    refine j_getI 21 hC fX9_134 (k_1) (by decide) (by decide) rfl (dg DX9_watched 11 rfl) ?_
    refine j_Vv (As := [.ref (B + 1), .int (σ1 1 7)]) 24 hC (m_X6_lookAt isW_1 hw) kX9_137 (k_80) (by decide) ⟨_, _, rfl⟩ (rmN_ok (by decide) (by decide)) rfl rfl (Nat.le_of_ble_eq_true rfl) (dg DX9_watched 12 rfl) (fun σ3 hw => ?_)
    refine j_aload_n 27 hC 0 (dg DX9_watched 13 rfl) rfl rfl ?_
    refine j_getR 28 hC fX9_32 (k_0) (by decide) (by decide) rfl (dg DX9_watched 14 rfl) ?_
    refine j_iload_n 31 hC 1 (dg DX9_watched 15 rfl) rfl rfl ?_
    refine j_Vi (As := [.int p1]) 32 hC (m_X6_seersOf  hw) kX9_160 (k_80) (by decide) ⟨_, _, rfl⟩ (rmN_ok (by decide) (by decide)) rfl rfl (Nat.le_of_ble_eq_true rfl) (dg DX9_watched 16 rfl) (fun r5 σ4 hw => ?_)
    refine j_aload_n 35 hC 0 (dg DX9_watched 17 rfl) rfl rfl ?_
    refine j_getR 36 hC fX9_32 (k_0) (by decide) (by decide) rfl (dg DX9_watched 18 rfl) ?_
    refine j_getI 39 hC fX9_163 (k_80) (by decide) (by decide) rfl (dg DX9_watched 19 rfl) ?_
    refine j_iand 42 hC (dg DX9_watched 20 rfl) ?_
    refine j_Si (As := [.int (r5 &&& (σ4 80 2))]) 43 hC (m_J6_bitCount_0f7a4  hw) kX9_166 (rmN_ok (by decide) (by decide)) rfl rfl (Nat.le_of_ble_eq_true rfl) (dg DX9_watched 21 rfl) (fun r7 σ6 hw => ?_)
    exact hR 46 _ _ _ (dg DX9_watched 22 rfl) hw
  · replace hw := hw.1 hbr
    refine j_iconst 7 hC (dg DX9_watched 3 rfl) (v := (-1)) (by decide) ?_
    exact hR 8 _ _ _ (dg DX9_watched 4 rfl) hw
theorem m_X9_watched {B : Nat} {σ : SS} {p1 : Int32} {Q : Int32 → SS → Prop} (hw : wp_X9_watched  σ p1 Q) : MI yX9_watched cX9_watched 2 (some .int) 3 90 B 95 RS [.ref (B + 0), .int p1] σ Q := MI.mk (plainFor_of_name (by decide)) (Nat.le_of_ble_eq_true rfl) (fun X hC hR => t_X9_watched hC  hR hw)
-- FortressWatch.seenBy
def wp_X9_seenBy  (σ : SS) (p1 : Int32) (Q : Int32 → SS → Prop) : Prop :=
  wp_X9_isStone σ p1 (fun r2 σ1 =>
    ((r2 = 0 →
        Q (-1) σ1) ∧
      (¬ r2 = 0 →
        wp_X6_lookAt 1 σ1 (σ1 1 7) (fun σ3 =>
          wp_X6_seersOf σ3 p1 (fun r5 σ4 =>
            Q r5 σ4)))))
set_option maxRecDepth 100000 in
set_option maxHeartbeats 4000000 in
theorem t_X9_seenBy {X : XT} {B : Nat} (hC : Cx X 2 cX9_seenBy RX9 (rmN 3 90)) {Q : Int32 → SS → Prop} (hR : RtI X 2 B 95 RS cX9_seenBy Q) {σ : SS} {p1 : Int32} (hw : wp_X9_seenBy  σ p1 Q) : J X 2 B 95 RS 0 0 σ [(0, .ref (B + 0)), (1, .int p1)] 0 [] := by
  unfold wp_X9_seenBy at hw
  refine j_iload_n 0 hC 1 (dg DX9_seenBy 0 rfl) rfl rfl ?_
  refine j_Si (As := [.int p1]) 1 hC (m_X9_isStone  hw) kX9_154 (rmN_ok (by decide) (by decide)) rfl rfl (Nat.le_of_ble_eq_true rfl) (dg DX9_seenBy 1 rfl) (fun r2 σ1 hw => ?_)
  refine j_if_ne 4 9 hC (dg DX9_seenBy 2 rfl) (by decide) (fun hbr => ?_) (fun hbr => ?_)
  · replace hw := hw.2 hbr
    refine j_aload_n 9 hC 0 (dg DX9_seenBy 5 rfl) rfl rfl ?_
    refine j_getR 10 hC fX9_32 (k_0) (by decide) (by decide) rfl (dg DX9_seenBy 6 rfl) ?_
    refine j_aload_n 13 hC 0 (dg DX9_seenBy 7 rfl) rfl rfl ?_
    refine j_getR 14 hC fX9_10 (k_0) (by decide) (by decide) rfl (dg DX9_seenBy 8 rfl) ?_
    refine j_aload_n 17 hC 0 (dg DX9_seenBy 9 rfl) rfl rfl ?_
    refine j_getR 18 hC fX9_10 (k_0) (by decide) (by decide) rfl (dg DX9_seenBy 10 rfl) ?_
    refine j_getI 21 hC fX9_134 (k_1) (by decide) (by decide) rfl (dg DX9_seenBy 11 rfl) ?_
    refine j_Vv (As := [.ref (B + 1), .int (σ1 1 7)]) 24 hC (m_X6_lookAt isW_1 hw) kX9_137 (k_80) (by decide) ⟨_, _, rfl⟩ (rmN_ok (by decide) (by decide)) rfl rfl (Nat.le_of_ble_eq_true rfl) (dg DX9_seenBy 12 rfl) (fun σ3 hw => ?_)
    refine j_aload_n 27 hC 0 (dg DX9_seenBy 13 rfl) rfl rfl ?_
    refine j_getR 28 hC fX9_32 (k_0) (by decide) (by decide) rfl (dg DX9_seenBy 14 rfl) ?_
    refine j_iload_n 31 hC 1 (dg DX9_seenBy 15 rfl) rfl rfl ?_
    refine j_Vi (As := [.int p1]) 32 hC (m_X6_seersOf  hw) kX9_160 (k_80) (by decide) ⟨_, _, rfl⟩ (rmN_ok (by decide) (by decide)) rfl rfl (Nat.le_of_ble_eq_true rfl) (dg DX9_seenBy 16 rfl) (fun r5 σ4 hw => ?_)
    exact hR 35 _ _ _ (dg DX9_seenBy 17 rfl) hw
  · replace hw := hw.1 hbr
    refine j_iconst 7 hC (dg DX9_seenBy 3 rfl) (v := (-1)) (by decide) ?_
    exact hR 8 _ _ _ (dg DX9_seenBy 4 rfl) hw
theorem m_X9_seenBy {B : Nat} {σ : SS} {p1 : Int32} {Q : Int32 → SS → Prop} (hw : wp_X9_seenBy  σ p1 Q) : MI yX9_seenBy cX9_seenBy 2 (some .int) 3 90 B 95 RS [.ref (B + 0), .int p1] σ Q := MI.mk (plainFor_of_name (by decide)) (Nat.le_of_ble_eq_true rfl) (fun X hC hR => t_X9_seenBy hC  hR hw)
-- FortressWatch.gapOf
def wp_X9_gapOf  (σ : SS) (p1 : Int32) (p2 : Int32) (Q : Int32 → SS → Prop) : Prop :=
  wp_X6_lookAt 1 σ (σ 1 7) (fun σ1 =>
    wp_X6_seenBySet σ1 (σ1 80 2) (fun r3 σ2 =>
      wp_X1_find σ2 r3 (fun σ4 =>
        wp_X1_isGap σ4 p1 (fun r6 σ5 =>
          ((r6 = 0 →
              Q (-1) σ5) ∧
            (¬ r6 = 0 →
              ((p2 = 0 →
                  wp_X1_firstOf σ5 p1 (fun r8 σ7 =>
                    Q r8 σ7)) ∧
                (¬ p2 = 0 →
                  ((p2 = 1 →
                      wp_X1_lengthOf σ5 p1 (fun r10 σ9 =>
                        Q r10 σ9)) ∧
                    (¬ p2 = 1 →
                      ((p2 = 2 →
                          wp_X1_firstOf σ5 p1 (fun r12 σ11 =>
                            wp_X1_lengthOf σ11 p1 (fun r14 σ13 =>
                              wp_X9_stretch σ13 r12 r14 (fun r16 σ15 =>
                                wp_X6_bestAmong σ15 511 r16 (fun r18 σ17 =>
                                  Q r18 σ17))))) ∧
                        (¬ p2 = 2 →
                          Q (-2) σ5))))))))))))
set_option maxRecDepth 100000 in
set_option maxHeartbeats 4000000 in
theorem t_X9_gapOf {X : XT} {B : Nat} (hC : Cx X 3 cX9_gapOf RX9 (rmN 3 90)) {Q : Int32 → SS → Prop} (hR : RtI X 3 B 95 RS cX9_gapOf Q) {σ : SS} {p1 : Int32} {p2 : Int32} (hw : wp_X9_gapOf  σ p1 p2 Q) : J X 3 B 95 RS 0 0 σ [(0, .ref (B + 0)), (1, .int p1), (2, .int p2)] 0 [] := by
  unfold wp_X9_gapOf at hw
  refine j_aload_n 0 hC 0 (dg DX9_gapOf 0 rfl) rfl rfl ?_
  refine j_getR 1 hC fX9_32 (k_0) (by decide) (by decide) rfl (dg DX9_gapOf 1 rfl) ?_
  refine j_aload_n 4 hC 0 (dg DX9_gapOf 2 rfl) rfl rfl ?_
  refine j_getR 5 hC fX9_10 (k_0) (by decide) (by decide) rfl (dg DX9_gapOf 3 rfl) ?_
  refine j_aload_n 8 hC 0 (dg DX9_gapOf 4 rfl) rfl rfl ?_
  refine j_getR 9 hC fX9_10 (k_0) (by decide) (by decide) rfl (dg DX9_gapOf 5 rfl) ?_
  refine j_getI 12 hC fX9_134 (k_1) (by decide) (by decide) rfl (dg DX9_gapOf 6 rfl) ?_
  refine j_Vv (As := [.ref (B + 1), .int (σ 1 7)]) 15 hC (m_X6_lookAt isW_1 hw) kX9_137 (k_80) (by decide) ⟨_, _, rfl⟩ (rmN_ok (by decide) (by decide)) rfl rfl (Nat.le_of_ble_eq_true rfl) (dg DX9_gapOf 7 rfl) (fun σ1 hw => ?_)
  refine j_aload_n 18 hC 0 (dg DX9_gapOf 8 rfl) rfl rfl ?_
  refine j_getR 19 hC fX9_46 (k_0) (by decide) (by decide) rfl (dg DX9_gapOf 9 rfl) ?_
  refine j_aload_n 22 hC 0 (dg DX9_gapOf 10 rfl) rfl rfl ?_
  refine j_getR 23 hC fX9_32 (k_0) (by decide) (by decide) rfl (dg DX9_gapOf 11 rfl) ?_
  refine j_aload_n 26 hC 0 (dg DX9_gapOf 12 rfl) rfl rfl ?_
  refine j_getR 27 hC fX9_32 (k_0) (by decide) (by decide) rfl (dg DX9_gapOf 13 rfl) ?_
  refine j_getI 30 hC fX9_163 (k_80) (by decide) (by decide) rfl (dg DX9_gapOf 14 rfl) ?_
  refine j_Vi (As := [.int (σ1 80 2)]) 33 hC (m_X6_seenBySet  hw) kX9_171 (k_80) (by decide) ⟨_, _, rfl⟩ (rmN_ok (by decide) (by decide)) rfl rfl (Nat.le_of_ble_eq_true rfl) (dg DX9_gapOf 15 rfl) (fun r3 σ2 hw => ?_)
  refine j_Vv (As := [.int r3]) 36 hC (m_X1_find  hw) kX9_174 (k_85) (by decide) ⟨_, _, rfl⟩ (rmN_ok (by decide) (by decide)) rfl rfl (Nat.le_of_ble_eq_true rfl) (dg DX9_gapOf 16 rfl) (fun σ4 hw => ?_)
  refine j_aload_n 39 hC 0 (dg DX9_gapOf 17 rfl) rfl rfl ?_
  refine j_getR 40 hC fX9_46 (k_0) (by decide) (by decide) rfl (dg DX9_gapOf 18 rfl) ?_
  refine j_iload_n 43 hC 1 (dg DX9_gapOf 19 rfl) rfl rfl ?_
  refine j_Vi (As := [.int p1]) 44 hC (m_X1_isGap  hw) kX9_178 (k_85) (by decide) ⟨_, _, rfl⟩ (rmN_ok (by decide) (by decide)) rfl rfl (Nat.le_of_ble_eq_true rfl) (dg DX9_gapOf 20 rfl) (fun r6 σ5 hw => ?_)
  refine j_if_ne 47 52 hC (dg DX9_gapOf 21 rfl) (by decide) (fun hbr => ?_) (fun hbr => ?_)
  · replace hw := hw.2 hbr
    refine j_iload_n 52 hC 2 (dg DX9_gapOf 24 rfl) rfl rfl ?_
    by_cases n0 : p2 = 0
    · replace hw := hw.1 n0
      refine j_tableIn 53 80 hC (dg DX9_gapOf 25 rfl) (by rw [n0]; decide) (by rw [n0]; decide) (off := 27) (by rw [n0]; rfl) (by decide) ?_
      refine j_aload_n 80 hC 0 (dg DX9_gapOf 26 rfl) rfl rfl ?_
      refine j_getR 81 hC fX9_46 (k_0) (by decide) (by decide) rfl (dg DX9_gapOf 27 rfl) ?_
      refine j_iload_n 84 hC 1 (dg DX9_gapOf 28 rfl) rfl rfl ?_
      refine j_Vi (As := [.int p1]) 85 hC (m_X1_firstOf  hw) kX9_181 (k_85) (by decide) ⟨_, _, rfl⟩ (rmN_ok (by decide) (by decide)) rfl rfl (Nat.le_of_ble_eq_true rfl) (dg DX9_gapOf 29 rfl) (fun r8 σ7 hw => ?_)
      exact hR 88 _ _ _ (dg DX9_gapOf 30 rfl) hw
    replace hw := hw.2 n0
    by_cases n1 : p2 = 1
    · replace hw := hw.1 n1
      refine j_tableIn 53 89 hC (dg DX9_gapOf 25 rfl) (by rw [n1]; decide) (by rw [n1]; decide) (off := 36) (by rw [n1]; rfl) (by decide) ?_
      refine j_aload_n 89 hC 0 (dg DX9_gapOf 31 rfl) rfl rfl ?_
      refine j_getR 90 hC fX9_46 (k_0) (by decide) (by decide) rfl (dg DX9_gapOf 32 rfl) ?_
      refine j_iload_n 93 hC 1 (dg DX9_gapOf 33 rfl) rfl rfl ?_
      refine j_Vi (As := [.int p1]) 94 hC (m_X1_lengthOf  hw) kX9_184 (k_85) (by decide) ⟨_, _, rfl⟩ (rmN_ok (by decide) (by decide)) rfl rfl (Nat.le_of_ble_eq_true rfl) (dg DX9_gapOf 34 rfl) (fun r10 σ9 hw => ?_)
      exact hR 97 _ _ _ (dg DX9_gapOf 35 rfl) hw
    replace hw := hw.2 n1
    by_cases n2 : p2 = 2
    · replace hw := hw.1 n2
      refine j_tableIn 53 98 hC (dg DX9_gapOf 25 rfl) (by rw [n2]; decide) (by rw [n2]; decide) (off := 45) (by rw [n2]; rfl) (by decide) ?_
      refine j_aload_n 98 hC 0 (dg DX9_gapOf 36 rfl) rfl rfl ?_
      refine j_getR 99 hC fX9_32 (k_0) (by decide) (by decide) rfl (dg DX9_gapOf 37 rfl) ?_
      refine j_sipush 102 hC (dg DX9_gapOf 38 rfl) (v := 511) (by decide) ?_
      refine j_aload_n 105 hC 0 (dg DX9_gapOf 39 rfl) rfl rfl ?_
      refine j_getR 106 hC fX9_46 (k_0) (by decide) (by decide) rfl (dg DX9_gapOf 40 rfl) ?_
      refine j_iload_n 109 hC 1 (dg DX9_gapOf 41 rfl) rfl rfl ?_
      refine j_Vi (As := [.int p1]) 110 hC (m_X1_firstOf  hw) kX9_181 (k_85) (by decide) ⟨_, _, rfl⟩ (rmN_ok (by decide) (by decide)) rfl rfl (Nat.le_of_ble_eq_true rfl) (dg DX9_gapOf 42 rfl) (fun r12 σ11 hw => ?_)
      refine j_aload_n 113 hC 0 (dg DX9_gapOf 43 rfl) rfl rfl ?_
      refine j_getR 114 hC fX9_46 (k_0) (by decide) (by decide) rfl (dg DX9_gapOf 44 rfl) ?_
      refine j_iload_n 117 hC 1 (dg DX9_gapOf 45 rfl) rfl rfl ?_
      refine j_Vi (As := [.int p1]) 118 hC (m_X1_lengthOf  hw) kX9_184 (k_85) (by decide) ⟨_, _, rfl⟩ (rmN_ok (by decide) (by decide)) rfl rfl (Nat.le_of_ble_eq_true rfl) (dg DX9_gapOf 46 rfl) (fun r14 σ13 hw => ?_)
      refine j_Si (As := [.int r12, .int r14]) 121 hC (m_X9_stretch  hw) kX9_187 (rmN_ok (by decide) (by decide)) rfl rfl (Nat.le_of_ble_eq_true rfl) (dg DX9_gapOf 47 rfl) (fun r16 σ15 hw => ?_)
      refine j_Vi (As := [.int 511, .int r16]) 124 hC (m_X6_bestAmong  hw) kX9_190 (k_80) (by decide) ⟨_, _, rfl⟩ (rmN_ok (by decide) (by decide)) rfl rfl (Nat.le_of_ble_eq_true rfl) (dg DX9_gapOf 48 rfl) (fun r18 σ17 hw => ?_)
      exact hR 127 _ _ _ (dg DX9_gapOf 49 rfl) hw
    replace hw := hw.2 n2
    have hout : (p2).toInt < 0 ∨ 2 < (p2).toInt := by
      have q0 : (p2).toInt ≠ 0 := i32_ne n0
      have q1 : (p2).toInt ≠ 1 := i32_ne n1
      have q2 : (p2).toInt ≠ 2 := i32_ne n2
      omega
    refine j_tableOut 53 128 hC (dg DX9_gapOf 25 rfl) hout (by decide) ?_
    refine j_bipush 128 hC (dg DX9_gapOf 50 rfl) (v := (-2)) (by decide) ?_
    exact hR 130 _ _ _ (dg DX9_gapOf 51 rfl) hw
  · replace hw := hw.1 hbr
    refine j_iconst 50 hC (dg DX9_gapOf 22 rfl) (v := (-1)) (by decide) ?_
    exact hR 51 _ _ _ (dg DX9_gapOf 23 rfl) hw
theorem m_X9_gapOf {B : Nat} {σ : SS} {p1 : Int32} {p2 : Int32} {Q : Int32 → SS → Prop} (hw : wp_X9_gapOf  σ p1 p2 Q) : MI yX9_gapOf cX9_gapOf 3 (some .int) 3 90 B 95 RS [.ref (B + 0), .int p1, .int p2] σ Q := MI.mk (plainFor_of_name (by decide)) (Nat.le_of_ble_eq_true rfl) (fun X hC hR => t_X9_gapOf hC  hR hw)
-- FortressWatch.fewest
def wp_X9_fewest  (σ : SS)  (Q : Int32 → SS → Prop) : Prop :=
  wp_X6_lookAt 1 σ (σ 1 7) (fun σ1 =>
    wp_X0_trySets σ1 (fun σ2 =>
      Q (σ2 82 2) σ2))
set_option maxRecDepth 100000 in
set_option maxHeartbeats 4000000 in
theorem t_X9_fewest {X : XT} {B : Nat} (hC : Cx X 1 cX9_fewest RX9 (rmN 3 90)) {Q : Int32 → SS → Prop} (hR : RtI X 1 B 95 RS cX9_fewest Q) {σ : SS} (hw : wp_X9_fewest  σ  Q) : J X 1 B 95 RS 0 0 σ [(0, .ref (B + 0))] 0 [] := by
  unfold wp_X9_fewest at hw
  refine j_aload_n 0 hC 0 (dg DX9_fewest 0 rfl) rfl rfl ?_
  refine j_getR 1 hC fX9_32 (k_0) (by decide) (by decide) rfl (dg DX9_fewest 1 rfl) ?_
  refine j_aload_n 4 hC 0 (dg DX9_fewest 2 rfl) rfl rfl ?_
  refine j_getR 5 hC fX9_10 (k_0) (by decide) (by decide) rfl (dg DX9_fewest 3 rfl) ?_
  refine j_aload_n 8 hC 0 (dg DX9_fewest 4 rfl) rfl rfl ?_
  refine j_getR 9 hC fX9_10 (k_0) (by decide) (by decide) rfl (dg DX9_fewest 5 rfl) ?_
  refine j_getI 12 hC fX9_134 (k_1) (by decide) (by decide) rfl (dg DX9_fewest 6 rfl) ?_
  refine j_Vv (As := [.ref (B + 1), .int (σ 1 7)]) 15 hC (m_X6_lookAt isW_1 hw) kX9_137 (k_80) (by decide) ⟨_, _, rfl⟩ (rmN_ok (by decide) (by decide)) rfl rfl (Nat.le_of_ble_eq_true rfl) (dg DX9_fewest 7 rfl) (fun σ1 hw => ?_)
  refine j_aload_n 18 hC 0 (dg DX9_fewest 8 rfl) rfl rfl ?_
  refine j_getR 19 hC fX9_39 (k_0) (by decide) (by decide) rfl (dg DX9_fewest 9 rfl) ?_
  refine j_aload_n 22 hC 0 (dg DX9_fewest 10 rfl) rfl rfl ?_
  refine j_getR 23 hC fX9_32 (k_0) (by decide) (by decide) rfl (dg DX9_fewest 11 rfl) ?_
  refine j_Vv (As := [.ref (B + 80)]) 26 hC (m_X0_trySets  hw) kX9_147 (k_82) (by decide) ⟨_, _, rfl⟩ (rmN_ok (by decide) (by decide)) rfl rfl (Nat.le_of_ble_eq_true rfl) (dg DX9_fewest 12 rfl) (fun σ2 hw => ?_)
  refine j_aload_n 29 hC 0 (dg DX9_fewest 13 rfl) rfl rfl ?_
  refine j_getR 30 hC fX9_39 (k_0) (by decide) (by decide) rfl (dg DX9_fewest 14 rfl) ?_
  refine j_getI 33 hC fX9_193 (k_82) (by decide) (by decide) rfl (dg DX9_fewest 15 rfl) ?_
  exact hR 36 _ _ _ (dg DX9_fewest 16 rfl) hw
theorem m_X9_fewest {B : Nat} {σ : SS} {Q : Int32 → SS → Prop} (hw : wp_X9_fewest  σ  Q) : MI yX9_fewest cX9_fewest 1 (some .int) 3 90 B 95 RS [.ref (B + 0)] σ Q := MI.mk (plainFor_of_name (by decide)) (Nat.le_of_ble_eq_true rfl) (fun X hC hR => t_X9_fewest hC  hR hw)
-- FortressWatch.fewestAgain
def wp_X9_fewestAgain  (σ : SS)  (Q : Int32 → SS → Prop) : Prop :=
  wp_X6_lookAt 1 σ (σ 1 7) (fun σ1 =>
    wp_X0_searchStones σ1 (fun r3 σ2 =>
      Q r3 σ2))
set_option maxRecDepth 100000 in
set_option maxHeartbeats 4000000 in
theorem t_X9_fewestAgain {X : XT} {B : Nat} (hC : Cx X 1 cX9_fewestAgain RX9 (rmN 16 432)) {Q : Int32 → SS → Prop} (hR : RtI X 1 B 95 RS cX9_fewestAgain Q) {σ : SS} (hw : wp_X9_fewestAgain  σ  Q) : J X 1 B 95 RS 0 0 σ [(0, .ref (B + 0))] 0 [] := by
  unfold wp_X9_fewestAgain at hw
  refine j_aload_n 0 hC 0 (dg DX9_fewestAgain 0 rfl) rfl rfl ?_
  refine j_getR 1 hC fX9_32 (k_0) (by decide) (by decide) rfl (dg DX9_fewestAgain 1 rfl) ?_
  refine j_aload_n 4 hC 0 (dg DX9_fewestAgain 2 rfl) rfl rfl ?_
  refine j_getR 5 hC fX9_10 (k_0) (by decide) (by decide) rfl (dg DX9_fewestAgain 3 rfl) ?_
  refine j_aload_n 8 hC 0 (dg DX9_fewestAgain 4 rfl) rfl rfl ?_
  refine j_getR 9 hC fX9_10 (k_0) (by decide) (by decide) rfl (dg DX9_fewestAgain 5 rfl) ?_
  refine j_getI 12 hC fX9_134 (k_1) (by decide) (by decide) rfl (dg DX9_fewestAgain 6 rfl) ?_
  refine j_Vv (As := [.ref (B + 1), .int (σ 1 7)]) 15 hC (m_X6_lookAt isW_1 hw) kX9_137 (k_80) (by decide) ⟨_, _, rfl⟩ (rmN_ok (by decide) (by decide)) rfl rfl (Nat.le_of_ble_eq_true rfl) (dg DX9_fewestAgain 7 rfl) (fun σ1 hw => ?_)
  refine j_aload_n 18 hC 0 (dg DX9_fewestAgain 8 rfl) rfl rfl ?_
  refine j_getR 19 hC fX9_39 (k_0) (by decide) (by decide) rfl (dg DX9_fewestAgain 9 rfl) ?_
  refine j_aload_n 22 hC 0 (dg DX9_fewestAgain 10 rfl) rfl rfl ?_
  refine j_getR 23 hC fX9_32 (k_0) (by decide) (by decide) rfl (dg DX9_fewestAgain 11 rfl) ?_
  refine j_Vi (As := [.ref (B + 80)]) 26 hC (m_X0_searchStones  hw) kX9_196 (k_82) (by decide) ⟨_, _, rfl⟩ (rmN_ok (by decide) (by decide)) rfl rfl (Nat.le_of_ble_eq_true rfl) (dg DX9_fewestAgain 12 rfl) (fun r3 σ2 hw => ?_)
  exact hR 29 _ _ _ (dg DX9_fewestAgain 13 rfl) hw
theorem m_X9_fewestAgain {B : Nat} {σ : SS} {Q : Int32 → SS → Prop} (hw : wp_X9_fewestAgain  σ  Q) : MI yX9_fewestAgain cX9_fewestAgain 1 (some .int) 16 432 B 95 RS [.ref (B + 0)] σ Q := MI.mk (plainFor_of_name (by decide)) (Nat.le_of_ble_eq_true rfl) (fun X hC hR => t_X9_fewestAgain hC  hR hw)
-- FortressWatch.watches
def wp_X9_watches  (σ : SS)  (Q : Int32 → SS → Prop) : Prop :=
  wp_X6_lookAt 1 σ (σ 1 7) (fun σ1 =>
    wp_X0_trySets σ1 (fun σ2 =>
      Q (σ2 82 3) σ2))
set_option maxRecDepth 100000 in
set_option maxHeartbeats 4000000 in
theorem t_X9_watches {X : XT} {B : Nat} (hC : Cx X 1 cX9_watches RX9 (rmN 3 90)) {Q : Int32 → SS → Prop} (hR : RtI X 1 B 95 RS cX9_watches Q) {σ : SS} (hw : wp_X9_watches  σ  Q) : J X 1 B 95 RS 0 0 σ [(0, .ref (B + 0))] 0 [] := by
  unfold wp_X9_watches at hw
  refine j_aload_n 0 hC 0 (dg DX9_watches 0 rfl) rfl rfl ?_
  refine j_getR 1 hC fX9_32 (k_0) (by decide) (by decide) rfl (dg DX9_watches 1 rfl) ?_
  refine j_aload_n 4 hC 0 (dg DX9_watches 2 rfl) rfl rfl ?_
  refine j_getR 5 hC fX9_10 (k_0) (by decide) (by decide) rfl (dg DX9_watches 3 rfl) ?_
  refine j_aload_n 8 hC 0 (dg DX9_watches 4 rfl) rfl rfl ?_
  refine j_getR 9 hC fX9_10 (k_0) (by decide) (by decide) rfl (dg DX9_watches 5 rfl) ?_
  refine j_getI 12 hC fX9_134 (k_1) (by decide) (by decide) rfl (dg DX9_watches 6 rfl) ?_
  refine j_Vv (As := [.ref (B + 1), .int (σ 1 7)]) 15 hC (m_X6_lookAt isW_1 hw) kX9_137 (k_80) (by decide) ⟨_, _, rfl⟩ (rmN_ok (by decide) (by decide)) rfl rfl (Nat.le_of_ble_eq_true rfl) (dg DX9_watches 7 rfl) (fun σ1 hw => ?_)
  refine j_aload_n 18 hC 0 (dg DX9_watches 8 rfl) rfl rfl ?_
  refine j_getR 19 hC fX9_39 (k_0) (by decide) (by decide) rfl (dg DX9_watches 9 rfl) ?_
  refine j_aload_n 22 hC 0 (dg DX9_watches 10 rfl) rfl rfl ?_
  refine j_getR 23 hC fX9_32 (k_0) (by decide) (by decide) rfl (dg DX9_watches 11 rfl) ?_
  refine j_Vv (As := [.ref (B + 80)]) 26 hC (m_X0_trySets  hw) kX9_147 (k_82) (by decide) ⟨_, _, rfl⟩ (rmN_ok (by decide) (by decide)) rfl rfl (Nat.le_of_ble_eq_true rfl) (dg DX9_watches 12 rfl) (fun σ2 hw => ?_)
  refine j_aload_n 29 hC 0 (dg DX9_watches 13 rfl) rfl rfl ?_
  refine j_getR 30 hC fX9_39 (k_0) (by decide) (by decide) rfl (dg DX9_watches 14 rfl) ?_
  refine j_getI 33 hC fX9_200 (k_82) (by decide) (by decide) rfl (dg DX9_watches 15 rfl) ?_
  exact hR 36 _ _ _ (dg DX9_watches 16 rfl) hw
theorem m_X9_watches {B : Nat} {σ : SS} {Q : Int32 → SS → Prop} (hw : wp_X9_watches  σ  Q) : MI yX9_watches cX9_watches 1 (some .int) 3 90 B 95 RS [.ref (B + 0)] σ Q := MI.mk (plainFor_of_name (by decide)) (Nat.le_of_ble_eq_true rfl) (fun X hC hR => t_X9_watches hC  hR hw)
-- FortressWatch.isFull
def wp_X9_isFull  (σ : SS) (p1 : Int32) (Q : Int32 → SS → Prop) : Prop :=
  ((p1 < 0 →
      Q (-1) σ) ∧
    (¬ p1 < 0 →
      ((p1 < ((1 : Int32) <<< ((σ 1 6) &&& 31)) →
          wp_X6_lookAt 1 σ (σ 1 7) (fun σ1 =>
            wp_X6_seenBySet σ1 p1 (fun r3 σ2 =>
              ((r3 = 16777215 →
                  Q 1 σ2) ∧
                (¬ r3 = 16777215 →
                  Q 0 σ2))))) ∧
        (¬ p1 < ((1 : Int32) <<< ((σ 1 6) &&& 31)) →
          Q (-1) σ))))
set_option maxRecDepth 100000 in
set_option maxHeartbeats 4000000 in
theorem t_X9_isFull {X : XT} {B : Nat} (hC : Cx X 2 cX9_isFull RX9 (rmN 3 90)) {Q : Int32 → SS → Prop} (hR : RtI X 2 B 95 RS cX9_isFull Q) {σ : SS} {p1 : Int32} (hw : wp_X9_isFull  σ p1 Q) : J X 2 B 95 RS 0 0 σ [(0, .ref (B + 0)), (1, .int p1)] 0 [] := by
  unfold wp_X9_isFull at hw
  refine j_iload_n 0 hC 1 (dg DX9_isFull 0 rfl) rfl rfl ?_
  refine j_if_lt 1 17 hC (dg DX9_isFull 1 rfl) (by decide) (fun hbr => ?_) (fun hbr => ?_)
  · replace hw := hw.1 hbr
    refine j_iconst 17 hC (dg DX9_isFull 9 rfl) (v := (-1)) (by decide) ?_
    exact hR 18 _ _ _ (dg DX9_isFull 10 rfl) hw
  · replace hw := hw.2 hbr
    refine j_iload_n 4 hC 1 (dg DX9_isFull 2 rfl) rfl rfl ?_
    refine j_iconst 5 hC (dg DX9_isFull 3 rfl) (v := 1) (by decide) ?_
    refine j_aload_n 6 hC 0 (dg DX9_isFull 4 rfl) rfl rfl ?_
    refine j_getR 7 hC fX9_10 (k_0) (by decide) (by decide) rfl (dg DX9_isFull 5 rfl) ?_
    refine j_getI 10 hC fX9_203 (k_1) (by decide) (by decide) rfl (dg DX9_isFull 6 rfl) ?_
    refine j_ishl 13 hC (dg DX9_isFull 7 rfl) ?_
    refine j_icmp_lt 14 19 hC (dg DX9_isFull 8 rfl) (by decide) (fun hbr => ?_) (fun hbr => ?_)
    · replace hw := hw.1 hbr
      refine j_aload_n 19 hC 0 (dg DX9_isFull 11 rfl) rfl rfl ?_
      refine j_getR 20 hC fX9_32 (k_0) (by decide) (by decide) rfl (dg DX9_isFull 12 rfl) ?_
      refine j_aload_n 23 hC 0 (dg DX9_isFull 13 rfl) rfl rfl ?_
      refine j_getR 24 hC fX9_10 (k_0) (by decide) (by decide) rfl (dg DX9_isFull 14 rfl) ?_
      refine j_aload_n 27 hC 0 (dg DX9_isFull 15 rfl) rfl rfl ?_
      refine j_getR 28 hC fX9_10 (k_0) (by decide) (by decide) rfl (dg DX9_isFull 16 rfl) ?_
      refine j_getI 31 hC fX9_134 (k_1) (by decide) (by decide) rfl (dg DX9_isFull 17 rfl) ?_
      refine j_Vv (As := [.ref (B + 1), .int (σ 1 7)]) 34 hC (m_X6_lookAt isW_1 hw) kX9_137 (k_80) (by decide) ⟨_, _, rfl⟩ (rmN_ok (by decide) (by decide)) rfl rfl (Nat.le_of_ble_eq_true rfl) (dg DX9_isFull 18 rfl) (fun σ1 hw => ?_)
      refine j_aload_n 37 hC 0 (dg DX9_isFull 19 rfl) rfl rfl ?_
      refine j_getR 38 hC fX9_32 (k_0) (by decide) (by decide) rfl (dg DX9_isFull 20 rfl) ?_
      refine j_iload_n 41 hC 1 (dg DX9_isFull 21 rfl) rfl rfl ?_
      refine j_Vi (As := [.int p1]) 42 hC (m_X6_seenBySet  hw) kX9_171 (k_80) (by decide) ⟨_, _, rfl⟩ (rmN_ok (by decide) (by decide)) rfl rfl (Nat.le_of_ble_eq_true rfl) (dg DX9_isFull 22 rfl) (fun r3 σ2 hw => ?_)
      refine j_ldc 45 hC (dg DX9_isFull 23 rfl) w_210 ?_
      refine j_icmp_ne 47 54 hC (dg DX9_isFull 24 rfl) (by decide) (fun hbr => ?_) (fun hbr => ?_)
      · replace hw := hw.2 hbr
        refine j_iconst 54 hC (dg DX9_isFull 27 rfl) (v := 0) (by decide) ?_
        exact hR 55 _ _ _ (dg DX9_isFull 28 rfl) hw
      · replace hw := hw.1 hbr
        refine j_iconst 50 hC (dg DX9_isFull 25 rfl) (v := 1) (by decide) ?_
        refine j_goto 51 55 hC (dg DX9_isFull 26 rfl) (by decide) ?_
        exact hR 55 _ _ _ (dg DX9_isFull 28 rfl) hw
    · replace hw := hw.2 hbr
      refine j_iconst 17 hC (dg DX9_isFull 9 rfl) (v := (-1)) (by decide) ?_
      exact hR 18 _ _ _ (dg DX9_isFull 10 rfl) hw
theorem m_X9_isFull {B : Nat} {σ : SS} {p1 : Int32} {Q : Int32 → SS → Prop} (hw : wp_X9_isFull  σ p1 Q) : MI yX9_isFull cX9_isFull 2 (some .int) 3 90 B 95 RS [.ref (B + 0), .int p1] σ Q := MI.mk (plainFor_of_name (by decide)) (Nat.le_of_ble_eq_true rfl) (fun X hC hR => t_X9_isFull hC  hR hw)
