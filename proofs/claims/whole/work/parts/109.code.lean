-- FortressWatch.isWell
def wp_X9_isWell  (σ : SS)  (Q : Int32 → SS → Prop) : Prop :=
  wp_X6_lookAt 1 σ (σ 1 7) (fun σ1 =>
    wp_X0_trySets σ1 (fun σ2 =>
      wp_X0_searchStones σ2 (fun r4 σ3 =>
        (((σ2 82 2) = r4 →
            (((σ2 82 2) = (-4) →
                wp_X6_seenBySet σ3 (σ3 80 2) (fun r6 σ5 =>
                  wp_X1_find σ5 r6 (fun σ7 =>
                    wp_J6_bitCount_0f7a4 σ7 r6 (fun r9 σ8 =>
                      wp_X1_lengthOfAll σ8 (fun r11 σ10 =>
                        (((r9 + r11) = 24 →
                            Q 1 σ10) ∧
                          (¬ (r9 + r11) = 24 →
                            Q 0 σ10))))))) ∧
              (¬ (σ2 82 2) = (-4) →
                wp_X6_seenBySet σ3 (σ2 82 2) (fun r13 σ12 =>
                  ((r13 = 16777215 →
                      wp_X6_seenBySet σ12 (σ12 80 2) (fun r15 σ14 =>
                        wp_X1_find σ14 r15 (fun σ16 =>
                          wp_J6_bitCount_0f7a4 σ16 r15 (fun r18 σ17 =>
                            wp_X1_lengthOfAll σ17 (fun r20 σ19 =>
                              (((r18 + r20) = 24 →
                                  Q 1 σ19) ∧
                                (¬ (r18 + r20) = 24 →
                                  Q 0 σ19))))))) ∧
                    (¬ r13 = 16777215 →
                      Q 0 σ12)))))) ∧
          (¬ (σ2 82 2) = r4 →
            Q 0 σ3)))))
set_option maxRecDepth 100000 in
set_option maxHeartbeats 4000000 in
theorem t_X9_isWell {X : XT} {B : Nat} (hC : Cx X 3 cX9_isWell RX9 (rmN 16 432)) {Q : Int32 → SS → Prop} (hR : RtI X 3 B 103 RS cX9_isWell Q) {σ : SS} (hw : wp_X9_isWell  σ  Q) : J X 3 B 103 RS 0 0 σ [(0, .ref (B + 0))] 0 [] := by
  unfold wp_X9_isWell at hw
  refine j_aload_n 0 hC 0 (dg DX9_isWell 0 rfl) rfl rfl ?_
  refine j_getR 1 hC fX9_32 (k_0) (by decide) (by decide) rfl (dg DX9_isWell 1 rfl) ?_
  refine j_aload_n 4 hC 0 (dg DX9_isWell 2 rfl) rfl rfl ?_
  refine j_getR 5 hC fX9_10 (k_0) (by decide) (by decide) rfl (dg DX9_isWell 3 rfl) ?_
  refine j_aload_n 8 hC 0 (dg DX9_isWell 4 rfl) rfl rfl ?_
  refine j_getR 9 hC fX9_10 (k_0) (by decide) (by decide) rfl (dg DX9_isWell 5 rfl) ?_
  refine j_getI 12 hC fX9_134 (k_1) (by decide) (by decide) rfl (dg DX9_isWell 6 rfl) ?_
  refine j_Vv (As := [.ref (B + 1), .int (σ 1 7)]) 15 hC (m_X6_lookAt isW_1 hw) kX9_137 (k_80) (by decide) ⟨_, _, rfl⟩ (rmN_ok (by decide) (by decide)) rfl rfl (Nat.le_of_ble_eq_true rfl) (dg DX9_isWell 7 rfl) (fun σ1 hw => ?_)
  refine j_aload_n 18 hC 0 (dg DX9_isWell 8 rfl) rfl rfl ?_
  refine j_getR 19 hC fX9_39 (k_0) (by decide) (by decide) rfl (dg DX9_isWell 9 rfl) ?_
  refine j_aload_n 22 hC 0 (dg DX9_isWell 10 rfl) rfl rfl ?_
  refine j_getR 23 hC fX9_32 (k_0) (by decide) (by decide) rfl (dg DX9_isWell 11 rfl) ?_
  refine j_Vv (As := [.ref (B + 80)]) 26 hC (m_X0_trySets  hw) kX9_147 (k_82) (by decide) ⟨_, _, rfl⟩ (rmN_ok (by decide) (by decide)) rfl rfl (Nat.le_of_ble_eq_true rfl) (dg DX9_isWell 12 rfl) (fun σ2 hw => ?_)
  refine j_aload_n 29 hC 0 (dg DX9_isWell 13 rfl) rfl rfl ?_
  refine j_getR 30 hC fX9_39 (k_0) (by decide) (by decide) rfl (dg DX9_isWell 14 rfl) ?_
  refine j_getI 33 hC fX9_193 (k_82) (by decide) (by decide) rfl (dg DX9_isWell 15 rfl) ?_
  refine j_istore_n 36 hC [(1, .int (σ2 82 2)), (0, .ref (B + 0))] (dg DX9_isWell 16 rfl) rfl (by decide) rfl ?_
  refine j_iload_n 37 hC 0 (dg DX9_isWell 17 rfl) rfl rfl ?_
  refine j_aload_n 38 hC 1 (dg DX9_isWell 18 rfl) rfl rfl ?_
  refine j_getR 39 hC fX9_39 (k_0) (by decide) (by decide) rfl (dg DX9_isWell 19 rfl) ?_
  refine j_aload_n 42 hC 1 (dg DX9_isWell 20 rfl) rfl rfl ?_
  refine j_getR 43 hC fX9_32 (k_0) (by decide) (by decide) rfl (dg DX9_isWell 21 rfl) ?_
  refine j_Vi (As := [.ref (B + 80)]) 46 hC (m_X0_searchStones  hw) kX9_196 (k_82) (by decide) ⟨_, _, rfl⟩ (rmN_ok (by decide) (by decide)) rfl rfl (Nat.le_of_ble_eq_true rfl) (dg DX9_isWell 22 rfl) (fun r4 σ3 hw => ?_)
  refine j_icmp_eq 49 54 hC (dg DX9_isWell 23 rfl) (by decide) (fun hbr => ?_) (fun hbr => ?_)
  · replace hw := hw.1 hbr
    refine j_iload_n 54 hC 0 (dg DX9_isWell 26 rfl) rfl rfl ?_
    refine j_bipush 55 hC (dg DX9_isWell 27 rfl) (v := (-4)) (by decide) ?_
    refine j_icmp_eq 57 75 hC (dg DX9_isWell 28 rfl) (by decide) (fun hbr => ?_) (fun hbr => ?_)
    · replace hw := hw.1 hbr
      refine j_aload_n 75 hC 1 (dg DX9_isWell 37 rfl) rfl rfl ?_
      refine j_getR 76 hC fX9_32 (k_0) (by decide) (by decide) rfl (dg DX9_isWell 38 rfl) ?_
      refine j_aload_n 79 hC 1 (dg DX9_isWell 39 rfl) rfl rfl ?_
      refine j_getR 80 hC fX9_32 (k_0) (by decide) (by decide) rfl (dg DX9_isWell 40 rfl) ?_
      refine j_getI 83 hC fX9_163 (k_80) (by decide) (by decide) rfl (dg DX9_isWell 41 rfl) ?_
      refine j_Vi (As := [.int (σ3 80 2)]) 86 hC (m_X6_seenBySet  hw) kX9_171 (k_80) (by decide) ⟨_, _, rfl⟩ (rmN_ok (by decide) (by decide)) rfl rfl (Nat.le_of_ble_eq_true rfl) (dg DX9_isWell 42 rfl) (fun r6 σ5 hw => ?_)
      refine j_istore_n 89 hC [(2, .int r6), (1, .int (σ2 82 2)), (0, .ref (B + 0))] (dg DX9_isWell 43 rfl) rfl (by decide) rfl ?_
      refine j_aload_n 90 hC 2 (dg DX9_isWell 44 rfl) rfl rfl ?_
      refine j_getR 91 hC fX9_46 (k_0) (by decide) (by decide) rfl (dg DX9_isWell 45 rfl) ?_
      refine j_iload_n 94 hC 0 (dg DX9_isWell 46 rfl) rfl rfl ?_
      refine j_Vv (As := [.int r6]) 95 hC (m_X1_find  hw) kX9_174 (k_85) (by decide) ⟨_, _, rfl⟩ (rmN_ok (by decide) (by decide)) rfl rfl (Nat.le_of_ble_eq_true rfl) (dg DX9_isWell 47 rfl) (fun σ7 hw => ?_)
      refine j_iload_n 98 hC 0 (dg DX9_isWell 48 rfl) rfl rfl ?_
      refine j_Si (As := [.int r6]) 99 hC (m_J6_bitCount_0f7a4  hw) kX9_166 (rmN_ok (by decide) (by decide)) rfl rfl (Nat.le_of_ble_eq_true rfl) (dg DX9_isWell 49 rfl) (fun r9 σ8 hw => ?_)
      refine j_aload_n 102 hC 2 (dg DX9_isWell 50 rfl) rfl rfl ?_
      refine j_getR 103 hC fX9_46 (k_0) (by decide) (by decide) rfl (dg DX9_isWell 51 rfl) ?_
      refine j_Vi (As := []) 106 hC (m_X1_lengthOfAll  hw) kX9_268 (k_85) (by decide) ⟨_, _, rfl⟩ (rmN_ok (by decide) (by decide)) rfl rfl (Nat.le_of_ble_eq_true rfl) (dg DX9_isWell 52 rfl) (fun r11 σ10 hw => ?_)
      refine j_iadd 109 hC (dg DX9_isWell 53 rfl) ?_
      refine j_bipush 110 hC (dg DX9_isWell 54 rfl) (v := 24) (by decide) ?_
      refine j_icmp_ne 112 119 hC (dg DX9_isWell 55 rfl) (by decide) (fun hbr => ?_) (fun hbr => ?_)
      · replace hw := hw.2 hbr
        refine j_iconst 119 hC (dg DX9_isWell 58 rfl) (v := 0) (by decide) ?_
        exact hR 120 _ _ _ (dg DX9_isWell 59 rfl) hw
      · replace hw := hw.1 hbr
        refine j_iconst 115 hC (dg DX9_isWell 56 rfl) (v := 1) (by decide) ?_
        refine j_goto 116 120 hC (dg DX9_isWell 57 rfl) (by decide) ?_
        exact hR 120 _ _ _ (dg DX9_isWell 59 rfl) hw
    · replace hw := hw.2 hbr
      refine j_aload_n 60 hC 1 (dg DX9_isWell 29 rfl) rfl rfl ?_
      refine j_getR 61 hC fX9_32 (k_0) (by decide) (by decide) rfl (dg DX9_isWell 30 rfl) ?_
      refine j_iload_n 64 hC 0 (dg DX9_isWell 31 rfl) rfl rfl ?_
      refine j_Vi (As := [.int (σ2 82 2)]) 65 hC (m_X6_seenBySet  hw) kX9_171 (k_80) (by decide) ⟨_, _, rfl⟩ (rmN_ok (by decide) (by decide)) rfl rfl (Nat.le_of_ble_eq_true rfl) (dg DX9_isWell 32 rfl) (fun r13 σ12 hw => ?_)
      refine j_ldc 68 hC (dg DX9_isWell 33 rfl) w_574 ?_
      refine j_icmp_eq 70 75 hC (dg DX9_isWell 34 rfl) (by decide) (fun hbr => ?_) (fun hbr => ?_)
      · replace hw := hw.1 hbr
        refine j_aload_n 75 hC 1 (dg DX9_isWell 37 rfl) rfl rfl ?_
        refine j_getR 76 hC fX9_32 (k_0) (by decide) (by decide) rfl (dg DX9_isWell 38 rfl) ?_
        refine j_aload_n 79 hC 1 (dg DX9_isWell 39 rfl) rfl rfl ?_
        refine j_getR 80 hC fX9_32 (k_0) (by decide) (by decide) rfl (dg DX9_isWell 40 rfl) ?_
        refine j_getI 83 hC fX9_163 (k_80) (by decide) (by decide) rfl (dg DX9_isWell 41 rfl) ?_
        refine j_Vi (As := [.int (σ12 80 2)]) 86 hC (m_X6_seenBySet  hw) kX9_171 (k_80) (by decide) ⟨_, _, rfl⟩ (rmN_ok (by decide) (by decide)) rfl rfl (Nat.le_of_ble_eq_true rfl) (dg DX9_isWell 42 rfl) (fun r15 σ14 hw => ?_)
        refine j_istore_n 89 hC [(2, .int r15), (1, .int (σ2 82 2)), (0, .ref (B + 0))] (dg DX9_isWell 43 rfl) rfl (by decide) rfl ?_
        refine j_aload_n 90 hC 2 (dg DX9_isWell 44 rfl) rfl rfl ?_
        refine j_getR 91 hC fX9_46 (k_0) (by decide) (by decide) rfl (dg DX9_isWell 45 rfl) ?_
        refine j_iload_n 94 hC 0 (dg DX9_isWell 46 rfl) rfl rfl ?_
        refine j_Vv (As := [.int r15]) 95 hC (m_X1_find  hw) kX9_174 (k_85) (by decide) ⟨_, _, rfl⟩ (rmN_ok (by decide) (by decide)) rfl rfl (Nat.le_of_ble_eq_true rfl) (dg DX9_isWell 47 rfl) (fun σ16 hw => ?_)
        refine j_iload_n 98 hC 0 (dg DX9_isWell 48 rfl) rfl rfl ?_
        refine j_Si (As := [.int r15]) 99 hC (m_J6_bitCount_0f7a4  hw) kX9_166 (rmN_ok (by decide) (by decide)) rfl rfl (Nat.le_of_ble_eq_true rfl) (dg DX9_isWell 49 rfl) (fun r18 σ17 hw => ?_)
        refine j_aload_n 102 hC 2 (dg DX9_isWell 50 rfl) rfl rfl ?_
        refine j_getR 103 hC fX9_46 (k_0) (by decide) (by decide) rfl (dg DX9_isWell 51 rfl) ?_
        refine j_Vi (As := []) 106 hC (m_X1_lengthOfAll  hw) kX9_268 (k_85) (by decide) ⟨_, _, rfl⟩ (rmN_ok (by decide) (by decide)) rfl rfl (Nat.le_of_ble_eq_true rfl) (dg DX9_isWell 52 rfl) (fun r20 σ19 hw => ?_)
        refine j_iadd 109 hC (dg DX9_isWell 53 rfl) ?_
        refine j_bipush 110 hC (dg DX9_isWell 54 rfl) (v := 24) (by decide) ?_
        refine j_icmp_ne 112 119 hC (dg DX9_isWell 55 rfl) (by decide) (fun hbr => ?_) (fun hbr => ?_)
        · replace hw := hw.2 hbr
          refine j_iconst 119 hC (dg DX9_isWell 58 rfl) (v := 0) (by decide) ?_
          exact hR 120 _ _ _ (dg DX9_isWell 59 rfl) hw
        · replace hw := hw.1 hbr
          refine j_iconst 115 hC (dg DX9_isWell 56 rfl) (v := 1) (by decide) ?_
          refine j_goto 116 120 hC (dg DX9_isWell 57 rfl) (by decide) ?_
          exact hR 120 _ _ _ (dg DX9_isWell 59 rfl) hw
      · replace hw := hw.2 hbr
        refine j_iconst 73 hC (dg DX9_isWell 35 rfl) (v := 0) (by decide) ?_
        exact hR 74 _ _ _ (dg DX9_isWell 36 rfl) hw
  · replace hw := hw.2 hbr
    refine j_iconst 52 hC (dg DX9_isWell 24 rfl) (v := 0) (by decide) ?_
    exact hR 53 _ _ _ (dg DX9_isWell 25 rfl) hw
theorem m_X9_isWell {B : Nat} {σ : SS} {Q : Int32 → SS → Prop} (hw : wp_X9_isWell  σ  Q) : MI yX9_isWell cX9_isWell 3 (some .int) 16 432 B 103 RS [.ref (B + 0)] σ Q := MI.mk (plainFor_of_name (by decide)) (Nat.le_of_ble_eq_true rfl) (fun X hC hR => t_X9_isWell hC  hR hw)
-- FortressWatch.bitsOf
def bd_X9_bitsOf_42    (Q : Int32 → SS → Prop) (l0 : UInt32) (rc : SS → UInt32 → Int32 → Int32 → Prop) (σ : SS) (v1 : UInt32) (v2 : Int32) (v3 : Int32) : Prop :=
  ((126 ≤ v3 →
      vf_n32 (FP.fsub v1 FP.fconst1) ∧
      vf_n32 (FP.fmul (FP.fsub v1 FP.fconst1) 1258291200) ∧
      Q ((v2 <<< (23 &&& 31)) ||| (FP.f2i (FP.fmul (FP.fsub v1 FP.fconst1) 1258291200))) σ) ∧
    (¬ 126 ≤ v3 →
      ((0 ≤ (Op.cmpValue (FP.fcmp v1 FP.fconst1) .g) →
          vf_n32 (FP.fsub v1 FP.fconst1) ∧
          vf_n32 (FP.fmul (FP.fsub v1 FP.fconst1) 1258291200) ∧
          Q ((v2 <<< (23 &&& 31)) ||| (FP.f2i (FP.fmul (FP.fsub v1 FP.fconst1) 1258291200))) σ) ∧
        (¬ 0 ≤ (Op.cmpValue (FP.fcmp v1 FP.fconst1) .g) →
          vf_n32 (FP.fmul v1 FP.fconst2) ∧
          rc σ (FP.fmul v1 FP.fconst2) (v2 + (-1)) (v3 + 1)))))
def bd_X9_bitsOf_15    (Q : Int32 → SS → Prop) (l0 : UInt32) (rc : SS → UInt32 → Int32 → Int32 → Prop) (σ : SS) (v1 : UInt32) (v2 : Int32) (v3 : Int32) : Prop :=
  ((127 ≤ v3 →
      ∃ k1, Lfii (bd_X9_bitsOf_42 Q l0) k1 σ v1 v2 0) ∧
    (¬ 127 ≤ v3 →
      (((Op.cmpValue (FP.fcmp v1 FP.fconst2) .l) < 0 →
          ∃ k2, Lfii (bd_X9_bitsOf_42 Q l0) k2 σ v1 v2 0) ∧
        (¬ (Op.cmpValue (FP.fcmp v1 FP.fconst2) .l) < 0 →
          vf_n32 (FP.fdiv v1 FP.fconst2) ∧
          rc σ (FP.fdiv v1 FP.fconst2) (v2 + 1) (v3 + 1)))))
def wp_X9_bitsOf  (σ : SS) (p0 : UInt32) (Q : Int32 → SS → Prop) : Prop :=
  ((0 < (Op.cmpValue (FP.fcmp p0 FP.fconst0) .l) →
      ∃ k3, Lfii (bd_X9_bitsOf_15 Q p0) k3 σ p0 127 0) ∧
    (¬ 0 < (Op.cmpValue (FP.fcmp p0 FP.fconst0) .l) →
      Q 0 σ))
set_option maxRecDepth 100000 in
set_option maxHeartbeats 4000000 in
theorem tb_X9_bitsOf_42 {X : XT} {B : Nat} (hC : Cx X 4 cX9_bitsOf RX9 (rmN 0 0)) {Q : Int32 → SS → Prop} {l0 : UInt32} (hR : RtI X 4 B 103 RS cX9_bitsOf Q) {rc : SS → UInt32 → Int32 → Int32 → Prop} (hrc : ∀ (σ : SS) (v1 : UInt32) (v2 : Int32) (v3 : Int32), rc σ v1 v2 v3 → J X 4 B 103 RS 0 0 σ [(0, .float l0), (1, .float v1), (2, .int v2), (3, .int v3)] 42 []) : ∀ (σ : SS) (v1 : UInt32) (v2 : Int32) (v3 : Int32), bd_X9_bitsOf_42 Q l0 rc σ v1 v2 v3 → J X 4 B 103 RS 0 0 σ [(0, .float l0), (1, .float v1), (2, .int v2), (3, .int v3)] 42 [] := by
  intro σ v1 v2 v3 hw
  unfold bd_X9_bitsOf_42 at hw
  refine j_iload_n 42 hC 3 (dg DX9_bitsOf 28 rfl) rfl rfl ?_
  refine j_bipush 43 hC (dg DX9_bitsOf 29 rfl) (v := 126) (by decide) ?_
  refine j_icmp_ge 45 67 hC (dg DX9_bitsOf 30 rfl) (by decide) (fun hbr => ?_) (fun hbr => ?_)
  · replace hw := hw.1 hbr
    refine j_iload_n 67 hC 2 (dg DX9_bitsOf 42 rfl) rfl rfl ?_
    refine j_bipush 68 hC (dg DX9_bitsOf 43 rfl) (v := 23) (by decide) ?_
    refine j_ishl 70 hC (dg DX9_bitsOf 44 rfl) ?_
    refine j_fload_n 71 hC 1 (dg DX9_bitsOf 45 rfl) rfl rfl ?_
    refine j_fconst1 72 hC (dg DX9_bitsOf 46 rfl) ?_
    refine j_fsub 73 hC (dg DX9_bitsOf 47 rfl) hw.1 ?_
    replace hw := hw.2
    refine j_ldcwf 74 hC (dg DX9_bitsOf 48 rfl) w_819 ?_
    refine j_fmul 77 hC (dg DX9_bitsOf 49 rfl) hw.1 ?_
    replace hw := hw.2
    refine j_f2i 78 hC (dg DX9_bitsOf 50 rfl) ?_
    refine j_ior 79 hC (dg DX9_bitsOf 51 rfl) ?_
    exact hR 80 _ _ _ (dg DX9_bitsOf 52 rfl) hw
  · replace hw := hw.2 hbr
    refine j_fload_n 48 hC 1 (dg DX9_bitsOf 31 rfl) rfl rfl ?_
    refine j_fconst1 49 hC (dg DX9_bitsOf 32 rfl) ?_
    refine j_fcmp 50 hC (dg DX9_bitsOf 33 rfl) ?_
    refine j_if_ge 51 67 hC (dg DX9_bitsOf 34 rfl) (by decide) (fun hbr => ?_) (fun hbr => ?_)
    · replace hw := hw.1 hbr
      refine j_iload_n 67 hC 2 (dg DX9_bitsOf 42 rfl) rfl rfl ?_
      refine j_bipush 68 hC (dg DX9_bitsOf 43 rfl) (v := 23) (by decide) ?_
      refine j_ishl 70 hC (dg DX9_bitsOf 44 rfl) ?_
      refine j_fload_n 71 hC 1 (dg DX9_bitsOf 45 rfl) rfl rfl ?_
      refine j_fconst1 72 hC (dg DX9_bitsOf 46 rfl) ?_
      refine j_fsub 73 hC (dg DX9_bitsOf 47 rfl) hw.1 ?_
      replace hw := hw.2
      refine j_ldcwf 74 hC (dg DX9_bitsOf 48 rfl) w_819 ?_
      refine j_fmul 77 hC (dg DX9_bitsOf 49 rfl) hw.1 ?_
      replace hw := hw.2
      refine j_f2i 78 hC (dg DX9_bitsOf 50 rfl) ?_
      refine j_ior 79 hC (dg DX9_bitsOf 51 rfl) ?_
      exact hR 80 _ _ _ (dg DX9_bitsOf 52 rfl) hw
    · replace hw := hw.2 hbr
      refine j_fload_n 54 hC 1 (dg DX9_bitsOf 35 rfl) rfl rfl ?_
      refine j_fconst2 55 hC (dg DX9_bitsOf 36 rfl) ?_
      refine j_fmul 56 hC (dg DX9_bitsOf 37 rfl) hw.1 ?_
      replace hw := hw.2
      refine j_fstore_n 57 hC [(1, .float (FP.fmul v1 FP.fconst2)), (0, .float l0), (2, .int v2), (3, .int v3)] (dg DX9_bitsOf 38 rfl) rfl (by decide) rfl ?_
      refine j_iinc 58 hC 2 (v2 + (-1)) [(2, .int (v2 + (-1))), (1, .float (FP.fmul v1 FP.fconst2)), (0, .float l0), (3, .int v3)] (dg DX9_bitsOf 39 rfl) rfl rfl (by decide) rfl ?_
      refine j_iinc 61 hC 3 (v3 + 1) [(3, .int (v3 + 1)), (2, .int (v2 + (-1))), (1, .float (FP.fmul v1 FP.fconst2)), (0, .float l0)] (dg DX9_bitsOf 40 rfl) rfl rfl (by decide) rfl ?_
      refine j_goto 64 42 hC (dg DX9_bitsOf 41 rfl) (by decide) ?_
      refine j_lv [3, 2, 1, 0] (lv' := [(0, .float l0), (1, .float (FP.fmul v1 FP.fconst2)), (2, .int (v2 + (-1))), (3, .int (v3 + 1))]) rfl ?_
      exact hrc _ _ _ _ hw
set_option maxRecDepth 100000 in
set_option maxHeartbeats 4000000 in
theorem tb_X9_bitsOf_15 {X : XT} {B : Nat} (hC : Cx X 4 cX9_bitsOf RX9 (rmN 0 0)) {Q : Int32 → SS → Prop} {l0 : UInt32} (hR : RtI X 4 B 103 RS cX9_bitsOf Q) {rc : SS → UInt32 → Int32 → Int32 → Prop} (hrc : ∀ (σ : SS) (v1 : UInt32) (v2 : Int32) (v3 : Int32), rc σ v1 v2 v3 → J X 4 B 103 RS 0 0 σ [(0, .float l0), (1, .float v1), (2, .int v2), (3, .int v3)] 15 []) : ∀ (σ : SS) (v1 : UInt32) (v2 : Int32) (v3 : Int32), bd_X9_bitsOf_15 Q l0 rc σ v1 v2 v3 → J X 4 B 103 RS 0 0 σ [(0, .float l0), (1, .float v1), (2, .int v2), (3, .int v3)] 15 [] := by
  intro σ v1 v2 v3 hw
  unfold bd_X9_bitsOf_15 at hw
  refine j_iload_n 15 hC 3 (dg DX9_bitsOf 12 rfl) rfl rfl ?_
  refine j_bipush 16 hC (dg DX9_bitsOf 13 rfl) (v := 127) (by decide) ?_
  refine j_icmp_ge 18 40 hC (dg DX9_bitsOf 14 rfl) (by decide) (fun hbr => ?_) (fun hbr => ?_)
  · replace hw := hw.1 hbr
    refine j_iconst 40 hC (dg DX9_bitsOf 26 rfl) (v := 0) (by decide) ?_
    refine j_istore_n 41 hC [(3, .int 0), (0, .float l0), (1, .float v1), (2, .int v2)] (dg DX9_bitsOf 27 rfl) rfl (by decide) rfl ?_
    obtain ⟨k1, hw⟩ := hw
    refine j_lv [1, 2, 3, 0] (lv' := [(0, .float l0), (1, .float v1), (2, .int v2), (3, .int 0)]) rfl ?_
    exact Lfii.snd (P := fun τ w1 w2 w3 => J X 4 B 103 RS 0 0 τ [(0, .float l0), (1, .float w1), (2, .int w2), (3, .int w3)] 42 []) (fun rcc hrcc => tb_X9_bitsOf_42 hC  hR  hrcc) k1 _ _ _ _ hw
  · replace hw := hw.2 hbr
    refine j_fload_n 21 hC 1 (dg DX9_bitsOf 15 rfl) rfl rfl ?_
    refine j_fconst2 22 hC (dg DX9_bitsOf 16 rfl) ?_
    refine j_fcmp 23 hC (dg DX9_bitsOf 17 rfl) ?_
    refine j_if_lt 24 40 hC (dg DX9_bitsOf 18 rfl) (by decide) (fun hbr => ?_) (fun hbr => ?_)
    · replace hw := hw.1 hbr
      refine j_iconst 40 hC (dg DX9_bitsOf 26 rfl) (v := 0) (by decide) ?_
      refine j_istore_n 41 hC [(3, .int 0), (0, .float l0), (1, .float v1), (2, .int v2)] (dg DX9_bitsOf 27 rfl) rfl (by decide) rfl ?_
      obtain ⟨k2, hw⟩ := hw
      refine j_lv [1, 2, 3, 0] (lv' := [(0, .float l0), (1, .float v1), (2, .int v2), (3, .int 0)]) rfl ?_
      exact Lfii.snd (P := fun τ w1 w2 w3 => J X 4 B 103 RS 0 0 τ [(0, .float l0), (1, .float w1), (2, .int w2), (3, .int w3)] 42 []) (fun rcc hrcc => tb_X9_bitsOf_42 hC  hR  hrcc) k2 _ _ _ _ hw
    · replace hw := hw.2 hbr
      refine j_fload_n 27 hC 1 (dg DX9_bitsOf 19 rfl) rfl rfl ?_
      refine j_fconst2 28 hC (dg DX9_bitsOf 20 rfl) ?_
      refine j_fdiv 29 hC (dg DX9_bitsOf 21 rfl) hw.1 ?_
      replace hw := hw.2
      refine j_fstore_n 30 hC [(1, .float (FP.fdiv v1 FP.fconst2)), (0, .float l0), (2, .int v2), (3, .int v3)] (dg DX9_bitsOf 22 rfl) rfl (by decide) rfl ?_
      refine j_iinc 31 hC 2 (v2 + 1) [(2, .int (v2 + 1)), (1, .float (FP.fdiv v1 FP.fconst2)), (0, .float l0), (3, .int v3)] (dg DX9_bitsOf 23 rfl) rfl rfl (by decide) rfl ?_
      refine j_iinc 34 hC 3 (v3 + 1) [(3, .int (v3 + 1)), (2, .int (v2 + 1)), (1, .float (FP.fdiv v1 FP.fconst2)), (0, .float l0)] (dg DX9_bitsOf 24 rfl) rfl rfl (by decide) rfl ?_
      refine j_goto 37 15 hC (dg DX9_bitsOf 25 rfl) (by decide) ?_
      refine j_lv [3, 2, 1, 0] (lv' := [(0, .float l0), (1, .float (FP.fdiv v1 FP.fconst2)), (2, .int (v2 + 1)), (3, .int (v3 + 1))]) rfl ?_
      exact hrc _ _ _ _ hw
set_option maxRecDepth 100000 in
set_option maxHeartbeats 4000000 in
theorem t_X9_bitsOf {X : XT} {B : Nat} (hC : Cx X 4 cX9_bitsOf RX9 (rmN 0 0)) {Q : Int32 → SS → Prop} (hR : RtI X 4 B 103 RS cX9_bitsOf Q) {σ : SS} {p0 : UInt32} (hw : wp_X9_bitsOf  σ p0 Q) : J X 4 B 103 RS 0 0 σ [(0, .float p0)] 0 [] := by
  unfold wp_X9_bitsOf at hw
  refine j_fload_n 0 hC 0 (dg DX9_bitsOf 0 rfl) rfl rfl ?_
  refine j_fconst0 1 hC (dg DX9_bitsOf 1 rfl) ?_
  refine j_fcmp 2 hC (dg DX9_bitsOf 2 rfl) ?_
  refine j_if_gt 3 8 hC (dg DX9_bitsOf 3 rfl) (by decide) (fun hbr => ?_) (fun hbr => ?_)
  · replace hw := hw.1 hbr
    refine j_fload_n 8 hC 0 (dg DX9_bitsOf 6 rfl) rfl rfl ?_
    refine j_fstore_n 9 hC [(1, .float p0), (0, .float p0)] (dg DX9_bitsOf 7 rfl) rfl (by decide) rfl ?_
    refine j_bipush 10 hC (dg DX9_bitsOf 8 rfl) (v := 127) (by decide) ?_
    refine j_istore_n 12 hC [(2, .int 127), (1, .float p0), (0, .float p0)] (dg DX9_bitsOf 9 rfl) rfl (by decide) rfl ?_
    refine j_iconst 13 hC (dg DX9_bitsOf 10 rfl) (v := 0) (by decide) ?_
    refine j_istore_n 14 hC [(3, .int 0), (2, .int 127), (1, .float p0), (0, .float p0)] (dg DX9_bitsOf 11 rfl) rfl (by decide) rfl ?_
    obtain ⟨k3, hw⟩ := hw
    refine j_lv [3, 2, 1, 0] (lv' := [(0, .float p0), (1, .float p0), (2, .int 127), (3, .int 0)]) rfl ?_
    exact Lfii.snd (P := fun τ w1 w2 w3 => J X 4 B 103 RS 0 0 τ [(0, .float p0), (1, .float w1), (2, .int w2), (3, .int w3)] 15 []) (fun rcc hrcc => tb_X9_bitsOf_15 hC  hR  hrcc) k3 _ _ _ _ hw
  · replace hw := hw.2 hbr
    refine j_iconst 6 hC (dg DX9_bitsOf 4 rfl) (v := 0) (by decide) ?_
    exact hR 7 _ _ _ (dg DX9_bitsOf 5 rfl) hw
theorem m_X9_bitsOf {B : Nat} {σ : SS} {p0 : UInt32} {Q : Int32 → SS → Prop} (hw : wp_X9_bitsOf  σ p0 Q) : MI yX9_bitsOf cX9_bitsOf 4 (some .int) 0 0 B 103 RS [.float p0] σ Q := MI.mk (plainFor_of_name (by decide)) (Nat.le_of_ble_eq_true rfl) (fun X hC hR => t_X9_bitsOf hC  hR hw)
-- FortressWatch.mean
def bd_X9_mean_22    (Q : Int32 → SS → Prop)  (rc : SS → Int32 → Int32 → Prop) (σ : SS) (v1 : Int32) (v2 : Int32) : Prop :=
  ((9 ≤ v2 →
      vf_n32 (FP.fdiv (FP.i2f v1) 1103101952) ∧
      wp_X9_bitsOf σ (FP.fdiv (FP.i2f v1) 1103101952) (fun r3 σ2 =>
        Q r3 σ2)) ∧
    (¬ 9 ≤ v2 →
      wp_X9_isIn σ (σ 80 2) v2 (fun r5 σ4 =>
        ((r5 = 0 →
            rc σ4 v1 (v2 + 1)) ∧
          (¬ r5 = 0 →
            wp_X6_manySeen σ4 v2 (fun r7 σ6 =>
              rc σ6 (v1 + r7) (v2 + 1)))))))
def wp_X9_mean  (σ : SS)  (Q : Int32 → SS → Prop) : Prop :=
  wp_X6_lookAt 1 σ (σ 1 7) (fun σ1 =>
    ∃ k8, Lii (bd_X9_mean_22 Q) k8 σ1 0 0)
set_option maxRecDepth 100000 in
set_option maxHeartbeats 4000000 in
theorem tb_X9_mean_22 {X : XT} {B : Nat} (hC : Cx X 3 cX9_mean RX9 (rmN 3 90)) {Q : Int32 → SS → Prop} (hR : RtI X 3 B 103 RS cX9_mean Q) {rc : SS → Int32 → Int32 → Prop} (hrc : ∀ (σ : SS) (v1 : Int32) (v2 : Int32), rc σ v1 v2 → J X 3 B 103 RS 0 0 σ [(0, .ref (B + 0)), (1, .int v1), (2, .int v2)] 22 []) : ∀ (σ : SS) (v1 : Int32) (v2 : Int32), bd_X9_mean_22 Q rc σ v1 v2 → J X 3 B 103 RS 0 0 σ [(0, .ref (B + 0)), (1, .int v1), (2, .int v2)] 22 [] := by
  intro σ v1 v2 hw
  unfold bd_X9_mean_22 at hw
  refine j_iload_n 22 hC 2 (dg DX9_mean 12 rfl) rfl rfl ?_
  refine j_bipush 23 hC (dg DX9_mean 13 rfl) (v := 9) (by decide) ?_
  refine j_icmp_ge 25 59 hC (dg DX9_mean 14 rfl) (by decide) (fun hbr => ?_) (fun hbr => ?_)
  · replace hw := hw.1 hbr
    refine j_iload_n 59 hC 1 (dg DX9_mean 30 rfl) rfl rfl ?_
    refine j_i2f 60 hC (dg DX9_mean 31 rfl) ?_
    refine j_ldcwf 61 hC (dg DX9_mean 32 rfl) w_815 ?_
    refine j_fdiv 64 hC (dg DX9_mean 33 rfl) hw.1 ?_
    replace hw := hw.2
    refine j_Si (As := [.float (FP.fdiv (FP.i2f v1) 1103101952)]) 65 hC (m_X9_bitsOf  hw) kX9_276 (rmN_ok (by decide) (by decide)) rfl rfl (Nat.le_of_ble_eq_true rfl) (dg DX9_mean 34 rfl) (fun r3 σ2 hw => ?_)
    exact hR 68 _ _ _ (dg DX9_mean 35 rfl) hw
  · replace hw := hw.2 hbr
    refine j_aload_n 28 hC 0 (dg DX9_mean 15 rfl) rfl rfl ?_
    refine j_getR 29 hC fX9_32 (k_0) (by decide) (by decide) rfl (dg DX9_mean 16 rfl) ?_
    refine j_getI 32 hC fX9_163 (k_80) (by decide) (by decide) rfl (dg DX9_mean 17 rfl) ?_
    refine j_iload_n 35 hC 2 (dg DX9_mean 18 rfl) rfl rfl ?_
    refine j_Si (As := [.int (σ 80 2), .int v2]) 36 hC (m_X9_isIn  hw) kX9_271 (rmN_ok (by decide) (by decide)) rfl rfl (Nat.le_of_ble_eq_true rfl) (dg DX9_mean 19 rfl) (fun r5 σ4 hw => ?_)
    refine j_if_eq 39 53 hC (dg DX9_mean 20 rfl) (by decide) (fun hbr => ?_) (fun hbr => ?_)
    · replace hw := hw.1 hbr
      refine j_iinc 53 hC 2 (v2 + 1) [(2, .int (v2 + 1)), (0, .ref (B + 0)), (1, .int v1)] (dg DX9_mean 28 rfl) rfl rfl (by decide) rfl ?_
      refine j_goto 56 22 hC (dg DX9_mean 29 rfl) (by decide) ?_
      refine j_lv [1, 2, 0] (lv' := [(0, .ref (B + 0)), (1, .int v1), (2, .int (v2 + 1))]) rfl ?_
      exact hrc _ _ _ hw
    · replace hw := hw.2 hbr
      refine j_iload_n 42 hC 1 (dg DX9_mean 21 rfl) rfl rfl ?_
      refine j_aload_n 43 hC 0 (dg DX9_mean 22 rfl) rfl rfl ?_
      refine j_getR 44 hC fX9_32 (k_0) (by decide) (by decide) rfl (dg DX9_mean 23 rfl) ?_
      refine j_iload_n 47 hC 2 (dg DX9_mean 24 rfl) rfl rfl ?_
      refine j_Vi (As := [.int v2]) 48 hC (m_X6_manySeen  hw) kX9_141 (k_80) (by decide) ⟨_, _, rfl⟩ (rmN_ok (by decide) (by decide)) rfl rfl (Nat.le_of_ble_eq_true rfl) (dg DX9_mean 25 rfl) (fun r7 σ6 hw => ?_)
      refine j_iadd 51 hC (dg DX9_mean 26 rfl) ?_
      refine j_istore_n 52 hC [(1, .int (v1 + r7)), (0, .ref (B + 0)), (2, .int v2)] (dg DX9_mean 27 rfl) rfl (by decide) rfl ?_
      refine j_iinc 53 hC 2 (v2 + 1) [(2, .int (v2 + 1)), (1, .int (v1 + r7)), (0, .ref (B + 0))] (dg DX9_mean 28 rfl) rfl rfl (by decide) rfl ?_
      refine j_goto 56 22 hC (dg DX9_mean 29 rfl) (by decide) ?_
      refine j_lv [2, 1, 0] (lv' := [(0, .ref (B + 0)), (1, .int (v1 + r7)), (2, .int (v2 + 1))]) rfl ?_
      exact hrc _ _ _ hw
set_option maxRecDepth 100000 in
set_option maxHeartbeats 4000000 in
theorem t_X9_mean {X : XT} {B : Nat} (hC : Cx X 3 cX9_mean RX9 (rmN 3 90)) {Q : Int32 → SS → Prop} (hR : RtI X 3 B 103 RS cX9_mean Q) {σ : SS} (hw : wp_X9_mean  σ  Q) : J X 3 B 103 RS 0 0 σ [(0, .ref (B + 0))] 0 [] := by
  unfold wp_X9_mean at hw
  refine j_aload_n 0 hC 0 (dg DX9_mean 0 rfl) rfl rfl ?_
  refine j_getR 1 hC fX9_32 (k_0) (by decide) (by decide) rfl (dg DX9_mean 1 rfl) ?_
  refine j_aload_n 4 hC 0 (dg DX9_mean 2 rfl) rfl rfl ?_
  refine j_getR 5 hC fX9_10 (k_0) (by decide) (by decide) rfl (dg DX9_mean 3 rfl) ?_
  refine j_aload_n 8 hC 0 (dg DX9_mean 4 rfl) rfl rfl ?_
  refine j_getR 9 hC fX9_10 (k_0) (by decide) (by decide) rfl (dg DX9_mean 5 rfl) ?_
  refine j_getI 12 hC fX9_134 (k_1) (by decide) (by decide) rfl (dg DX9_mean 6 rfl) ?_
  refine j_Vv (As := [.ref (B + 1), .int (σ 1 7)]) 15 hC (m_X6_lookAt isW_1 hw) kX9_137 (k_80) (by decide) ⟨_, _, rfl⟩ (rmN_ok (by decide) (by decide)) rfl rfl (Nat.le_of_ble_eq_true rfl) (dg DX9_mean 7 rfl) (fun σ1 hw => ?_)
  refine j_iconst 18 hC (dg DX9_mean 8 rfl) (v := 0) (by decide) ?_
  refine j_istore_n 19 hC [(1, .int 0), (0, .ref (B + 0))] (dg DX9_mean 9 rfl) rfl (by decide) rfl ?_
  refine j_iconst 20 hC (dg DX9_mean 10 rfl) (v := 0) (by decide) ?_
  refine j_istore_n 21 hC [(2, .int 0), (1, .int 0), (0, .ref (B + 0))] (dg DX9_mean 11 rfl) rfl (by decide) rfl ?_
  obtain ⟨k8, hw⟩ := hw
  refine j_lv [2, 1, 0] (lv' := [(0, .ref (B + 0)), (1, .int 0), (2, .int 0)]) rfl ?_
  exact Lii.snd (P := fun τ w1 w2 => J X 3 B 103 RS 0 0 τ [(0, .ref (B + 0)), (1, .int w1), (2, .int w2)] 22 []) (fun rcc hrcc => tb_X9_mean_22 hC  hR  hrcc) k8 _ _ _ hw
theorem m_X9_mean {B : Nat} {σ : SS} {Q : Int32 → SS → Prop} (hw : wp_X9_mean  σ  Q) : MI yX9_mean cX9_mean 3 (some .int) 3 90 B 103 RS [.ref (B + 0)] σ Q := MI.mk (plainFor_of_name (by decide)) (Nat.le_of_ble_eq_true rfl) (fun X hC hR => t_X9_mean hC  hR hw)
-- FortressWatch.undo
def wp_X9_undo  (σ : SS)  (Q : Int32 → SS → Prop) : Prop :=
  ((0 < (σ 22 2) →
      wp_X4_takeBack 1 σ (fun σ1 =>
        Q (σ1 22 2) σ1)) ∧
    (¬ 0 < (σ 22 2) →
      Q (-4) σ))
set_option maxRecDepth 100000 in
set_option maxHeartbeats 4000000 in
theorem t_X9_undo {X : XT} {B : Nat} (hC : Cx X 1 cX9_undo RX9 (rmN 3 67)) {Q : Int32 → SS → Prop} (hR : RtI X 1 B 103 RS cX9_undo Q) {σ : SS} (hw : wp_X9_undo  σ  Q) : J X 1 B 103 RS 0 0 σ [(0, .ref (B + 0))] 0 [] := by
  unfold wp_X9_undo at hw
  refine j_aload_n 0 hC 0 (dg DX9_undo 0 rfl) rfl rfl ?_
  refine j_getR 1 hC fX9_25 (k_0) (by decide) (by decide) rfl (dg DX9_undo 1 rfl) ?_
  refine j_getI 4 hC fX9_259 (k_22) (by decide) (by decide) rfl (dg DX9_undo 2 rfl) ?_
  refine j_if_gt 7 13 hC (dg DX9_undo 3 rfl) (by decide) (fun hbr => ?_) (fun hbr => ?_)
  · replace hw := hw.1 hbr
    refine j_aload_n 13 hC 0 (dg DX9_undo 6 rfl) rfl rfl ?_
    refine j_getR 14 hC fX9_25 (k_0) (by decide) (by decide) rfl (dg DX9_undo 7 rfl) ?_
    refine j_aload_n 17 hC 0 (dg DX9_undo 8 rfl) rfl rfl ?_
    refine j_getR 18 hC fX9_10 (k_0) (by decide) (by decide) rfl (dg DX9_undo 9 rfl) ?_
    refine j_Vv (As := [.ref (B + 1)]) 21 hC (m_X4_takeBack isW_1 hw) kX9_280 (k_22) (by decide) ⟨_, _, rfl⟩ (rmN_ok (by decide) (by decide)) rfl rfl (Nat.le_of_ble_eq_true rfl) (dg DX9_undo 10 rfl) (fun σ1 hw => ?_)
    refine j_aload_n 24 hC 0 (dg DX9_undo 11 rfl) rfl rfl ?_
    refine j_getR 25 hC fX9_25 (k_0) (by decide) (by decide) rfl (dg DX9_undo 12 rfl) ?_
    refine j_getI 28 hC fX9_259 (k_22) (by decide) (by decide) rfl (dg DX9_undo 13 rfl) ?_
    exact hR 31 _ _ _ (dg DX9_undo 14 rfl) hw
  · replace hw := hw.2 hbr
    refine j_bipush 10 hC (dg DX9_undo 4 rfl) (v := (-4)) (by decide) ?_
    exact hR 12 _ _ _ (dg DX9_undo 5 rfl) hw
theorem m_X9_undo {B : Nat} {σ : SS} {Q : Int32 → SS → Prop} (hw : wp_X9_undo  σ  Q) : MI yX9_undo cX9_undo 1 (some .int) 3 67 B 103 RS [.ref (B + 0)] σ Q := MI.mk (plainFor_of_name (by decide)) (Nat.le_of_ble_eq_true rfl) (fun X hC hR => t_X9_undo hC  hR hw)
-- FortressWatch.save
def wp_X9_save  (σ : SS)  (Q : Int32 → SS → Prop) : Prop :=
  wp_X8_copyFrom 15 1 σ (fun σ1 =>
    Q ((u2 σ1 0 11 1) 1 6) (u2 σ1 0 11 1))
set_option maxRecDepth 100000 in
set_option maxHeartbeats 4000000 in
theorem t_X9_save {X : XT} {B : Nat} (hC : Cx X 1 cX9_save RX9 (rmN 2 45)) {Q : Int32 → SS → Prop} (hR : RtI X 1 B 103 RS cX9_save Q) {σ : SS} (hw : wp_X9_save  σ  Q) : J X 1 B 103 RS 0 0 σ [(0, .ref (B + 0))] 0 [] := by
  unfold wp_X9_save at hw
  refine j_aload_n 0 hC 0 (dg DX9_save 0 rfl) rfl rfl ?_
  refine j_getR 1 hC fX9_19 (k_0) (by decide) (by decide) rfl (dg DX9_save 1 rfl) ?_
  refine j_aload_n 4 hC 0 (dg DX9_save 2 rfl) rfl rfl ?_
  refine j_getR 5 hC fX9_10 (k_0) (by decide) (by decide) rfl (dg DX9_save 3 rfl) ?_
  refine j_Vv (As := [.ref (B + 1)]) 8 hC (m_X8_copyFrom isW_15 isW_1 hw) kX9_86 (k_15) (by decide) ⟨_, _, rfl⟩ (rmN_ok (by decide) (by decide)) rfl rfl (Nat.le_of_ble_eq_true rfl) (dg DX9_save 4 rfl) (fun σ1 hw => ?_)
  refine j_aload_n 11 hC 0 (dg DX9_save 5 rfl) rfl rfl ?_
  refine j_iconst 12 hC (dg DX9_save 6 rfl) (v := 1) (by decide) ?_
  refine j_putZ 13 hC fX9_78 (k_0) (by decide) (by decide) rfl fp9_11 rfl rfl rfl (dg DX9_save 7 rfl) ?_
  refine j_aload_n 16 hC 0 (dg DX9_save 8 rfl) rfl rfl ?_
  refine j_getR 17 hC fX9_10 (k_0) (by decide) (by decide) rfl (dg DX9_save 9 rfl) ?_
  refine j_getI 20 hC fX9_203 (k_1) (by decide) (by decide) rfl (dg DX9_save 10 rfl) ?_
  exact hR 23 _ _ _ (dg DX9_save 11 rfl) hw
theorem m_X9_save {B : Nat} {σ : SS} {Q : Int32 → SS → Prop} (hw : wp_X9_save  σ  Q) : MI yX9_save cX9_save 1 (some .int) 2 45 B 103 RS [.ref (B + 0)] σ Q := MI.mk (plainFor_of_name (by decide)) (Nat.le_of_ble_eq_true rfl) (fun X hC hR => t_X9_save hC  hR hw)
-- FortressWatch.restore
def wp_X9_restore  (σ : SS)  (Q : Int32 → SS → Prop) : Prop :=
  (((σ 0 11) = 0 →
      Q (-4) σ) ∧
    (¬ (σ 0 11) = 0 →
      wp_X8_copyFrom 1 15 σ (fun σ1 =>
        wp_X4_forget σ1 (fun σ2 =>
          Q (σ2 1 6) σ2))))
set_option maxRecDepth 100000 in
set_option maxHeartbeats 4000000 in
theorem t_X9_restore {X : XT} {B : Nat} (hC : Cx X 1 cX9_restore RX9 (rmN 2 45)) {Q : Int32 → SS → Prop} (hR : RtI X 1 B 103 RS cX9_restore Q) {σ : SS} (hw : wp_X9_restore  σ  Q) : J X 1 B 103 RS 0 0 σ [(0, .ref (B + 0))] 0 [] := by
  unfold wp_X9_restore at hw
  refine j_aload_n 0 hC 0 (dg DX9_restore 0 rfl) rfl rfl ?_
  refine j_getI 1 hC fX9_78 (k_0) (by decide) (by decide) rfl (dg DX9_restore 1 rfl) ?_
  refine j_if_ne 4 10 hC (dg DX9_restore 2 rfl) (by decide) (fun hbr => ?_) (fun hbr => ?_)
  · replace hw := hw.2 hbr
    refine j_aload_n 10 hC 0 (dg DX9_restore 5 rfl) rfl rfl ?_
    refine j_getR 11 hC fX9_10 (k_0) (by decide) (by decide) rfl (dg DX9_restore 6 rfl) ?_
    refine j_aload_n 14 hC 0 (dg DX9_restore 7 rfl) rfl rfl ?_
    refine j_getR 15 hC fX9_19 (k_0) (by decide) (by decide) rfl (dg DX9_restore 8 rfl) ?_
    refine j_Vv (As := [.ref (B + 15)]) 18 hC (m_X8_copyFrom isW_1 isW_15 hw) kX9_86 (k_1) (by decide) ⟨_, _, rfl⟩ (rmN_ok (by decide) (by decide)) rfl rfl (Nat.le_of_ble_eq_true rfl) (dg DX9_restore 9 rfl) (fun σ1 hw => ?_)
    refine j_aload_n 21 hC 0 (dg DX9_restore 10 rfl) rfl rfl ?_
    refine j_getR 22 hC fX9_25 (k_0) (by decide) (by decide) rfl (dg DX9_restore 11 rfl) ?_
    refine j_Vv (As := []) 25 hC (m_X4_forget  hw) kX9_283 (k_22) (by decide) ⟨_, _, rfl⟩ (rmN_ok (by decide) (by decide)) rfl rfl (Nat.le_of_ble_eq_true rfl) (dg DX9_restore 12 rfl) (fun σ2 hw => ?_)
    refine j_aload_n 28 hC 0 (dg DX9_restore 13 rfl) rfl rfl ?_
    refine j_getR 29 hC fX9_10 (k_0) (by decide) (by decide) rfl (dg DX9_restore 14 rfl) ?_
    refine j_getI 32 hC fX9_203 (k_1) (by decide) (by decide) rfl (dg DX9_restore 15 rfl) ?_
    exact hR 35 _ _ _ (dg DX9_restore 16 rfl) hw
  · replace hw := hw.1 hbr
    refine j_bipush 7 hC (dg DX9_restore 3 rfl) (v := (-4)) (by decide) ?_
    exact hR 9 _ _ _ (dg DX9_restore 4 rfl) hw
theorem m_X9_restore {B : Nat} {σ : SS} {Q : Int32 → SS → Prop} (hw : wp_X9_restore  σ  Q) : MI yX9_restore cX9_restore 1 (some .int) 2 45 B 103 RS [.ref (B + 0)] σ Q := MI.mk (plainFor_of_name (by decide)) (Nat.le_of_ble_eq_true rfl) (fun X hC hR => t_X9_restore hC  hR hw)
-- FortressWatchModel.isIn
def wp_X10_isIn  (σ : SS) (p0 : Int32) (p1 : Int32) (p2 : Int32) (Q : Int32 → SS → Prop) : Prop :=
  ((p0 < p1 →
      Q 0 σ) ∧
    (¬ p0 < p1 →
      ((p2 < p0 →
          Q 0 σ) ∧
        (¬ p2 < p0 →
          Q 1 σ))))
set_option maxRecDepth 100000 in
set_option maxHeartbeats 4000000 in
theorem t_X10_isIn {X : XT} {B : Nat} (hC : Cx X 3 cX10_isIn RX10 (rmN 0 0)) {Q : Int32 → SS → Prop} (hR : RtZ X 3 B 103 RS cX10_isIn Q) {σ : SS} {p0 : Int32} {p1 : Int32} {p2 : Int32} (hw : wp_X10_isIn  σ p0 p1 p2 Q) : J X 3 B 103 RS 0 0 σ [(0, .int p0), (1, .int p1), (2, .int p2)] 0 [] := by
  unfold wp_X10_isIn at hw
  refine j_iload_n 0 hC 0 (dg DX10_isIn 0 rfl) rfl rfl ?_
  refine j_iload_n 1 hC 1 (dg DX10_isIn 1 rfl) rfl rfl ?_
  refine j_icmp_lt 2 14 hC (dg DX10_isIn 2 rfl) (by decide) (fun hbr => ?_) (fun hbr => ?_)
  · replace hw := hw.1 hbr
    refine j_iconst 14 hC (dg DX10_isIn 8 rfl) (v := 0) (by decide) ?_
    exact hR 15 _ _ _ (dg DX10_isIn 9 rfl) ⟨by decide, hw⟩
  · replace hw := hw.2 hbr
    refine j_iload_n 5 hC 0 (dg DX10_isIn 3 rfl) rfl rfl ?_
    refine j_iload_n 6 hC 2 (dg DX10_isIn 4 rfl) rfl rfl ?_
    refine j_icmp_gt 7 14 hC (dg DX10_isIn 5 rfl) (by decide) (fun hbr => ?_) (fun hbr => ?_)
    · replace hw := hw.1 hbr
      refine j_iconst 14 hC (dg DX10_isIn 8 rfl) (v := 0) (by decide) ?_
      exact hR 15 _ _ _ (dg DX10_isIn 9 rfl) ⟨by decide, hw⟩
    · replace hw := hw.2 hbr
      refine j_iconst 10 hC (dg DX10_isIn 6 rfl) (v := 1) (by decide) ?_
      refine j_goto 11 15 hC (dg DX10_isIn 7 rfl) (by decide) ?_
      exact hR 15 _ _ _ (dg DX10_isIn 9 rfl) ⟨by decide, hw⟩
theorem m_X10_isIn {B : Nat} {σ : SS} {p0 : Int32} {p1 : Int32} {p2 : Int32} {Q : Int32 → SS → Prop} (hw : wp_X10_isIn  σ p0 p1 p2 Q) : MI yX10_isIn cX10_isIn 3 (some .boolean) 0 0 B 103 RS [.int p0, .int p1, .int p2] σ Q := MI.mkZ (plainFor_of_name (by decide)) (Nat.le_of_ble_eq_true rfl) (fun X hC hR => t_X10_isIn hC  hR hw)
-- FortressWatchModel.greater
def wp_X10_greater  (σ : SS) (p0 : Int32) (p1 : Int32) (Q : Int32 → SS → Prop) : Prop :=
  ((p0 ≤ p1 →
      Q p1 σ) ∧
    (¬ p0 ≤ p1 →
      Q p0 σ))
set_option maxRecDepth 100000 in
set_option maxHeartbeats 4000000 in
theorem t_X10_greater {X : XT} {B : Nat} (hC : Cx X 2 cX10_greater RX10 (rmN 0 0)) {Q : Int32 → SS → Prop} (hR : RtI X 2 B 103 RS cX10_greater Q) {σ : SS} {p0 : Int32} {p1 : Int32} (hw : wp_X10_greater  σ p0 p1 Q) : J X 2 B 103 RS 0 0 σ [(0, .int p0), (1, .int p1)] 0 [] := by
  unfold wp_X10_greater at hw
  refine j_iload_n 0 hC 0 (dg DX10_greater 0 rfl) rfl rfl ?_
  refine j_iload_n 1 hC 1 (dg DX10_greater 1 rfl) rfl rfl ?_
  refine j_icmp_le 2 9 hC (dg DX10_greater 2 rfl) (by decide) (fun hbr => ?_) (fun hbr => ?_)
  · replace hw := hw.1 hbr
    refine j_iload_n 9 hC 1 (dg DX10_greater 5 rfl) rfl rfl ?_
    exact hR 10 _ _ _ (dg DX10_greater 6 rfl) hw
  · replace hw := hw.2 hbr
    refine j_iload_n 5 hC 0 (dg DX10_greater 3 rfl) rfl rfl ?_
    refine j_goto 6 10 hC (dg DX10_greater 4 rfl) (by decide) ?_
    exact hR 10 _ _ _ (dg DX10_greater 6 rfl) hw
theorem m_X10_greater {B : Nat} {σ : SS} {p0 : Int32} {p1 : Int32} {Q : Int32 → SS → Prop} (hw : wp_X10_greater  σ p0 p1 Q) : MI yX10_greater cX10_greater 2 (some .int) 0 0 B 103 RS [.int p0, .int p1] σ Q := MI.mk (plainFor_of_name (by decide)) (Nat.le_of_ble_eq_true rfl) (fun X hC hR => t_X10_greater hC  hR hw)
-- FortressWatchModel.has
def wp_X10_has  (σ : SS) (p0 : Int32) (p1 : Int32) (Q : Int32 → SS → Prop) : Prop :=
  ((((p0 >>> (p1 &&& 31)) &&& 1) = 1 →
      Q 1 σ) ∧
    (¬ ((p0 >>> (p1 &&& 31)) &&& 1) = 1 →
      Q 0 σ))
set_option maxRecDepth 100000 in
set_option maxHeartbeats 4000000 in
theorem t_X10_has {X : XT} {B : Nat} (hC : Cx X 2 cX10_has RX10 (rmN 0 0)) {Q : Int32 → SS → Prop} (hR : RtZ X 2 B 103 RS cX10_has Q) {σ : SS} {p0 : Int32} {p1 : Int32} (hw : wp_X10_has  σ p0 p1 Q) : J X 2 B 103 RS 0 0 σ [(0, .int p0), (1, .int p1)] 0 [] := by
  unfold wp_X10_has at hw
  refine j_iload_n 0 hC 0 (dg DX10_has 0 rfl) rfl rfl ?_
  refine j_iload_n 1 hC 1 (dg DX10_has 1 rfl) rfl rfl ?_
  refine j_ishr 2 hC (dg DX10_has 2 rfl) ?_
  refine j_iconst 3 hC (dg DX10_has 3 rfl) (v := 1) (by decide) ?_
  refine j_iand 4 hC (dg DX10_has 4 rfl) ?_
  refine j_iconst 5 hC (dg DX10_has 5 rfl) (v := 1) (by decide) ?_
  refine j_icmp_ne 6 13 hC (dg DX10_has 6 rfl) (by decide) (fun hbr => ?_) (fun hbr => ?_)
  · replace hw := hw.2 hbr
    refine j_iconst 13 hC (dg DX10_has 9 rfl) (v := 0) (by decide) ?_
    exact hR 14 _ _ _ (dg DX10_has 10 rfl) ⟨by decide, hw⟩
  · replace hw := hw.1 hbr
    refine j_iconst 9 hC (dg DX10_has 7 rfl) (v := 1) (by decide) ?_
    refine j_goto 10 14 hC (dg DX10_has 8 rfl) (by decide) ?_
    exact hR 14 _ _ _ (dg DX10_has 10 rfl) ⟨by decide, hw⟩
theorem m_X10_has {B : Nat} {σ : SS} {p0 : Int32} {p1 : Int32} {Q : Int32 → SS → Prop} (hw : wp_X10_has  σ p0 p1 Q) : MI yX10_has cX10_has 2 (some .boolean) 0 0 B 103 RS [.int p0, .int p1] σ Q := MI.mkZ (plainFor_of_name (by decide)) (Nat.le_of_ble_eq_true rfl) (fun X hC hR => t_X10_has hC  hR hw)
-- FortressWatchModel.bits
def bd_X10_bits_4    (Q : Int32 → SS → Prop) (l0 : Int32) (rc : SS → Int32 → Int32 → Prop) (σ : SS) (v1 : Int32) (v2 : Int32) : Prop :=
  ((24 ≤ v2 →
      Q v1 σ) ∧
    (¬ 24 ≤ v2 →
      rc σ (v1 + ((l0 >>> (v2 &&& 31)) &&& 1)) (v2 + 1)))
def wp_X10_bits  (σ : SS) (p0 : Int32) (Q : Int32 → SS → Prop) : Prop :=
  ∃ k1, Lii (bd_X10_bits_4 Q p0) k1 σ 0 0
set_option maxRecDepth 100000 in
set_option maxHeartbeats 4000000 in
theorem tb_X10_bits_4 {X : XT} {B : Nat} (hC : Cx X 3 cX10_bits RX10 (rmN 0 0)) {Q : Int32 → SS → Prop} {l0 : Int32} (hR : RtI X 3 B 103 RS cX10_bits Q) {rc : SS → Int32 → Int32 → Prop} (hrc : ∀ (σ : SS) (v1 : Int32) (v2 : Int32), rc σ v1 v2 → J X 3 B 103 RS 0 0 σ [(0, .int l0), (1, .int v1), (2, .int v2)] 4 []) : ∀ (σ : SS) (v1 : Int32) (v2 : Int32), bd_X10_bits_4 Q l0 rc σ v1 v2 → J X 3 B 103 RS 0 0 σ [(0, .int l0), (1, .int v1), (2, .int v2)] 4 [] := by
  intro σ v1 v2 hw
  unfold bd_X10_bits_4 at hw
  refine j_iload_n 4 hC 2 (dg DX10_bits 4 rfl) rfl rfl ?_
  refine j_bipush 5 hC (dg DX10_bits 5 rfl) (v := 24) (by decide) ?_
  refine j_icmp_ge 7 24 hC (dg DX10_bits 6 rfl) (by decide) (fun hbr => ?_) (fun hbr => ?_)
  · replace hw := hw.1 hbr
    refine j_iload_n 24 hC 1 (dg DX10_bits 17 rfl) rfl rfl ?_
    exact hR 25 _ _ _ (dg DX10_bits 18 rfl) hw
  · replace hw := hw.2 hbr
    refine j_iload_n 10 hC 1 (dg DX10_bits 7 rfl) rfl rfl ?_
    refine j_iload_n 11 hC 0 (dg DX10_bits 8 rfl) rfl rfl ?_
    refine j_iload_n 12 hC 2 (dg DX10_bits 9 rfl) rfl rfl ?_
    refine j_ishr 13 hC (dg DX10_bits 10 rfl) ?_
    refine j_iconst 14 hC (dg DX10_bits 11 rfl) (v := 1) (by decide) ?_
    refine j_iand 15 hC (dg DX10_bits 12 rfl) ?_
    refine j_iadd 16 hC (dg DX10_bits 13 rfl) ?_
    refine j_istore_n 17 hC [(1, .int (v1 + ((l0 >>> (v2 &&& 31)) &&& 1))), (0, .int l0), (2, .int v2)] (dg DX10_bits 14 rfl) rfl (by decide) rfl ?_
    refine j_iinc 18 hC 2 (v2 + 1) [(2, .int (v2 + 1)), (1, .int (v1 + ((l0 >>> (v2 &&& 31)) &&& 1))), (0, .int l0)] (dg DX10_bits 15 rfl) rfl rfl (by decide) rfl ?_
    refine j_goto 21 4 hC (dg DX10_bits 16 rfl) (by decide) ?_
    refine j_lv [2, 1, 0] (lv' := [(0, .int l0), (1, .int (v1 + ((l0 >>> (v2 &&& 31)) &&& 1))), (2, .int (v2 + 1))]) rfl ?_
    exact hrc _ _ _ hw
set_option maxRecDepth 100000 in
set_option maxHeartbeats 4000000 in
theorem t_X10_bits {X : XT} {B : Nat} (hC : Cx X 3 cX10_bits RX10 (rmN 0 0)) {Q : Int32 → SS → Prop} (hR : RtI X 3 B 103 RS cX10_bits Q) {σ : SS} {p0 : Int32} (hw : wp_X10_bits  σ p0 Q) : J X 3 B 103 RS 0 0 σ [(0, .int p0)] 0 [] := by
  unfold wp_X10_bits at hw
  refine j_iconst 0 hC (dg DX10_bits 0 rfl) (v := 0) (by decide) ?_
  refine j_istore_n 1 hC [(1, .int 0), (0, .int p0)] (dg DX10_bits 1 rfl) rfl (by decide) rfl ?_
  refine j_iconst 2 hC (dg DX10_bits 2 rfl) (v := 0) (by decide) ?_
  refine j_istore_n 3 hC [(2, .int 0), (1, .int 0), (0, .int p0)] (dg DX10_bits 3 rfl) rfl (by decide) rfl ?_
  obtain ⟨k1, hw⟩ := hw
  refine j_lv [2, 1, 0] (lv' := [(0, .int p0), (1, .int 0), (2, .int 0)]) rfl ?_
  exact Lii.snd (P := fun τ w1 w2 => J X 3 B 103 RS 0 0 τ [(0, .int p0), (1, .int w1), (2, .int w2)] 4 []) (fun rcc hrcc => tb_X10_bits_4 hC  hR  hrcc) k1 _ _ _ hw
theorem m_X10_bits {B : Nat} {σ : SS} {p0 : Int32} {Q : Int32 → SS → Prop} (hw : wp_X10_bits  σ p0 Q) : MI yX10_bits cX10_bits 3 (some .int) 0 0 B 103 RS [.int p0] σ Q := MI.mk (plainFor_of_name (by decide)) (Nat.le_of_ble_eq_true rfl) (fun X hC hR => t_X10_bits hC  hR hw)
-- FortressWatchModel.copies
def bd_X10_copies_3 (c : Nat) (Nc : Nat) (d : Nat) (Nd : Nat)   (Q : SS → Prop) (l1 : Int32) (l3 : Int32) (rc : SS → Int32 → Prop) (σ : SS) (v4 : Int32) : Prop :=
  ((59 ≤ v4 →
      Q σ) ∧
    (¬ 59 ≤ v4 →
      vp_in (l1 + v4) Nc ∧
      vp_in (l3 + v4) Nd ∧
      ∀ σ1 : SS, σ1 = u2 σ d (l3 + v4).toNatClampNeg (σ c (l1 + v4).toNatClampNeg) →
      rc σ1 (v4 + 1)))
def wp_X10_copies (c : Nat) (Nc : Nat) (d : Nat) (Nd : Nat) (σ : SS) (p1 : Int32) (p3 : Int32) (Q : SS → Prop) : Prop :=
  ∃ k2, Li (bd_X10_copies_3 c Nc d Nd Q p1 p3) k2 σ 0
set_option maxRecDepth 100000 in
set_option maxHeartbeats 4000000 in
theorem tb_X10_copies_3 {X : XT} {B : Nat} (hC : Cx X 5 cX10_copies RX10 (rmN 0 0)) {c : Nat} {Nc : Nat} {d : Nat} {Nd : Nat} {Q : SS → Prop} {l1 : Int32} {l3 : Int32} (hc : kt c = (0, Nc, [])) (lc : c < 103) (hd : kt d = (0, Nd, [])) (ld : d < 103) (hR : RtV X 5 B 103 RS cX10_copies Q) {rc : SS → Int32 → Prop} (hrc : ∀ (σ : SS) (v4 : Int32), rc σ v4 → J X 5 B 103 RS 0 0 σ [(0, .ref (B + c)), (1, .int l1), (2, .ref (B + d)), (3, .int l3), (4, .int v4)] 3 []) : ∀ (σ : SS) (v4 : Int32), bd_X10_copies_3 c Nc d Nd Q l1 l3 rc σ v4 → J X 5 B 103 RS 0 0 σ [(0, .ref (B + c)), (1, .int l1), (2, .ref (B + d)), (3, .int l3), (4, .int v4)] 3 [] := by
  intro σ v4 hw
  unfold bd_X10_copies_3 at hw
  refine j_iload 3 hC 4 (dg DX10_copies 2 rfl) rfl ?_
  refine j_bipush 5 hC (dg DX10_copies 3 rfl) (v := 59) (by decide) ?_
  refine j_icmp_ge 7 28 hC (dg DX10_copies 4 rfl) (by decide) (fun hbr => ?_) (fun hbr => ?_)
  · replace hw := hw.1 hbr
    exact hR 28 _ _ (dg DX10_copies 17 rfl) hw
  · replace hw := hw.2 hbr
    refine j_aload_n 10 hC 2 (dg DX10_copies 5 rfl) rfl rfl ?_
    refine j_iload_n 11 hC 3 (dg DX10_copies 6 rfl) rfl rfl ?_
    refine j_iload 12 hC 4 (dg DX10_copies 7 rfl) rfl ?_
    refine j_iadd 14 hC (dg DX10_copies 8 rfl) ?_
    refine j_aload_n 15 hC 0 (dg DX10_copies 9 rfl) rfl rfl ?_
    refine j_iload_n 16 hC 1 (dg DX10_copies 10 rfl) rfl rfl ?_
    refine j_iload 17 hC 4 (dg DX10_copies 11 rfl) rfl ?_
    refine j_iadd 19 hC (dg DX10_copies 12 rfl) ?_
    refine j_iald0 20 _ hC hc lc hw.1 rfl (dg DX10_copies 13 rfl) ?_
    replace hw := hw.2
    refine j_iast0 21 _ hC hd ld hw.1 rfl (dg DX10_copies 14 rfl) ?_
    replace hw := hw.2
    refine j_sg (fun σ1 es => ?_)
    replace hw := hw _ es
    refine j_iinc 22 hC 4 (v4 + 1) [(4, .int (v4 + 1)), (0, .ref (B + c)), (1, .int l1), (2, .ref (B + d)), (3, .int l3)] (dg DX10_copies 15 rfl) rfl rfl (by decide) rfl ?_
    refine j_goto 25 3 hC (dg DX10_copies 16 rfl) (by decide) ?_
    refine j_lv [1, 2, 3, 4, 0] (lv' := [(0, .ref (B + c)), (1, .int l1), (2, .ref (B + d)), (3, .int l3), (4, .int (v4 + 1))]) rfl ?_
    exact hrc _ _ hw
set_option maxRecDepth 100000 in
set_option maxHeartbeats 4000000 in
theorem t_X10_copies {X : XT} {B : Nat} (hC : Cx X 5 cX10_copies RX10 (rmN 0 0)) {c : Nat} {Nc : Nat} {d : Nat} {Nd : Nat} (hc : kt c = (0, Nc, [])) (lc : c < 103) (hd : kt d = (0, Nd, [])) (ld : d < 103) {Q : SS → Prop} (hR : RtV X 5 B 103 RS cX10_copies Q) {σ : SS} {p1 : Int32} {p3 : Int32} (hw : wp_X10_copies c Nc d Nd σ p1 p3 Q) : J X 5 B 103 RS 0 0 σ [(0, .ref (B + c)), (1, .int p1), (2, .ref (B + d)), (3, .int p3)] 0 [] := by
  unfold wp_X10_copies at hw
  refine j_iconst 0 hC (dg DX10_copies 0 rfl) (v := 0) (by decide) ?_
  refine j_istore 1 hC [(4, .int 0), (0, .ref (B + c)), (1, .int p1), (2, .ref (B + d)), (3, .int p3)] (dg DX10_copies 1 rfl) (by decide) rfl ?_
  obtain ⟨k2, hw⟩ := hw
  refine j_lv [1, 2, 3, 4, 0] (lv' := [(0, .ref (B + c)), (1, .int p1), (2, .ref (B + d)), (3, .int p3), (4, .int 0)]) rfl ?_
  exact Li.snd (P := fun τ w4 => J X 5 B 103 RS 0 0 τ [(0, .ref (B + c)), (1, .int p1), (2, .ref (B + d)), (3, .int p3), (4, .int w4)] 3 []) (fun rcc hrcc => tb_X10_copies_3 hC hc lc hd ld hR  hrcc) k2 _ _ hw
theorem m_X10_copies {B : Nat} {c : Nat} {Nc : Nat} {d : Nat} {Nd : Nat} (hc : kt c = (0, Nc, [])) (lc : c < 103) (hd : kt d = (0, Nd, [])) (ld : d < 103) {σ : SS} {p1 : Int32} {p3 : Int32} {Q : SS → Prop} (hw : wp_X10_copies c Nc d Nd σ p1 p3 Q) : MV yX10_copies cX10_copies 5 0 0 B 103 RS [.ref (B + c), .int p1, .ref (B + d), .int p3] σ Q := MV.mk (plainFor_of_name (by decide)) (Nat.le_of_ble_eq_true rfl) (fun X hC hR => t_X10_copies hC hc lc hd ld hR hw)
-- FortressWatchModel.keeps
def wp_X10_keeps  (σ : SS)  (Q : SS → Prop) : Prop :=
  wp_X10_copies 96 59 97 59 σ 0 0 (fun σ1 =>
    Q σ1)
set_option maxRecDepth 100000 in
set_option maxHeartbeats 4000000 in
theorem t_X10_keeps {X : XT} {B : Nat} (hC : Cx X 1 cX10_keeps RX10 (rmN 1 24)) {Q : SS → Prop} (hR : RtV X 1 B 103 RS cX10_keeps Q) {σ : SS} (hw : wp_X10_keeps  σ  Q) : J X 1 B 103 RS 0 0 σ [(0, .ref (B + 95))] 0 [] := by
  unfold wp_X10_keeps at hw
  refine j_aload_n 0 hC 0 (dg DX10_keeps 0 rfl) rfl rfl ?_
  refine j_getR 1 hC fX10_9 (k_95) (by decide) (by decide) rfl (dg DX10_keeps 1 rfl) ?_
  refine j_iconst 4 hC (dg DX10_keeps 2 rfl) (v := 0) (by decide) ?_
  refine j_aload_n 5 hC 0 (dg DX10_keeps 3 rfl) rfl rfl ?_
  refine j_getR 6 hC fX10_13 (k_95) (by decide) (by decide) rfl (dg DX10_keeps 4 rfl) ?_
  refine j_iconst 9 hC (dg DX10_keeps 5 rfl) (v := 0) (by decide) ?_
  refine j_Sv (As := [.ref (B + 96), .int 0, .ref (B + 97), .int 0]) 10 hC (m_X10_copies (k_96) (by decide) (k_97) (by decide) hw) kX10_35 (rmN_ok (by decide) (by decide)) rfl rfl (Nat.le_of_ble_eq_true rfl) (dg DX10_keeps 6 rfl) (fun σ1 hw => ?_)
  exact hR 13 _ _ (dg DX10_keeps 7 rfl) hw
theorem m_X10_keeps {B : Nat} {σ : SS} {Q : SS → Prop} (hw : wp_X10_keeps  σ  Q) : MV yX10_keeps cX10_keeps 1 1 24 B 103 RS [.ref (B + 95)] σ Q := MV.mk (plainFor_of_name (by decide)) (Nat.le_of_ble_eq_true rfl) (fun X hC hR => t_X10_keeps hC  hR hw)
-- FortressWatchModel.changed
def bd_X10_changed_11    (Q : SS → Prop)  (rc : SS → Int32 → Prop) (σ : SS) (v1 : Int32) : Prop :=
  ((8 ≤ v1 →
      wp_X10_copies 97 59 99 472 (u2 σ 95 4 ((σ 95 4) - 1)) 0 (59 * ((u2 σ 95 4 ((σ 95 4) - 1)) 95 4)) (fun σ2 =>
        Q (u2 σ2 95 4 ((σ2 95 4) + 1)))) ∧
    (¬ 8 ≤ v1 →
      wp_X10_copies 99 472 99 472 σ (59 * v1) (59 * (v1 - 1)) (fun σ3 =>
        rc σ3 (v1 + 1))))
def wp_X10_changed  (σ : SS)  (Q : SS → Prop) : Prop :=
  (((σ 95 4) = 8 →
      ∃ k4, Li (bd_X10_changed_11 Q) k4 σ 1) ∧
    (¬ (σ 95 4) = 8 →
      wp_X10_copies 97 59 99 472 σ 0 (59 * (σ 95 4)) (fun σ1 =>
        Q (u2 σ1 95 4 ((σ1 95 4) + 1)))))
set_option maxRecDepth 100000 in
set_option maxHeartbeats 4000000 in
theorem tb_X10_changed_11 {X : XT} {B : Nat} (hC : Cx X 2 cX10_changed RX10 (rmN 1 24)) {Q : SS → Prop} (hR : RtV X 2 B 103 RS cX10_changed Q) {rc : SS → Int32 → Prop} (hrc : ∀ (σ : SS) (v1 : Int32), rc σ v1 → J X 2 B 103 RS 0 0 σ [(0, .ref (B + 95)), (1, .int v1)] 11 []) : ∀ (σ : SS) (v1 : Int32), bd_X10_changed_11 Q rc σ v1 → J X 2 B 103 RS 0 0 σ [(0, .ref (B + 95)), (1, .int v1)] 11 [] := by
  intro σ v1 hw
  unfold bd_X10_changed_11 at hw
  refine j_iload_n 11 hC 1 (dg DX10_changed 6 rfl) rfl rfl ?_
  refine j_bipush 12 hC (dg DX10_changed 7 rfl) (v := 8) (by decide) ?_
  refine j_icmp_ge 14 44 hC (dg DX10_changed 8 rfl) (by decide) (fun hbr => ?_) (fun hbr => ?_)
  · replace hw := hw.1 hbr
    refine j_aload_n 44 hC 0 (dg DX10_changed 24 rfl) rfl rfl ?_
    refine j_dup 45 hC (dg DX10_changed 25 rfl) rfl ?_
    refine j_getI 46 hC fX10_39 (k_95) (by decide) (by decide) rfl (dg DX10_changed 26 rfl) ?_
    refine j_iconst 49 hC (dg DX10_changed 27 rfl) (v := 1) (by decide) ?_
    refine j_isub 50 hC (dg DX10_changed 28 rfl) ?_
    refine j_putI 51 hC fX10_39 (k_95) (by decide) (by decide) rfl fp10_4 rfl (dg DX10_changed 29 rfl) ?_
    refine j_aload_n 54 hC 0 (dg DX10_changed 30 rfl) rfl rfl ?_
    refine j_getR 55 hC fX10_13 (k_95) (by decide) (by decide) rfl (dg DX10_changed 31 rfl) ?_
    refine j_iconst 58 hC (dg DX10_changed 32 rfl) (v := 0) (by decide) ?_
    refine j_aload_n 59 hC 0 (dg DX10_changed 33 rfl) rfl rfl ?_
    refine j_getR 60 hC fX10_19 (k_95) (by decide) (by decide) rfl (dg DX10_changed 34 rfl) ?_
    refine j_bipush 63 hC (dg DX10_changed 35 rfl) (v := 59) (by decide) ?_
    refine j_aload_n 65 hC 0 (dg DX10_changed 36 rfl) rfl rfl ?_
    refine j_getI 66 hC fX10_39 (k_95) (by decide) (by decide) rfl (dg DX10_changed 37 rfl) ?_
    refine j_imul 69 hC (dg DX10_changed 38 rfl) ?_
    refine j_Sv (As := [.ref (B + 97), .int 0, .ref (B + 99), .int (59 * ((u2 σ 95 4 ((σ 95 4) - 1)) 95 4))]) 70 hC (m_X10_copies (k_97) (by decide) (k_99) (by decide) hw) kX10_35 (rmN_ok (by decide) (by decide)) rfl rfl (Nat.le_of_ble_eq_true rfl) (dg DX10_changed 39 rfl) (fun σ2 hw => ?_)
    refine j_aload_n 73 hC 0 (dg DX10_changed 40 rfl) rfl rfl ?_
    refine j_dup 74 hC (dg DX10_changed 41 rfl) rfl ?_
    refine j_getI 75 hC fX10_39 (k_95) (by decide) (by decide) rfl (dg DX10_changed 42 rfl) ?_
    refine j_iconst 78 hC (dg DX10_changed 43 rfl) (v := 1) (by decide) ?_
    refine j_iadd 79 hC (dg DX10_changed 44 rfl) ?_
    refine j_putI 80 hC fX10_39 (k_95) (by decide) (by decide) rfl fp10_4 rfl (dg DX10_changed 45 rfl) ?_
    exact hR 83 _ _ (dg DX10_changed 46 rfl) hw
  · replace hw := hw.2 hbr
    refine j_aload_n 17 hC 0 (dg DX10_changed 9 rfl) rfl rfl ?_
    refine j_getR 18 hC fX10_19 (k_95) (by decide) (by decide) rfl (dg DX10_changed 10 rfl) ?_
    refine j_bipush 21 hC (dg DX10_changed 11 rfl) (v := 59) (by decide) ?_
    refine j_iload_n 23 hC 1 (dg DX10_changed 12 rfl) rfl rfl ?_
    refine j_imul 24 hC (dg DX10_changed 13 rfl) ?_
    refine j_aload_n 25 hC 0 (dg DX10_changed 14 rfl) rfl rfl ?_
    refine j_getR 26 hC fX10_19 (k_95) (by decide) (by decide) rfl (dg DX10_changed 15 rfl) ?_
    refine j_bipush 29 hC (dg DX10_changed 16 rfl) (v := 59) (by decide) ?_
    refine j_iload_n 31 hC 1 (dg DX10_changed 17 rfl) rfl rfl ?_
    refine j_iconst 32 hC (dg DX10_changed 18 rfl) (v := 1) (by decide) ?_
    refine j_isub 33 hC (dg DX10_changed 19 rfl) ?_
    refine j_imul 34 hC (dg DX10_changed 20 rfl) ?_
    refine j_Sv (As := [.ref (B + 99), .int (59 * v1), .ref (B + 99), .int (59 * (v1 - 1))]) 35 hC (m_X10_copies (k_99) (by decide) (k_99) (by decide) hw) kX10_35 (rmN_ok (by decide) (by decide)) rfl rfl (Nat.le_of_ble_eq_true rfl) (dg DX10_changed 21 rfl) (fun σ3 hw => ?_)
    refine j_iinc 38 hC 1 (v1 + 1) [(1, .int (v1 + 1)), (0, .ref (B + 95))] (dg DX10_changed 22 rfl) rfl rfl (by decide) rfl ?_
    refine j_goto 41 11 hC (dg DX10_changed 23 rfl) (by decide) ?_
    refine j_lv [1, 0] (lv' := [(0, .ref (B + 95)), (1, .int (v1 + 1))]) rfl ?_
    exact hrc _ _ hw
set_option maxRecDepth 100000 in
set_option maxHeartbeats 4000000 in
theorem t_X10_changed {X : XT} {B : Nat} (hC : Cx X 2 cX10_changed RX10 (rmN 1 24)) {Q : SS → Prop} (hR : RtV X 2 B 103 RS cX10_changed Q) {σ : SS} (hw : wp_X10_changed  σ  Q) : J X 2 B 103 RS 0 0 σ [(0, .ref (B + 95))] 0 [] := by
  unfold wp_X10_changed at hw
  refine j_aload_n 0 hC 0 (dg DX10_changed 0 rfl) rfl rfl ?_
  refine j_getI 1 hC fX10_39 (k_95) (by decide) (by decide) rfl (dg DX10_changed 1 rfl) ?_
  refine j_bipush 4 hC (dg DX10_changed 2 rfl) (v := 8) (by decide) ?_
  refine j_icmp_ne 6 54 hC (dg DX10_changed 3 rfl) (by decide) (fun hbr => ?_) (fun hbr => ?_)
  · replace hw := hw.2 hbr
    refine j_aload_n 54 hC 0 (dg DX10_changed 30 rfl) rfl rfl ?_
    refine j_getR 55 hC fX10_13 (k_95) (by decide) (by decide) rfl (dg DX10_changed 31 rfl) ?_
    refine j_iconst 58 hC (dg DX10_changed 32 rfl) (v := 0) (by decide) ?_
    refine j_aload_n 59 hC 0 (dg DX10_changed 33 rfl) rfl rfl ?_
    refine j_getR 60 hC fX10_19 (k_95) (by decide) (by decide) rfl (dg DX10_changed 34 rfl) ?_
    refine j_bipush 63 hC (dg DX10_changed 35 rfl) (v := 59) (by decide) ?_
    refine j_aload_n 65 hC 0 (dg DX10_changed 36 rfl) rfl rfl ?_
    refine j_getI 66 hC fX10_39 (k_95) (by decide) (by decide) rfl (dg DX10_changed 37 rfl) ?_
    refine j_imul 69 hC (dg DX10_changed 38 rfl) ?_
    refine j_Sv (As := [.ref (B + 97), .int 0, .ref (B + 99), .int (59 * (σ 95 4))]) 70 hC (m_X10_copies (k_97) (by decide) (k_99) (by decide) hw) kX10_35 (rmN_ok (by decide) (by decide)) rfl rfl (Nat.le_of_ble_eq_true rfl) (dg DX10_changed 39 rfl) (fun σ1 hw => ?_)
    refine j_aload_n 73 hC 0 (dg DX10_changed 40 rfl) rfl rfl ?_
    refine j_dup 74 hC (dg DX10_changed 41 rfl) rfl ?_
    refine j_getI 75 hC fX10_39 (k_95) (by decide) (by decide) rfl (dg DX10_changed 42 rfl) ?_
    refine j_iconst 78 hC (dg DX10_changed 43 rfl) (v := 1) (by decide) ?_
    refine j_iadd 79 hC (dg DX10_changed 44 rfl) ?_
    refine j_putI 80 hC fX10_39 (k_95) (by decide) (by decide) rfl fp10_4 rfl (dg DX10_changed 45 rfl) ?_
    exact hR 83 _ _ (dg DX10_changed 46 rfl) hw
  · replace hw := hw.1 hbr
    refine j_iconst 9 hC (dg DX10_changed 4 rfl) (v := 1) (by decide) ?_
    refine j_istore_n 10 hC [(1, .int 1), (0, .ref (B + 95))] (dg DX10_changed 5 rfl) rfl (by decide) rfl ?_
    obtain ⟨k4, hw⟩ := hw
    refine j_lv [1, 0] (lv' := [(0, .ref (B + 95)), (1, .int 1)]) rfl ?_
    exact Li.snd (P := fun τ w1 => J X 2 B 103 RS 0 0 τ [(0, .ref (B + 95)), (1, .int w1)] 11 []) (fun rcc hrcc => tb_X10_changed_11 hC  hR  hrcc) k4 _ _ hw
theorem m_X10_changed {B : Nat} {σ : SS} {Q : SS → Prop} (hw : wp_X10_changed  σ  Q) : MV yX10_changed cX10_changed 2 1 24 B 103 RS [.ref (B + 95)] σ Q := MV.mk (plainFor_of_name (by decide)) (Nat.le_of_ble_eq_true rfl) (fun X hC hR => t_X10_changed hC  hR hw)
