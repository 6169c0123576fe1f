-- FortressWatch.signFor
def wp_X9_signFor  (σ : SS) (p0 : Int32) (Q : Int32 → SS → Prop) : Prop :=
  ((p0 = 0 →
      Q 46 σ) ∧
    (¬ p0 = 0 →
      ((p0 ≤ 9 →
          Q (48 + p0) σ) ∧
        (¬ p0 ≤ 9 →
          Q 43 σ))))
set_option maxRecDepth 100000 in
set_option maxHeartbeats 4000000 in
theorem t_X9_signFor {X : XT} {B : Nat} (hC : Cx X 1 cX9_signFor RX9 (rmN 0 0)) {Q : Int32 → SS → Prop} (hR : RtI X 1 B 103 RS cX9_signFor Q) {σ : SS} {p0 : Int32} (hw : wp_X9_signFor  σ p0 Q) : J X 1 B 103 RS 0 0 σ [(0, .int p0)] 0 [] := by
  unfold wp_X9_signFor at hw
  refine j_iload_n 0 hC 0 (dg DX9_signFor 0 rfl) rfl rfl ?_
  refine j_if_ne 1 7 hC (dg DX9_signFor 1 rfl) (by decide) (fun hbr => ?_) (fun hbr => ?_)
  · replace hw := hw.2 hbr
    refine j_iload_n 7 hC 0 (dg DX9_signFor 4 rfl) rfl rfl ?_
    refine j_bipush 8 hC (dg DX9_signFor 5 rfl) (v := 9) (by decide) ?_
    refine j_icmp_le 10 18 hC (dg DX9_signFor 6 rfl) (by decide) (fun hbr => ?_) (fun hbr => ?_)
    · replace hw := hw.1 hbr
      refine j_bipush 18 hC (dg DX9_signFor 9 rfl) (v := 48) (by decide) ?_
      refine j_iload_n 20 hC 0 (dg DX9_signFor 10 rfl) rfl rfl ?_
      refine j_iadd 21 hC (dg DX9_signFor 11 rfl) ?_
      exact hR 22 _ _ _ (dg DX9_signFor 12 rfl) hw
    · replace hw := hw.2 hbr
      refine j_bipush 13 hC (dg DX9_signFor 7 rfl) (v := 43) (by decide) ?_
      refine j_goto 15 22 hC (dg DX9_signFor 8 rfl) (by decide) ?_
      exact hR 22 _ _ _ (dg DX9_signFor 12 rfl) hw
  · replace hw := hw.1 hbr
    refine j_bipush 4 hC (dg DX9_signFor 2 rfl) (v := 46) (by decide) ?_
    exact hR 6 _ _ _ (dg DX9_signFor 3 rfl) hw
theorem m_X9_signFor {B : Nat} {σ : SS} {p0 : Int32} {Q : Int32 → SS → Prop} (hw : wp_X9_signFor  σ p0 Q) : MI yX9_signFor cX9_signFor 1 (some .int) 0 0 B 103 RS [.int p0] σ Q := MI.mk (plainFor_of_name (by decide)) (Nat.le_of_ble_eq_true rfl) (fun X hC hR => t_X9_signFor hC  hR hw)
-- FortressWatch.show
def bd_X9_show_27    (Q : Int32 → SS → Prop)  (rc : SS → Int32 → Prop) (σ : SS) (v1 : Int32) : Prop :=
  ((24 ≤ v1 →
      Q (σ 92 1) σ) ∧
    (¬ 24 ≤ v1 →
      wp_X6_seersOf σ v1 (fun r4 σ3 =>
        wp_J6_bitCount_0f7a4 σ3 (r4 &&& (σ3 80 2)) (fun r6 σ5 =>
          wp_X9_signFor σ5 r6 (fun r8 σ7 =>
            wp_X2_put σ7 r8 (fun σ9 =>
              rc σ9 (v1 + 1)))))))
def wp_X9_show  (σ : SS)  (Q : Int32 → SS → Prop) : Prop :=
  wp_X6_lookAt 1 σ (σ 1 7) (fun σ1 =>
    wp_X2_clear σ1 (fun σ2 =>
      ∃ k10, Li (bd_X9_show_27 Q) k10 σ2 0))
set_option maxRecDepth 100000 in
set_option maxHeartbeats 4000000 in
theorem tb_X9_show_27 {X : XT} {B : Nat} (hC : Cx X 2 cX9_show RX9 (rmN 3 90)) {Q : Int32 → SS → Prop} (hR : RtI X 2 B 103 RS cX9_show Q) {rc : SS → Int32 → Prop} (hrc : ∀ (σ : SS) (v1 : Int32), rc σ v1 → J X 2 B 103 RS 0 0 σ [(0, .ref (B + 0)), (1, .int v1)] 27 []) : ∀ (σ : SS) (v1 : Int32), bd_X9_show_27 Q rc σ v1 → J X 2 B 103 RS 0 0 σ [(0, .ref (B + 0)), (1, .int v1)] 27 [] := by
  intro σ v1 hw
  unfold bd_X9_show_27 at hw
  refine j_iload_n 27 hC 1 (dg DX9_show 13 rfl) rfl rfl ?_
  refine j_bipush 28 hC (dg DX9_show 14 rfl) (v := 24) (by decide) ?_
  refine j_icmp_ge 30 68 hC (dg DX9_show 15 rfl) (by decide) (fun hbr => ?_) (fun hbr => ?_)
  · replace hw := hw.1 hbr
    refine j_aload_n 68 hC 0 (dg DX9_show 31 rfl) rfl rfl ?_
    refine j_getR 69 hC fX9_67 (k_0) (by decide) (by decide) rfl (dg DX9_show 32 rfl) ?_
    refine j_getI 72 hC fX9_238 (k_92) (by decide) (by decide) rfl (dg DX9_show 33 rfl) ?_
    exact hR 75 _ _ _ (dg DX9_show 34 rfl) hw
  · replace hw := hw.2 hbr
    refine j_aload_n 33 hC 0 (dg DX9_show 16 rfl) rfl rfl ?_
    refine j_getR 34 hC fX9_67 (k_0) (by decide) (by decide) rfl (dg DX9_show 17 rfl) ?_
    refine j_aload_n 37 hC 0 (dg DX9_show 18 rfl) rfl rfl ?_
    refine j_getR 38 hC fX9_32 (k_0) (by decide) (by decide) rfl (dg DX9_show 19 rfl) ?_
    refine j_iload_n 41 hC 1 (dg DX9_show 20 rfl) rfl rfl ?_
    refine j_Vi (As := [.int v1]) 42 hC (m_X6_seersOf  hw) kX9_160 (k_80) (by decide) ⟨_, _, rfl⟩ (rmN_ok (by decide) (by decide)) rfl rfl (Nat.le_of_ble_eq_true rfl) (dg DX9_show 21 rfl) (fun r4 σ3 hw => ?_)
    refine j_aload_n 45 hC 0 (dg DX9_show 22 rfl) rfl rfl ?_
    refine j_getR 46 hC fX9_32 (k_0) (by decide) (by decide) rfl (dg DX9_show 23 rfl) ?_
    refine j_getI 49 hC fX9_163 (k_80) (by decide) (by decide) rfl (dg DX9_show 24 rfl) ?_
    refine j_iand 52 hC (dg DX9_show 25 rfl) ?_
    refine j_Si (As := [.int (r4 &&& (σ3 80 2))]) 53 hC (m_J6_bitCount_0f7a4  hw) kX9_166 (rmN_ok (by decide) (by decide)) rfl rfl (Nat.le_of_ble_eq_true rfl) (dg DX9_show 26 rfl) (fun r6 σ5 hw => ?_)
    refine j_Si (As := [.int r6]) 56 hC (m_X9_signFor  hw) kX9_241 (rmN_ok (by decide) (by decide)) rfl rfl (Nat.le_of_ble_eq_true rfl) (dg DX9_show 27 rfl) (fun r8 σ7 hw => ?_)
    refine j_Vv (As := [.int r8]) 59 hC (m_X2_put  hw) kX9_235 (k_92) (by decide) ⟨_, _, rfl⟩ (rmN_ok (by decide) (by decide)) rfl rfl (Nat.le_of_ble_eq_true rfl) (dg DX9_show 28 rfl) (fun σ9 hw => ?_)
    refine j_iinc 62 hC 1 (v1 + 1) [(1, .int (v1 + 1)), (0, .ref (B + 0))] (dg DX9_show 29 rfl) rfl rfl (by decide) rfl ?_
    refine j_goto 65 27 hC (dg DX9_show 30 rfl) (by decide) ?_
    refine j_lv [1, 0] (lv' := [(0, .ref (B + 0)), (1, .int (v1 + 1))]) rfl ?_
    exact hrc _ _ hw
set_option maxRecDepth 100000 in
set_option maxHeartbeats 4000000 in
theorem t_X9_show {X : XT} {B : Nat} (hC : Cx X 2 cX9_show RX9 (rmN 3 90)) {Q : Int32 → SS → Prop} (hR : RtI X 2 B 103 RS cX9_show Q) {σ : SS} (hw : wp_X9_show  σ  Q) : J X 2 B 103 RS 0 0 σ [(0, .ref (B + 0))] 0 [] := by
  unfold wp_X9_show at hw
  refine j_aload_n 0 hC 0 (dg DX9_show 0 rfl) rfl rfl ?_
  refine j_getR 1 hC fX9_32 (k_0) (by decide) (by decide) rfl (dg DX9_show 1 rfl) ?_
  refine j_aload_n 4 hC 0 (dg DX9_show 2 rfl) rfl rfl ?_
  refine j_getR 5 hC fX9_10 (k_0) (by decide) (by decide) rfl (dg DX9_show 3 rfl) ?_
  refine j_aload_n 8 hC 0 (dg DX9_show 4 rfl) rfl rfl ?_
  refine j_getR 9 hC fX9_10 (k_0) (by decide) (by decide) rfl (dg DX9_show 5 rfl) ?_
  refine j_getI 12 hC fX9_134 (k_1) (by decide) (by decide) rfl (dg DX9_show 6 rfl) ?_
  refine j_Vv (As := [.ref (B + 1), .int (σ 1 7)]) 15 hC (m_X6_lookAt isW_1 hw) kX9_137 (k_80) (by decide) ⟨_, _, rfl⟩ (rmN_ok (by decide) (by decide)) rfl rfl (Nat.le_of_ble_eq_true rfl) (dg DX9_show 7 rfl) (fun σ1 hw => ?_)
  refine j_aload_n 18 hC 0 (dg DX9_show 8 rfl) rfl rfl ?_
  refine j_getR 19 hC fX9_67 (k_0) (by decide) (by decide) rfl (dg DX9_show 9 rfl) ?_
  refine j_Vv (As := []) 22 hC (m_X2_clear  hw) kX9_226 (k_92) (by decide) ⟨_, _, rfl⟩ (rmN_ok (by decide) (by decide)) rfl rfl (Nat.le_of_ble_eq_true rfl) (dg DX9_show 10 rfl) (fun σ2 hw => ?_)
  refine j_iconst 25 hC (dg DX9_show 11 rfl) (v := 0) (by decide) ?_
  refine j_istore_n 26 hC [(1, .int 0), (0, .ref (B + 0))] (dg DX9_show 12 rfl) rfl (by decide) rfl ?_
  obtain ⟨k10, hw⟩ := hw
  refine j_lv [1, 0] (lv' := [(0, .ref (B + 0)), (1, .int 0)]) rfl ?_
  exact Li.snd (P := fun τ w1 => J X 2 B 103 RS 0 0 τ [(0, .ref (B + 0)), (1, .int w1)] 27 []) (fun rcc hrcc => tb_X9_show_27 hC  hR  hrcc) k10 _ _ hw
theorem m_X9_show {B : Nat} {σ : SS} {Q : Int32 → SS → Prop} (hw : wp_X9_show  σ  Q) : MI yX9_show cX9_show 2 (some .int) 3 90 B 103 RS [.ref (B + 0)] σ Q := MI.mk (plainFor_of_name (by decide)) (Nat.le_of_ble_eq_true rfl) (fun X hC hR => t_X9_show hC  hR hw)
-- FortressWatch.sign
def wp_X9_sign  (σ : SS) (p1 : Int32) (Q : Int32 → SS → Prop) : Prop :=
  wp_X2_codeAt σ p1 (fun r2 σ1 =>
    Q r2 σ1)
set_option maxRecDepth 100000 in
set_option maxHeartbeats 4000000 in
theorem t_X9_sign {X : XT} {B : Nat} (hC : Cx X 2 cX9_sign RX9 (rmN 1 21)) {Q : Int32 → SS → Prop} (hR : RtI X 2 B 103 RS cX9_sign Q) {σ : SS} {p1 : Int32} (hw : wp_X9_sign  σ p1 Q) : J X 2 B 103 RS 0 0 σ [(0, .ref (B + 0)), (1, .int p1)] 0 [] := by
  unfold wp_X9_sign at hw
  refine j_aload_n 0 hC 0 (dg DX9_sign 0 rfl) rfl rfl ?_
  refine j_getR 1 hC fX9_67 (k_0) (by decide) (by decide) rfl (dg DX9_sign 1 rfl) ?_
  refine j_iload_n 4 hC 1 (dg DX9_sign 2 rfl) rfl rfl ?_
  refine j_Vi (As := [.int p1]) 5 hC (m_X2_codeAt  hw) kX9_244 (k_92) (by decide) ⟨_, _, rfl⟩ (rmN_ok (by decide) (by decide)) rfl rfl (Nat.le_of_ble_eq_true rfl) (dg DX9_sign 3 rfl) (fun r2 σ1 hw => ?_)
  exact hR 8 _ _ _ (dg DX9_sign 4 rfl) hw
theorem m_X9_sign {B : Nat} {σ : SS} {p1 : Int32} {Q : Int32 → SS → Prop} (hw : wp_X9_sign  σ p1 Q) : MI yX9_sign cX9_sign 2 (some .int) 1 21 B 103 RS [.ref (B + 0), .int p1] σ Q := MI.mk (plainFor_of_name (by decide)) (Nat.le_of_ble_eq_true rfl) (fun X hC hR => t_X9_sign hC  hR hw)
-- FortressWatch.append
def wp_X9_append  (σ : SS) (p1 : Int32) (Q : Int32 → SS → Prop) : Prop :=
  ((p1 < 32 →
      Q (-2) σ) ∧
    (¬ p1 < 32 →
      ((p1 ≤ 126 →
          wp_X7_put σ p1 (fun r2 σ1 =>
            Q r2 σ1)) ∧
        (¬ p1 ≤ 126 →
          Q (-2) σ))))
set_option maxRecDepth 100000 in
set_option maxHeartbeats 4000000 in
theorem t_X9_append {X : XT} {B : Nat} (hC : Cx X 2 cX9_append RX9 (rmN 1 21)) {Q : Int32 → SS → Prop} (hR : RtI X 2 B 103 RS cX9_append Q) {σ : SS} {p1 : Int32} (hw : wp_X9_append  σ p1 Q) : J X 2 B 103 RS 0 0 σ [(0, .ref (B + 0)), (1, .int p1)] 0 [] := by
  unfold wp_X9_append at hw
  refine j_iload_n 0 hC 1 (dg DX9_append 0 rfl) rfl rfl ?_
  refine j_bipush 1 hC (dg DX9_append 1 rfl) (v := 32) (by decide) ?_
  refine j_icmp_lt 3 12 hC (dg DX9_append 2 rfl) (by decide) (fun hbr => ?_) (fun hbr => ?_)
  · replace hw := hw.1 hbr
    refine j_bipush 12 hC (dg DX9_append 6 rfl) (v := (-2)) (by decide) ?_
    exact hR 14 _ _ _ (dg DX9_append 7 rfl) hw
  · replace hw := hw.2 hbr
    refine j_iload_n 6 hC 1 (dg DX9_append 3 rfl) rfl rfl ?_
    refine j_bipush 7 hC (dg DX9_append 4 rfl) (v := 126) (by decide) ?_
    refine j_icmp_le 9 15 hC (dg DX9_append 5 rfl) (by decide) (fun hbr => ?_) (fun hbr => ?_)
    · replace hw := hw.1 hbr
      refine j_aload_n 15 hC 0 (dg DX9_append 8 rfl) rfl rfl ?_
      refine j_getR 16 hC fX9_60 (k_0) (by decide) (by decide) rfl (dg DX9_append 9 rfl) ?_
      refine j_iload_n 19 hC 1 (dg DX9_append 10 rfl) rfl rfl ?_
      refine j_Vi (As := [.int p1]) 20 hC (m_X7_put  hw) kX9_247 (k_90) (by decide) ⟨_, _, rfl⟩ (rmN_ok (by decide) (by decide)) rfl rfl (Nat.le_of_ble_eq_true rfl) (dg DX9_append 11 rfl) (fun r2 σ1 hw => ?_)
      exact hR 23 _ _ _ (dg DX9_append 12 rfl) hw
    · replace hw := hw.2 hbr
      refine j_bipush 12 hC (dg DX9_append 6 rfl) (v := (-2)) (by decide) ?_
      exact hR 14 _ _ _ (dg DX9_append 7 rfl) hw
theorem m_X9_append {B : Nat} {σ : SS} {p1 : Int32} {Q : Int32 → SS → Prop} (hw : wp_X9_append  σ p1 Q) : MI yX9_append cX9_append 2 (some .int) 1 21 B 103 RS [.ref (B + 0), .int p1] σ Q := MI.mk (plainFor_of_name (by decide)) (Nat.le_of_ble_eq_true rfl) (fun X hC hR => t_X9_append hC  hR hw)
-- FortressWatch.carryOut
def wp_X9_carryOut  (σ : SS)  (Q : Int32 → SS → Prop) : Prop :=
  (((σ 90 3) = 45 →
      wp_X9_tearDown σ (σ 90 4) (fun r2 σ1 =>
        Q r2 σ1)) ∧
    (¬ (σ 90 3) = 45 →
      (((σ 90 3) = 98 →
          wp_X9_tellBlindAngle σ (σ 90 4) (σ 90 5) (σ 90 6) (fun r4 σ3 =>
            Q r4 σ3)) ∧
        (¬ (σ 90 3) = 98 →
          (((σ 90 3) = 104 →
              wp_X9_tellHour σ (σ 90 4) (fun r6 σ5 =>
                Q r6 σ5)) ∧
            (¬ (σ 90 3) = 104 →
              (((σ 90 3) = 108 →
                  wp_X9_letBeManned σ (σ 90 4) 0 (fun r8 σ7 =>
                    Q r8 σ7)) ∧
                (¬ (σ 90 3) = 108 →
                  (((σ 90 3) = 109 →
                      wp_X9_letBeManned σ (σ 90 4) 1 (fun r10 σ9 =>
                        Q r10 σ9)) ∧
                    (¬ (σ 90 3) = 109 →
                      (((σ 90 3) = 110 →
                          wp_X9_dropBlindAngle σ (σ 90 4) (fun r12 σ11 =>
                            Q r12 σ11)) ∧
                        (¬ (σ 90 3) = 110 →
                          (((σ 90 3) = 112 →
                              wp_X9_buildPost σ (σ 90 4) (σ 90 5) (σ 90 6) (fun r14 σ13 =>
                                Q r14 σ13)) ∧
                            (¬ (σ 90 3) = 112 →
                              (((σ 90 3) = 114 →
                                  wp_X9_tellReaches σ (σ 90 4) (σ 90 5) (σ 90 6) (fun r16 σ15 =>
                                    Q r16 σ15)) ∧
                                (¬ (σ 90 3) = 114 →
                                  (((σ 90 3) = 119 →
                                      wp_X9_manFewest σ (fun r18 σ17 =>
                                        Q r18 σ17)) ∧
                                    (¬ (σ 90 3) = 119 →
                                      Q (-2) σ))))))))))))))))))
set_option maxRecDepth 100000 in
set_option maxHeartbeats 4000000 in
theorem t_X9_carryOut {X : XT} {B : Nat} (hC : Cx X 1 cX9_carryOut RX9 (rmN 4 110)) {Q : Int32 → SS → Prop} (hR : RtI X 1 B 103 RS cX9_carryOut Q) {σ : SS} (hw : wp_X9_carryOut  σ  Q) : J X 1 B 103 RS 0 0 σ [(0, .ref (B + 0))] 0 [] := by
  unfold wp_X9_carryOut at hw
  refine j_aload_n 0 hC 0 (dg DX9_carryOut 0 rfl) rfl rfl ?_
  refine j_getR 1 hC fX9_60 (k_0) (by decide) (by decide) rfl (dg DX9_carryOut 1 rfl) ?_
  refine j_getI 4 hC fX9_342 (k_90) (by decide) (by decide) rfl (dg DX9_carryOut 2 rfl) ?_
  by_cases n45 : (σ 90 3) = 45
  · replace hw := hw.1 n45
    refine j_lookup 7 114 (off := 107) hC (dg DX9_carryOut 3 rfl) (by decide) (by rw [n45]; rfl) (by decide) ?_
    refine j_aload_n 114 hC 0 (dg DX9_carryOut 16 rfl) rfl rfl ?_
    refine j_aload_n 115 hC 0 (dg DX9_carryOut 17 rfl) rfl rfl ?_
    refine j_getR 116 hC fX9_60 (k_0) (by decide) (by decide) rfl (dg DX9_carryOut 18 rfl) ?_
    refine j_getI 119 hC fX9_345 (k_90) (by decide) (by decide) rfl (dg DX9_carryOut 19 rfl) ?_
    refine j_Vi (As := [.int (σ 90 4)]) 122 hC (m_X9_tearDown  hw) kX9_98 (k_0) (by decide) ⟨_, _, rfl⟩ (rmN_ok (by decide) (by decide)) rfl rfl (Nat.le_of_ble_eq_true rfl) (dg DX9_carryOut 20 rfl) (fun r2 σ1 hw => ?_)
    exact hR 125 _ _ _ (dg DX9_carryOut 21 rfl) hw
  replace hw := hw.2 n45
  by_cases n98 : (σ 90 3) = 98
  · replace hw := hw.1 n98
    refine j_lookup 7 152 (off := 145) hC (dg DX9_carryOut 3 rfl) (by decide) (by rw [n98]; rfl) (by decide) ?_
    refine j_aload_n 152 hC 0 (dg DX9_carryOut 34 rfl) rfl rfl ?_
    refine j_aload_n 153 hC 0 (dg DX9_carryOut 35 rfl) rfl rfl ?_
    refine j_getR 154 hC fX9_60 (k_0) (by decide) (by decide) rfl (dg DX9_carryOut 36 rfl) ?_
    refine j_getI 157 hC fX9_345 (k_90) (by decide) (by decide) rfl (dg DX9_carryOut 37 rfl) ?_
    refine j_aload_n 160 hC 0 (dg DX9_carryOut 38 rfl) rfl rfl ?_
    refine j_getR 161 hC fX9_60 (k_0) (by decide) (by decide) rfl (dg DX9_carryOut 39 rfl) ?_
    refine j_getI 164 hC fX9_348 (k_90) (by decide) (by decide) rfl (dg DX9_carryOut 40 rfl) ?_
    refine j_aload_n 167 hC 0 (dg DX9_carryOut 41 rfl) rfl rfl ?_
    refine j_getR 168 hC fX9_60 (k_0) (by decide) (by decide) rfl (dg DX9_carryOut 42 rfl) ?_
    refine j_getI 171 hC fX9_351 (k_90) (by decide) (by decide) rfl (dg DX9_carryOut 43 rfl) ?_
    refine j_Vi (As := [.int (σ 90 4), .int (σ 90 5), .int (σ 90 6)]) 174 hC (m_X9_tellBlindAngle  hw) kX9_104 (k_0) (by decide) ⟨_, _, rfl⟩ (rmN_ok (by decide) (by decide)) rfl rfl (Nat.le_of_ble_eq_true rfl) (dg DX9_carryOut 44 rfl) (fun r4 σ3 hw => ?_)
    exact hR 177 _ _ _ (dg DX9_carryOut 45 rfl) hw
  replace hw := hw.2 n98
  by_cases n104 : (σ 90 3) = 104
  · replace hw := hw.1 n104
    refine j_lookup 7 216 (off := 209) hC (dg DX9_carryOut 3 rfl) (by decide) (by rw [n104]; rfl) (by decide) ?_
    refine j_aload_n 216 hC 0 (dg DX9_carryOut 66 rfl) rfl rfl ?_
    refine j_aload_n 217 hC 0 (dg DX9_carryOut 67 rfl) rfl rfl ?_
    refine j_getR 218 hC fX9_60 (k_0) (by decide) (by decide) rfl (dg DX9_carryOut 68 rfl) ?_
    refine j_getI 221 hC fX9_345 (k_90) (by decide) (by decide) rfl (dg DX9_carryOut 69 rfl) ?_
    refine j_Vi (As := [.int (σ 90 4)]) 224 hC (m_X9_tellHour  hw) kX9_121 (k_0) (by decide) ⟨_, _, rfl⟩ (rmN_ok (by decide) (by decide)) rfl rfl (Nat.le_of_ble_eq_true rfl) (dg DX9_carryOut 70 rfl) (fun r6 σ5 hw => ?_)
    exact hR 227 _ _ _ (dg DX9_carryOut 71 rfl) hw
  replace hw := hw.2 n104
  by_cases n108 : (σ 90 3) = 108
  · replace hw := hw.1 n108
    refine j_lookup 7 203 (off := 196) hC (dg DX9_carryOut 3 rfl) (by decide) (by rw [n108]; rfl) (by decide) ?_
    refine j_aload_n 203 hC 0 (dg DX9_carryOut 59 rfl) rfl rfl ?_
    refine j_aload_n 204 hC 0 (dg DX9_carryOut 60 rfl) rfl rfl ?_
    refine j_getR 205 hC fX9_60 (k_0) (by decide) (by decide) rfl (dg DX9_carryOut 61 rfl) ?_
    refine j_getI 208 hC fX9_345 (k_90) (by decide) (by decide) rfl (dg DX9_carryOut 62 rfl) ?_
    refine j_iconst 211 hC (dg DX9_carryOut 63 rfl) (v := 0) (by decide) ?_
    refine j_Vi (As := [.int (σ 90 4), .int 0]) 212 hC (m_X9_letBeManned  hw) kX9_113 (k_0) (by decide) ⟨_, _, rfl⟩ (rmN_ok (by decide) (by decide)) rfl rfl (Nat.le_of_ble_eq_true rfl) (dg DX9_carryOut 64 rfl) (fun r8 σ7 hw => ?_)
    exact hR 215 _ _ _ (dg DX9_carryOut 65 rfl) hw
  replace hw := hw.2 n108
  by_cases n109 : (σ 90 3) = 109
  · replace hw := hw.1 n109
    refine j_lookup 7 190 (off := 183) hC (dg DX9_carryOut 3 rfl) (by decide) (by rw [n109]; rfl) (by decide) ?_
    refine j_aload_n 190 hC 0 (dg DX9_carryOut 52 rfl) rfl rfl ?_
    refine j_aload_n 191 hC 0 (dg DX9_carryOut 53 rfl) rfl rfl ?_
    refine j_getR 192 hC fX9_60 (k_0) (by decide) (by decide) rfl (dg DX9_carryOut 54 rfl) ?_
    refine j_getI 195 hC fX9_345 (k_90) (by decide) (by decide) rfl (dg DX9_carryOut 55 rfl) ?_
    refine j_iconst 198 hC (dg DX9_carryOut 56 rfl) (v := 1) (by decide) ?_
    refine j_Vi (As := [.int (σ 90 4), .int 1]) 199 hC (m_X9_letBeManned  hw) kX9_113 (k_0) (by decide) ⟨_, _, rfl⟩ (rmN_ok (by decide) (by decide)) rfl rfl (Nat.le_of_ble_eq_true rfl) (dg DX9_carryOut 57 rfl) (fun r10 σ9 hw => ?_)
    exact hR 202 _ _ _ (dg DX9_carryOut 58 rfl) hw
  replace hw := hw.2 n109
  by_cases n110 : (σ 90 3) = 110
  · replace hw := hw.1 n110
    refine j_lookup 7 178 (off := 171) hC (dg DX9_carryOut 3 rfl) (by decide) (by rw [n110]; rfl) (by decide) ?_
    refine j_aload_n 178 hC 0 (dg DX9_carryOut 46 rfl) rfl rfl ?_
    refine j_aload_n 179 hC 0 (dg DX9_carryOut 47 rfl) rfl rfl ?_
    refine j_getR 180 hC fX9_60 (k_0) (by decide) (by decide) rfl (dg DX9_carryOut 48 rfl) ?_
    refine j_getI 183 hC fX9_345 (k_90) (by decide) (by decide) rfl (dg DX9_carryOut 49 rfl) ?_
    refine j_Vi (As := [.int (σ 90 4)]) 186 hC (m_X9_dropBlindAngle  hw) kX9_110 (k_0) (by decide) ⟨_, _, rfl⟩ (rmN_ok (by decide) (by decide)) rfl rfl (Nat.le_of_ble_eq_true rfl) (dg DX9_carryOut 50 rfl) (fun r12 σ11 hw => ?_)
    exact hR 189 _ _ _ (dg DX9_carryOut 51 rfl) hw
  replace hw := hw.2 n110
  by_cases n112 : (σ 90 3) = 112
  · replace hw := hw.1 n112
    refine j_lookup 7 88 (off := 81) hC (dg DX9_carryOut 3 rfl) (by decide) (by rw [n112]; rfl) (by decide) ?_
    refine j_aload_n 88 hC 0 (dg DX9_carryOut 4 rfl) rfl rfl ?_
    refine j_aload_n 89 hC 0 (dg DX9_carryOut 5 rfl) rfl rfl ?_
    refine j_getR 90 hC fX9_60 (k_0) (by decide) (by decide) rfl (dg DX9_carryOut 6 rfl) ?_
    refine j_getI 93 hC fX9_345 (k_90) (by decide) (by decide) rfl (dg DX9_carryOut 7 rfl) ?_
    refine j_aload_n 96 hC 0 (dg DX9_carryOut 8 rfl) rfl rfl ?_
    refine j_getR 97 hC fX9_60 (k_0) (by decide) (by decide) rfl (dg DX9_carryOut 9 rfl) ?_
    refine j_getI 100 hC fX9_348 (k_90) (by decide) (by decide) rfl (dg DX9_carryOut 10 rfl) ?_
    refine j_aload_n 103 hC 0 (dg DX9_carryOut 11 rfl) rfl rfl ?_
    refine j_getR 104 hC fX9_60 (k_0) (by decide) (by decide) rfl (dg DX9_carryOut 12 rfl) ?_
    refine j_getI 107 hC fX9_351 (k_90) (by decide) (by decide) rfl (dg DX9_carryOut 13 rfl) ?_
    refine j_Vi (As := [.int (σ 90 4), .int (σ 90 5), .int (σ 90 6)]) 110 hC (m_X9_buildPost  hw) kX9_90 (k_0) (by decide) ⟨_, _, rfl⟩ (rmN_ok (by decide) (by decide)) rfl rfl (Nat.le_of_ble_eq_true rfl) (dg DX9_carryOut 14 rfl) (fun r14 σ13 hw => ?_)
    exact hR 113 _ _ _ (dg DX9_carryOut 15 rfl) hw
  replace hw := hw.2 n112
  by_cases n114 : (σ 90 3) = 114
  · replace hw := hw.1 n114
    refine j_lookup 7 126 (off := 119) hC (dg DX9_carryOut 3 rfl) (by decide) (by rw [n114]; rfl) (by decide) ?_
    refine j_aload_n 126 hC 0 (dg DX9_carryOut 22 rfl) rfl rfl ?_
    refine j_aload_n 127 hC 0 (dg DX9_carryOut 23 rfl) rfl rfl ?_
    refine j_getR 128 hC fX9_60 (k_0) (by decide) (by decide) rfl (dg DX9_carryOut 24 rfl) ?_
    refine j_getI 131 hC fX9_345 (k_90) (by decide) (by decide) rfl (dg DX9_carryOut 25 rfl) ?_
    refine j_aload_n 134 hC 0 (dg DX9_carryOut 26 rfl) rfl rfl ?_
    refine j_getR 135 hC fX9_60 (k_0) (by decide) (by decide) rfl (dg DX9_carryOut 27 rfl) ?_
    refine j_getI 138 hC fX9_348 (k_90) (by decide) (by decide) rfl (dg DX9_carryOut 28 rfl) ?_
    refine j_aload_n 141 hC 0 (dg DX9_carryOut 29 rfl) rfl rfl ?_
    refine j_getR 142 hC fX9_60 (k_0) (by decide) (by decide) rfl (dg DX9_carryOut 30 rfl) ?_
    refine j_getI 145 hC fX9_351 (k_90) (by decide) (by decide) rfl (dg DX9_carryOut 31 rfl) ?_
    refine j_Vi (As := [.int (σ 90 4), .int (σ 90 5), .int (σ 90 6)]) 148 hC (m_X9_tellReaches  hw) kX9_101 (k_0) (by decide) ⟨_, _, rfl⟩ (rmN_ok (by decide) (by decide)) rfl rfl (Nat.le_of_ble_eq_true rfl) (dg DX9_carryOut 32 rfl) (fun r16 σ15 hw => ?_)
    exact hR 151 _ _ _ (dg DX9_carryOut 33 rfl) hw
  replace hw := hw.2 n114
  by_cases n119 : (σ 90 3) = 119
  · replace hw := hw.1 n119
    refine j_lookup 7 228 (off := 221) hC (dg DX9_carryOut 3 rfl) (by decide) (by rw [n119]; rfl) (by decide) ?_
    refine j_aload_n 228 hC 0 (dg DX9_carryOut 72 rfl) rfl rfl ?_
    refine j_Vi (As := []) 229 hC (m_X9_manFewest  hw) kX9_124 (k_0) (by decide) ⟨_, _, rfl⟩ (rmN_ok (by decide) (by decide)) rfl rfl (Nat.le_of_ble_eq_true rfl) (dg DX9_carryOut 73 rfl) (fun r18 σ17 hw => ?_)
    exact hR 232 _ _ _ (dg DX9_carryOut 74 rfl) hw
  replace hw := hw.2 n119
  have q45 : ((σ 90 3)).toInt ≠ 45 := i32_ne n45
  have q98 : ((σ 90 3)).toInt ≠ 98 := i32_ne n98
  have q104 : ((σ 90 3)).toInt ≠ 104 := i32_ne n104
  have q108 : ((σ 90 3)).toInt ≠ 108 := i32_ne n108
  have q109 : ((σ 90 3)).toInt ≠ 109 := i32_ne n109
  have q110 : ((σ 90 3)).toInt ≠ 110 := i32_ne n110
  have q112 : ((σ 90 3)).toInt ≠ 112 := i32_ne n112
  have q114 : ((σ 90 3)).toInt ≠ 114 := i32_ne n114
  have q119 : ((σ 90 3)).toInt ≠ 119 := i32_ne n119
  refine j_lookup 7 233 (off := 226) hC (dg DX9_carryOut 3 rfl) (by decide) (by simp only [Op.lookupswitch.offset, List.find?]; simp [q45, Ne.symm q45, q98, Ne.symm q98, q104, Ne.symm q104, q108, Ne.symm q108, q109, Ne.symm q109, q110, Ne.symm q110, q112, Ne.symm q112, q114, Ne.symm q114, q119, Ne.symm q119]) (by decide) ?_
  refine j_bipush 233 hC (dg DX9_carryOut 75 rfl) (v := (-2)) (by decide) ?_
  exact hR 235 _ _ _ (dg DX9_carryOut 76 rfl) hw
theorem m_X9_carryOut {B : Nat} {σ : SS} {Q : Int32 → SS → Prop} (hw : wp_X9_carryOut  σ  Q) : MI yX9_carryOut cX9_carryOut 1 (some .int) 4 110 B 103 RS [.ref (B + 0)] σ Q := MI.mk (plainFor_of_name (by decide)) (Nat.le_of_ble_eq_true rfl) (fun X hC hR => t_X9_carryOut hC  hR hw)
-- FortressWatch.carryOutAll
def bd_X9_carryOutAll_11    (Q : Int32 → SS → Prop)  (rc : SS → Int32 → Int32 → Prop) (σ : SS) (v1 : Int32) (v2 : Int32) : Prop :=
  ((70 ≤ v2 →
      Q v1 σ) ∧
    (¬ 70 ≤ v2 →
      wp_X7_takeCommand σ (fun r3 σ2 =>
        ((r3 = 0 →
            Q v1 σ2) ∧
          (¬ r3 = 0 →
            wp_X9_carryOut (u2 σ2 0 12 v2) (fun r5 σ4 =>
              ((0 ≤ r5 →
                  wp_X7_skip σ4 59 (fun r7 σ6 =>
                    rc σ6 (v1 + 1) (v2 + 1))) ∧
                (¬ 0 ≤ r5 →
                  ((r5 = (-3) →
                      Q (-3) σ4) ∧
                    (¬ r5 = (-3) →
                      Q (-2) σ4))))))))))
def wp_X9_carryOutAll  (σ : SS)  (Q : Int32 → SS → Prop) : Prop :=
  wp_X7_rewind σ (fun σ1 =>
    ∃ k8, Lii (bd_X9_carryOutAll_11 Q) k8 σ1 0 0)
set_option maxRecDepth 100000 in
set_option maxHeartbeats 4000000 in
theorem tb_X9_carryOutAll_11 {X : XT} {B : Nat} (hC : Cx X 4 cX9_carryOutAll RX9 (rmN 5 130)) {Q : Int32 → SS → Prop} (hR : RtI X 4 B 103 RS cX9_carryOutAll Q) {rc : SS → Int32 → Int32 → Prop} (hrc : ∀ (σ : SS) (v1 : Int32) (v2 : Int32), rc σ v1 v2 → J X 4 B 103 RS 0 0 σ [(0, .ref (B + 0)), (1, .int v1), (2, .int v2)] 11 []) : ∀ (σ : SS) (v1 : Int32) (v2 : Int32), bd_X9_carryOutAll_11 Q rc σ v1 v2 → J X 4 B 103 RS 0 0 σ [(0, .ref (B + 0)), (1, .int v1), (2, .int v2)] 11 [] := by
  intro σ v1 v2 hw
  unfold bd_X9_carryOutAll_11 at hw
  refine j_iload_n 11 hC 2 (dg DX9_carryOutAll 7 rfl) rfl rfl ?_
  refine j_bipush 12 hC (dg DX9_carryOutAll 8 rfl) (v := 70) (by decide) ?_
  refine j_icmp_ge 14 74 hC (dg DX9_carryOutAll 9 rfl) (by decide) (fun hbr => ?_) (fun hbr => ?_)
  · replace hw := hw.1 hbr
    refine j_iload_n 74 hC 1 (dg DX9_carryOutAll 37 rfl) rfl rfl ?_
    exact hR 75 _ _ _ (dg DX9_carryOutAll 38 rfl) hw
  · replace hw := hw.2 hbr
    refine j_aload_n 17 hC 0 (dg DX9_carryOutAll 10 rfl) rfl rfl ?_
    refine j_getR 18 hC fX9_60 (k_0) (by decide) (by decide) rfl (dg DX9_carryOutAll 11 rfl) ?_
    refine j_Vi (As := []) 21 hC (m_X7_takeCommand  hw) kX9_332 (k_90) (by decide) ⟨_, _, rfl⟩ (rmN_ok (by decide) (by decide)) rfl rfl (Nat.le_of_ble_eq_true rfl) (dg DX9_carryOutAll 12 rfl) (fun r3 σ2 hw => ?_)
    refine j_if_eq 24 74 hC (dg DX9_carryOutAll 13 rfl) (by decide) (fun hbr => ?_) (fun hbr => ?_)
    · replace hw := hw.1 hbr
      refine j_iload_n 74 hC 1 (dg DX9_carryOutAll 37 rfl) rfl rfl ?_
      exact hR 75 _ _ _ (dg DX9_carryOutAll 38 rfl) hw
    · replace hw := hw.2 hbr
      refine j_aload_n 27 hC 0 (dg DX9_carryOutAll 14 rfl) rfl rfl ?_
      refine j_iload_n 28 hC 2 (dg DX9_carryOutAll 15 rfl) rfl rfl ?_
      refine j_putI 29 hC fX9_82 (k_0) (by decide) (by decide) rfl fp9_12 rfl (dg DX9_carryOutAll 16 rfl) ?_
      refine j_aload_n 32 hC 0 (dg DX9_carryOutAll 17 rfl) rfl rfl ?_
      refine j_Vi (As := []) 33 hC (m_X9_carryOut  hw) kX9_336 (k_0) (by decide) ⟨_, _, rfl⟩ (rmN_ok (by decide) (by decide)) rfl rfl (Nat.le_of_ble_eq_true rfl) (dg DX9_carryOutAll 18 rfl) (fun r5 σ4 hw => ?_)
      refine j_istore_n 36 hC [(3, .int r5), (0, .ref (B + 0)), (1, .int v1), (2, .int v2)] (dg DX9_carryOutAll 19 rfl) rfl (by decide) rfl ?_
      refine j_iload_n 37 hC 0 (dg DX9_carryOutAll 20 rfl) rfl rfl ?_
      refine j_if_ge 38 55 hC (dg DX9_carryOutAll 21 rfl) (by decide) (fun hbr => ?_) (fun hbr => ?_)
      · replace hw := hw.1 hbr
        refine j_iinc 55 hC 2 (v1 + 1) [(1, .int (v1 + 1)), (3, .int r5), (0, .ref (B + 0)), (2, .int v2)] (dg DX9_carryOutAll 29 rfl) rfl rfl (by decide) rfl ?_
        refine j_aload_n 58 hC 2 (dg DX9_carryOutAll 30 rfl) rfl rfl ?_
        refine j_getR 59 hC fX9_60 (k_0) (by decide) (by decide) rfl (dg DX9_carryOutAll 31 rfl) ?_
        refine j_bipush 62 hC (dg DX9_carryOutAll 32 rfl) (v := 59) (by decide) ?_
        refine j_Vi (As := [.int 59]) 64 hC (m_X7_skip  hw) kX9_339 (k_90) (by decide) ⟨_, _, rfl⟩ (rmN_ok (by decide) (by decide)) rfl rfl (Nat.le_of_ble_eq_true rfl) (dg DX9_carryOutAll 33 rfl) (fun r7 σ6 hw => ?_)
        refine j_pop 67 hC (dg DX9_carryOutAll 34 rfl) rfl ?_
        refine j_iinc 68 hC 3 (v2 + 1) [(2, .int (v2 + 1)), (1, .int (v1 + 1)), (3, .int r5), (0, .ref (B + 0))] (dg DX9_carryOutAll 35 rfl) rfl rfl (by decide) rfl ?_
        refine j_goto 71 11 hC (dg DX9_carryOutAll 36 rfl) (by decide) ?_
        refine j_lv [3, 1, 0] (lv' := [(0, .ref (B + 0)), (1, .int (v1 + 1)), (2, .int (v2 + 1))]) rfl ?_
        exact hrc _ _ _ hw
      · replace hw := hw.2 hbr
        refine j_iload_n 41 hC 0 (dg DX9_carryOutAll 22 rfl) rfl rfl ?_
        refine j_bipush 42 hC (dg DX9_carryOutAll 23 rfl) (v := (-3)) (by decide) ?_
        refine j_icmp_ne 44 52 hC (dg DX9_carryOutAll 24 rfl) (by decide) (fun hbr => ?_) (fun hbr => ?_)
        · replace hw := hw.2 hbr
          refine j_bipush 52 hC (dg DX9_carryOutAll 27 rfl) (v := (-2)) (by decide) ?_
          exact hR 54 _ _ _ (dg DX9_carryOutAll 28 rfl) hw
        · replace hw := hw.1 hbr
          refine j_bipush 47 hC (dg DX9_carryOutAll 25 rfl) (v := (-3)) (by decide) ?_
          refine j_goto 49 54 hC (dg DX9_carryOutAll 26 rfl) (by decide) ?_
          exact hR 54 _ _ _ (dg DX9_carryOutAll 28 rfl) hw
set_option maxRecDepth 100000 in
set_option maxHeartbeats 4000000 in
theorem t_X9_carryOutAll {X : XT} {B : Nat} (hC : Cx X 4 cX9_carryOutAll RX9 (rmN 5 130)) {Q : Int32 → SS → Prop} (hR : RtI X 4 B 103 RS cX9_carryOutAll Q) {σ : SS} (hw : wp_X9_carryOutAll  σ  Q) : J X 4 B 103 RS 0 0 σ [(0, .ref (B + 0))] 0 [] := by
  unfold wp_X9_carryOutAll at hw
  refine j_aload_n 0 hC 0 (dg DX9_carryOutAll 0 rfl) rfl rfl ?_
  refine j_getR 1 hC fX9_60 (k_0) (by decide) (by decide) rfl (dg DX9_carryOutAll 1 rfl) ?_
  refine j_Vv (As := []) 4 hC (m_X7_rewind  hw) kX9_329 (k_90) (by decide) ⟨_, _, rfl⟩ (rmN_ok (by decide) (by decide)) rfl rfl (Nat.le_of_ble_eq_true rfl) (dg DX9_carryOutAll 2 rfl) (fun σ1 hw => ?_)
  refine j_iconst 7 hC (dg DX9_carryOutAll 3 rfl) (v := 0) (by decide) ?_
  refine j_istore_n 8 hC [(1, .int 0), (0, .ref (B + 0))] (dg DX9_carryOutAll 4 rfl) rfl (by decide) rfl ?_
  refine j_iconst 9 hC (dg DX9_carryOutAll 5 rfl) (v := 0) (by decide) ?_
  refine j_istore_n 10 hC [(2, .int 0), (1, .int 0), (0, .ref (B + 0))] (dg DX9_carryOutAll 6 rfl) rfl (by decide) rfl ?_
  obtain ⟨k8, hw⟩ := hw
  refine j_lv [2, 1, 0] (lv' := [(0, .ref (B + 0)), (1, .int 0), (2, .int 0)]) rfl ?_
  exact Lii.snd (P := fun τ w1 w2 => J X 4 B 103 RS 0 0 τ [(0, .ref (B + 0)), (1, .int w1), (2, .int w2)] 11 []) (fun rcc hrcc => tb_X9_carryOutAll_11 hC  hR  hrcc) k8 _ _ _ hw
theorem m_X9_carryOutAll {B : Nat} {σ : SS} {Q : Int32 → SS → Prop} (hw : wp_X9_carryOutAll  σ  Q) : MI yX9_carryOutAll cX9_carryOutAll 4 (some .int) 5 130 B 103 RS [.ref (B + 0)] σ Q := MI.mk (plainFor_of_name (by decide)) (Nat.le_of_ble_eq_true rfl) (fun X hC hR => t_X9_carryOutAll hC  hR hw)
-- FortressWatch.read
def wp_X9_read  (σ : SS)  (Q : Int32 → SS → Prop) : Prop :=
  wp_X7_findFault σ (fun r2 σ1 =>
    ((r2 = (-1) →
        wp_X8_copyFrom 8 1 σ1 (fun σ3 =>
          wp_X9_carryOutAll σ3 (fun r5 σ4 =>
            wp_X9_kept σ4 r5 (fun r7 σ6 =>
              ((0 ≤ r7 →
                  wp_X7_clear (u2 σ6 0 12 (-4)) (fun σ8 =>
                    Q r7 σ8)) ∧
                (¬ 0 ≤ r7 →
                  wp_X8_copyFrom 1 8 σ6 (fun σ9 =>
                    wp_X7_clear (u2 σ9 0 12 (-4)) (fun σ10 =>
                      Q r7 σ10)))))))) ∧
      (¬ r2 = (-1) →
        wp_X7_clear σ1 (fun σ11 =>
          Q ((-100) - r2) σ11))))
set_option maxRecDepth 100000 in
set_option maxHeartbeats 4000000 in
theorem t_X9_read {X : XT} {B : Nat} (hC : Cx X 3 cX9_read RX9 (rmN 6 153)) {Q : Int32 → SS → Prop} (hR : RtI X 3 B 103 RS cX9_read Q) {σ : SS} (hw : wp_X9_read  σ  Q) : J X 3 B 103 RS 0 0 σ [(0, .ref (B + 0))] 0 [] := by
  unfold wp_X9_read at hw
  refine j_aload_n 0 hC 0 (dg DX9_read 0 rfl) rfl rfl ?_
  refine j_getR 1 hC fX9_60 (k_0) (by decide) (by decide) rfl (dg DX9_read 1 rfl) ?_
  refine j_Vi (As := []) 4 hC (m_X7_findFault  hw) kX9_249 (k_90) (by decide) ⟨_, _, rfl⟩ (rmN_ok (by decide) (by decide)) rfl rfl (Nat.le_of_ble_eq_true rfl) (dg DX9_read 2 rfl) (fun r2 σ1 hw => ?_)
  refine j_istore_n 7 hC [(1, .int r2), (0, .ref (B + 0))] (dg DX9_read 3 rfl) rfl (by decide) rfl ?_
  refine j_iload_n 8 hC 0 (dg DX9_read 4 rfl) rfl rfl ?_
  refine j_iconst 9 hC (dg DX9_read 5 rfl) (v := (-1)) (by decide) ?_
  refine j_icmp_eq 10 25 hC (dg DX9_read 6 rfl) (by decide) (fun hbr => ?_) (fun hbr => ?_)
  · replace hw := hw.1 hbr
    refine j_aload_n 25 hC 1 (dg DX9_read 14 rfl) rfl rfl ?_
    refine j_getR 26 hC fX9_16 (k_0) (by decide) (by decide) rfl (dg DX9_read 15 rfl) ?_
    refine j_aload_n 29 hC 1 (dg DX9_read 16 rfl) rfl rfl ?_
    refine j_getR 30 hC fX9_10 (k_0) (by decide) (by decide) rfl (dg DX9_read 17 rfl) ?_
    refine j_Vv (As := [.ref (B + 1)]) 33 hC (m_X8_copyFrom isW_8 isW_1 hw) kX9_86 (k_8) (by decide) ⟨_, _, rfl⟩ (rmN_ok (by decide) (by decide)) rfl rfl (Nat.le_of_ble_eq_true rfl) (dg DX9_read 18 rfl) (fun σ3 hw => ?_)
    refine j_aload_n 36 hC 1 (dg DX9_read 19 rfl) rfl rfl ?_
    refine j_aload_n 37 hC 1 (dg DX9_read 20 rfl) rfl rfl ?_
    refine j_Vi (As := []) 38 hC (m_X9_carryOutAll  hw) kX9_253 (k_0) (by decide) ⟨_, _, rfl⟩ (rmN_ok (by decide) (by decide)) rfl rfl (Nat.le_of_ble_eq_true rfl) (dg DX9_read 21 rfl) (fun r5 σ4 hw => ?_)
    refine j_Vi (As := [.int r5]) 41 hC (m_X9_kept  hw) kX9_94 (k_0) (by decide) ⟨_, _, rfl⟩ (rmN_ok (by decide) (by decide)) rfl rfl (Nat.le_of_ble_eq_true rfl) (dg DX9_read 22 rfl) (fun r7 σ6 hw => ?_)
    refine j_istore_n 44 hC [(2, .int r7), (1, .int r2), (0, .ref (B + 0))] (dg DX9_read 23 rfl) rfl (by decide) rfl ?_
    refine j_iload_n 45 hC 0 (dg DX9_read 24 rfl) rfl rfl ?_
    refine j_if_ge 46 60 hC (dg DX9_read 25 rfl) (by decide) (fun hbr => ?_) (fun hbr => ?_)
    · replace hw := hw.1 hbr
      refine j_aload_n 60 hC 2 (dg DX9_read 31 rfl) rfl rfl ?_
      refine j_bipush 61 hC (dg DX9_read 32 rfl) (v := (-4)) (by decide) ?_
      refine j_putI 63 hC fX9_82 (k_0) (by decide) (by decide) rfl fp9_12 rfl (dg DX9_read 33 rfl) ?_
      refine j_aload_n 66 hC 2 (dg DX9_read 34 rfl) rfl rfl ?_
      refine j_getR 67 hC fX9_60 (k_0) (by decide) (by decide) rfl (dg DX9_read 35 rfl) ?_
      refine j_Vv (As := []) 70 hC (m_X7_clear  hw) kX9_252 (k_90) (by decide) ⟨_, _, rfl⟩ (rmN_ok (by decide) (by decide)) rfl rfl (Nat.le_of_ble_eq_true rfl) (dg DX9_read 36 rfl) (fun σ8 hw => ?_)
      refine j_iload_n 73 hC 0 (dg DX9_read 37 rfl) rfl rfl ?_
      exact hR 74 _ _ _ (dg DX9_read 38 rfl) hw
    · replace hw := hw.2 hbr
      refine j_aload_n 49 hC 2 (dg DX9_read 26 rfl) rfl rfl ?_
      refine j_getR 50 hC fX9_10 (k_0) (by decide) (by decide) rfl (dg DX9_read 27 rfl) ?_
      refine j_aload_n 53 hC 2 (dg DX9_read 28 rfl) rfl rfl ?_
      refine j_getR 54 hC fX9_16 (k_0) (by decide) (by decide) rfl (dg DX9_read 29 rfl) ?_
      refine j_Vv (As := [.ref (B + 8)]) 57 hC (m_X8_copyFrom isW_1 isW_8 hw) kX9_86 (k_1) (by decide) ⟨_, _, rfl⟩ (rmN_ok (by decide) (by decide)) rfl rfl (Nat.le_of_ble_eq_true rfl) (dg DX9_read 30 rfl) (fun σ9 hw => ?_)
      refine j_aload_n 60 hC 2 (dg DX9_read 31 rfl) rfl rfl ?_
      refine j_bipush 61 hC (dg DX9_read 32 rfl) (v := (-4)) (by decide) ?_
      refine j_putI 63 hC fX9_82 (k_0) (by decide) (by decide) rfl fp9_12 rfl (dg DX9_read 33 rfl) ?_
      refine j_aload_n 66 hC 2 (dg DX9_read 34 rfl) rfl rfl ?_
      refine j_getR 67 hC fX9_60 (k_0) (by decide) (by decide) rfl (dg DX9_read 35 rfl) ?_
      refine j_Vv (As := []) 70 hC (m_X7_clear  hw) kX9_252 (k_90) (by decide) ⟨_, _, rfl⟩ (rmN_ok (by decide) (by decide)) rfl rfl (Nat.le_of_ble_eq_true rfl) (dg DX9_read 36 rfl) (fun σ10 hw => ?_)
      refine j_iload_n 73 hC 0 (dg DX9_read 37 rfl) rfl rfl ?_
      exact hR 74 _ _ _ (dg DX9_read 38 rfl) hw
  · replace hw := hw.2 hbr
    refine j_aload_n 13 hC 1 (dg DX9_read 7 rfl) rfl rfl ?_
    refine j_getR 14 hC fX9_60 (k_0) (by decide) (by decide) rfl (dg DX9_read 8 rfl) ?_
    refine j_Vv (As := []) 17 hC (m_X7_clear  hw) kX9_252 (k_90) (by decide) ⟨_, _, rfl⟩ (rmN_ok (by decide) (by decide)) rfl rfl (Nat.le_of_ble_eq_true rfl) (dg DX9_read 9 rfl) (fun σ11 hw => ?_)
    refine j_bipush 20 hC (dg DX9_read 10 rfl) (v := (-100)) (by decide) ?_
    refine j_iload_n 22 hC 0 (dg DX9_read 11 rfl) rfl rfl ?_
    refine j_isub 23 hC (dg DX9_read 12 rfl) ?_
    exact hR 24 _ _ _ (dg DX9_read 13 rfl) hw
theorem m_X9_read {B : Nat} {σ : SS} {Q : Int32 → SS → Prop} (hw : wp_X9_read  σ  Q) : MI yX9_read cX9_read 3 (some .int) 6 153 B 103 RS [.ref (B + 0)] σ Q := MI.mk (plainFor_of_name (by decide)) (Nat.le_of_ble_eq_true rfl) (fun X hC hR => t_X9_read hC  hR hw)
-- FortressWatch.refusal
def wp_X9_refusal  (σ : SS) (p1 : Int32) (Q : Int32 → SS → Prop) : Prop :=
  ((p1 < 0 →
      Q (-2) σ) ∧
    (¬ p1 < 0 →
      ((p1 ≤ 2 →
          wp_X5_numberOf σ p1 (fun r2 σ1 =>
            Q r2 σ1)) ∧
        (¬ p1 ≤ 2 →
          Q (-2) σ))))
set_option maxRecDepth 100000 in
set_option maxHeartbeats 4000000 in
theorem t_X9_refusal {X : XT} {B : Nat} (hC : Cx X 2 cX9_refusal RX9 (rmN 1 21)) {Q : Int32 → SS → Prop} (hR : RtI X 2 B 103 RS cX9_refusal Q) {σ : SS} {p1 : Int32} (hw : wp_X9_refusal  σ p1 Q) : J X 2 B 103 RS 0 0 σ [(0, .ref (B + 0)), (1, .int p1)] 0 [] := by
  unfold wp_X9_refusal at hw
  refine j_iload_n 0 hC 1 (dg DX9_refusal 0 rfl) rfl rfl ?_
  refine j_if_lt 1 9 hC (dg DX9_refusal 1 rfl) (by decide) (fun hbr => ?_) (fun hbr => ?_)
  · replace hw := hw.1 hbr
    refine j_bipush 9 hC (dg DX9_refusal 5 rfl) (v := (-2)) (by decide) ?_
    exact hR 11 _ _ _ (dg DX9_refusal 6 rfl) hw
  · replace hw := hw.2 hbr
    refine j_iload_n 4 hC 1 (dg DX9_refusal 2 rfl) rfl rfl ?_
    refine j_iconst 5 hC (dg DX9_refusal 3 rfl) (v := 2) (by decide) ?_
    refine j_icmp_le 6 12 hC (dg DX9_refusal 4 rfl) (by decide) (fun hbr => ?_) (fun hbr => ?_)
    · replace hw := hw.1 hbr
      refine j_aload_n 12 hC 0 (dg DX9_refusal 7 rfl) rfl rfl ?_
      refine j_getR 13 hC fX9_74 (k_0) (by decide) (by decide) rfl (dg DX9_refusal 8 rfl) ?_
      refine j_iload_n 16 hC 1 (dg DX9_refusal 9 rfl) rfl rfl ?_
      refine j_Vi (As := [.int p1]) 17 hC (m_X5_numberOf  hw) kX9_256 (k_94) (by decide) ⟨_, _, rfl⟩ (rmN_ok (by decide) (by decide)) rfl rfl (Nat.le_of_ble_eq_true rfl) (dg DX9_refusal 10 rfl) (fun r2 σ1 hw => ?_)
      exact hR 20 _ _ _ (dg DX9_refusal 11 rfl) hw
    · replace hw := hw.2 hbr
      refine j_bipush 9 hC (dg DX9_refusal 5 rfl) (v := (-2)) (by decide) ?_
      exact hR 11 _ _ _ (dg DX9_refusal 6 rfl) hw
theorem m_X9_refusal {B : Nat} {σ : SS} {p1 : Int32} {Q : Int32 → SS → Prop} (hw : wp_X9_refusal  σ p1 Q) : MI yX9_refusal cX9_refusal 2 (some .int) 1 21 B 103 RS [.ref (B + 0), .int p1] σ Q := MI.mk (plainFor_of_name (by decide)) (Nat.le_of_ble_eq_true rfl) (fun X hC hR => t_X9_refusal hC  hR hw)
-- FortressWatch.sightAccount
def wp_X9_sightAccount  (σ : SS) (p1 : Int32) (Q : Int32 → SS → Prop) : Prop :=
  wp_X6_lookAt 1 σ (σ 1 7) (fun σ1 =>
    wp_X6_seenBySet σ1 (σ1 80 2) (fun r3 σ2 =>
      wp_X1_find σ2 r3 (fun σ4 =>
        ((p1 = 0 →
            Q (σ4 1 6) σ4) ∧
          (¬ p1 = 0 →
            ((p1 = 1 →
                wp_J6_bitCount_0f7a4 σ4 (σ4 80 2) (fun r6 σ5 =>
                  Q r6 σ5)) ∧
              (¬ p1 = 1 →
                ((p1 = 2 →
                    wp_J6_bitCount_0f7a4 σ4 r3 (fun r8 σ7 =>
                      Q r8 σ7)) ∧
                  (¬ p1 = 2 →
                    ((p1 = 3 →
                        wp_X6_overlaps σ4 (fun r10 σ9 =>
                          Q r10 σ9)) ∧
                      (¬ p1 = 3 →
                        ((p1 = 4 →
                            Q (σ4 85 2) σ4) ∧
                          (¬ p1 = 4 →
                            ((p1 = 5 →
                                wp_X1_longest σ4 (fun r12 σ11 =>
                                  Q r12 σ11)) ∧
                              (¬ p1 = 5 →
                                wp_X9_manyUnseen σ4 (fun r14 σ13 =>
                                  Q r14 σ13))))))))))))))))
set_option maxRecDepth 100000 in
set_option maxHeartbeats 4000000 in
theorem t_X9_sightAccount {X : XT} {B : Nat} (hC : Cx X 3 cX9_sightAccount RX9 (rmN 3 90)) {Q : Int32 → SS → Prop} (hR : RtI X 3 B 103 RS cX9_sightAccount Q) {σ : SS} {p1 : Int32} (hw : wp_X9_sightAccount  σ p1 Q) : J X 3 B 103 RS 0 0 σ [(0, .ref (B + 0)), (1, .int p1)] 0 [] := by
  unfold wp_X9_sightAccount at hw
  refine j_aload_n 0 hC 0 (dg DX9_sightAccount 0 rfl) rfl rfl ?_
  refine j_getR 1 hC fX9_32 (k_0) (by decide) (by decide) rfl (dg DX9_sightAccount 1 rfl) ?_
  refine j_aload_n 4 hC 0 (dg DX9_sightAccount 2 rfl) rfl rfl ?_
  refine j_getR 5 hC fX9_10 (k_0) (by decide) (by decide) rfl (dg DX9_sightAccount 3 rfl) ?_
  refine j_aload_n 8 hC 0 (dg DX9_sightAccount 4 rfl) rfl rfl ?_
  refine j_getR 9 hC fX9_10 (k_0) (by decide) (by decide) rfl (dg DX9_sightAccount 5 rfl) ?_
  refine j_getI 12 hC fX9_134 (k_1) (by decide) (by decide) rfl (dg DX9_sightAccount 6 rfl) ?_
  refine j_Vv (As := [.ref (B + 1), .int (σ 1 7)]) 15 hC (m_X6_lookAt isW_1 hw) kX9_137 (k_80) (by decide) ⟨_, _, rfl⟩ (rmN_ok (by decide) (by decide)) rfl rfl (Nat.le_of_ble_eq_true rfl) (dg DX9_sightAccount 7 rfl) (fun σ1 hw => ?_)
  refine j_aload_n 18 hC 0 (dg DX9_sightAccount 8 rfl) rfl rfl ?_
  refine j_getR 19 hC fX9_32 (k_0) (by decide) (by decide) rfl (dg DX9_sightAccount 9 rfl) ?_
  refine j_aload_n 22 hC 0 (dg DX9_sightAccount 10 rfl) rfl rfl ?_
  refine j_getR 23 hC fX9_32 (k_0) (by decide) (by decide) rfl (dg DX9_sightAccount 11 rfl) ?_
  refine j_getI 26 hC fX9_163 (k_80) (by decide) (by decide) rfl (dg DX9_sightAccount 12 rfl) ?_
  refine j_Vi (As := [.int (σ1 80 2)]) 29 hC (m_X6_seenBySet  hw) kX9_171 (k_80) (by decide) ⟨_, _, rfl⟩ (rmN_ok (by decide) (by decide)) rfl rfl (Nat.le_of_ble_eq_true rfl) (dg DX9_sightAccount 13 rfl) (fun r3 σ2 hw => ?_)
  refine j_istore_n 32 hC [(2, .int r3), (0, .ref (B + 0)), (1, .int p1)] (dg DX9_sightAccount 14 rfl) rfl (by decide) rfl ?_
  refine j_aload_n 33 hC 1 (dg DX9_sightAccount 15 rfl) rfl rfl ?_
  refine j_getR 34 hC fX9_46 (k_0) (by decide) (by decide) rfl (dg DX9_sightAccount 16 rfl) ?_
  refine j_iload_n 37 hC 0 (dg DX9_sightAccount 17 rfl) rfl rfl ?_
  refine j_Vv (As := [.int r3]) 38 hC (m_X1_find  hw) kX9_174 (k_85) (by decide) ⟨_, _, rfl⟩ (rmN_ok (by decide) (by decide)) rfl rfl (Nat.le_of_ble_eq_true rfl) (dg DX9_sightAccount 18 rfl) (fun σ4 hw => ?_)
  refine j_iload_n 41 hC 2 (dg DX9_sightAccount 19 rfl) rfl rfl ?_
  by_cases n0 : p1 = 0
  · replace hw := hw.1 n0
    refine j_tableIn 42 80 hC (dg DX9_sightAccount 20 rfl) (by rw [n0]; decide) (by rw [n0]; decide) (off := 38) (by rw [n0]; rfl) (by decide) ?_
    refine j_aload_n 80 hC 1 (dg DX9_sightAccount 21 rfl) rfl rfl ?_
    refine j_getR 81 hC fX9_10 (k_0) (by decide) (by decide) rfl (dg DX9_sightAccount 22 rfl) ?_
    refine j_getI 84 hC fX9_203 (k_1) (by decide) (by decide) rfl (dg DX9_sightAccount 23 rfl) ?_
    exact hR 87 _ _ _ (dg DX9_sightAccount 24 rfl) hw
  replace hw := hw.2 n0
  by_cases n1 : p1 = 1
  · replace hw := hw.1 n1
    refine j_tableIn 42 88 hC (dg DX9_sightAccount 20 rfl) (by rw [n1]; decide) (by rw [n1]; decide) (off := 46) (by rw [n1]; rfl) (by decide) ?_
    refine j_aload_n 88 hC 1 (dg DX9_sightAccount 25 rfl) rfl rfl ?_
    refine j_getR 89 hC fX9_32 (k_0) (by decide) (by decide) rfl (dg DX9_sightAccount 26 rfl) ?_
    refine j_getI 92 hC fX9_163 (k_80) (by decide) (by decide) rfl (dg DX9_sightAccount 27 rfl) ?_
    refine j_Si (As := [.int (σ4 80 2)]) 95 hC (m_J6_bitCount_0f7a4  hw) kX9_166 (rmN_ok (by decide) (by decide)) rfl rfl (Nat.le_of_ble_eq_true rfl) (dg DX9_sightAccount 28 rfl) (fun r6 σ5 hw => ?_)
    exact hR 98 _ _ _ (dg DX9_sightAccount 29 rfl) hw
  replace hw := hw.2 n1
  by_cases n2 : p1 = 2
  · replace hw := hw.1 n2
    refine j_tableIn 42 99 hC (dg DX9_sightAccount 20 rfl) (by rw [n2]; decide) (by rw [n2]; decide) (off := 57) (by rw [n2]; rfl) (by decide) ?_
    refine j_iload_n 99 hC 0 (dg DX9_sightAccount 30 rfl) rfl rfl ?_
    refine j_Si (As := [.int r3]) 100 hC (m_J6_bitCount_0f7a4  hw) kX9_166 (rmN_ok (by decide) (by decide)) rfl rfl (Nat.le_of_ble_eq_true rfl) (dg DX9_sightAccount 31 rfl) (fun r8 σ7 hw => ?_)
    exact hR 103 _ _ _ (dg DX9_sightAccount 32 rfl) hw
  replace hw := hw.2 n2
  by_cases n3 : p1 = 3
  · replace hw := hw.1 n3
    refine j_tableIn 42 104 hC (dg DX9_sightAccount 20 rfl) (by rw [n3]; decide) (by rw [n3]; decide) (off := 62) (by rw [n3]; rfl) (by decide) ?_
    refine j_aload_n 104 hC 1 (dg DX9_sightAccount 33 rfl) rfl rfl ?_
    refine j_getR 105 hC fX9_32 (k_0) (by decide) (by decide) rfl (dg DX9_sightAccount 34 rfl) ?_
    refine j_Vi (As := []) 108 hC (m_X6_overlaps  hw) kX9_354 (k_80) (by decide) ⟨_, _, rfl⟩ (rmN_ok (by decide) (by decide)) rfl rfl (Nat.le_of_ble_eq_true rfl) (dg DX9_sightAccount 35 rfl) (fun r10 σ9 hw => ?_)
    exact hR 111 _ _ _ (dg DX9_sightAccount 36 rfl) hw
  replace hw := hw.2 n3
  by_cases n4 : p1 = 4
  · replace hw := hw.1 n4
    refine j_tableIn 42 112 hC (dg DX9_sightAccount 20 rfl) (by rw [n4]; decide) (by rw [n4]; decide) (off := 70) (by rw [n4]; rfl) (by decide) ?_
    refine j_aload_n 112 hC 1 (dg DX9_sightAccount 37 rfl) rfl rfl ?_
    refine j_getR 113 hC fX9_46 (k_0) (by decide) (by decide) rfl (dg DX9_sightAccount 38 rfl) ?_
    refine j_getI 116 hC fX9_357 (k_85) (by decide) (by decide) rfl (dg DX9_sightAccount 39 rfl) ?_
    exact hR 119 _ _ _ (dg DX9_sightAccount 40 rfl) hw
  replace hw := hw.2 n4
  by_cases n5 : p1 = 5
  · replace hw := hw.1 n5
    refine j_tableIn 42 120 hC (dg DX9_sightAccount 20 rfl) (by rw [n5]; decide) (by rw [n5]; decide) (off := 78) (by rw [n5]; rfl) (by decide) ?_
    refine j_aload_n 120 hC 1 (dg DX9_sightAccount 41 rfl) rfl rfl ?_
    refine j_getR 121 hC fX9_46 (k_0) (by decide) (by decide) rfl (dg DX9_sightAccount 42 rfl) ?_
    refine j_Vi (As := []) 124 hC (m_X1_longest  hw) kX9_358 (k_85) (by decide) ⟨_, _, rfl⟩ (rmN_ok (by decide) (by decide)) rfl rfl (Nat.le_of_ble_eq_true rfl) (dg DX9_sightAccount 43 rfl) (fun r12 σ11 hw => ?_)
    exact hR 127 _ _ _ (dg DX9_sightAccount 44 rfl) hw
  replace hw := hw.2 n5
  have hout : (p1).toInt < 0 ∨ 5 < (p1).toInt := by
    have q0 : (p1).toInt ≠ 0 := i32_ne n0
    have q1 : (p1).toInt ≠ 1 := i32_ne n1
    have q2 : (p1).toInt ≠ 2 := i32_ne n2
    have q3 : (p1).toInt ≠ 3 := i32_ne n3
    have q4 : (p1).toInt ≠ 4 := i32_ne n4
    have q5 : (p1).toInt ≠ 5 := i32_ne n5
    omega
  refine j_tableOut 42 128 hC (dg DX9_sightAccount 20 rfl) hout (by decide) ?_
  refine j_aload_n 128 hC 1 (dg DX9_sightAccount 45 rfl) rfl rfl ?_
  refine j_Vi (As := []) 129 hC (m_X9_manyUnseen  hw) kX9_323 (k_0) (by decide) ⟨_, _, rfl⟩ (rmN_ok (by decide) (by decide)) rfl rfl (Nat.le_of_ble_eq_true rfl) (dg DX9_sightAccount 46 rfl) (fun r14 σ13 hw => ?_)
  exact hR 132 _ _ _ (dg DX9_sightAccount 47 rfl) hw
theorem m_X9_sightAccount {B : Nat} {σ : SS} {p1 : Int32} {Q : Int32 → SS → Prop} (hw : wp_X9_sightAccount  σ p1 Q) : MI yX9_sightAccount cX9_sightAccount 3 (some .int) 3 90 B 103 RS [.ref (B + 0), .int p1] σ Q := MI.mk (plainFor_of_name (by decide)) (Nat.le_of_ble_eq_true rfl) (fun X hC hR => t_X9_sightAccount hC  hR hw)
-- FortressWatch.account
def wp_X9_account  (σ : SS) (p1 : Int32) (Q : Int32 → SS → Prop) : Prop :=
  ((p1 < 0 →
      Q (-2) σ) ∧
    (¬ p1 < 0 →
      ((p1 ≤ 12 →
          ((p1 = 11 →
              Q (σ 90 2) σ) ∧
            (¬ p1 = 11 →
              ((p1 = 12 →
                  Q (σ 22 2) σ) ∧
                (¬ p1 = 12 →
                  ((p1 < 7 →
                      wp_X9_sightAccount σ p1 (fun r2 σ1 =>
                        Q r2 σ1)) ∧
                    (¬ p1 < 7 →
                      wp_X8_accountOf 1 σ p1 (fun r4 σ3 =>
                        Q r4 σ3)))))))) ∧
        (¬ p1 ≤ 12 →
          Q (-2) σ))))
set_option maxRecDepth 100000 in
set_option maxHeartbeats 4000000 in
theorem t_X9_account {X : XT} {B : Nat} (hC : Cx X 2 cX9_account RX9 (rmN 4 112)) {Q : Int32 → SS → Prop} (hR : RtI X 2 B 103 RS cX9_account Q) {σ : SS} {p1 : Int32} (hw : wp_X9_account  σ p1 Q) : J X 2 B 103 RS 0 0 σ [(0, .ref (B + 0)), (1, .int p1)] 0 [] := by
  unfold wp_X9_account at hw
  refine j_iload_n 0 hC 1 (dg DX9_account 0 rfl) rfl rfl ?_
  refine j_if_lt 1 10 hC (dg DX9_account 1 rfl) (by decide) (fun hbr => ?_) (fun hbr => ?_)
  · replace hw := hw.1 hbr
    refine j_bipush 10 hC (dg DX9_account 5 rfl) (v := (-2)) (by decide) ?_
    exact hR 12 _ _ _ (dg DX9_account 6 rfl) hw
  · replace hw := hw.2 hbr
    refine j_iload_n 4 hC 1 (dg DX9_account 2 rfl) rfl rfl ?_
    refine j_bipush 5 hC (dg DX9_account 3 rfl) (v := 12) (by decide) ?_
    refine j_icmp_le 7 13 hC (dg DX9_account 4 rfl) (by decide) (fun hbr => ?_) (fun hbr => ?_)
    · replace hw := hw.1 hbr
      refine j_iload_n 13 hC 1 (dg DX9_account 7 rfl) rfl rfl ?_
      refine j_bipush 14 hC (dg DX9_account 8 rfl) (v := 11) (by decide) ?_
      refine j_icmp_ne 16 27 hC (dg DX9_account 9 rfl) (by decide) (fun hbr => ?_) (fun hbr => ?_)
      · replace hw := hw.2 hbr
        refine j_iload_n 27 hC 1 (dg DX9_account 14 rfl) rfl rfl ?_
        refine j_bipush 28 hC (dg DX9_account 15 rfl) (v := 12) (by decide) ?_
        refine j_icmp_ne 30 41 hC (dg DX9_account 16 rfl) (by decide) (fun hbr => ?_) (fun hbr => ?_)
        · replace hw := hw.2 hbr
          refine j_iload_n 41 hC 1 (dg DX9_account 21 rfl) rfl rfl ?_
          refine j_bipush 42 hC (dg DX9_account 22 rfl) (v := 7) (by decide) ?_
          refine j_icmp_lt 44 58 hC (dg DX9_account 23 rfl) (by decide) (fun hbr => ?_) (fun hbr => ?_)
          · replace hw := hw.1 hbr
            refine j_aload_n 58 hC 0 (dg DX9_account 29 rfl) rfl rfl ?_
            refine j_iload_n 59 hC 1 (dg DX9_account 30 rfl) rfl rfl ?_
            refine j_Vi (As := [.int p1]) 60 hC (m_X9_sightAccount  hw) kX9_265 (k_0) (by decide) ⟨_, _, rfl⟩ (rmN_ok (by decide) (by decide)) rfl rfl (Nat.le_of_ble_eq_true rfl) (dg DX9_account 31 rfl) (fun r2 σ1 hw => ?_)
            exact hR 63 _ _ _ (dg DX9_account 32 rfl) hw
          · replace hw := hw.2 hbr
            refine j_aload_n 47 hC 0 (dg DX9_account 24 rfl) rfl rfl ?_
            refine j_getR 48 hC fX9_10 (k_0) (by decide) (by decide) rfl (dg DX9_account 25 rfl) ?_
            refine j_iload_n 51 hC 1 (dg DX9_account 26 rfl) rfl rfl ?_
            refine j_Vi (As := [.int p1]) 52 hC (m_X8_accountOf isW_1 hw) kX9_262 (k_1) (by decide) ⟨_, _, rfl⟩ (rmN_ok (by decide) (by decide)) rfl rfl (Nat.le_of_ble_eq_true rfl) (dg DX9_account 27 rfl) (fun r4 σ3 hw => ?_)
            refine j_goto 55 63 hC (dg DX9_account 28 rfl) (by decide) ?_
            exact hR 63 _ _ _ (dg DX9_account 32 rfl) hw
        · replace hw := hw.1 hbr
          refine j_aload_n 33 hC 0 (dg DX9_account 17 rfl) rfl rfl ?_
          refine j_getR 34 hC fX9_25 (k_0) (by decide) (by decide) rfl (dg DX9_account 18 rfl) ?_
          refine j_getI 37 hC fX9_259 (k_22) (by decide) (by decide) rfl (dg DX9_account 19 rfl) ?_
          exact hR 40 _ _ _ (dg DX9_account 20 rfl) hw
      · replace hw := hw.1 hbr
        refine j_aload_n 19 hC 0 (dg DX9_account 10 rfl) rfl rfl ?_
        refine j_getR 20 hC fX9_60 (k_0) (by decide) (by decide) rfl (dg DX9_account 11 rfl) ?_
        refine j_getI 23 hC fX9_258 (k_90) (by decide) (by decide) rfl (dg DX9_account 12 rfl) ?_
        exact hR 26 _ _ _ (dg DX9_account 13 rfl) hw
    · replace hw := hw.2 hbr
      refine j_bipush 10 hC (dg DX9_account 5 rfl) (v := (-2)) (by decide) ?_
      exact hR 12 _ _ _ (dg DX9_account 6 rfl) hw
theorem m_X9_account {B : Nat} {σ : SS} {p1 : Int32} {Q : Int32 → SS → Prop} (hw : wp_X9_account  σ p1 Q) : MI yX9_account cX9_account 2 (some .int) 4 112 B 103 RS [.ref (B + 0), .int p1] σ Q := MI.mk (plainFor_of_name (by decide)) (Nat.le_of_ble_eq_true rfl) (fun X hC hR => t_X9_account hC  hR hw)
