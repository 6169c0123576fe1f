-- FortressWatchModel.hour
def wp_X10_hour  (σ : SS) (p1 : Int32) (Q : Int32 → SS → Prop) : Prop :=
  wp_X10_keeps σ (fun σ1 =>
    wp_X10_tellsHour σ1 p1 (fun r3 σ2 =>
      wp_X10_ends σ2 r3 (fun r5 σ4 =>
        Q r5 σ4)))
set_option maxRecDepth 100000 in
set_option maxHeartbeats 4000000 in
theorem t_X10_hour {X : XT} {B : Nat} (hC : Cx X 2 cX10_hour RX10 (rmN 3 66)) {Q : Int32 → SS → Prop} (hR : RtI X 2 B 103 RS cX10_hour Q) {σ : SS} {p1 : Int32} (hw : wp_X10_hour  σ p1 Q) : J X 2 B 103 RS 0 0 σ [(0, .ref (B + 95)), (1, .int p1)] 0 [] := by
  unfold wp_X10_hour at hw
  refine j_aload_n 0 hC 0 (dg DX10_hour 0 rfl) rfl rfl ?_
  refine j_Vv (As := []) 1 hC (m_X10_keeps  hw) kX10_97 (k_95) (by decide) ⟨_, _, rfl⟩ (rmN_ok (by decide) (by decide)) rfl rfl (Nat.le_of_ble_eq_true rfl) (dg DX10_hour 1 rfl) (fun σ1 hw => ?_)
  refine j_aload_n 4 hC 0 (dg DX10_hour 2 rfl) rfl rfl ?_
  refine j_aload_n 5 hC 0 (dg DX10_hour 3 rfl) rfl rfl ?_
  refine j_iload_n 6 hC 1 (dg DX10_hour 4 rfl) rfl rfl ?_
  refine j_Vi (As := [.int p1]) 7 hC (m_X10_tellsHour  hw) kX10_141 (k_95) (by decide) ⟨_, _, rfl⟩ (rmN_ok (by decide) (by decide)) rfl rfl (Nat.le_of_ble_eq_true rfl) (dg DX10_hour 5 rfl) (fun r3 σ2 hw => ?_)
  refine j_Vi (As := [.int r3]) 10 hC (m_X10_ends  hw) kX10_104 (k_95) (by decide) ⟨_, _, rfl⟩ (rmN_ok (by decide) (by decide)) rfl rfl (Nat.le_of_ble_eq_true rfl) (dg DX10_hour 6 rfl) (fun r5 σ4 hw => ?_)
  exact hR 13 _ _ _ (dg DX10_hour 7 rfl) hw
theorem m_X10_hour {B : Nat} {σ : SS} {p1 : Int32} {Q : Int32 → SS → Prop} (hw : wp_X10_hour  σ p1 Q) : MI yX10_hour cX10_hour 2 (some .int) 3 66 B 103 RS [.ref (B + 95), .int p1] σ Q := MI.mk (plainFor_of_name (by decide)) (Nat.le_of_ble_eq_true rfl) (fun X hC hR => t_X10_hour hC  hR hw)
-- FortressWatchModel.fewestIn
def bd_X10_fewestIn_5    (Q : Int32 → SS → Prop) (l1 : Int32) (rc : SS → Int32 → Int32 → Prop) (σ : SS) (v2 : Int32) (v3 : Int32) : Prop :=
  wp_X10_all σ (fun r2 σ1 =>
    ((r2 < v3 →
        Q v2 σ1) ∧
      (¬ r2 < v3 →
        wp_X10_seenIn σ1 v3 l1 (fun r4 σ3 =>
          ((r4 = 16777215 →
              ((v2 = (-4) →
                  rc σ3 v3 (v3 + 1)) ∧
                (¬ v2 = (-4) →
                  wp_X10_bits σ3 v3 (fun r6 σ5 =>
                    wp_X10_bits σ5 v2 (fun r8 σ7 =>
                      ((r8 ≤ r6 →
                          rc σ7 v2 (v3 + 1)) ∧
                        (¬ r8 ≤ r6 →
                          rc σ7 v3 (v3 + 1)))))))) ∧
            (¬ r4 = 16777215 →
              rc σ3 v2 (v3 + 1)))))))
def wp_X10_fewestIn  (σ : SS) (p1 : Int32) (Q : Int32 → SS → Prop) : Prop :=
  ∃ k9, Lii (bd_X10_fewestIn_5 Q p1) k9 σ (-4) 0
set_option maxRecDepth 100000 in
set_option maxHeartbeats 4000000 in
theorem tb_X10_fewestIn_5 {X : XT} {B : Nat} (hC : Cx X 5 cX10_fewestIn RX10 (rmN 3 72)) {Q : Int32 → SS → Prop} {l1 : Int32} (hR : RtI X 5 B 103 RS cX10_fewestIn Q) {rc : SS → Int32 → Int32 → Prop} (hrc : ∀ (σ : SS) (v2 : Int32) (v3 : Int32), rc σ v2 v3 → J X 5 B 103 RS 0 0 σ [(0, .ref (B + 95)), (1, .int l1), (2, .int v2), (3, .int v3)] 5 []) : ∀ (σ : SS) (v2 : Int32) (v3 : Int32), bd_X10_fewestIn_5 Q l1 rc σ v2 v3 → J X 5 B 103 RS 0 0 σ [(0, .ref (B + 95)), (1, .int l1), (2, .int v2), (3, .int v3)] 5 [] := by
  intro σ v2 v3 hw
  unfold bd_X10_fewestIn_5 at hw
  refine j_iload_n 5 hC 3 (dg DX10_fewestIn 4 rfl) rfl rfl ?_
  refine j_aload_n 6 hC 0 (dg DX10_fewestIn 5 rfl) rfl rfl ?_
  refine j_Vi (As := []) 7 hC (m_X10_all  hw) kX10_144 (k_95) (by decide) ⟨_, _, rfl⟩ (rmN_ok (by decide) (by decide)) rfl rfl (Nat.le_of_ble_eq_true rfl) (dg DX10_fewestIn 6 rfl) (fun r2 σ1 hw => ?_)
  refine j_icmp_gt 10 65 hC (dg DX10_fewestIn 7 rfl) (by decide) (fun hbr => ?_) (fun hbr => ?_)
  · replace hw := hw.1 hbr
    refine j_iload_n 65 hC 2 (dg DX10_fewestIn 34 rfl) rfl rfl ?_
    exact hR 66 _ _ _ (dg DX10_fewestIn 35 rfl) hw
  · replace hw := hw.2 hbr
    refine j_aload_n 13 hC 0 (dg DX10_fewestIn 8 rfl) rfl rfl ?_
    refine j_iload_n 14 hC 3 (dg DX10_fewestIn 9 rfl) rfl rfl ?_
    refine j_iload_n 15 hC 1 (dg DX10_fewestIn 10 rfl) rfl rfl ?_
    refine j_Vi (As := [.int v3, .int l1]) 16 hC (m_X10_seenIn  hw) kX10_77 (k_95) (by decide) ⟨_, _, rfl⟩ (rmN_ok (by decide) (by decide)) rfl rfl (Nat.le_of_ble_eq_true rfl) (dg DX10_fewestIn 11 rfl) (fun r4 σ3 hw => ?_)
    refine j_ldc 19 hC (dg DX10_fewestIn 12 rfl) w_1050 ?_
    refine j_icmp_ne 21 28 hC (dg DX10_fewestIn 13 rfl) (by decide) (fun hbr => ?_) (fun hbr => ?_)
    · replace hw := hw.2 hbr
      refine j_iconst 28 hC (dg DX10_fewestIn 16 rfl) (v := 0) (by decide) ?_
      refine j_istore 29 hC [(4, .int 0), (0, .ref (B + 95)), (1, .int l1), (2, .int v2), (3, .int v3)] (dg DX10_fewestIn 17 rfl) (by decide) rfl ?_
      refine j_iload 31 hC 0 (dg DX10_fewestIn 18 rfl) rfl ?_
      refine j_if_eq 33 57 hC (dg DX10_fewestIn 19 rfl) (by decide) (fun _ => ?_) (fun c => absurd c (by decide))
      refine j_iload_n 57 hC 3 (dg DX10_fewestIn 30 rfl) rfl rfl ?_
      refine j_istore_n 58 hC [(2, .int v2), (4, .int 0), (0, .ref (B + 95)), (1, .int l1), (3, .int v3)] (dg DX10_fewestIn 31 rfl) rfl (by decide) rfl ?_
      refine j_iinc 59 hC 4 (v3 + 1) [(3, .int (v3 + 1)), (2, .int v2), (4, .int 0), (0, .ref (B + 95)), (1, .int l1)] (dg DX10_fewestIn 32 rfl) rfl rfl (by decide) rfl ?_
      refine j_goto 62 5 hC (dg DX10_fewestIn 33 rfl) (by decide) ?_
      refine j_lv [3, 4, 1, 0] (lv' := [(0, .ref (B + 95)), (1, .int l1), (2, .int v2), (3, .int (v3 + 1))]) rfl ?_
      exact hrc _ _ _ hw
    · replace hw := hw.1 hbr
      refine j_iconst 24 hC (dg DX10_fewestIn 14 rfl) (v := 1) (by decide) ?_
      refine j_goto 25 29 hC (dg DX10_fewestIn 15 rfl) (by decide) ?_
      refine j_istore 29 hC [(4, .int 1), (0, .ref (B + 95)), (1, .int l1), (2, .int v2), (3, .int v3)] (dg DX10_fewestIn 17 rfl) (by decide) rfl ?_
      refine j_iload 31 hC 0 (dg DX10_fewestIn 18 rfl) rfl ?_
      refine j_if_eq 33 57 hC (dg DX10_fewestIn 19 rfl) (by decide) (fun c => absurd c (by decide)) (fun _ => ?_)
      refine j_iload_n 36 hC 3 (dg DX10_fewestIn 20 rfl) rfl rfl ?_
      refine j_bipush 37 hC (dg DX10_fewestIn 21 rfl) (v := (-4)) (by decide) ?_
      refine j_icmp_eq 39 53 hC (dg DX10_fewestIn 22 rfl) (by decide) (fun hbr => ?_) (fun hbr => ?_)
      · replace hw := hw.1 hbr
        refine j_iload_n 53 hC 4 (dg DX10_fewestIn 28 rfl) rfl rfl ?_
        refine j_goto 54 58 hC (dg DX10_fewestIn 29 rfl) (by decide) ?_
        refine j_istore_n 58 hC [(2, .int v3), (4, .int 1), (0, .ref (B + 95)), (1, .int l1), (3, .int v3)] (dg DX10_fewestIn 31 rfl) rfl (by decide) rfl ?_
        refine j_iinc 59 hC 4 (v3 + 1) [(3, .int (v3 + 1)), (2, .int v3), (4, .int 1), (0, .ref (B + 95)), (1, .int l1)] (dg DX10_fewestIn 32 rfl) rfl rfl (by decide) rfl ?_
        refine j_goto 62 5 hC (dg DX10_fewestIn 33 rfl) (by decide) ?_
        refine j_lv [3, 4, 1, 0] (lv' := [(0, .ref (B + 95)), (1, .int l1), (2, .int v3), (3, .int (v3 + 1))]) rfl ?_
        exact hrc _ _ _ hw
      · replace hw := hw.2 hbr
        refine j_iload_n 42 hC 4 (dg DX10_fewestIn 23 rfl) rfl rfl ?_
        refine j_Si (As := [.int v3]) 43 hC (m_X10_bits  hw) kX10_119 (rmN_ok (by decide) (by decide)) rfl rfl (Nat.le_of_ble_eq_true rfl) (dg DX10_fewestIn 24 rfl) (fun r6 σ5 hw => ?_)
        refine j_iload_n 46 hC 3 (dg DX10_fewestIn 25 rfl) rfl rfl ?_
        refine j_Si (As := [.int v2]) 47 hC (m_X10_bits  hw) kX10_119 (rmN_ok (by decide) (by decide)) rfl rfl (Nat.le_of_ble_eq_true rfl) (dg DX10_fewestIn 26 rfl) (fun r8 σ7 hw => ?_)
        refine j_icmp_ge 50 57 hC (dg DX10_fewestIn 27 rfl) (by decide) (fun hbr => ?_) (fun hbr => ?_)
        · replace hw := hw.1 hbr
          refine j_iload_n 57 hC 3 (dg DX10_fewestIn 30 rfl) rfl rfl ?_
          refine j_istore_n 58 hC [(2, .int v2), (4, .int 1), (0, .ref (B + 95)), (1, .int l1), (3, .int v3)] (dg DX10_fewestIn 31 rfl) rfl (by decide) rfl ?_
          refine j_iinc 59 hC 4 (v3 + 1) [(3, .int (v3 + 1)), (2, .int v2), (4, .int 1), (0, .ref (B + 95)), (1, .int l1)] (dg DX10_fewestIn 32 rfl) rfl rfl (by decide) rfl ?_
          refine j_goto 62 5 hC (dg DX10_fewestIn 33 rfl) (by decide) ?_
          refine j_lv [3, 4, 1, 0] (lv' := [(0, .ref (B + 95)), (1, .int l1), (2, .int v2), (3, .int (v3 + 1))]) rfl ?_
          exact hrc _ _ _ hw
        · replace hw := hw.2 hbr
          refine j_iload_n 53 hC 4 (dg DX10_fewestIn 28 rfl) rfl rfl ?_
          refine j_goto 54 58 hC (dg DX10_fewestIn 29 rfl) (by decide) ?_
          refine j_istore_n 58 hC [(2, .int v3), (4, .int 1), (0, .ref (B + 95)), (1, .int l1), (3, .int v3)] (dg DX10_fewestIn 31 rfl) rfl (by decide) rfl ?_
          refine j_iinc 59 hC 4 (v3 + 1) [(3, .int (v3 + 1)), (2, .int v3), (4, .int 1), (0, .ref (B + 95)), (1, .int l1)] (dg DX10_fewestIn 32 rfl) rfl rfl (by decide) rfl ?_
          refine j_goto 62 5 hC (dg DX10_fewestIn 33 rfl) (by decide) ?_
          refine j_lv [3, 4, 1, 0] (lv' := [(0, .ref (B + 95)), (1, .int l1), (2, .int v3), (3, .int (v3 + 1))]) rfl ?_
          exact hrc _ _ _ hw
set_option maxRecDepth 100000 in
set_option maxHeartbeats 4000000 in
theorem t_X10_fewestIn {X : XT} {B : Nat} (hC : Cx X 5 cX10_fewestIn RX10 (rmN 3 72)) {Q : Int32 → SS → Prop} (hR : RtI X 5 B 103 RS cX10_fewestIn Q) {σ : SS} {p1 : Int32} (hw : wp_X10_fewestIn  σ p1 Q) : J X 5 B 103 RS 0 0 σ [(0, .ref (B + 95)), (1, .int p1)] 0 [] := by
  unfold wp_X10_fewestIn at hw
  refine j_bipush 0 hC (dg DX10_fewestIn 0 rfl) (v := (-4)) (by decide) ?_
  refine j_istore_n 2 hC [(2, .int (-4)), (0, .ref (B + 95)), (1, .int p1)] (dg DX10_fewestIn 1 rfl) rfl (by decide) rfl ?_
  refine j_iconst 3 hC (dg DX10_fewestIn 2 rfl) (v := 0) (by decide) ?_
  refine j_istore_n 4 hC [(3, .int 0), (2, .int (-4)), (0, .ref (B + 95)), (1, .int p1)] (dg DX10_fewestIn 3 rfl) rfl (by decide) rfl ?_
  obtain ⟨k9, hw⟩ := hw
  refine j_lv [2, 3, 1, 0] (lv' := [(0, .ref (B + 95)), (1, .int p1), (2, .int (-4)), (3, .int 0)]) rfl ?_
  exact Lii.snd (P := fun τ w2 w3 => J X 5 B 103 RS 0 0 τ [(0, .ref (B + 95)), (1, .int p1), (2, .int w2), (3, .int w3)] 5 []) (fun rcc hrcc => tb_X10_fewestIn_5 hC  hR  hrcc) k9 _ _ _ hw
theorem m_X10_fewestIn {B : Nat} {σ : SS} {p1 : Int32} {Q : Int32 → SS → Prop} (hw : wp_X10_fewestIn  σ p1 Q) : MI yX10_fewestIn cX10_fewestIn 5 (some .int) 3 72 B 103 RS [.ref (B + 95), .int p1] σ Q := MI.mk (plainFor_of_name (by decide)) (Nat.le_of_ble_eq_true rfl) (fun X hC hR => t_X10_fewestIn hC  hR hw)
-- FortressWatchModel.watching
def bd_X10_watching_49    (Q : Int32 → SS → Prop) (l1 : Int32) (rc : SS → Int32 → Prop) (σ : SS) (v2 : Int32) : Prop :=
  (((σ 96 0) ≤ v2 →
      wp_X10_bits (u2 σ 96 4 ((σ 96 4) + 1)) l1 (fun r12 σ11 =>
        Q r12 σ11)) ∧
    (¬ (σ 96 0) ≤ v2 →
      wp_X10_has σ l1 v2 (fun r14 σ13 =>
        ((r14 = 0 →
            wp_X10_sets σ13 v2 5 0 (fun σ15 =>
              rc σ15 (v2 + 1))) ∧
          (¬ r14 = 0 →
            wp_X10_sets σ13 v2 5 1 (fun σ16 =>
              rc σ16 (v2 + 1)))))))
def wp_X10_watching  (σ : SS)  (Q : Int32 → SS → Prop) : Prop :=
  wp_X10_fewestIn σ (σ 96 1) (fun r2 σ1 =>
    ((r2 = (-4) →
        wp_X10_all σ1 (fun r19 σ18 =>
          wp_X10_seen σ18 r19 (fun r21 σ20 =>
            wp_X10_bits σ20 r21 (fun r23 σ22 =>
              wp_X10_isRefused σ22 1 4 (24 - r23) (fun r25 σ24 =>
                ((r25 = 0 →
                    ∃ k26, Li (bd_X10_watching_49 Q r2) k26 σ24 0) ∧
                  (¬ r25 = 0 →
                    Q (-3) σ24))))))) ∧
      (¬ r2 = (-4) →
        wp_X10_all σ1 (fun r4 σ3 =>
          wp_X10_seen σ3 r4 (fun r6 σ5 =>
            wp_X10_bits σ5 r6 (fun r8 σ7 =>
              wp_X10_isRefused σ7 0 4 (24 - r8) (fun r10 σ9 =>
                ((r10 = 0 →
                    ∃ k17, Li (bd_X10_watching_49 Q r2) k17 σ9 0) ∧
                  (¬ r10 = 0 →
                    Q (-3) σ9)))))))))
set_option maxRecDepth 100000 in
set_option maxHeartbeats 4000000 in
theorem tb_X10_watching_49 {X : XT} {B : Nat} (hC : Cx X 3 cX10_watching RX10 (rmN 4 96)) {Q : Int32 → SS → Prop} {l1 : Int32} (hR : RtI X 3 B 103 RS cX10_watching Q) {rc : SS → Int32 → Prop} (hrc : ∀ (σ : SS) (v2 : Int32), rc σ v2 → J X 3 B 103 RS 0 0 σ [(0, .ref (B + 95)), (1, .int l1), (2, .int v2)] 49 []) : ∀ (σ : SS) (v2 : Int32), bd_X10_watching_49 Q l1 rc σ v2 → J X 3 B 103 RS 0 0 σ [(0, .ref (B + 95)), (1, .int l1), (2, .int v2)] 49 [] := by
  intro σ v2 hw
  unfold bd_X10_watching_49 at hw
  refine j_iload_n 49 hC 2 (dg DX10_watching 28 rfl) rfl rfl ?_
  refine j_aload_n 50 hC 0 (dg DX10_watching 29 rfl) rfl rfl ?_
  refine j_getR 51 hC fX10_9 (k_95) (by decide) (by decide) rfl (dg DX10_watching 30 rfl) ?_
  refine j_iconst 54 hC (dg DX10_watching 31 rfl) (v := 0) (by decide) ?_
  refine j_iald0 55 0 hC (k_96) (by decide) (by unfold vp_in; decide) rfl (dg DX10_watching 32 rfl) ?_
  refine j_icmp_ge 56 84 hC (dg DX10_watching 33 rfl) (by decide) (fun hbr => ?_) (fun hbr => ?_)
  · replace hw := hw.1 hbr
    refine j_aload_n 84 hC 0 (dg DX10_watching 47 rfl) rfl rfl ?_
    refine j_getR 85 hC fX10_9 (k_95) (by decide) (by decide) rfl (dg DX10_watching 48 rfl) ?_
    refine j_iconst 88 hC (dg DX10_watching 49 rfl) (v := 4) (by decide) ?_
    refine j_dup2 89 hC (dg DX10_watching 50 rfl) rfl rfl ?_
    refine j_iald0 90 4 hC (k_96) (by decide) (by unfold vp_in; decide) rfl (dg DX10_watching 51 rfl) ?_
    refine j_iconst 91 hC (dg DX10_watching 52 rfl) (v := 1) (by decide) ?_
    refine j_iadd 92 hC (dg DX10_watching 53 rfl) ?_
    refine j_iast0 93 4 hC (k_96) (by decide) (by unfold vp_in; decide) rfl (dg DX10_watching 54 rfl) ?_
    refine j_iload_n 94 hC 1 (dg DX10_watching 55 rfl) rfl rfl ?_
    refine j_Si (As := [.int l1]) 95 hC (m_X10_bits  hw) kX10_119 (rmN_ok (by decide) (by decide)) rfl rfl (Nat.le_of_ble_eq_true rfl) (dg DX10_watching 56 rfl) (fun r12 σ11 hw => ?_)
    exact hR 98 _ _ _ (dg DX10_watching 57 rfl) hw
  · replace hw := hw.2 hbr
    refine j_aload_n 59 hC 0 (dg DX10_watching 34 rfl) rfl rfl ?_
    refine j_iload_n 60 hC 2 (dg DX10_watching 35 rfl) rfl rfl ?_
    refine j_iconst 61 hC (dg DX10_watching 36 rfl) (v := 5) (by decide) ?_
    refine j_iload_n 62 hC 1 (dg DX10_watching 37 rfl) rfl rfl ?_
    refine j_iload_n 63 hC 2 (dg DX10_watching 38 rfl) rfl rfl ?_
    refine j_Si (As := [.int l1, .int v2]) 64 hC (m_X10_has  hw) kX10_73 (rmN_ok (by decide) (by decide)) rfl rfl (Nat.le_of_ble_eq_true rfl) (dg DX10_watching 39 rfl) (fun r14 σ13 hw => ?_)
    refine j_if_eq 67 74 hC (dg DX10_watching 40 rfl) (by decide) (fun hbr => ?_) (fun hbr => ?_)
    · replace hw := hw.1 hbr
      refine j_iconst 74 hC (dg DX10_watching 43 rfl) (v := 0) (by decide) ?_
      refine j_Vv (As := [.int v2, .int 5, .int 0]) 75 hC (m_X10_sets  hw) kX10_93 (k_95) (by decide) ⟨_, _, rfl⟩ (rmN_ok (by decide) (by decide)) rfl rfl (Nat.le_of_ble_eq_true rfl) (dg DX10_watching 44 rfl) (fun σ15 hw => ?_)
      refine j_iinc 78 hC 2 (v2 + 1) [(2, .int (v2 + 1)), (0, .ref (B + 95)), (1, .int l1)] (dg DX10_watching 45 rfl) rfl rfl (by decide) rfl ?_
      refine j_goto 81 49 hC (dg DX10_watching 46 rfl) (by decide) ?_
      refine j_lv [1, 2, 0] (lv' := [(0, .ref (B + 95)), (1, .int l1), (2, .int (v2 + 1))]) rfl ?_
      exact hrc _ _ hw
    · replace hw := hw.2 hbr
      refine j_iconst 70 hC (dg DX10_watching 41 rfl) (v := 1) (by decide) ?_
      refine j_goto 71 75 hC (dg DX10_watching 42 rfl) (by decide) ?_
      refine j_Vv (As := [.int v2, .int 5, .int 1]) 75 hC (m_X10_sets  hw) kX10_93 (k_95) (by decide) ⟨_, _, rfl⟩ (rmN_ok (by decide) (by decide)) rfl rfl (Nat.le_of_ble_eq_true rfl) (dg DX10_watching 44 rfl) (fun σ16 hw => ?_)
      refine j_iinc 78 hC 2 (v2 + 1) [(2, .int (v2 + 1)), (0, .ref (B + 95)), (1, .int l1)] (dg DX10_watching 45 rfl) rfl rfl (by decide) rfl ?_
      refine j_goto 81 49 hC (dg DX10_watching 46 rfl) (by decide) ?_
      refine j_lv [1, 2, 0] (lv' := [(0, .ref (B + 95)), (1, .int l1), (2, .int (v2 + 1))]) rfl ?_
      exact hrc _ _ hw
set_option maxRecDepth 100000 in
set_option maxHeartbeats 4000000 in
theorem t_X10_watching {X : XT} {B : Nat} (hC : Cx X 3 cX10_watching RX10 (rmN 4 96)) {Q : Int32 → SS → Prop} (hR : RtI X 3 B 103 RS cX10_watching Q) {σ : SS} (hw : wp_X10_watching  σ  Q) : J X 3 B 103 RS 0 0 σ [(0, .ref (B + 95))] 0 [] := by
  unfold wp_X10_watching at hw
  refine j_aload_n 0 hC 0 (dg DX10_watching 0 rfl) rfl rfl ?_
  refine j_aload_n 1 hC 0 (dg DX10_watching 1 rfl) rfl rfl ?_
  refine j_getR 2 hC fX10_9 (k_95) (by decide) (by decide) rfl (dg DX10_watching 2 rfl) ?_
  refine j_iconst 5 hC (dg DX10_watching 3 rfl) (v := 1) (by decide) ?_
  refine j_iald0 6 1 hC (k_96) (by decide) (by unfold vp_in; decide) rfl (dg DX10_watching 4 rfl) ?_
  refine j_Vi (As := [.int (σ 96 1)]) 7 hC (m_X10_fewestIn  hw) kX10_148 (k_95) (by decide) ⟨_, _, rfl⟩ (rmN_ok (by decide) (by decide)) rfl rfl (Nat.le_of_ble_eq_true rfl) (dg DX10_watching 5 rfl) (fun r2 σ1 hw => ?_)
  refine j_istore_n 10 hC [(1, .int r2), (0, .ref (B + 95))] (dg DX10_watching 6 rfl) rfl (by decide) rfl ?_
  refine j_aload_n 11 hC 1 (dg DX10_watching 7 rfl) rfl rfl ?_
  refine j_iload_n 12 hC 0 (dg DX10_watching 8 rfl) rfl rfl ?_
  refine j_bipush 13 hC (dg DX10_watching 9 rfl) (v := (-4)) (by decide) ?_
  refine j_icmp_ne 15 22 hC (dg DX10_watching 10 rfl) (by decide) (fun hbr => ?_) (fun hbr => ?_)
  · replace hw := hw.2 hbr
    refine j_iconst 22 hC (dg DX10_watching 13 rfl) (v := 0) (by decide) ?_
    refine j_iconst 23 hC (dg DX10_watching 14 rfl) (v := 4) (by decide) ?_
    refine j_bipush 24 hC (dg DX10_watching 15 rfl) (v := 24) (by decide) ?_
    refine j_aload_n 26 hC 1 (dg DX10_watching 16 rfl) rfl rfl ?_
    refine j_aload_n 27 hC 1 (dg DX10_watching 17 rfl) rfl rfl ?_
    refine j_Vi (As := []) 28 hC (m_X10_all  hw) kX10_144 (k_95) (by decide) ⟨_, _, rfl⟩ (rmN_ok (by decide) (by decide)) rfl rfl (Nat.le_of_ble_eq_true rfl) (dg DX10_watching 18 rfl) (fun r4 σ3 hw => ?_)
    refine j_Vi (As := [.int r4]) 31 hC (m_X10_seen  hw) kX10_132 (k_95) (by decide) ⟨_, _, rfl⟩ (rmN_ok (by decide) (by decide)) rfl rfl (Nat.le_of_ble_eq_true rfl) (dg DX10_watching 19 rfl) (fun r6 σ5 hw => ?_)
    refine j_Si (As := [.int r6]) 34 hC (m_X10_bits  hw) kX10_119 (rmN_ok (by decide) (by decide)) rfl rfl (Nat.le_of_ble_eq_true rfl) (dg DX10_watching 20 rfl) (fun r8 σ7 hw => ?_)
    refine j_isub 37 hC (dg DX10_watching 21 rfl) ?_
    refine j_Vi (As := [.int 0, .int 4, .int (24 - r8)]) 38 hC (m_X10_isRefused  hw) kX10_89 (k_95) (by decide) ⟨_, _, rfl⟩ (rmN_ok (by decide) (by decide)) rfl rfl (Nat.le_of_ble_eq_true rfl) (dg DX10_watching 22 rfl) (fun r10 σ9 hw => ?_)
    refine j_if_eq 41 47 hC (dg DX10_watching 23 rfl) (by decide) (fun hbr => ?_) (fun hbr => ?_)
    · replace hw := hw.1 hbr
      refine j_iconst 47 hC (dg DX10_watching 26 rfl) (v := 0) (by decide) ?_
      refine j_istore_n 48 hC [(2, .int 0), (1, .int r2), (0, .ref (B + 95))] (dg DX10_watching 27 rfl) rfl (by decide) rfl ?_
      obtain ⟨k17, hw⟩ := hw
      refine j_lv [2, 1, 0] (lv' := [(0, .ref (B + 95)), (1, .int r2), (2, .int 0)]) rfl ?_
      exact Li.snd (P := fun τ w2 => J X 3 B 103 RS 0 0 τ [(0, .ref (B + 95)), (1, .int r2), (2, .int w2)] 49 []) (fun rcc hrcc => tb_X10_watching_49 hC  hR  hrcc) k17 _ _ hw
    · replace hw := hw.2 hbr
      refine j_bipush 44 hC (dg DX10_watching 24 rfl) (v := (-3)) (by decide) ?_
      exact hR 46 _ _ _ (dg DX10_watching 25 rfl) hw
  · replace hw := hw.1 hbr
    refine j_iconst 18 hC (dg DX10_watching 11 rfl) (v := 1) (by decide) ?_
    refine j_goto 19 23 hC (dg DX10_watching 12 rfl) (by decide) ?_
    refine j_iconst 23 hC (dg DX10_watching 14 rfl) (v := 4) (by decide) ?_
    refine j_bipush 24 hC (dg DX10_watching 15 rfl) (v := 24) (by decide) ?_
    refine j_aload_n 26 hC 1 (dg DX10_watching 16 rfl) rfl rfl ?_
    refine j_aload_n 27 hC 1 (dg DX10_watching 17 rfl) rfl rfl ?_
    refine j_Vi (As := []) 28 hC (m_X10_all  hw) kX10_144 (k_95) (by decide) ⟨_, _, rfl⟩ (rmN_ok (by decide) (by decide)) rfl rfl (Nat.le_of_ble_eq_true rfl) (dg DX10_watching 18 rfl) (fun r19 σ18 hw => ?_)
    refine j_Vi (As := [.int r19]) 31 hC (m_X10_seen  hw) kX10_132 (k_95) (by decide) ⟨_, _, rfl⟩ (rmN_ok (by decide) (by decide)) rfl rfl (Nat.le_of_ble_eq_true rfl) (dg DX10_watching 19 rfl) (fun r21 σ20 hw => ?_)
    refine j_Si (As := [.int r21]) 34 hC (m_X10_bits  hw) kX10_119 (rmN_ok (by decide) (by decide)) rfl rfl (Nat.le_of_ble_eq_true rfl) (dg DX10_watching 20 rfl) (fun r23 σ22 hw => ?_)
    refine j_isub 37 hC (dg DX10_watching 21 rfl) ?_
    refine j_Vi (As := [.int 1, .int 4, .int (24 - r23)]) 38 hC (m_X10_isRefused  hw) kX10_89 (k_95) (by decide) ⟨_, _, rfl⟩ (rmN_ok (by decide) (by decide)) rfl rfl (Nat.le_of_ble_eq_true rfl) (dg DX10_watching 22 rfl) (fun r25 σ24 hw => ?_)
    refine j_if_eq 41 47 hC (dg DX10_watching 23 rfl) (by decide) (fun hbr => ?_) (fun hbr => ?_)
    · replace hw := hw.1 hbr
      refine j_iconst 47 hC (dg DX10_watching 26 rfl) (v := 0) (by decide) ?_
      refine j_istore_n 48 hC [(2, .int 0), (1, .int r2), (0, .ref (B + 95))] (dg DX10_watching 27 rfl) rfl (by decide) rfl ?_
      obtain ⟨k26, hw⟩ := hw
      refine j_lv [2, 1, 0] (lv' := [(0, .ref (B + 95)), (1, .int r2), (2, .int 0)]) rfl ?_
      exact Li.snd (P := fun τ w2 => J X 3 B 103 RS 0 0 τ [(0, .ref (B + 95)), (1, .int r2), (2, .int w2)] 49 []) (fun rcc hrcc => tb_X10_watching_49 hC  hR  hrcc) k26 _ _ hw
    · replace hw := hw.2 hbr
      refine j_bipush 44 hC (dg DX10_watching 24 rfl) (v := (-3)) (by decide) ?_
      exact hR 46 _ _ _ (dg DX10_watching 25 rfl) hw
theorem m_X10_watching {B : Nat} {σ : SS} {Q : Int32 → SS → Prop} (hw : wp_X10_watching  σ  Q) : MI yX10_watching cX10_watching 3 (some .int) 4 96 B 103 RS [.ref (B + 95)] σ Q := MI.mk (plainFor_of_name (by decide)) (Nat.le_of_ble_eq_true rfl) (fun X hC hR => t_X10_watching hC  hR hw)
-- FortressWatchModel.watch
def wp_X10_watch  (σ : SS)  (Q : Int32 → SS → Prop) : Prop :=
  wp_X10_keeps σ (fun σ1 =>
    wp_X10_watching σ1 (fun r3 σ2 =>
      wp_X10_ends σ2 r3 (fun r5 σ4 =>
        Q r5 σ4)))
set_option maxRecDepth 100000 in
set_option maxHeartbeats 4000000 in
theorem t_X10_watch {X : XT} {B : Nat} (hC : Cx X 1 cX10_watch RX10 (rmN 5 118)) {Q : Int32 → SS → Prop} (hR : RtI X 1 B 103 RS cX10_watch Q) {σ : SS} (hw : wp_X10_watch  σ  Q) : J X 1 B 103 RS 0 0 σ [(0, .ref (B + 95))] 0 [] := by
  unfold wp_X10_watch at hw
  refine j_aload_n 0 hC 0 (dg DX10_watch 0 rfl) rfl rfl ?_
  refine j_Vv (As := []) 1 hC (m_X10_keeps  hw) kX10_97 (k_95) (by decide) ⟨_, _, rfl⟩ (rmN_ok (by decide) (by decide)) rfl rfl (Nat.le_of_ble_eq_true rfl) (dg DX10_watch 1 rfl) (fun σ1 hw => ?_)
  refine j_aload_n 4 hC 0 (dg DX10_watch 2 rfl) rfl rfl ?_
  refine j_aload_n 5 hC 0 (dg DX10_watch 3 rfl) rfl rfl ?_
  refine j_Vi (As := []) 6 hC (m_X10_watching  hw) kX10_151 (k_95) (by decide) ⟨_, _, rfl⟩ (rmN_ok (by decide) (by decide)) rfl rfl (Nat.le_of_ble_eq_true rfl) (dg DX10_watch 4 rfl) (fun r3 σ2 hw => ?_)
  refine j_Vi (As := [.int r3]) 9 hC (m_X10_ends  hw) kX10_104 (k_95) (by decide) ⟨_, _, rfl⟩ (rmN_ok (by decide) (by decide)) rfl rfl (Nat.le_of_ble_eq_true rfl) (dg DX10_watch 5 rfl) (fun r5 σ4 hw => ?_)
  exact hR 12 _ _ _ (dg DX10_watch 6 rfl) hw
theorem m_X10_watch {B : Nat} {σ : SS} {Q : Int32 → SS → Prop} (hw : wp_X10_watch  σ  Q) : MI yX10_watch cX10_watch 1 (some .int) 5 118 B 103 RS [.ref (B + 95)] σ Q := MI.mk (plainFor_of_name (by decide)) (Nat.le_of_ble_eq_true rfl) (fun X hC hR => t_X10_watch hC  hR hw)
-- FortressWatchModel.fewest
def wp_X10_fewest  (σ : SS)  (Q : Int32 → SS → Prop) : Prop :=
  wp_X10_fewestIn σ (σ 96 1) (fun r2 σ1 =>
    Q r2 σ1)
set_option maxRecDepth 100000 in
set_option maxHeartbeats 4000000 in
theorem t_X10_fewest {X : XT} {B : Nat} (hC : Cx X 1 cX10_fewest RX10 (rmN 4 96)) {Q : Int32 → SS → Prop} (hR : RtI X 1 B 103 RS cX10_fewest Q) {σ : SS} (hw : wp_X10_fewest  σ  Q) : J X 1 B 103 RS 0 0 σ [(0, .ref (B + 95))] 0 [] := by
  unfold wp_X10_fewest at hw
  refine j_aload_n 0 hC 0 (dg DX10_fewest 0 rfl) rfl rfl ?_
  refine j_aload_n 1 hC 0 (dg DX10_fewest 1 rfl) rfl rfl ?_
  refine j_getR 2 hC fX10_9 (k_95) (by decide) (by decide) rfl (dg DX10_fewest 2 rfl) ?_
  refine j_iconst 5 hC (dg DX10_fewest 3 rfl) (v := 1) (by decide) ?_
  refine j_iald0 6 1 hC (k_96) (by decide) (by unfold vp_in; decide) rfl (dg DX10_fewest 4 rfl) ?_
  refine j_Vi (As := [.int (σ 96 1)]) 7 hC (m_X10_fewestIn  hw) kX10_148 (k_95) (by decide) ⟨_, _, rfl⟩ (rmN_ok (by decide) (by decide)) rfl rfl (Nat.le_of_ble_eq_true rfl) (dg DX10_fewest 5 rfl) (fun r2 σ1 hw => ?_)
  exact hR 10 _ _ _ (dg DX10_fewest 6 rfl) hw
theorem m_X10_fewest {B : Nat} {σ : SS} {Q : Int32 → SS → Prop} (hw : wp_X10_fewest  σ  Q) : MI yX10_fewest cX10_fewest 1 (some .int) 4 96 B 103 RS [.ref (B + 95)] σ Q := MI.mk (plainFor_of_name (by decide)) (Nat.le_of_ble_eq_true rfl) (fun X hC hR => t_X10_fewest hC  hR hw)
-- FortressWatchModel.fewestAgain
def wp_X10_fewestAgain  (σ : SS)  (Q : Int32 → SS → Prop) : Prop :=
  wp_X10_fewestIn σ (σ 96 1) (fun r2 σ1 =>
    Q r2 σ1)
set_option maxRecDepth 100000 in
set_option maxHeartbeats 4000000 in
theorem t_X10_fewestAgain {X : XT} {B : Nat} (hC : Cx X 1 cX10_fewestAgain RX10 (rmN 4 96)) {Q : Int32 → SS → Prop} (hR : RtI X 1 B 103 RS cX10_fewestAgain Q) {σ : SS} (hw : wp_X10_fewestAgain  σ  Q) : J X 1 B 103 RS 0 0 σ [(0, .ref (B + 95))] 0 [] := by
  unfold wp_X10_fewestAgain at hw
  refine j_aload_n 0 hC 0 (dg DX10_fewestAgain 0 rfl) rfl rfl ?_
  refine j_aload_n 1 hC 0 (dg DX10_fewestAgain 1 rfl) rfl rfl ?_
  refine j_getR 2 hC fX10_9 (k_95) (by decide) (by decide) rfl (dg DX10_fewestAgain 2 rfl) ?_
  refine j_iconst 5 hC (dg DX10_fewestAgain 3 rfl) (v := 1) (by decide) ?_
  refine j_iald0 6 1 hC (k_96) (by decide) (by unfold vp_in; decide) rfl (dg DX10_fewestAgain 4 rfl) ?_
  refine j_Vi (As := [.int (σ 96 1)]) 7 hC (m_X10_fewestIn  hw) kX10_148 (k_95) (by decide) ⟨_, _, rfl⟩ (rmN_ok (by decide) (by decide)) rfl rfl (Nat.le_of_ble_eq_true rfl) (dg DX10_fewestAgain 5 rfl) (fun r2 σ1 hw => ?_)
  exact hR 10 _ _ _ (dg DX10_fewestAgain 6 rfl) hw
theorem m_X10_fewestAgain {B : Nat} {σ : SS} {Q : Int32 → SS → Prop} (hw : wp_X10_fewestAgain  σ  Q) : MI yX10_fewestAgain cX10_fewestAgain 1 (some .int) 4 96 B 103 RS [.ref (B + 95)] σ Q := MI.mk (plainFor_of_name (by decide)) (Nat.le_of_ble_eq_true rfl) (fun X hC hR => t_X10_fewestAgain hC  hR hw)
-- FortressWatchModel.isFewest
def wp_X10_isFewest  (σ : SS) (p1 : Int32) (p2 : Int32) (Q : Int32 → SS → Prop) : Prop :=
  wp_X10_bits σ p1 (fun r2 σ1 =>
    wp_X10_bits σ1 p2 (fun r4 σ3 =>
      ((r2 = r4 →
          wp_X10_seen σ3 p1 (fun r6 σ5 =>
            ((r6 = 16777215 →
                Q 1 σ5) ∧
              (¬ r6 = 16777215 →
                Q 0 σ5)))) ∧
        (¬ r2 = r4 →
          Q 0 σ3))))
set_option maxRecDepth 100000 in
set_option maxHeartbeats 4000000 in
theorem t_X10_isFewest {X : XT} {B : Nat} (hC : Cx X 3 cX10_isFewest RX10 (rmN 4 93)) {Q : Int32 → SS → Prop} (hR : RtZ X 3 B 103 RS cX10_isFewest Q) {σ : SS} {p1 : Int32} {p2 : Int32} (hw : wp_X10_isFewest  σ p1 p2 Q) : J X 3 B 103 RS 0 0 σ [(0, .ref (B + 95)), (1, .int p1), (2, .int p2)] 0 [] := by
  unfold wp_X10_isFewest at hw
  refine j_iload_n 0 hC 1 (dg DX10_isFewest 0 rfl) rfl rfl ?_
  refine j_Si (As := [.int p1]) 1 hC (m_X10_bits  hw) kX10_119 (rmN_ok (by decide) (by decide)) rfl rfl (Nat.le_of_ble_eq_true rfl) (dg DX10_isFewest 1 rfl) (fun r2 σ1 hw => ?_)
  refine j_iload_n 4 hC 2 (dg DX10_isFewest 2 rfl) rfl rfl ?_
  refine j_Si (As := [.int p2]) 5 hC (m_X10_bits  hw) kX10_119 (rmN_ok (by decide) (by decide)) rfl rfl (Nat.le_of_ble_eq_true rfl) (dg DX10_isFewest 3 rfl) (fun r4 σ3 hw => ?_)
  refine j_icmp_ne 8 25 hC (dg DX10_isFewest 4 rfl) (by decide) (fun hbr => ?_) (fun hbr => ?_)
  · replace hw := hw.2 hbr
    refine j_iconst 25 hC (dg DX10_isFewest 12 rfl) (v := 0) (by decide) ?_
    exact hR 26 _ _ _ (dg DX10_isFewest 13 rfl) ⟨by decide, hw⟩
  · replace hw := hw.1 hbr
    refine j_aload_n 11 hC 0 (dg DX10_isFewest 5 rfl) rfl rfl ?_
    refine j_iload_n 12 hC 1 (dg DX10_isFewest 6 rfl) rfl rfl ?_
    refine j_Vi (As := [.int p1]) 13 hC (m_X10_seen  hw) kX10_132 (k_95) (by decide) ⟨_, _, rfl⟩ (rmN_ok (by decide) (by decide)) rfl rfl (Nat.le_of_ble_eq_true rfl) (dg DX10_isFewest 7 rfl) (fun r6 σ5 hw => ?_)
    refine j_ldc 16 hC (dg DX10_isFewest 8 rfl) w_1050 ?_
    refine j_icmp_ne 18 25 hC (dg DX10_isFewest 9 rfl) (by decide) (fun hbr => ?_) (fun hbr => ?_)
    · replace hw := hw.2 hbr
      refine j_iconst 25 hC (dg DX10_isFewest 12 rfl) (v := 0) (by decide) ?_
      exact hR 26 _ _ _ (dg DX10_isFewest 13 rfl) ⟨by decide, hw⟩
    · replace hw := hw.1 hbr
      refine j_iconst 21 hC (dg DX10_isFewest 10 rfl) (v := 1) (by decide) ?_
      refine j_goto 22 26 hC (dg DX10_isFewest 11 rfl) (by decide) ?_
      exact hR 26 _ _ _ (dg DX10_isFewest 13 rfl) ⟨by decide, hw⟩
theorem m_X10_isFewest {B : Nat} {σ : SS} {p1 : Int32} {p2 : Int32} {Q : Int32 → SS → Prop} (hw : wp_X10_isFewest  σ p1 p2 Q) : MI yX10_isFewest cX10_isFewest 3 (some .boolean) 4 93 B 103 RS [.ref (B + 95), .int p1, .int p2] σ Q := MI.mkZ (plainFor_of_name (by decide)) (Nat.le_of_ble_eq_true rfl) (fun X hC hR => t_X10_isFewest hC  hR hw)
-- FortressWatchModel.watches
def bd_X10_watches_15    (Q : Int32 → SS → Prop) (l1 : Int32) (rc : SS → Int32 → Int32 → Prop) (σ : SS) (v2 : Int32) (v3 : Int32) : Prop :=
  wp_X10_all σ (fun r4 σ3 =>
    ((r4 < v3 →
        Q v2 σ3) ∧
      (¬ r4 < v3 →
        ((l1 = (-4) →
            Q v2 σ3) ∧
          (¬ l1 = (-4) →
            wp_X10_isFewest σ3 v3 l1 (fun r6 σ5 =>
              ((r6 = 0 →
                  rc σ5 (v2 + 0) (v3 + 1)) ∧
                (¬ r6 = 0 →
                  rc σ5 (v2 + 1) (v3 + 1)))))))))
def wp_X10_watches  (σ : SS)  (Q : Int32 → SS → Prop) : Prop :=
  wp_X10_fewestIn σ (σ 96 1) (fun r2 σ1 =>
    ∃ k7, Lii (bd_X10_watches_15 Q r2) k7 σ1 0 0)
set_option maxRecDepth 100000 in
set_option maxHeartbeats 4000000 in
theorem tb_X10_watches_15 {X : XT} {B : Nat} (hC : Cx X 4 cX10_watches RX10 (rmN 5 115)) {Q : Int32 → SS → Prop} {l1 : Int32} (hR : RtI X 4 B 103 RS cX10_watches Q) {rc : SS → Int32 → Int32 → Prop} (hrc : ∀ (σ : SS) (v2 : Int32) (v3 : Int32), rc σ v2 v3 → J X 4 B 103 RS 0 0 σ [(0, .ref (B + 95)), (1, .int l1), (2, .int v2), (3, .int v3)] 15 []) : ∀ (σ : SS) (v2 : Int32) (v3 : Int32), bd_X10_watches_15 Q l1 rc σ v2 v3 → J X 4 B 103 RS 0 0 σ [(0, .ref (B + 95)), (1, .int l1), (2, .int v2), (3, .int v3)] 15 [] := by
  intro σ v2 v3 hw
  unfold bd_X10_watches_15 at hw
  refine j_iload_n 15 hC 3 (dg DX10_watches 11 rfl) rfl rfl ?_
  refine j_aload_n 16 hC 0 (dg DX10_watches 12 rfl) rfl rfl ?_
  refine j_Vi (As := []) 17 hC (m_X10_all  hw) kX10_144 (k_95) (by decide) ⟨_, _, rfl⟩ (rmN_ok (by decide) (by decide)) rfl rfl (Nat.le_of_ble_eq_true rfl) (dg DX10_watches 13 rfl) (fun r4 σ3 hw => ?_)
  refine j_icmp_gt 20 52 hC (dg DX10_watches 14 rfl) (by decide) (fun hbr => ?_) (fun hbr => ?_)
  · replace hw := hw.1 hbr
    refine j_iload_n 52 hC 2 (dg DX10_watches 31 rfl) rfl rfl ?_
    exact hR 53 _ _ _ (dg DX10_watches 32 rfl) hw
  · replace hw := hw.2 hbr
    refine j_iload_n 23 hC 1 (dg DX10_watches 15 rfl) rfl rfl ?_
    refine j_bipush 24 hC (dg DX10_watches 16 rfl) (v := (-4)) (by decide) ?_
    refine j_icmp_eq 26 52 hC (dg DX10_watches 17 rfl) (by decide) (fun hbr => ?_) (fun hbr => ?_)
    · replace hw := hw.1 hbr
      refine j_iload_n 52 hC 2 (dg DX10_watches 31 rfl) rfl rfl ?_
      exact hR 53 _ _ _ (dg DX10_watches 32 rfl) hw
    · replace hw := hw.2 hbr
      refine j_iload_n 29 hC 2 (dg DX10_watches 18 rfl) rfl rfl ?_
      refine j_aload_n 30 hC 0 (dg DX10_watches 19 rfl) rfl rfl ?_
      refine j_iload_n 31 hC 3 (dg DX10_watches 20 rfl) rfl rfl ?_
      refine j_iload_n 32 hC 1 (dg DX10_watches 21 rfl) rfl rfl ?_
      refine j_Vi (As := [.int v3, .int l1]) 33 hC (m_X10_isFewest  hw) kX10_154 (k_95) (by decide) ⟨_, _, rfl⟩ (rmN_ok (by decide) (by decide)) rfl rfl (Nat.le_of_ble_eq_true rfl) (dg DX10_watches 22 rfl) (fun r6 σ5 hw => ?_)
      refine j_if_eq 36 43 hC (dg DX10_watches 23 rfl) (by decide) (fun hbr => ?_) (fun hbr => ?_)
      · replace hw := hw.1 hbr
        refine j_iconst 43 hC (dg DX10_watches 26 rfl) (v := 0) (by decide) ?_
        refine j_iadd 44 hC (dg DX10_watches 27 rfl) ?_
        refine j_istore_n 45 hC [(2, .int (v2 + 0)), (0, .ref (B + 95)), (1, .int l1), (3, .int v3)] (dg DX10_watches 28 rfl) rfl (by decide) rfl ?_
        refine j_iinc 46 hC 3 (v3 + 1) [(3, .int (v3 + 1)), (2, .int (v2 + 0)), (0, .ref (B + 95)), (1, .int l1)] (dg DX10_watches 29 rfl) rfl rfl (by decide) rfl ?_
        refine j_goto 49 15 hC (dg DX10_watches 30 rfl) (by decide) ?_
        refine j_lv [2, 3, 1, 0] (lv' := [(0, .ref (B + 95)), (1, .int l1), (2, .int (v2 + 0)), (3, .int (v3 + 1))]) rfl ?_
        exact hrc _ _ _ hw
      · replace hw := hw.2 hbr
        refine j_iconst 39 hC (dg DX10_watches 24 rfl) (v := 1) (by decide) ?_
        refine j_goto 40 44 hC (dg DX10_watches 25 rfl) (by decide) ?_
        refine j_iadd 44 hC (dg DX10_watches 27 rfl) ?_
        refine j_istore_n 45 hC [(2, .int (v2 + 1)), (0, .ref (B + 95)), (1, .int l1), (3, .int v3)] (dg DX10_watches 28 rfl) rfl (by decide) rfl ?_
        refine j_iinc 46 hC 3 (v3 + 1) [(3, .int (v3 + 1)), (2, .int (v2 + 1)), (0, .ref (B + 95)), (1, .int l1)] (dg DX10_watches 29 rfl) rfl rfl (by decide) rfl ?_
        refine j_goto 49 15 hC (dg DX10_watches 30 rfl) (by decide) ?_
        refine j_lv [2, 3, 1, 0] (lv' := [(0, .ref (B + 95)), (1, .int l1), (2, .int (v2 + 1)), (3, .int (v3 + 1))]) rfl ?_
        exact hrc _ _ _ hw
set_option maxRecDepth 100000 in
set_option maxHeartbeats 4000000 in
theorem t_X10_watches {X : XT} {B : Nat} (hC : Cx X 4 cX10_watches RX10 (rmN 5 115)) {Q : Int32 → SS → Prop} (hR : RtI X 4 B 103 RS cX10_watches Q) {σ : SS} (hw : wp_X10_watches  σ  Q) : J X 4 B 103 RS 0 0 σ [(0, .ref (B + 95))] 0 [] := by
  unfold wp_X10_watches at hw
  refine j_aload_n 0 hC 0 (dg DX10_watches 0 rfl) rfl rfl ?_
  refine j_aload_n 1 hC 0 (dg DX10_watches 1 rfl) rfl rfl ?_
  refine j_getR 2 hC fX10_9 (k_95) (by decide) (by decide) rfl (dg DX10_watches 2 rfl) ?_
  refine j_iconst 5 hC (dg DX10_watches 3 rfl) (v := 1) (by decide) ?_
  refine j_iald0 6 1 hC (k_96) (by decide) (by unfold vp_in; decide) rfl (dg DX10_watches 4 rfl) ?_
  refine j_Vi (As := [.int (σ 96 1)]) 7 hC (m_X10_fewestIn  hw) kX10_148 (k_95) (by decide) ⟨_, _, rfl⟩ (rmN_ok (by decide) (by decide)) rfl rfl (Nat.le_of_ble_eq_true rfl) (dg DX10_watches 5 rfl) (fun r2 σ1 hw => ?_)
  refine j_istore_n 10 hC [(1, .int r2), (0, .ref (B + 95))] (dg DX10_watches 6 rfl) rfl (by decide) rfl ?_
  refine j_iconst 11 hC (dg DX10_watches 7 rfl) (v := 0) (by decide) ?_
  refine j_istore_n 12 hC [(2, .int 0), (1, .int r2), (0, .ref (B + 95))] (dg DX10_watches 8 rfl) rfl (by decide) rfl ?_
  refine j_iconst 13 hC (dg DX10_watches 9 rfl) (v := 0) (by decide) ?_
  refine j_istore_n 14 hC [(3, .int 0), (2, .int 0), (1, .int r2), (0, .ref (B + 95))] (dg DX10_watches 10 rfl) rfl (by decide) rfl ?_
  obtain ⟨k7, hw⟩ := hw
  refine j_lv [3, 2, 1, 0] (lv' := [(0, .ref (B + 95)), (1, .int r2), (2, .int 0), (3, .int 0)]) rfl ?_
  exact Lii.snd (P := fun τ w2 w3 => J X 4 B 103 RS 0 0 τ [(0, .ref (B + 95)), (1, .int r2), (2, .int w2), (3, .int w3)] 15 []) (fun rcc hrcc => tb_X10_watches_15 hC  hR  hrcc) k7 _ _ _ hw
theorem m_X10_watches {B : Nat} {σ : SS} {Q : Int32 → SS → Prop} (hw : wp_X10_watches  σ  Q) : MI yX10_watches cX10_watches 4 (some .int) 5 115 B 103 RS [.ref (B + 95)] σ Q := MI.mk (plainFor_of_name (by decide)) (Nat.le_of_ble_eq_true rfl) (fun X hC hR => t_X10_watches hC  hR hw)
-- FortressWatchModel.isNeeded
def bd_X10_isNeeded_26    (Q : Int32 → SS → Prop) (l1 : Int32) (l2 : Int32) (rc : SS → Int32 → Int32 → Prop) (σ : SS) (v3 : Int32) (v4 : Int32) : Prop :=
  wp_X10_all σ (fun r4 σ3 =>
    ((r4 < v4 →
        (v3 = 0 ∨ v3 = 1) ∧ Q v3 σ3) ∧
      (¬ r4 < v4 →
        ((v3 = 0 →
            (v3 = 0 ∨ v3 = 1) ∧ Q v3 σ3) ∧
          (¬ v3 = 0 →
            wp_X10_has σ3 v4 l1 (fun r6 σ5 =>
              ((r6 = 0 →
                  wp_X10_isFewest σ5 v4 l2 (fun r8 σ7 =>
                    ((r8 = 0 →
                        rc σ7 1 (v4 + 1)) ∧
                      (¬ r8 = 0 →
                        rc σ7 0 (v4 + 1))))) ∧
                (¬ r6 = 0 →
                  rc σ5 1 (v4 + 1)))))))))
def wp_X10_isNeeded  (σ : SS) (p1 : Int32) (Q : Int32 → SS → Prop) : Prop :=
  wp_X10_fewestIn σ (σ 96 1) (fun r2 σ1 =>
    ((r2 = (-4) →
        ∃ k9, Lii (bd_X10_isNeeded_26 Q p1 r2) k9 σ1 0 0) ∧
      (¬ r2 = (-4) →
        ∃ k10, Lii (bd_X10_isNeeded_26 Q p1 r2) k10 σ1 1 0)))
set_option maxRecDepth 100000 in
set_option maxHeartbeats 4000000 in
theorem tb_X10_isNeeded_26 {X : XT} {B : Nat} (hC : Cx X 5 cX10_isNeeded RX10 (rmN 5 115)) {Q : Int32 → SS → Prop} {l1 : Int32} {l2 : Int32} (hR : RtZ X 5 B 103 RS cX10_isNeeded Q) {rc : SS → Int32 → Int32 → Prop} (hrc : ∀ (σ : SS) (v3 : Int32) (v4 : Int32), rc σ v3 v4 → J X 5 B 103 RS 0 0 σ [(0, .ref (B + 95)), (1, .int l1), (2, .int l2), (3, .int v3), (4, .int v4)] 26 []) : ∀ (σ : SS) (v3 : Int32) (v4 : Int32), bd_X10_isNeeded_26 Q l1 l2 rc σ v3 v4 → J X 5 B 103 RS 0 0 σ [(0, .ref (B + 95)), (1, .int l1), (2, .int l2), (3, .int v3), (4, .int v4)] 26 [] := by
  intro σ v3 v4 hw
  unfold bd_X10_isNeeded_26 at hw
  refine j_iload 26 hC 4 (dg DX10_isNeeded 16 rfl) rfl ?_
  refine j_aload_n 28 hC 0 (dg DX10_isNeeded 17 rfl) rfl rfl ?_
  refine j_Vi (As := []) 29 hC (m_X10_all  hw) kX10_144 (k_95) (by decide) ⟨_, _, rfl⟩ (rmN_ok (by decide) (by decide)) rfl rfl (Nat.le_of_ble_eq_true rfl) (dg DX10_isNeeded 18 rfl) (fun r4 σ3 hw => ?_)
  refine j_icmp_gt 32 70 hC (dg DX10_isNeeded 19 rfl) (by decide) (fun hbr => ?_) (fun hbr => ?_)
  · replace hw := hw.1 hbr
    refine j_iload_n 70 hC 3 (dg DX10_isNeeded 37 rfl) rfl rfl ?_
    exact hR 71 _ _ _ (dg DX10_isNeeded 38 rfl) hw
  · replace hw := hw.2 hbr
    refine j_iload_n 35 hC 3 (dg DX10_isNeeded 20 rfl) rfl rfl ?_
    refine j_if_eq 36 70 hC (dg DX10_isNeeded 21 rfl) (by decide) (fun hbr => ?_) (fun hbr => ?_)
    · replace hw := hw.1 hbr
      refine j_iload_n 70 hC 3 (dg DX10_isNeeded 37 rfl) rfl rfl ?_
      exact hR 71 _ _ _ (dg DX10_isNeeded 38 rfl) hw
    · replace hw := hw.2 hbr
      refine j_iload 39 hC 4 (dg DX10_isNeeded 22 rfl) rfl ?_
      refine j_iload_n 41 hC 1 (dg DX10_isNeeded 23 rfl) rfl rfl ?_
      refine j_Si (As := [.int v4, .int l1]) 42 hC (m_X10_has  hw) kX10_73 (rmN_ok (by decide) (by decide)) rfl rfl (Nat.le_of_ble_eq_true rfl) (dg DX10_isNeeded 24 rfl) (fun r6 σ5 hw => ?_)
      refine j_if_ne 45 58 hC (dg DX10_isNeeded 25 rfl) (by decide) (fun hbr => ?_) (fun hbr => ?_)
      · replace hw := hw.2 hbr
        refine j_iconst 58 hC (dg DX10_isNeeded 31 rfl) (v := 1) (by decide) ?_
        refine j_goto 59 63 hC (dg DX10_isNeeded 32 rfl) (by decide) ?_
        refine j_istore_n 63 hC [(3, .int 1), (0, .ref (B + 95)), (1, .int l1), (2, .int l2), (4, .int v4)] (dg DX10_isNeeded 34 rfl) rfl (by decide) rfl ?_
        refine j_iinc 64 hC 4 (v4 + 1) [(4, .int (v4 + 1)), (3, .int 1), (0, .ref (B + 95)), (1, .int l1), (2, .int l2)] (dg DX10_isNeeded 35 rfl) rfl rfl (by decide) rfl ?_
        refine j_goto 67 26 hC (dg DX10_isNeeded 36 rfl) (by decide) ?_
        refine j_lv [2, 3, 4, 1, 0] (lv' := [(0, .ref (B + 95)), (1, .int l1), (2, .int l2), (3, .int 1), (4, .int (v4 + 1))]) rfl ?_
        exact hrc _ _ _ hw
      · replace hw := hw.1 hbr
        refine j_aload_n 48 hC 0 (dg DX10_isNeeded 26 rfl) rfl rfl ?_
        refine j_iload 49 hC 4 (dg DX10_isNeeded 27 rfl) rfl ?_
        refine j_iload_n 51 hC 2 (dg DX10_isNeeded 28 rfl) rfl rfl ?_
        refine j_Vi (As := [.int v4, .int l2]) 52 hC (m_X10_isFewest  hw) kX10_154 (k_95) (by decide) ⟨_, _, rfl⟩ (rmN_ok (by decide) (by decide)) rfl rfl (Nat.le_of_ble_eq_true rfl) (dg DX10_isNeeded 29 rfl) (fun r8 σ7 hw => ?_)
        refine j_if_ne 55 62 hC (dg DX10_isNeeded 30 rfl) (by decide) (fun hbr => ?_) (fun hbr => ?_)
        · replace hw := hw.2 hbr
          refine j_iconst 62 hC (dg DX10_isNeeded 33 rfl) (v := 0) (by decide) ?_
          refine j_istore_n 63 hC [(3, .int 0), (0, .ref (B + 95)), (1, .int l1), (2, .int l2), (4, .int v4)] (dg DX10_isNeeded 34 rfl) rfl (by decide) rfl ?_
          refine j_iinc 64 hC 4 (v4 + 1) [(4, .int (v4 + 1)), (3, .int 0), (0, .ref (B + 95)), (1, .int l1), (2, .int l2)] (dg DX10_isNeeded 35 rfl) rfl rfl (by decide) rfl ?_
          refine j_goto 67 26 hC (dg DX10_isNeeded 36 rfl) (by decide) ?_
          refine j_lv [2, 3, 4, 1, 0] (lv' := [(0, .ref (B + 95)), (1, .int l1), (2, .int l2), (3, .int 0), (4, .int (v4 + 1))]) rfl ?_
          exact hrc _ _ _ hw
        · replace hw := hw.1 hbr
          refine j_iconst 58 hC (dg DX10_isNeeded 31 rfl) (v := 1) (by decide) ?_
          refine j_goto 59 63 hC (dg DX10_isNeeded 32 rfl) (by decide) ?_
          refine j_istore_n 63 hC [(3, .int 1), (0, .ref (B + 95)), (1, .int l1), (2, .int l2), (4, .int v4)] (dg DX10_isNeeded 34 rfl) rfl (by decide) rfl ?_
          refine j_iinc 64 hC 4 (v4 + 1) [(4, .int (v4 + 1)), (3, .int 1), (0, .ref (B + 95)), (1, .int l1), (2, .int l2)] (dg DX10_isNeeded 35 rfl) rfl rfl (by decide) rfl ?_
          refine j_goto 67 26 hC (dg DX10_isNeeded 36 rfl) (by decide) ?_
          refine j_lv [2, 3, 4, 1, 0] (lv' := [(0, .ref (B + 95)), (1, .int l1), (2, .int l2), (3, .int 1), (4, .int (v4 + 1))]) rfl ?_
          exact hrc _ _ _ hw
set_option maxRecDepth 100000 in
set_option maxHeartbeats 4000000 in
theorem t_X10_isNeeded {X : XT} {B : Nat} (hC : Cx X 5 cX10_isNeeded RX10 (rmN 5 115)) {Q : Int32 → SS → Prop} (hR : RtZ X 5 B 103 RS cX10_isNeeded Q) {σ : SS} {p1 : Int32} (hw : wp_X10_isNeeded  σ p1 Q) : J X 5 B 103 RS 0 0 σ [(0, .ref (B + 95)), (1, .int p1)] 0 [] := by
  unfold wp_X10_isNeeded at hw
  refine j_aload_n 0 hC 0 (dg DX10_isNeeded 0 rfl) rfl rfl ?_
  refine j_aload_n 1 hC 0 (dg DX10_isNeeded 1 rfl) rfl rfl ?_
  refine j_getR 2 hC fX10_9 (k_95) (by decide) (by decide) rfl (dg DX10_isNeeded 2 rfl) ?_
  refine j_iconst 5 hC (dg DX10_isNeeded 3 rfl) (v := 1) (by decide) ?_
  refine j_iald0 6 1 hC (k_96) (by decide) (by unfold vp_in; decide) rfl (dg DX10_isNeeded 4 rfl) ?_
  refine j_Vi (As := [.int (σ 96 1)]) 7 hC (m_X10_fewestIn  hw) kX10_148 (k_95) (by decide) ⟨_, _, rfl⟩ (rmN_ok (by decide) (by decide)) rfl rfl (Nat.le_of_ble_eq_true rfl) (dg DX10_isNeeded 5 rfl) (fun r2 σ1 hw => ?_)
  refine j_istore_n 10 hC [(2, .int r2), (0, .ref (B + 95)), (1, .int p1)] (dg DX10_isNeeded 6 rfl) rfl (by decide) rfl ?_
  refine j_iload_n 11 hC 0 (dg DX10_isNeeded 7 rfl) rfl rfl ?_
  refine j_bipush 12 hC (dg DX10_isNeeded 8 rfl) (v := (-4)) (by decide) ?_
  refine j_icmp_eq 14 21 hC (dg DX10_isNeeded 9 rfl) (by decide) (fun hbr => ?_) (fun hbr => ?_)
  · replace hw := hw.1 hbr
    refine j_iconst 21 hC (dg DX10_isNeeded 12 rfl) (v := 0) (by decide) ?_
    refine j_istore_n 22 hC [(3, .int 0), (2, .int r2), (0, .ref (B + 95)), (1, .int p1)] (dg DX10_isNeeded 13 rfl) rfl (by decide) rfl ?_
    refine j_iconst 23 hC (dg DX10_isNeeded 14 rfl) (v := 0) (by decide) ?_
    refine j_istore 24 hC [(4, .int 0), (3, .int 0), (2, .int r2), (0, .ref (B + 95)), (1, .int p1)] (dg DX10_isNeeded 15 rfl) (by decide) rfl ?_
    obtain ⟨k9, hw⟩ := hw
    refine j_lv [3, 4, 2, 1, 0] (lv' := [(0, .ref (B + 95)), (1, .int p1), (2, .int r2), (3, .int 0), (4, .int 0)]) rfl ?_
    exact Lii.snd (P := fun τ w3 w4 => J X 5 B 103 RS 0 0 τ [(0, .ref (B + 95)), (1, .int p1), (2, .int r2), (3, .int w3), (4, .int w4)] 26 []) (fun rcc hrcc => tb_X10_isNeeded_26 hC  hR  hrcc) k9 _ _ _ hw
  · replace hw := hw.2 hbr
    refine j_iconst 17 hC (dg DX10_isNeeded 10 rfl) (v := 1) (by decide) ?_
    refine j_goto 18 22 hC (dg DX10_isNeeded 11 rfl) (by decide) ?_
    refine j_istore_n 22 hC [(3, .int 1), (2, .int r2), (0, .ref (B + 95)), (1, .int p1)] (dg DX10_isNeeded 13 rfl) rfl (by decide) rfl ?_
    refine j_iconst 23 hC (dg DX10_isNeeded 14 rfl) (v := 0) (by decide) ?_
    refine j_istore 24 hC [(4, .int 0), (3, .int 1), (2, .int r2), (0, .ref (B + 95)), (1, .int p1)] (dg DX10_isNeeded 15 rfl) (by decide) rfl ?_
    obtain ⟨k10, hw⟩ := hw
    refine j_lv [3, 4, 2, 1, 0] (lv' := [(0, .ref (B + 95)), (1, .int p1), (2, .int r2), (3, .int 1), (4, .int 0)]) rfl ?_
    exact Lii.snd (P := fun τ w3 w4 => J X 5 B 103 RS 0 0 τ [(0, .ref (B + 95)), (1, .int p1), (2, .int r2), (3, .int w3), (4, .int w4)] 26 []) (fun rcc hrcc => tb_X10_isNeeded_26 hC  hR  hrcc) k10 _ _ _ hw
theorem m_X10_isNeeded {B : Nat} {σ : SS} {p1 : Int32} {Q : Int32 → SS → Prop} (hw : wp_X10_isNeeded  σ p1 Q) : MI yX10_isNeeded cX10_isNeeded 5 (some .boolean) 5 115 B 103 RS [.ref (B + 95), .int p1] σ Q := MI.mkZ (plainFor_of_name (by decide)) (Nat.le_of_ble_eq_true rfl) (fun X hC hR => t_X10_isNeeded hC  hR hw)
-- FortressWatchModel.isFull
def wp_X10_isFull  (σ : SS) (p1 : Int32) (Q : Int32 → SS → Prop) : Prop :=
  wp_X10_all σ (fun r2 σ1 =>
    wp_X10_isIn σ1 p1 0 r2 (fun r4 σ3 =>
      ((r4 = 0 →
          Q (-1) σ3) ∧
        (¬ r4 = 0 →
          wp_X10_seen σ3 p1 (fun r6 σ5 =>
            ((r6 = 16777215 →
                Q 1 σ5) ∧
              (¬ r6 = 16777215 →
                Q 0 σ5)))))))
set_option maxRecDepth 100000 in
set_option maxHeartbeats 4000000 in
theorem t_X10_isFull {X : XT} {B : Nat} (hC : Cx X 2 cX10_isFull RX10 (rmN 4 93)) {Q : Int32 → SS → Prop} (hR : RtI X 2 B 103 RS cX10_isFull Q) {σ : SS} {p1 : Int32} (hw : wp_X10_isFull  σ p1 Q) : J X 2 B 103 RS 0 0 σ [(0, .ref (B + 95)), (1, .int p1)] 0 [] := by
  unfold wp_X10_isFull at hw
  refine j_iload_n 0 hC 1 (dg DX10_isFull 0 rfl) rfl rfl ?_
  refine j_iconst 1 hC (dg DX10_isFull 1 rfl) (v := 0) (by decide) ?_
  refine j_aload_n 2 hC 0 (dg DX10_isFull 2 rfl) rfl rfl ?_
  refine j_Vi (As := []) 3 hC (m_X10_all  hw) kX10_144 (k_95) (by decide) ⟨_, _, rfl⟩ (rmN_ok (by decide) (by decide)) rfl rfl (Nat.le_of_ble_eq_true rfl) (dg DX10_isFull 3 rfl) (fun r2 σ1 hw => ?_)
  refine j_Si (As := [.int p1, .int 0, .int r2]) 6 hC (m_X10_isIn  hw) kX10_51 (rmN_ok (by decide) (by decide)) rfl rfl (Nat.le_of_ble_eq_true rfl) (dg DX10_isFull 4 rfl) (fun r4 σ3 hw => ?_)
  refine j_if_ne 9 16 hC (dg DX10_isFull 5 rfl) (by decide) (fun hbr => ?_) (fun hbr => ?_)
  · replace hw := hw.2 hbr
    refine j_aload_n 16 hC 0 (dg DX10_isFull 8 rfl) rfl rfl ?_
    refine j_iload_n 17 hC 1 (dg DX10_isFull 9 rfl) rfl rfl ?_
    refine j_Vi (As := [.int p1]) 18 hC (m_X10_seen  hw) kX10_132 (k_95) (by decide) ⟨_, _, rfl⟩ (rmN_ok (by decide) (by decide)) rfl rfl (Nat.le_of_ble_eq_true rfl) (dg DX10_isFull 10 rfl) (fun r6 σ5 hw => ?_)
    refine j_ldc 21 hC (dg DX10_isFull 11 rfl) w_1050 ?_
    refine j_icmp_ne 23 30 hC (dg DX10_isFull 12 rfl) (by decide) (fun hbr => ?_) (fun hbr => ?_)
    · replace hw := hw.2 hbr
      refine j_iconst 30 hC (dg DX10_isFull 15 rfl) (v := 0) (by decide) ?_
      exact hR 31 _ _ _ (dg DX10_isFull 16 rfl) hw
    · replace hw := hw.1 hbr
      refine j_iconst 26 hC (dg DX10_isFull 13 rfl) (v := 1) (by decide) ?_
      refine j_goto 27 31 hC (dg DX10_isFull 14 rfl) (by decide) ?_
      exact hR 31 _ _ _ (dg DX10_isFull 16 rfl) hw
  · replace hw := hw.1 hbr
    refine j_iconst 12 hC (dg DX10_isFull 6 rfl) (v := (-1)) (by decide) ?_
    refine j_goto 13 31 hC (dg DX10_isFull 7 rfl) (by decide) ?_
    exact hR 31 _ _ _ (dg DX10_isFull 16 rfl) hw
theorem m_X10_isFull {B : Nat} {σ : SS} {p1 : Int32} {Q : Int32 → SS → Prop} (hw : wp_X10_isFull  σ p1 Q) : MI yX10_isFull cX10_isFull 2 (some .int) 4 93 B 103 RS [.ref (B + 95), .int p1] σ Q := MI.mk (plainFor_of_name (by decide)) (Nat.le_of_ble_eq_true rfl) (fun X hC hR => t_X10_isFull hC  hR hw)
-- FortressWatchModel.spare
def bd_X10_spare_23    (Q : Int32 → SS → Prop) (l2 : Int32) (rc : SS → Int32 → Int32 → Int32 → Prop) (σ : SS) (v1 : Int32) (v3 : Int32) (v4 : Int32) : Prop :=
  ((v4 < 0 →
      Q v3 σ) ∧
    (¬ v4 < 0 →
      wp_X10_has σ v1 v4 (fun r6 σ5 =>
        ((r6 = 0 →
            rc σ5 v1 v3 (v4 + (-1))) ∧
          (¬ r6 = 0 →
            wp_X10_seen σ5 (v1 &&& (((1 : Int32) <<< (v4 &&& 31)) ^^^ (-1))) (fun r8 σ7 =>
              ((r8 = l2 →
                  ∀ x9 : Int32, x9 = v1 &&& (((1 : Int32) <<< (v4 &&& 31)) ^^^ (-1)) →
                  rc σ7 x9 (v3 + 1) ((σ7 96 0) + (-1))) ∧
                (¬ r8 = l2 →
                  rc σ7 v1 v3 (v4 + (-1))))))))))
def wp_X10_spare  (σ : SS)  (Q : Int32 → SS → Prop) : Prop :=
  wp_X10_mannedSet σ (fun r2 σ1 =>
    wp_X10_seen σ1 r2 (fun r4 σ3 =>
      ∃ k10, Liii (bd_X10_spare_23 Q r4) k10 σ3 r2 0 ((σ3 96 0) - 1)))
set_option maxRecDepth 100000 in
set_option maxHeartbeats 4000000 in
theorem tb_X10_spare_23 {X : XT} {B : Nat} (hC : Cx X 5 cX10_spare RX10 (rmN 4 93)) {Q : Int32 → SS → Prop} {l2 : Int32} (hR : RtI X 5 B 103 RS cX10_spare Q) {rc : SS → Int32 → Int32 → Int32 → Prop} (hrc : ∀ (σ : SS) (v1 : Int32) (v3 : Int32) (v4 : Int32), rc σ v1 v3 v4 → J X 5 B 103 RS 0 0 σ [(0, .ref (B + 95)), (1, .int v1), (2, .int l2), (3, .int v3), (4, .int v4)] 23 []) : ∀ (σ : SS) (v1 : Int32) (v3 : Int32) (v4 : Int32), bd_X10_spare_23 Q l2 rc σ v1 v3 v4 → J X 5 B 103 RS 0 0 σ [(0, .ref (B + 95)), (1, .int v1), (2, .int l2), (3, .int v3), (4, .int v4)] 23 [] := by
  intro σ v1 v3 v4 hw
  unfold bd_X10_spare_23 at hw
  refine j_iload 23 hC 4 (dg DX10_spare 16 rfl) rfl ?_
  refine j_if_lt 25 79 hC (dg DX10_spare 17 rfl) (by decide) (fun hbr => ?_) (fun hbr => ?_)
  · replace hw := hw.1 hbr
    refine j_iload_n 79 hC 3 (dg DX10_spare 49 rfl) rfl rfl ?_
    exact hR 80 _ _ _ (dg DX10_spare 50 rfl) hw
  · replace hw := hw.2 hbr
    refine j_iload_n 28 hC 1 (dg DX10_spare 18 rfl) rfl rfl ?_
    refine j_iload 29 hC 4 (dg DX10_spare 19 rfl) rfl ?_
    refine j_Si (As := [.int v1, .int v4]) 31 hC (m_X10_has  hw) kX10_73 (rmN_ok (by decide) (by decide)) rfl rfl (Nat.le_of_ble_eq_true rfl) (dg DX10_spare 20 rfl) (fun r6 σ5 hw => ?_)
    refine j_if_eq 34 73 hC (dg DX10_spare 21 rfl) (by decide) (fun hbr => ?_) (fun hbr => ?_)
    · replace hw := hw.1 hbr
      refine j_iinc 73 hC 4 (v4 + (-1)) [(4, .int (v4 + (-1))), (0, .ref (B + 95)), (1, .int v1), (2, .int l2), (3, .int v3)] (dg DX10_spare 47 rfl) rfl rfl (by decide) rfl ?_
      refine j_goto 76 23 hC (dg DX10_spare 48 rfl) (by decide) ?_
      refine j_lv [1, 2, 3, 4, 0] (lv' := [(0, .ref (B + 95)), (1, .int v1), (2, .int l2), (3, .int v3), (4, .int (v4 + (-1)))]) rfl ?_
      exact hrc _ _ _ _ hw
    · replace hw := hw.2 hbr
      refine j_aload_n 37 hC 0 (dg DX10_spare 22 rfl) rfl rfl ?_
      refine j_iload_n 38 hC 1 (dg DX10_spare 23 rfl) rfl rfl ?_
      refine j_iconst 39 hC (dg DX10_spare 24 rfl) (v := 1) (by decide) ?_
      refine j_iload 40 hC 4 (dg DX10_spare 25 rfl) rfl ?_
      refine j_ishl 42 hC (dg DX10_spare 26 rfl) ?_
      refine j_iconst 43 hC (dg DX10_spare 27 rfl) (v := (-1)) (by decide) ?_
      refine j_ixor 44 hC (dg DX10_spare 28 rfl) ?_
      refine j_iand 45 hC (dg DX10_spare 29 rfl) ?_
      refine j_Vi (As := [.int (v1 &&& (((1 : Int32) <<< (v4 &&& 31)) ^^^ (-1)))]) 46 hC (m_X10_seen  hw) kX10_132 (k_95) (by decide) ⟨_, _, rfl⟩ (rmN_ok (by decide) (by decide)) rfl rfl (Nat.le_of_ble_eq_true rfl) (dg DX10_spare 30 rfl) (fun r8 σ7 hw => ?_)
      refine j_iload_n 49 hC 2 (dg DX10_spare 31 rfl) rfl rfl ?_
      refine j_icmp_ne 50 73 hC (dg DX10_spare 32 rfl) (by decide) (fun hbr => ?_) (fun hbr => ?_)
      · replace hw := hw.2 hbr
        refine j_iinc 73 hC 4 (v4 + (-1)) [(4, .int (v4 + (-1))), (0, .ref (B + 95)), (1, .int v1), (2, .int l2), (3, .int v3)] (dg DX10_spare 47 rfl) rfl rfl (by decide) rfl ?_
        refine j_goto 76 23 hC (dg DX10_spare 48 rfl) (by decide) ?_
        refine j_lv [1, 2, 3, 4, 0] (lv' := [(0, .ref (B + 95)), (1, .int v1), (2, .int l2), (3, .int v3), (4, .int (v4 + (-1)))]) rfl ?_
        exact hrc _ _ _ _ hw
      · replace hw := hw.1 hbr
        refine j_iload_n 53 hC 1 (dg DX10_spare 33 rfl) rfl rfl ?_
        refine j_iconst 54 hC (dg DX10_spare 34 rfl) (v := 1) (by decide) ?_
        refine j_iload 55 hC 4 (dg DX10_spare 35 rfl) rfl ?_
        refine j_ishl 57 hC (dg DX10_spare 36 rfl) ?_
        refine j_iconst 58 hC (dg DX10_spare 37 rfl) (v := (-1)) (by decide) ?_
        refine j_ixor 59 hC (dg DX10_spare 38 rfl) ?_
        refine j_iand 60 hC (dg DX10_spare 39 rfl) ?_
        refine j_top (fun x9 ex => ?_)
        replace hw := hw _ ex
        refine j_istore_n 61 hC [(1, .int x9), (0, .ref (B + 95)), (2, .int l2), (3, .int v3), (4, .int v4)] (dg DX10_spare 40 rfl) rfl (by decide) rfl ?_
        refine j_iinc 62 hC 3 (v3 + 1) [(3, .int (v3 + 1)), (1, .int x9), (0, .ref (B + 95)), (2, .int l2), (4, .int v4)] (dg DX10_spare 41 rfl) rfl rfl (by decide) rfl ?_
        refine j_aload_n 65 hC 2 (dg DX10_spare 42 rfl) rfl rfl ?_
        refine j_getR 66 hC fX10_9 (k_95) (by decide) (by decide) rfl (dg DX10_spare 43 rfl) ?_
        refine j_iconst 69 hC (dg DX10_spare 44 rfl) (v := 0) (by decide) ?_
        refine j_iald0 70 0 hC (k_96) (by decide) (by unfold vp_in; decide) rfl (dg DX10_spare 45 rfl) ?_
        refine j_istore 71 hC [(4, .int (σ7 96 0)), (3, .int (v3 + 1)), (1, .int x9), (0, .ref (B + 95)), (2, .int l2)] (dg DX10_spare 46 rfl) (by decide) rfl ?_
        refine j_iinc 73 hC 0 ((σ7 96 0) + (-1)) [(4, .int ((σ7 96 0) + (-1))), (3, .int (v3 + 1)), (1, .int x9), (0, .ref (B + 95)), (2, .int l2)] (dg DX10_spare 47 rfl) rfl rfl (by decide) rfl ?_
        refine j_goto 76 23 hC (dg DX10_spare 48 rfl) (by decide) ?_
        refine j_lv [3, 2, 4, 1, 0] (lv' := [(0, .ref (B + 95)), (1, .int x9), (2, .int l2), (3, .int (v3 + 1)), (4, .int ((σ7 96 0) + (-1)))]) rfl ?_
        exact hrc _ _ _ _ hw
set_option maxRecDepth 100000 in
set_option maxHeartbeats 4000000 in
theorem t_X10_spare {X : XT} {B : Nat} (hC : Cx X 5 cX10_spare RX10 (rmN 4 93)) {Q : Int32 → SS → Prop} (hR : RtI X 5 B 103 RS cX10_spare Q) {σ : SS} (hw : wp_X10_spare  σ  Q) : J X 5 B 103 RS 0 0 σ [(0, .ref (B + 95))] 0 [] := by
  unfold wp_X10_spare at hw
  refine j_aload_n 0 hC 0 (dg DX10_spare 0 rfl) rfl rfl ?_
  refine j_Vi (As := []) 1 hC (m_X10_mannedSet  hw) kX10_128 (k_95) (by decide) ⟨_, _, rfl⟩ (rmN_ok (by decide) (by decide)) rfl rfl (Nat.le_of_ble_eq_true rfl) (dg DX10_spare 1 rfl) (fun r2 σ1 hw => ?_)
  refine j_istore_n 4 hC [(1, .int r2), (0, .ref (B + 95))] (dg DX10_spare 2 rfl) rfl (by decide) rfl ?_
  refine j_aload_n 5 hC 1 (dg DX10_spare 3 rfl) rfl rfl ?_
  refine j_iload_n 6 hC 0 (dg DX10_spare 4 rfl) rfl rfl ?_
  refine j_Vi (As := [.int r2]) 7 hC (m_X10_seen  hw) kX10_132 (k_95) (by decide) ⟨_, _, rfl⟩ (rmN_ok (by decide) (by decide)) rfl rfl (Nat.le_of_ble_eq_true rfl) (dg DX10_spare 5 rfl) (fun r4 σ3 hw => ?_)
  refine j_istore_n 10 hC [(2, .int r4), (1, .int r2), (0, .ref (B + 95))] (dg DX10_spare 6 rfl) rfl (by decide) rfl ?_
  refine j_iconst 11 hC (dg DX10_spare 7 rfl) (v := 0) (by decide) ?_
  refine j_istore_n 12 hC [(3, .int 0), (2, .int r4), (1, .int r2), (0, .ref (B + 95))] (dg DX10_spare 8 rfl) rfl (by decide) rfl ?_
  refine j_aload_n 13 hC 3 (dg DX10_spare 9 rfl) rfl rfl ?_
  refine j_getR 14 hC fX10_9 (k_95) (by decide) (by decide) rfl (dg DX10_spare 10 rfl) ?_
  refine j_iconst 17 hC (dg DX10_spare 11 rfl) (v := 0) (by decide) ?_
  refine j_iald0 18 0 hC (k_96) (by decide) (by unfold vp_in; decide) rfl (dg DX10_spare 12 rfl) ?_
  refine j_iconst 19 hC (dg DX10_spare 13 rfl) (v := 1) (by decide) ?_
  refine j_isub 20 hC (dg DX10_spare 14 rfl) ?_
  refine j_istore 21 hC [(4, .int ((σ3 96 0) - 1)), (3, .int 0), (2, .int r4), (1, .int r2), (0, .ref (B + 95))] (dg DX10_spare 15 rfl) (by decide) rfl ?_
  obtain ⟨k10, hw⟩ := hw
  refine j_lv [4, 3, 2, 1, 0] (lv' := [(0, .ref (B + 95)), (1, .int r2), (2, .int r4), (3, .int 0), (4, .int ((σ3 96 0) - 1))]) rfl ?_
  exact Liii.snd (P := fun τ w1 w3 w4 => J X 5 B 103 RS 0 0 τ [(0, .ref (B + 95)), (1, .int w1), (2, .int r4), (3, .int w3), (4, .int w4)] 23 []) (fun rcc hrcc => tb_X10_spare_23 hC  hR  hrcc) k10 _ _ _ _ hw
theorem m_X10_spare {B : Nat} {σ : SS} {Q : Int32 → SS → Prop} (hw : wp_X10_spare  σ  Q) : MI yX10_spare cX10_spare 5 (some .int) 4 93 B 103 RS [.ref (B + 95)] σ Q := MI.mk (plainFor_of_name (by decide)) (Nat.le_of_ble_eq_true rfl) (fun X hC hR => t_X10_spare hC  hR hw)
-- FortressWatchModel.nextTo
def bd_X10_nextTo_20    (Q : Int32 → SS → Prop) (l1 : Int32) (l2 : Int32) (rc : SS → Int32 → Int32 → Int32 → Prop) (σ : SS) (v3 : Int32) (v4 : Int32) (v5 : Int32) : Prop :=
  (((σ 96 0) ≤ v5 →
      Q v3 σ) ∧
    (¬ (σ 96 0) ≤ v5 →
      wp_X10_has σ l1 v5 (fun r4 σ3 =>
        ((r4 = 0 →
            wp_X10_sight σ3 v5 (fun r6 σ5 =>
              wp_X10_bits σ5 (r6 &&& l2) (fun r8 σ7 =>
                ((r8 ≤ v4 →
                    wp_X10_greater σ7 v4 r8 (fun r10 σ9 =>
                      rc σ9 v3 r10 (v5 + 1))) ∧
                  (¬ r8 ≤ v4 →
                    wp_X10_greater σ7 v4 r8 (fun r12 σ11 =>
                      rc σ11 v5 r12 (v5 + 1))))))) ∧
          (¬ r4 = 0 →
            ((0 ≤ v4 →
                wp_X10_greater σ3 v4 0 (fun r14 σ13 =>
                  rc σ13 v3 r14 (v5 + 1))) ∧
              (¬ 0 ≤ v4 →
                wp_X10_greater σ3 v4 0 (fun r16 σ15 =>
                  rc σ15 v5 r16 (v5 + 1)))))))))
def wp_X10_nextTo  (σ : SS) (p1 : Int32) (Q : Int32 → SS → Prop) : Prop :=
  wp_X10_seen σ p1 (fun r2 σ1 =>
    ∃ k17, Liii (bd_X10_nextTo_20 Q p1 (16777215 &&& (r2 ^^^ (-1)))) k17 σ1 (-4) 0 0)
set_option maxRecDepth 100000 in
set_option maxHeartbeats 4000000 in
theorem tb_X10_nextTo_20 {X : XT} {B : Nat} (hC : Cx X 7 cX10_nextTo RX10 (rmN 4 93)) {Q : Int32 → SS → Prop} {l1 : Int32} {l2 : Int32} (hR : RtI X 7 B 103 RS cX10_nextTo Q) {rc : SS → Int32 → Int32 → Int32 → Prop} (hrc : ∀ (σ : SS) (v3 : Int32) (v4 : Int32) (v5 : Int32), rc σ v3 v4 v5 → J X 7 B 103 RS 0 0 σ [(0, .ref (B + 95)), (1, .int l1), (2, .int l2), (3, .int v3), (4, .int v4), (5, .int v5)] 20 []) : ∀ (σ : SS) (v3 : Int32) (v4 : Int32) (v5 : Int32), bd_X10_nextTo_20 Q l1 l2 rc σ v3 v4 v5 → J X 7 B 103 RS 0 0 σ [(0, .ref (B + 95)), (1, .int l1), (2, .int l2), (3, .int v3), (4, .int v4), (5, .int v5)] 20 [] := by
  intro σ v3 v4 v5 hw
  unfold bd_X10_nextTo_20 at hw
  refine j_iload 20 hC 5 (dg DX10_nextTo 14 rfl) rfl ?_
  refine j_aload_n 22 hC 0 (dg DX10_nextTo 15 rfl) rfl rfl ?_
  refine j_getR 23 hC fX10_9 (k_95) (by decide) (by decide) rfl (dg DX10_nextTo 16 rfl) ?_
  refine j_iconst 26 hC (dg DX10_nextTo 17 rfl) (v := 0) (by decide) ?_
  refine j_iald0 27 0 hC (k_96) (by decide) (by unfold vp_in; decide) rfl (dg DX10_nextTo 18 rfl) ?_
  refine j_icmp_ge 28 86 hC (dg DX10_nextTo 19 rfl) (by decide) (fun hbr => ?_) (fun hbr => ?_)
  · replace hw := hw.1 hbr
    refine j_iload_n 86 hC 3 (dg DX10_nextTo 46 rfl) rfl rfl ?_
    exact hR 87 _ _ _ (dg DX10_nextTo 47 rfl) hw
  · replace hw := hw.2 hbr
    refine j_iload_n 31 hC 1 (dg DX10_nextTo 20 rfl) rfl rfl ?_
    refine j_iload 32 hC 5 (dg DX10_nextTo 21 rfl) rfl ?_
    refine j_Si (As := [.int l1, .int v5]) 34 hC (m_X10_has  hw) kX10_73 (rmN_ok (by decide) (by decide)) rfl rfl (Nat.le_of_ble_eq_true rfl) (dg DX10_nextTo 22 rfl) (fun r4 σ3 hw => ?_)
    refine j_if_eq 37 44 hC (dg DX10_nextTo 23 rfl) (by decide) (fun hbr => ?_) (fun hbr => ?_)
    · replace hw := hw.1 hbr
      refine j_aload_n 44 hC 0 (dg DX10_nextTo 26 rfl) rfl rfl ?_
      refine j_iload 45 hC 5 (dg DX10_nextTo 27 rfl) rfl ?_
      refine j_Vi (As := [.int v5]) 47 hC (m_X10_sight  hw) kX10_116 (k_95) (by decide) ⟨_, _, rfl⟩ (rmN_ok (by decide) (by decide)) rfl rfl (Nat.le_of_ble_eq_true rfl) (dg DX10_nextTo 28 rfl) (fun r6 σ5 hw => ?_)
      refine j_iload_n 50 hC 2 (dg DX10_nextTo 29 rfl) rfl rfl ?_
      refine j_iand 51 hC (dg DX10_nextTo 30 rfl) ?_
      refine j_Si (As := [.int (r6 &&& l2)]) 52 hC (m_X10_bits  hw) kX10_119 (rmN_ok (by decide) (by decide)) rfl rfl (Nat.le_of_ble_eq_true rfl) (dg DX10_nextTo 31 rfl) (fun r8 σ7 hw => ?_)
      refine j_istore 55 hC [(6, .int r8), (0, .ref (B + 95)), (1, .int l1), (2, .int l2), (3, .int v3), (4, .int v4), (5, .int v5)] (dg DX10_nextTo 32 rfl) (by decide) rfl ?_
      refine j_iload 57 hC 0 (dg DX10_nextTo 33 rfl) rfl ?_
      refine j_iload 59 hC 5 (dg DX10_nextTo 34 rfl) rfl ?_
      refine j_icmp_le 61 69 hC (dg DX10_nextTo 35 rfl) (by decide) (fun hbr => ?_) (fun hbr => ?_)
      · replace hw := hw.1 hbr
        refine j_iload_n 69 hC 4 (dg DX10_nextTo 38 rfl) rfl rfl ?_
        refine j_istore_n 70 hC [(3, .int v3), (6, .int r8), (0, .ref (B + 95)), (1, .int l1), (2, .int l2), (4, .int v4), (5, .int v5)] (dg DX10_nextTo 39 rfl) rfl (by decide) rfl ?_
        refine j_iload 71 hC 5 (dg DX10_nextTo 40 rfl) rfl ?_
        refine j_iload 73 hC 1 (dg DX10_nextTo 41 rfl) rfl ?_
        refine j_Si (As := [.int v4, .int r8]) 75 hC (m_X10_greater  hw) kX10_63 (rmN_ok (by decide) (by decide)) rfl rfl (Nat.le_of_ble_eq_true rfl) (dg DX10_nextTo 42 rfl) (fun r10 σ9 hw => ?_)
        refine j_istore 78 hC [(4, .int r10), (3, .int v3), (6, .int r8), (0, .ref (B + 95)), (1, .int l1), (2, .int l2), (5, .int v5)] (dg DX10_nextTo 43 rfl) (by decide) rfl ?_
        refine j_iinc 80 hC 6 (v5 + 1) [(5, .int (v5 + 1)), (4, .int r10), (3, .int v3), (6, .int r8), (0, .ref (B + 95)), (1, .int l1), (2, .int l2)] (dg DX10_nextTo 44 rfl) rfl rfl (by decide) rfl ?_
        refine j_goto 83 20 hC (dg DX10_nextTo 45 rfl) (by decide) ?_
        refine j_lv [4, 5, 6, 2, 1, 0] (lv' := [(0, .ref (B + 95)), (1, .int l1), (2, .int l2), (3, .int v3), (4, .int r10), (5, .int (v5 + 1))]) rfl ?_
        exact hrc _ _ _ _ hw
      · replace hw := hw.2 hbr
        refine j_iload 64 hC 6 (dg DX10_nextTo 36 rfl) rfl ?_
        refine j_goto 66 70 hC (dg DX10_nextTo 37 rfl) (by decide) ?_
        refine j_istore_n 70 hC [(3, .int v5), (6, .int r8), (0, .ref (B + 95)), (1, .int l1), (2, .int l2), (4, .int v4), (5, .int v5)] (dg DX10_nextTo 39 rfl) rfl (by decide) rfl ?_
        refine j_iload 71 hC 5 (dg DX10_nextTo 40 rfl) rfl ?_
        refine j_iload 73 hC 1 (dg DX10_nextTo 41 rfl) rfl ?_
        refine j_Si (As := [.int v4, .int r8]) 75 hC (m_X10_greater  hw) kX10_63 (rmN_ok (by decide) (by decide)) rfl rfl (Nat.le_of_ble_eq_true rfl) (dg DX10_nextTo 42 rfl) (fun r12 σ11 hw => ?_)
        refine j_istore 78 hC [(4, .int r12), (3, .int v5), (6, .int r8), (0, .ref (B + 95)), (1, .int l1), (2, .int l2), (5, .int v5)] (dg DX10_nextTo 43 rfl) (by decide) rfl ?_
        refine j_iinc 80 hC 6 (v5 + 1) [(5, .int (v5 + 1)), (4, .int r12), (3, .int v5), (6, .int r8), (0, .ref (B + 95)), (1, .int l1), (2, .int l2)] (dg DX10_nextTo 44 rfl) rfl rfl (by decide) rfl ?_
        refine j_goto 83 20 hC (dg DX10_nextTo 45 rfl) (by decide) ?_
        refine j_lv [4, 5, 6, 2, 1, 0] (lv' := [(0, .ref (B + 95)), (1, .int l1), (2, .int l2), (3, .int v5), (4, .int r12), (5, .int (v5 + 1))]) rfl ?_
        exact hrc _ _ _ _ hw
    · replace hw := hw.2 hbr
      refine j_iconst 40 hC (dg DX10_nextTo 24 rfl) (v := 0) (by decide) ?_
      refine j_goto 41 55 hC (dg DX10_nextTo 25 rfl) (by decide) ?_
      refine j_istore 55 hC [(6, .int 0), (0, .ref (B + 95)), (1, .int l1), (2, .int l2), (3, .int v3), (4, .int v4), (5, .int v5)] (dg DX10_nextTo 32 rfl) (by decide) rfl ?_
      refine j_iload 57 hC 0 (dg DX10_nextTo 33 rfl) rfl ?_
      refine j_iload 59 hC 5 (dg DX10_nextTo 34 rfl) rfl ?_
      refine j_icmp_le 61 69 hC (dg DX10_nextTo 35 rfl) (by decide) (fun hbr => ?_) (fun hbr => ?_)
      · replace hw := hw.1 hbr
        refine j_iload_n 69 hC 4 (dg DX10_nextTo 38 rfl) rfl rfl ?_
        refine j_istore_n 70 hC [(3, .int v3), (6, .int 0), (0, .ref (B + 95)), (1, .int l1), (2, .int l2), (4, .int v4), (5, .int v5)] (dg DX10_nextTo 39 rfl) rfl (by decide) rfl ?_
        refine j_iload 71 hC 5 (dg DX10_nextTo 40 rfl) rfl ?_
        refine j_iload 73 hC 1 (dg DX10_nextTo 41 rfl) rfl ?_
        refine j_Si (As := [.int v4, .int 0]) 75 hC (m_X10_greater  hw) kX10_63 (rmN_ok (by decide) (by decide)) rfl rfl (Nat.le_of_ble_eq_true rfl) (dg DX10_nextTo 42 rfl) (fun r14 σ13 hw => ?_)
        refine j_istore 78 hC [(4, .int r14), (3, .int v3), (6, .int 0), (0, .ref (B + 95)), (1, .int l1), (2, .int l2), (5, .int v5)] (dg DX10_nextTo 43 rfl) (by decide) rfl ?_
        refine j_iinc 80 hC 6 (v5 + 1) [(5, .int (v5 + 1)), (4, .int r14), (3, .int v3), (6, .int 0), (0, .ref (B + 95)), (1, .int l1), (2, .int l2)] (dg DX10_nextTo 44 rfl) rfl rfl (by decide) rfl ?_
        refine j_goto 83 20 hC (dg DX10_nextTo 45 rfl) (by decide) ?_
        refine j_lv [4, 5, 6, 2, 1, 0] (lv' := [(0, .ref (B + 95)), (1, .int l1), (2, .int l2), (3, .int v3), (4, .int r14), (5, .int (v5 + 1))]) rfl ?_
        exact hrc _ _ _ _ hw
      · replace hw := hw.2 hbr
        refine j_iload 64 hC 6 (dg DX10_nextTo 36 rfl) rfl ?_
        refine j_goto 66 70 hC (dg DX10_nextTo 37 rfl) (by decide) ?_
        refine j_istore_n 70 hC [(3, .int v5), (6, .int 0), (0, .ref (B + 95)), (1, .int l1), (2, .int l2), (4, .int v4), (5, .int v5)] (dg DX10_nextTo 39 rfl) rfl (by decide) rfl ?_
        refine j_iload 71 hC 5 (dg DX10_nextTo 40 rfl) rfl ?_
        refine j_iload 73 hC 1 (dg DX10_nextTo 41 rfl) rfl ?_
        refine j_Si (As := [.int v4, .int 0]) 75 hC (m_X10_greater  hw) kX10_63 (rmN_ok (by decide) (by decide)) rfl rfl (Nat.le_of_ble_eq_true rfl) (dg DX10_nextTo 42 rfl) (fun r16 σ15 hw => ?_)
        refine j_istore 78 hC [(4, .int r16), (3, .int v5), (6, .int 0), (0, .ref (B + 95)), (1, .int l1), (2, .int l2), (5, .int v5)] (dg DX10_nextTo 43 rfl) (by decide) rfl ?_
        refine j_iinc 80 hC 6 (v5 + 1) [(5, .int (v5 + 1)), (4, .int r16), (3, .int v5), (6, .int 0), (0, .ref (B + 95)), (1, .int l1), (2, .int l2)] (dg DX10_nextTo 44 rfl) rfl rfl (by decide) rfl ?_
        refine j_goto 83 20 hC (dg DX10_nextTo 45 rfl) (by decide) ?_
        refine j_lv [4, 5, 6, 2, 1, 0] (lv' := [(0, .ref (B + 95)), (1, .int l1), (2, .int l2), (3, .int v5), (4, .int r16), (5, .int (v5 + 1))]) rfl ?_
        exact hrc _ _ _ _ hw
set_option maxRecDepth 100000 in
set_option maxHeartbeats 4000000 in
theorem t_X10_nextTo {X : XT} {B : Nat} (hC : Cx X 7 cX10_nextTo RX10 (rmN 4 93)) {Q : Int32 → SS → Prop} (hR : RtI X 7 B 103 RS cX10_nextTo Q) {σ : SS} {p1 : Int32} (hw : wp_X10_nextTo  σ p1 Q) : J X 7 B 103 RS 0 0 σ [(0, .ref (B + 95)), (1, .int p1)] 0 [] := by
  unfold wp_X10_nextTo at hw
  refine j_ldc 0 hC (dg DX10_nextTo 0 rfl) w_1050 ?_
  refine j_aload_n 2 hC 0 (dg DX10_nextTo 1 rfl) rfl rfl ?_
  refine j_iload_n 3 hC 1 (dg DX10_nextTo 2 rfl) rfl rfl ?_
  refine j_Vi (As := [.int p1]) 4 hC (m_X10_seen  hw) kX10_132 (k_95) (by decide) ⟨_, _, rfl⟩ (rmN_ok (by decide) (by decide)) rfl rfl (Nat.le_of_ble_eq_true rfl) (dg DX10_nextTo 3 rfl) (fun r2 σ1 hw => ?_)
  refine j_iconst 7 hC (dg DX10_nextTo 4 rfl) (v := (-1)) (by decide) ?_
  refine j_ixor 8 hC (dg DX10_nextTo 5 rfl) ?_
  refine j_iand 9 hC (dg DX10_nextTo 6 rfl) ?_
  refine j_istore_n 10 hC [(2, .int (16777215 &&& (r2 ^^^ (-1)))), (0, .ref (B + 95)), (1, .int p1)] (dg DX10_nextTo 7 rfl) rfl (by decide) rfl ?_
  refine j_bipush 11 hC (dg DX10_nextTo 8 rfl) (v := (-4)) (by decide) ?_
  refine j_istore_n 13 hC [(3, .int (-4)), (2, .int (16777215 &&& (r2 ^^^ (-1)))), (0, .ref (B + 95)), (1, .int p1)] (dg DX10_nextTo 9 rfl) rfl (by decide) rfl ?_
  refine j_iconst 14 hC (dg DX10_nextTo 10 rfl) (v := 0) (by decide) ?_
  refine j_istore 15 hC [(4, .int 0), (3, .int (-4)), (2, .int (16777215 &&& (r2 ^^^ (-1)))), (0, .ref (B + 95)), (1, .int p1)] (dg DX10_nextTo 11 rfl) (by decide) rfl ?_
  refine j_iconst 17 hC (dg DX10_nextTo 12 rfl) (v := 0) (by decide) ?_
  refine j_istore 18 hC [(5, .int 0), (4, .int 0), (3, .int (-4)), (2, .int (16777215 &&& (r2 ^^^ (-1)))), (0, .ref (B + 95)), (1, .int p1)] (dg DX10_nextTo 13 rfl) (by decide) rfl ?_
  obtain ⟨k17, hw⟩ := hw
  refine j_lv [4, 5, 3, 2, 1, 0] (lv' := [(0, .ref (B + 95)), (1, .int p1), (2, .int (16777215 &&& (r2 ^^^ (-1)))), (3, .int (-4)), (4, .int 0), (5, .int 0)]) rfl ?_
  exact Liii.snd (P := fun τ w3 w4 w5 => J X 7 B 103 RS 0 0 τ [(0, .ref (B + 95)), (1, .int p1), (2, .int (16777215 &&& (r2 ^^^ (-1)))), (3, .int w3), (4, .int w4), (5, .int w5)] 20 []) (fun rcc hrcc => tb_X10_nextTo_20 hC  hR  hrcc) k17 _ _ _ _ hw
theorem m_X10_nextTo {B : Nat} {σ : SS} {p1 : Int32} {Q : Int32 → SS → Prop} (hw : wp_X10_nextTo  σ p1 Q) : MI yX10_nextTo cX10_nextTo 7 (some .int) 4 93 B 103 RS [.ref (B + 95), .int p1] σ Q := MI.mk (plainFor_of_name (by decide)) (Nat.le_of_ble_eq_true rfl) (fun X hC hR => t_X10_nextTo hC  hR hw)
