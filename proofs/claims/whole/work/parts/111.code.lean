-- FortressWatchModel.post
def wp_X10_post  (σ : SS) (p1 : Int32) (p2 : Int32) (p3 : Int32) (Q : Int32 → SS → Prop) : Prop :=
  wp_X10_keeps σ (fun σ1 =>
    wp_X10_builds σ1 p1 p2 p3 (fun r3 σ2 =>
      wp_X10_ends σ2 r3 (fun r5 σ4 =>
        Q r5 σ4)))
set_option maxRecDepth 100000 in
set_option maxHeartbeats 4000000 in
theorem t_X10_post {X : XT} {B : Nat} (hC : Cx X 4 cX10_post RX10 (rmN 3 69)) {Q : Int32 → SS → Prop} (hR : RtI X 4 B 103 RS cX10_post Q) {σ : SS} {p1 : Int32} {p2 : Int32} {p3 : Int32} (hw : wp_X10_post  σ p1 p2 p3 Q) : J X 4 B 103 RS 0 0 σ [(0, .ref (B + 95)), (1, .int p1), (2, .int p2), (3, .int p3)] 0 [] := by
  unfold wp_X10_post at hw
  refine j_aload_n 0 hC 0 (dg DX10_post 0 rfl) rfl rfl ?_
  refine j_Vv (As := []) 1 hC (m_X10_keeps  hw) kX10_97 (k_95) (by decide) ⟨_, _, rfl⟩ (rmN_ok (by decide) (by decide)) rfl rfl (Nat.le_of_ble_eq_true rfl) (dg DX10_post 1 rfl) (fun σ1 hw => ?_)
  refine j_aload_n 4 hC 0 (dg DX10_post 2 rfl) rfl rfl ?_
  refine j_aload_n 5 hC 0 (dg DX10_post 3 rfl) rfl rfl ?_
  refine j_iload_n 6 hC 1 (dg DX10_post 4 rfl) rfl rfl ?_
  refine j_iload_n 7 hC 2 (dg DX10_post 5 rfl) rfl rfl ?_
  refine j_iload_n 8 hC 3 (dg DX10_post 6 rfl) rfl rfl ?_
  refine j_Vi (As := [.int p1, .int p2, .int p3]) 9 hC (m_X10_builds  hw) kX10_100 (k_95) (by decide) ⟨_, _, rfl⟩ (rmN_ok (by decide) (by decide)) rfl rfl (Nat.le_of_ble_eq_true rfl) (dg DX10_post 7 rfl) (fun r3 σ2 hw => ?_)
  refine j_Vi (As := [.int r3]) 12 hC (m_X10_ends  hw) kX10_104 (k_95) (by decide) ⟨_, _, rfl⟩ (rmN_ok (by decide) (by decide)) rfl rfl (Nat.le_of_ble_eq_true rfl) (dg DX10_post 8 rfl) (fun r5 σ4 hw => ?_)
  exact hR 15 _ _ _ (dg DX10_post 9 rfl) hw
theorem m_X10_post {B : Nat} {σ : SS} {p1 : Int32} {p2 : Int32} {p3 : Int32} {Q : Int32 → SS → Prop} (hw : wp_X10_post  σ p1 p2 p3 Q) : MI yX10_post cX10_post 4 (some .int) 3 69 B 103 RS [.ref (B + 95), .int p1, .int p2, .int p3] σ Q := MI.mk (plainFor_of_name (by decide)) (Nat.le_of_ble_eq_true rfl) (fun X hC hR => t_X10_post hC  hR hw)
-- FortressWatchModel.tears
def bd_X10_tears_47    (Q : Int32 → SS → Prop) (l1 : Int32) (rc : SS → Int32 → Prop) (σ : SS) (v2 : Int32) : Prop :=
  ((59 ≤ v2 →
      ∀ σ3 : SS, σ3 = u2 (u2 σ 96 0 ((σ 96 0) - 1)) 96 3 (((u2 σ 96 0 ((σ 96 0) - 1)) 96 3) + 1) →
      Q (σ3 96 0) σ3) ∧
    (¬ 59 ≤ v2 →
      vp_in v2 59 ∧
      rc (u2 σ 96 v2.toNatClampNeg 0) (v2 + 1)))
def bd_X10_tears_17    (Q : Int32 → SS → Prop) (l1 : Int32) (rc : SS → Int32 → Prop) (σ : SS) (v2 : Int32) : Prop :=
  ((53 ≤ v2 →
      ∃ k4, Li (bd_X10_tears_47 Q l1) k4 σ 53) ∧
    (¬ 53 ≤ v2 →
      vp_in (v2 + 6) 59 ∧
      vp_in v2 59 ∧
      ∀ σ5 : SS, σ5 = u2 σ 96 v2.toNatClampNeg (σ 96 (v2 + 6).toNatClampNeg) →
      rc σ5 (v2 + 1)))
def wp_X10_tears  (σ : SS) (p1 : Int32) (Q : Int32 → SS → Prop) : Prop :=
  wp_X10_isPost σ p1 (fun r2 σ1 =>
    ((r2 = 0 →
        Q (-1) σ1) ∧
      (¬ r2 = 0 →
        ∃ k6, Li (bd_X10_tears_17 Q p1) k6 σ1 (5 + (6 * p1)))))
set_option maxRecDepth 100000 in
set_option maxHeartbeats 4000000 in
theorem tb_X10_tears_47 {X : XT} {B : Nat} (hC : Cx X 3 cX10_tears RX10 (rmN 2 43)) {Q : Int32 → SS → Prop} {l1 : Int32} (hR : RtI X 3 B 103 RS cX10_tears Q) {rc : SS → Int32 → Prop} (hrc : ∀ (σ : SS) (v2 : Int32), rc σ v2 → J X 3 B 103 RS 0 0 σ [(0, .ref (B + 95)), (1, .int l1), (2, .int v2)] 47 []) : ∀ (σ : SS) (v2 : Int32), bd_X10_tears_47 Q l1 rc σ v2 → J X 3 B 103 RS 0 0 σ [(0, .ref (B + 95)), (1, .int l1), (2, .int v2)] 47 [] := by
  intro σ v2 hw
  unfold bd_X10_tears_47 at hw
  refine j_iload_n 47 hC 2 (dg DX10_tears 29 rfl) rfl rfl ?_
  refine j_bipush 48 hC (dg DX10_tears 30 rfl) (v := 59) (by decide) ?_
  refine j_icmp_ge 50 66 hC (dg DX10_tears 31 rfl) (by decide) (fun hbr => ?_) (fun hbr => ?_)
  · replace hw := hw.1 hbr
    refine j_aload_n 66 hC 0 (dg DX10_tears 39 rfl) rfl rfl ?_
    refine j_getR 67 hC fX10_9 (k_95) (by decide) (by decide) rfl (dg DX10_tears 40 rfl) ?_
    refine j_iconst 70 hC (dg DX10_tears 41 rfl) (v := 0) (by decide) ?_
    refine j_dup2 71 hC (dg DX10_tears 42 rfl) rfl rfl ?_
    refine j_iald0 72 0 hC (k_96) (by decide) (by unfold vp_in; decide) rfl (dg DX10_tears 43 rfl) ?_
    refine j_iconst 73 hC (dg DX10_tears 44 rfl) (v := 1) (by decide) ?_
    refine j_isub 74 hC (dg DX10_tears 45 rfl) ?_
    refine j_iast0 75 0 hC (k_96) (by decide) (by unfold vp_in; decide) rfl (dg DX10_tears 46 rfl) ?_
    refine j_aload_n 76 hC 0 (dg DX10_tears 47 rfl) rfl rfl ?_
    refine j_getR 77 hC fX10_9 (k_95) (by decide) (by decide) rfl (dg DX10_tears 48 rfl) ?_
    refine j_iconst 80 hC (dg DX10_tears 49 rfl) (v := 3) (by decide) ?_
    refine j_dup2 81 hC (dg DX10_tears 50 rfl) rfl rfl ?_
    refine j_iald0 82 3 hC (k_96) (by decide) (by unfold vp_in; decide) rfl (dg DX10_tears 51 rfl) ?_
    refine j_iconst 83 hC (dg DX10_tears 52 rfl) (v := 1) (by decide) ?_
    refine j_iadd 84 hC (dg DX10_tears 53 rfl) ?_
    refine j_iast0 85 3 hC (k_96) (by decide) (by unfold vp_in; decide) rfl (dg DX10_tears 54 rfl) ?_
    refine j_sg (fun σ3 es => ?_)
    replace hw := hw _ es
    refine j_aload_n 86 hC 0 (dg DX10_tears 55 rfl) rfl rfl ?_
    refine j_getR 87 hC fX10_9 (k_95) (by decide) (by decide) rfl (dg DX10_tears 56 rfl) ?_
    refine j_iconst 90 hC (dg DX10_tears 57 rfl) (v := 0) (by decide) ?_
    refine j_iald0 91 0 hC (k_96) (by decide) (by unfold vp_in; decide) rfl (dg DX10_tears 58 rfl) ?_
    exact hR 92 _ _ _ (dg DX10_tears 59 rfl) hw
  · replace hw := hw.2 hbr
    refine j_aload_n 53 hC 0 (dg DX10_tears 32 rfl) rfl rfl ?_
    refine j_getR 54 hC fX10_9 (k_95) (by decide) (by decide) rfl (dg DX10_tears 33 rfl) ?_
    refine j_iload_n 57 hC 2 (dg DX10_tears 34 rfl) rfl rfl ?_
    refine j_iconst 58 hC (dg DX10_tears 35 rfl) (v := 0) (by decide) ?_
    refine j_iast0 59 _ hC (k_96) (by decide) hw.1 rfl (dg DX10_tears 36 rfl) ?_
    replace hw := hw.2
    refine j_iinc 60 hC 2 (v2 + 1) [(2, .int (v2 + 1)), (0, .ref (B + 95)), (1, .int l1)] (dg DX10_tears 37 rfl) rfl rfl (by decide) rfl ?_
    refine j_goto 63 47 hC (dg DX10_tears 38 rfl) (by decide) ?_
    refine j_lv [1, 2, 0] (lv' := [(0, .ref (B + 95)), (1, .int l1), (2, .int (v2 + 1))]) rfl ?_
    exact hrc _ _ hw
set_option maxRecDepth 100000 in
set_option maxHeartbeats 4000000 in
theorem tb_X10_tears_17 {X : XT} {B : Nat} (hC : Cx X 3 cX10_tears RX10 (rmN 2 43)) {Q : Int32 → SS → Prop} {l1 : Int32} (hR : RtI X 3 B 103 RS cX10_tears Q) {rc : SS → Int32 → Prop} (hrc : ∀ (σ : SS) (v2 : Int32), rc σ v2 → J X 3 B 103 RS 0 0 σ [(0, .ref (B + 95)), (1, .int l1), (2, .int v2)] 17 []) : ∀ (σ : SS) (v2 : Int32), bd_X10_tears_17 Q l1 rc σ v2 → J X 3 B 103 RS 0 0 σ [(0, .ref (B + 95)), (1, .int l1), (2, .int v2)] 17 [] := by
  intro σ v2 hw
  unfold bd_X10_tears_17 at hw
  refine j_iload_n 17 hC 2 (dg DX10_tears 12 rfl) rfl rfl ?_
  refine j_bipush 18 hC (dg DX10_tears 13 rfl) (v := 53) (by decide) ?_
  refine j_icmp_ge 20 44 hC (dg DX10_tears 14 rfl) (by decide) (fun hbr => ?_) (fun hbr => ?_)
  · replace hw := hw.1 hbr
    refine j_bipush 44 hC (dg DX10_tears 27 rfl) (v := 53) (by decide) ?_
    refine j_istore_n 46 hC [(2, .int 53), (0, .ref (B + 95)), (1, .int l1)] (dg DX10_tears 28 rfl) rfl (by decide) rfl ?_
    obtain ⟨k4, hw⟩ := hw
    refine j_lv [1, 2, 0] (lv' := [(0, .ref (B + 95)), (1, .int l1), (2, .int 53)]) rfl ?_
    exact Li.snd (P := fun τ w2 => J X 3 B 103 RS 0 0 τ [(0, .ref (B + 95)), (1, .int l1), (2, .int w2)] 47 []) (fun rcc hrcc => tb_X10_tears_47 hC  hR  hrcc) k4 _ _ hw
  · replace hw := hw.2 hbr
    refine j_aload_n 23 hC 0 (dg DX10_tears 15 rfl) rfl rfl ?_
    refine j_getR 24 hC fX10_9 (k_95) (by decide) (by decide) rfl (dg DX10_tears 16 rfl) ?_
    refine j_iload_n 27 hC 2 (dg DX10_tears 17 rfl) rfl rfl ?_
    refine j_aload_n 28 hC 0 (dg DX10_tears 18 rfl) rfl rfl ?_
    refine j_getR 29 hC fX10_9 (k_95) (by decide) (by decide) rfl (dg DX10_tears 19 rfl) ?_
    refine j_iload_n 32 hC 2 (dg DX10_tears 20 rfl) rfl rfl ?_
    refine j_bipush 33 hC (dg DX10_tears 21 rfl) (v := 6) (by decide) ?_
    refine j_iadd 35 hC (dg DX10_tears 22 rfl) ?_
    refine j_iald0 36 _ hC (k_96) (by decide) hw.1 rfl (dg DX10_tears 23 rfl) ?_
    replace hw := hw.2
    refine j_iast0 37 _ hC (k_96) (by decide) hw.1 rfl (dg DX10_tears 24 rfl) ?_
    replace hw := hw.2
    refine j_sg (fun σ5 es => ?_)
    replace hw := hw _ es
    refine j_iinc 38 hC 2 (v2 + 1) [(2, .int (v2 + 1)), (0, .ref (B + 95)), (1, .int l1)] (dg DX10_tears 25 rfl) rfl rfl (by decide) rfl ?_
    refine j_goto 41 17 hC (dg DX10_tears 26 rfl) (by decide) ?_
    refine j_lv [1, 2, 0] (lv' := [(0, .ref (B + 95)), (1, .int l1), (2, .int (v2 + 1))]) rfl ?_
    exact hrc _ _ hw
set_option maxRecDepth 100000 in
set_option maxHeartbeats 4000000 in
theorem t_X10_tears {X : XT} {B : Nat} (hC : Cx X 3 cX10_tears RX10 (rmN 2 43)) {Q : Int32 → SS → Prop} (hR : RtI X 3 B 103 RS cX10_tears Q) {σ : SS} {p1 : Int32} (hw : wp_X10_tears  σ p1 Q) : J X 3 B 103 RS 0 0 σ [(0, .ref (B + 95)), (1, .int p1)] 0 [] := by
  unfold wp_X10_tears at hw
  refine j_aload_n 0 hC 0 (dg DX10_tears 0 rfl) rfl rfl ?_
  refine j_iload_n 1 hC 1 (dg DX10_tears 1 rfl) rfl rfl ?_
  refine j_Vi (As := [.int p1]) 2 hC (m_X10_isPost  hw) kX10_107 (k_95) (by decide) ⟨_, _, rfl⟩ (rmN_ok (by decide) (by decide)) rfl rfl (Nat.le_of_ble_eq_true rfl) (dg DX10_tears 2 rfl) (fun r2 σ1 hw => ?_)
  refine j_if_ne 5 10 hC (dg DX10_tears 3 rfl) (by decide) (fun hbr => ?_) (fun hbr => ?_)
  · replace hw := hw.2 hbr
    refine j_iconst 10 hC (dg DX10_tears 6 rfl) (v := 5) (by decide) ?_
    refine j_bipush 11 hC (dg DX10_tears 7 rfl) (v := 6) (by decide) ?_
    refine j_iload_n 13 hC 1 (dg DX10_tears 8 rfl) rfl rfl ?_
    refine j_imul 14 hC (dg DX10_tears 9 rfl) ?_
    refine j_iadd 15 hC (dg DX10_tears 10 rfl) ?_
    refine j_istore_n 16 hC [(2, .int (5 + (6 * p1))), (0, .ref (B + 95)), (1, .int p1)] (dg DX10_tears 11 rfl) rfl (by decide) rfl ?_
    obtain ⟨k6, hw⟩ := hw
    refine j_lv [1, 2, 0] (lv' := [(0, .ref (B + 95)), (1, .int p1), (2, .int (5 + (6 * p1)))]) rfl ?_
    exact Li.snd (P := fun τ w2 => J X 3 B 103 RS 0 0 τ [(0, .ref (B + 95)), (1, .int p1), (2, .int w2)] 17 []) (fun rcc hrcc => tb_X10_tears_17 hC  hR  hrcc) k6 _ _ hw
  · replace hw := hw.1 hbr
    refine j_iconst 8 hC (dg DX10_tears 4 rfl) (v := (-1)) (by decide) ?_
    exact hR 9 _ _ _ (dg DX10_tears 5 rfl) hw
theorem m_X10_tears {B : Nat} {σ : SS} {p1 : Int32} {Q : Int32 → SS → Prop} (hw : wp_X10_tears  σ p1 Q) : MI yX10_tears cX10_tears 3 (some .int) 2 43 B 103 RS [.ref (B + 95), .int p1] σ Q := MI.mk (plainFor_of_name (by decide)) (Nat.le_of_ble_eq_true rfl) (fun X hC hR => t_X10_tears hC  hR hw)
-- FortressWatchModel.tear
def wp_X10_tear  (σ : SS) (p1 : Int32) (Q : Int32 → SS → Prop) : Prop :=
  wp_X10_keeps σ (fun σ1 =>
    wp_X10_tears σ1 p1 (fun r3 σ2 =>
      wp_X10_ends σ2 r3 (fun r5 σ4 =>
        Q r5 σ4)))
set_option maxRecDepth 100000 in
set_option maxHeartbeats 4000000 in
theorem t_X10_tear {X : XT} {B : Nat} (hC : Cx X 2 cX10_tear RX10 (rmN 3 66)) {Q : Int32 → SS → Prop} (hR : RtI X 2 B 103 RS cX10_tear Q) {σ : SS} {p1 : Int32} (hw : wp_X10_tear  σ p1 Q) : J X 2 B 103 RS 0 0 σ [(0, .ref (B + 95)), (1, .int p1)] 0 [] := by
  unfold wp_X10_tear at hw
  refine j_aload_n 0 hC 0 (dg DX10_tear 0 rfl) rfl rfl ?_
  refine j_Vv (As := []) 1 hC (m_X10_keeps  hw) kX10_97 (k_95) (by decide) ⟨_, _, rfl⟩ (rmN_ok (by decide) (by decide)) rfl rfl (Nat.le_of_ble_eq_true rfl) (dg DX10_tear 1 rfl) (fun σ1 hw => ?_)
  refine j_aload_n 4 hC 0 (dg DX10_tear 2 rfl) rfl rfl ?_
  refine j_aload_n 5 hC 0 (dg DX10_tear 3 rfl) rfl rfl ?_
  refine j_iload_n 6 hC 1 (dg DX10_tear 4 rfl) rfl rfl ?_
  refine j_Vi (As := [.int p1]) 7 hC (m_X10_tears  hw) kX10_110 (k_95) (by decide) ⟨_, _, rfl⟩ (rmN_ok (by decide) (by decide)) rfl rfl (Nat.le_of_ble_eq_true rfl) (dg DX10_tear 5 rfl) (fun r3 σ2 hw => ?_)
  refine j_Vi (As := [.int r3]) 10 hC (m_X10_ends  hw) kX10_104 (k_95) (by decide) ⟨_, _, rfl⟩ (rmN_ok (by decide) (by decide)) rfl rfl (Nat.le_of_ble_eq_true rfl) (dg DX10_tear 6 rfl) (fun r5 σ4 hw => ?_)
  exact hR 13 _ _ _ (dg DX10_tear 7 rfl) hw
theorem m_X10_tear {B : Nat} {σ : SS} {p1 : Int32} {Q : Int32 → SS → Prop} (hw : wp_X10_tear  σ p1 Q) : MI yX10_tear cX10_tear 2 (some .int) 3 66 B 103 RS [.ref (B + 95), .int p1] σ Q := MI.mk (plainFor_of_name (by decide)) (Nat.le_of_ble_eq_true rfl) (fun X hC hR => t_X10_tear hC  hR hw)
-- FortressWatchModel.reaches
def wp_X10_reaches  (σ : SS) (p1 : Int32) (p2 : Int32) (p3 : Int32) (Q : Int32 → SS → Prop) : Prop :=
  wp_X10_isPost σ p1 (fun r2 σ1 =>
    ((r2 = 0 →
        Q (-1) σ1) ∧
      (¬ r2 = 0 →
        wp_X10_isReach σ1 p2 (fun r4 σ3 =>
          ((r4 = 0 →
              Q (-2) σ3) ∧
            (¬ r4 = 0 →
              wp_X10_isReach σ3 p3 (fun r6 σ5 =>
                ((r6 = 0 →
                    Q (-2) σ5) ∧
                  (¬ r6 = 0 →
                    wp_X10_of σ5 p1 1 (fun r8 σ7 =>
                      wp_X10_of σ7 p1 2 (fun r10 σ9 =>
                        ((((100 * r8) + r10) = ((100 * p2) + p3) →
                            wp_X10_isRefused σ9 1 3 p2 (fun r16 σ15 =>
                              ((r16 = 0 →
                                  wp_X10_sets σ15 p1 1 p2 (fun σ17 =>
                                    wp_X10_sets σ17 p1 2 p3 (fun σ18 =>
                                      Q ((100 * r8) + r10) σ18))) ∧
                                (¬ r16 = 0 →
                                  Q (-3) σ15)))) ∧
                          (¬ ((100 * r8) + r10) = ((100 * p2) + p3) →
                            wp_X10_isRefused σ9 0 3 p2 (fun r12 σ11 =>
                              ((r12 = 0 →
                                  wp_X10_sets σ11 p1 1 p2 (fun σ13 =>
                                    wp_X10_sets σ13 p1 2 p3 (fun σ14 =>
                                      Q ((100 * r8) + r10) σ14))) ∧
                                (¬ r12 = 0 →
                                  Q (-3) σ11))))))))))))))))
set_option maxRecDepth 100000 in
set_option maxHeartbeats 4000000 in
theorem t_X10_reaches {X : XT} {B : Nat} (hC : Cx X 5 cX10_reaches RX10 (rmN 2 43)) {Q : Int32 → SS → Prop} (hR : RtI X 5 B 103 RS cX10_reaches Q) {σ : SS} {p1 : Int32} {p2 : Int32} {p3 : Int32} (hw : wp_X10_reaches  σ p1 p2 p3 Q) : J X 5 B 103 RS 0 0 σ [(0, .ref (B + 95)), (1, .int p1), (2, .int p2), (3, .int p3)] 0 [] := by
  unfold wp_X10_reaches at hw
  refine j_aload_n 0 hC 0 (dg DX10_reaches 0 rfl) rfl rfl ?_
  refine j_iload_n 1 hC 1 (dg DX10_reaches 1 rfl) rfl rfl ?_
  refine j_Vi (As := [.int p1]) 2 hC (m_X10_isPost  hw) kX10_107 (k_95) (by decide) ⟨_, _, rfl⟩ (rmN_ok (by decide) (by decide)) rfl rfl (Nat.le_of_ble_eq_true rfl) (dg DX10_reaches 2 rfl) (fun r2 σ1 hw => ?_)
  refine j_if_ne 5 10 hC (dg DX10_reaches 3 rfl) (by decide) (fun hbr => ?_) (fun hbr => ?_)
  · replace hw := hw.2 hbr
    refine j_iload_n 10 hC 2 (dg DX10_reaches 6 rfl) rfl rfl ?_
    refine j_Si (As := [.int p2]) 11 hC (m_X10_isReach  hw) kX10_83 (rmN_ok (by decide) (by decide)) rfl rfl (Nat.le_of_ble_eq_true rfl) (dg DX10_reaches 7 rfl) (fun r4 σ3 hw => ?_)
    refine j_if_eq 14 24 hC (dg DX10_reaches 8 rfl) (by decide) (fun hbr => ?_) (fun hbr => ?_)
    · replace hw := hw.1 hbr
      refine j_bipush 24 hC (dg DX10_reaches 12 rfl) (v := (-2)) (by decide) ?_
      exact hR 26 _ _ _ (dg DX10_reaches 13 rfl) hw
    · replace hw := hw.2 hbr
      refine j_iload_n 17 hC 3 (dg DX10_reaches 9 rfl) rfl rfl ?_
      refine j_Si (As := [.int p3]) 18 hC (m_X10_isReach  hw) kX10_83 (rmN_ok (by decide) (by decide)) rfl rfl (Nat.le_of_ble_eq_true rfl) (dg DX10_reaches 10 rfl) (fun r6 σ5 hw => ?_)
      refine j_if_ne 21 27 hC (dg DX10_reaches 11 rfl) (by decide) (fun hbr => ?_) (fun hbr => ?_)
      · replace hw := hw.2 hbr
        refine j_bipush 27 hC (dg DX10_reaches 14 rfl) (v := 100) (by decide) ?_
        refine j_aload_n 29 hC 0 (dg DX10_reaches 15 rfl) rfl rfl ?_
        refine j_iload_n 30 hC 1 (dg DX10_reaches 16 rfl) rfl rfl ?_
        refine j_iconst 31 hC (dg DX10_reaches 17 rfl) (v := 1) (by decide) ?_
        refine j_Vi (As := [.int p1, .int 1]) 32 hC (m_X10_of  hw) kX10_55 (k_95) (by decide) ⟨_, _, rfl⟩ (rmN_ok (by decide) (by decide)) rfl rfl (Nat.le_of_ble_eq_true rfl) (dg DX10_reaches 18 rfl) (fun r8 σ7 hw => ?_)
        refine j_imul 35 hC (dg DX10_reaches 19 rfl) ?_
        refine j_aload_n 36 hC 0 (dg DX10_reaches 20 rfl) rfl rfl ?_
        refine j_iload_n 37 hC 1 (dg DX10_reaches 21 rfl) rfl rfl ?_
        refine j_iconst 38 hC (dg DX10_reaches 22 rfl) (v := 2) (by decide) ?_
        refine j_Vi (As := [.int p1, .int 2]) 39 hC (m_X10_of  hw) kX10_55 (k_95) (by decide) ⟨_, _, rfl⟩ (rmN_ok (by decide) (by decide)) rfl rfl (Nat.le_of_ble_eq_true rfl) (dg DX10_reaches 23 rfl) (fun r10 σ9 hw => ?_)
        refine j_iadd 42 hC (dg DX10_reaches 24 rfl) ?_
        refine j_istore 43 hC [(4, .int ((100 * r8) + r10)), (0, .ref (B + 95)), (1, .int p1), (2, .int p2), (3, .int p3)] (dg DX10_reaches 25 rfl) (by decide) rfl ?_
        refine j_aload_n 45 hC 1 (dg DX10_reaches 26 rfl) rfl rfl ?_
        refine j_iload 46 hC 0 (dg DX10_reaches 27 rfl) rfl ?_
        refine j_bipush 48 hC (dg DX10_reaches 28 rfl) (v := 100) (by decide) ?_
        refine j_iload_n 50 hC 3 (dg DX10_reaches 29 rfl) rfl rfl ?_
        refine j_imul 51 hC (dg DX10_reaches 30 rfl) ?_
        refine j_iload_n 52 hC 4 (dg DX10_reaches 31 rfl) rfl rfl ?_
        refine j_iadd 53 hC (dg DX10_reaches 32 rfl) ?_
        refine j_icmp_ne 54 61 hC (dg DX10_reaches 33 rfl) (by decide) (fun hbr => ?_) (fun hbr => ?_)
        · replace hw := hw.2 hbr
          refine j_iconst 61 hC (dg DX10_reaches 36 rfl) (v := 0) (by decide) ?_
          refine j_iconst 62 hC (dg DX10_reaches 37 rfl) (v := 3) (by decide) ?_
          refine j_iload_n 63 hC 3 (dg DX10_reaches 38 rfl) rfl rfl ?_
          refine j_Vi (As := [.int 0, .int 3, .int p2]) 64 hC (m_X10_isRefused  hw) kX10_89 (k_95) (by decide) ⟨_, _, rfl⟩ (rmN_ok (by decide) (by decide)) rfl rfl (Nat.le_of_ble_eq_true rfl) (dg DX10_reaches 39 rfl) (fun r12 σ11 hw => ?_)
          refine j_if_eq 67 73 hC (dg DX10_reaches 40 rfl) (by decide) (fun hbr => ?_) (fun hbr => ?_)
          · replace hw := hw.1 hbr
            refine j_aload_n 73 hC 1 (dg DX10_reaches 43 rfl) rfl rfl ?_
            refine j_iload_n 74 hC 2 (dg DX10_reaches 44 rfl) rfl rfl ?_
            refine j_iconst 75 hC (dg DX10_reaches 45 rfl) (v := 1) (by decide) ?_
            refine j_iload_n 76 hC 3 (dg DX10_reaches 46 rfl) rfl rfl ?_
            refine j_Vv (As := [.int p1, .int 1, .int p2]) 77 hC (m_X10_sets  hw) kX10_93 (k_95) (by decide) ⟨_, _, rfl⟩ (rmN_ok (by decide) (by decide)) rfl rfl (Nat.le_of_ble_eq_true rfl) (dg DX10_reaches 47 rfl) (fun σ13 hw => ?_)
            refine j_aload_n 80 hC 1 (dg DX10_reaches 48 rfl) rfl rfl ?_
            refine j_iload_n 81 hC 2 (dg DX10_reaches 49 rfl) rfl rfl ?_
            refine j_iconst 82 hC (dg DX10_reaches 50 rfl) (v := 2) (by decide) ?_
            refine j_iload_n 83 hC 4 (dg DX10_reaches 51 rfl) rfl rfl ?_
            refine j_Vv (As := [.int p1, .int 2, .int p3]) 84 hC (m_X10_sets  hw) kX10_93 (k_95) (by decide) ⟨_, _, rfl⟩ (rmN_ok (by decide) (by decide)) rfl rfl (Nat.le_of_ble_eq_true rfl) (dg DX10_reaches 52 rfl) (fun σ14 hw => ?_)
            refine j_iload 87 hC 0 (dg DX10_reaches 53 rfl) rfl ?_
            exact hR 89 _ _ _ (dg DX10_reaches 54 rfl) hw
          · replace hw := hw.2 hbr
            refine j_bipush 70 hC (dg DX10_reaches 41 rfl) (v := (-3)) (by decide) ?_
            exact hR 72 _ _ _ (dg DX10_reaches 42 rfl) hw
        · replace hw := hw.1 hbr
          refine j_iconst 57 hC (dg DX10_reaches 34 rfl) (v := 1) (by decide) ?_
          refine j_goto 58 62 hC (dg DX10_reaches 35 rfl) (by decide) ?_
          refine j_iconst 62 hC (dg DX10_reaches 37 rfl) (v := 3) (by decide) ?_
          refine j_iload_n 63 hC 3 (dg DX10_reaches 38 rfl) rfl rfl ?_
          refine j_Vi (As := [.int 1, .int 3, .int p2]) 64 hC (m_X10_isRefused  hw) kX10_89 (k_95) (by decide) ⟨_, _, rfl⟩ (rmN_ok (by decide) (by decide)) rfl rfl (Nat.le_of_ble_eq_true rfl) (dg DX10_reaches 39 rfl) (fun r16 σ15 hw => ?_)
          refine j_if_eq 67 73 hC (dg DX10_reaches 40 rfl) (by decide) (fun hbr => ?_) (fun hbr => ?_)
          · replace hw := hw.1 hbr
            refine j_aload_n 73 hC 1 (dg DX10_reaches 43 rfl) rfl rfl ?_
            refine j_iload_n 74 hC 2 (dg DX10_reaches 44 rfl) rfl rfl ?_
            refine j_iconst 75 hC (dg DX10_reaches 45 rfl) (v := 1) (by decide) ?_
            refine j_iload_n 76 hC 3 (dg DX10_reaches 46 rfl) rfl rfl ?_
            refine j_Vv (As := [.int p1, .int 1, .int p2]) 77 hC (m_X10_sets  hw) kX10_93 (k_95) (by decide) ⟨_, _, rfl⟩ (rmN_ok (by decide) (by decide)) rfl rfl (Nat.le_of_ble_eq_true rfl) (dg DX10_reaches 47 rfl) (fun σ17 hw => ?_)
            refine j_aload_n 80 hC 1 (dg DX10_reaches 48 rfl) rfl rfl ?_
            refine j_iload_n 81 hC 2 (dg DX10_reaches 49 rfl) rfl rfl ?_
            refine j_iconst 82 hC (dg DX10_reaches 50 rfl) (v := 2) (by decide) ?_
            refine j_iload_n 83 hC 4 (dg DX10_reaches 51 rfl) rfl rfl ?_
            refine j_Vv (As := [.int p1, .int 2, .int p3]) 84 hC (m_X10_sets  hw) kX10_93 (k_95) (by decide) ⟨_, _, rfl⟩ (rmN_ok (by decide) (by decide)) rfl rfl (Nat.le_of_ble_eq_true rfl) (dg DX10_reaches 52 rfl) (fun σ18 hw => ?_)
            refine j_iload 87 hC 0 (dg DX10_reaches 53 rfl) rfl ?_
            exact hR 89 _ _ _ (dg DX10_reaches 54 rfl) hw
          · replace hw := hw.2 hbr
            refine j_bipush 70 hC (dg DX10_reaches 41 rfl) (v := (-3)) (by decide) ?_
            exact hR 72 _ _ _ (dg DX10_reaches 42 rfl) hw
      · replace hw := hw.1 hbr
        refine j_bipush 24 hC (dg DX10_reaches 12 rfl) (v := (-2)) (by decide) ?_
        exact hR 26 _ _ _ (dg DX10_reaches 13 rfl) hw
  · replace hw := hw.1 hbr
    refine j_iconst 8 hC (dg DX10_reaches 4 rfl) (v := (-1)) (by decide) ?_
    exact hR 9 _ _ _ (dg DX10_reaches 5 rfl) hw
theorem m_X10_reaches {B : Nat} {σ : SS} {p1 : Int32} {p2 : Int32} {p3 : Int32} {Q : Int32 → SS → Prop} (hw : wp_X10_reaches  σ p1 p2 p3 Q) : MI yX10_reaches cX10_reaches 5 (some .int) 2 43 B 103 RS [.ref (B + 95), .int p1, .int p2, .int p3] σ Q := MI.mk (plainFor_of_name (by decide)) (Nat.le_of_ble_eq_true rfl) (fun X hC hR => t_X10_reaches hC  hR hw)
-- FortressWatchModel.reach
def wp_X10_reach  (σ : SS) (p1 : Int32) (p2 : Int32) (p3 : Int32) (Q : Int32 → SS → Prop) : Prop :=
  wp_X10_keeps σ (fun σ1 =>
    wp_X10_reaches σ1 p1 p2 p3 (fun r3 σ2 =>
      wp_X10_ends σ2 r3 (fun r5 σ4 =>
        Q r5 σ4)))
set_option maxRecDepth 100000 in
set_option maxHeartbeats 4000000 in
theorem t_X10_reach {X : XT} {B : Nat} (hC : Cx X 4 cX10_reach RX10 (rmN 3 67)) {Q : Int32 → SS → Prop} (hR : RtI X 4 B 103 RS cX10_reach Q) {σ : SS} {p1 : Int32} {p2 : Int32} {p3 : Int32} (hw : wp_X10_reach  σ p1 p2 p3 Q) : J X 4 B 103 RS 0 0 σ [(0, .ref (B + 95)), (1, .int p1), (2, .int p2), (3, .int p3)] 0 [] := by
  unfold wp_X10_reach at hw
  refine j_aload_n 0 hC 0 (dg DX10_reach 0 rfl) rfl rfl ?_
  refine j_Vv (As := []) 1 hC (m_X10_keeps  hw) kX10_97 (k_95) (by decide) ⟨_, _, rfl⟩ (rmN_ok (by decide) (by decide)) rfl rfl (Nat.le_of_ble_eq_true rfl) (dg DX10_reach 1 rfl) (fun σ1 hw => ?_)
  refine j_aload_n 4 hC 0 (dg DX10_reach 2 rfl) rfl rfl ?_
  refine j_aload_n 5 hC 0 (dg DX10_reach 3 rfl) rfl rfl ?_
  refine j_iload_n 6 hC 1 (dg DX10_reach 4 rfl) rfl rfl ?_
  refine j_iload_n 7 hC 2 (dg DX10_reach 5 rfl) rfl rfl ?_
  refine j_iload_n 8 hC 3 (dg DX10_reach 6 rfl) rfl rfl ?_
  refine j_Vi (As := [.int p1, .int p2, .int p3]) 9 hC (m_X10_reaches  hw) kX10_113 (k_95) (by decide) ⟨_, _, rfl⟩ (rmN_ok (by decide) (by decide)) rfl rfl (Nat.le_of_ble_eq_true rfl) (dg DX10_reach 7 rfl) (fun r3 σ2 hw => ?_)
  refine j_Vi (As := [.int r3]) 12 hC (m_X10_ends  hw) kX10_104 (k_95) (by decide) ⟨_, _, rfl⟩ (rmN_ok (by decide) (by decide)) rfl rfl (Nat.le_of_ble_eq_true rfl) (dg DX10_reach 8 rfl) (fun r5 σ4 hw => ?_)
  exact hR 15 _ _ _ (dg DX10_reach 9 rfl) hw
theorem m_X10_reach {B : Nat} {σ : SS} {p1 : Int32} {p2 : Int32} {p3 : Int32} {Q : Int32 → SS → Prop} (hw : wp_X10_reach  σ p1 p2 p3 Q) : MI yX10_reach cX10_reach 4 (some .int) 3 67 B 103 RS [.ref (B + 95), .int p1, .int p2, .int p3] σ Q := MI.mk (plainFor_of_name (by decide)) (Nat.le_of_ble_eq_true rfl) (fun X hC hR => t_X10_reach hC  hR hw)
-- FortressWatchModel.blinds
def wp_X10_blinds  (σ : SS) (p1 : Int32) (p2 : Int32) (p3 : Int32) (Q : Int32 → SS → Prop) : Prop :=
  wp_X10_isPost σ p1 (fun r2 σ1 =>
    ((r2 = 0 →
        Q (-1) σ1) ∧
      (¬ r2 = 0 →
        wp_X10_isStone σ1 p2 (fun r4 σ3 =>
          ((r4 = 0 →
              Q (-1) σ3) ∧
            (¬ r4 = 0 →
              wp_X10_isIn σ3 p3 1 8 (fun r6 σ5 =>
                ((r6 = 0 →
                    Q (-2) σ5) ∧
                  (¬ r6 = 0 →
                    wp_X10_of σ5 p1 3 (fun r8 σ7 =>
                      ((r8 = p2 →
                          wp_X10_of σ7 p1 4 (fun r18 σ17 =>
                            ((r18 = p3 →
                                wp_X10_isRefused σ17 1 3 p2 (fun r28 σ27 =>
                                  ((r28 = 0 →
                                      wp_X10_sets σ27 p1 3 p2 (fun σ29 =>
                                        wp_X10_sets σ29 p1 4 p3 (fun σ30 =>
                                          wp_X10_sight σ30 p1 (fun r32 σ31 =>
                                            wp_X10_bits σ31 r32 (fun r34 σ33 =>
                                              Q r34 σ33))))) ∧
                                    (¬ r28 = 0 →
                                      Q (-3) σ27)))) ∧
                              (¬ r18 = p3 →
                                wp_X10_isRefused σ17 0 3 p2 (fun r20 σ19 =>
                                  ((r20 = 0 →
                                      wp_X10_sets σ19 p1 3 p2 (fun σ21 =>
                                        wp_X10_sets σ21 p1 4 p3 (fun σ22 =>
                                          wp_X10_sight σ22 p1 (fun r24 σ23 =>
                                            wp_X10_bits σ23 r24 (fun r26 σ25 =>
                                              Q r26 σ25))))) ∧
                                    (¬ r20 = 0 →
                                      Q (-3) σ19))))))) ∧
                        (¬ r8 = p2 →
                          wp_X10_isRefused σ7 0 3 p2 (fun r10 σ9 =>
                            ((r10 = 0 →
                                wp_X10_sets σ9 p1 3 p2 (fun σ11 =>
                                  wp_X10_sets σ11 p1 4 p3 (fun σ12 =>
                                    wp_X10_sight σ12 p1 (fun r14 σ13 =>
                                      wp_X10_bits σ13 r14 (fun r16 σ15 =>
                                        Q r16 σ15))))) ∧
                              (¬ r10 = 0 →
                                Q (-3) σ9)))))))))))))))
set_option maxRecDepth 100000 in
set_option maxHeartbeats 4000000 in
theorem t_X10_blinds {X : XT} {B : Nat} (hC : Cx X 4 cX10_blinds RX10 (rmN 3 69)) {Q : Int32 → SS → Prop} (hR : RtI X 4 B 103 RS cX10_blinds Q) {σ : SS} {p1 : Int32} {p2 : Int32} {p3 : Int32} (hw : wp_X10_blinds  σ p1 p2 p3 Q) : J X 4 B 103 RS 0 0 σ [(0, .ref (B + 95)), (1, .int p1), (2, .int p2), (3, .int p3)] 0 [] := by
  unfold wp_X10_blinds at hw
  refine j_aload_n 0 hC 0 (dg DX10_blinds 0 rfl) rfl rfl ?_
  refine j_iload_n 1 hC 1 (dg DX10_blinds 1 rfl) rfl rfl ?_
  refine j_Vi (As := [.int p1]) 2 hC (m_X10_isPost  hw) kX10_107 (k_95) (by decide) ⟨_, _, rfl⟩ (rmN_ok (by decide) (by decide)) rfl rfl (Nat.le_of_ble_eq_true rfl) (dg DX10_blinds 2 rfl) (fun r2 σ1 hw => ?_)
  refine j_if_eq 5 15 hC (dg DX10_blinds 3 rfl) (by decide) (fun hbr => ?_) (fun hbr => ?_)
  · replace hw := hw.1 hbr
    refine j_iconst 15 hC (dg DX10_blinds 7 rfl) (v := (-1)) (by decide) ?_
    exact hR 16 _ _ _ (dg DX10_blinds 8 rfl) hw
  · replace hw := hw.2 hbr
    refine j_iload_n 8 hC 2 (dg DX10_blinds 4 rfl) rfl rfl ?_
    refine j_Si (As := [.int p2]) 9 hC (m_X10_isStone  hw) kX10_80 (rmN_ok (by decide) (by decide)) rfl rfl (Nat.le_of_ble_eq_true rfl) (dg DX10_blinds 5 rfl) (fun r4 σ3 hw => ?_)
    refine j_if_ne 12 17 hC (dg DX10_blinds 6 rfl) (by decide) (fun hbr => ?_) (fun hbr => ?_)
    · replace hw := hw.2 hbr
      refine j_iload_n 17 hC 3 (dg DX10_blinds 9 rfl) rfl rfl ?_
      refine j_iconst 18 hC (dg DX10_blinds 10 rfl) (v := 1) (by decide) ?_
      refine j_bipush 19 hC (dg DX10_blinds 11 rfl) (v := 8) (by decide) ?_
      refine j_Si (As := [.int p3, .int 1, .int 8]) 21 hC (m_X10_isIn  hw) kX10_51 (rmN_ok (by decide) (by decide)) rfl rfl (Nat.le_of_ble_eq_true rfl) (dg DX10_blinds 12 rfl) (fun r6 σ5 hw => ?_)
      refine j_if_ne 24 30 hC (dg DX10_blinds 13 rfl) (by decide) (fun hbr => ?_) (fun hbr => ?_)
      · replace hw := hw.2 hbr
        refine j_aload_n 30 hC 0 (dg DX10_blinds 16 rfl) rfl rfl ?_
        refine j_aload_n 31 hC 0 (dg DX10_blinds 17 rfl) rfl rfl ?_
        refine j_iload_n 32 hC 1 (dg DX10_blinds 18 rfl) rfl rfl ?_
        refine j_iconst 33 hC (dg DX10_blinds 19 rfl) (v := 3) (by decide) ?_
        refine j_Vi (As := [.int p1, .int 3]) 34 hC (m_X10_of  hw) kX10_55 (k_95) (by decide) ⟨_, _, rfl⟩ (rmN_ok (by decide) (by decide)) rfl rfl (Nat.le_of_ble_eq_true rfl) (dg DX10_blinds 20 rfl) (fun r8 σ7 hw => ?_)
        refine j_iload_n 37 hC 2 (dg DX10_blinds 21 rfl) rfl rfl ?_
        refine j_icmp_ne 38 55 hC (dg DX10_blinds 22 rfl) (by decide) (fun hbr => ?_) (fun hbr => ?_)
        · replace hw := hw.2 hbr
          refine j_iconst 55 hC (dg DX10_blinds 31 rfl) (v := 0) (by decide) ?_
          refine j_iconst 56 hC (dg DX10_blinds 32 rfl) (v := 3) (by decide) ?_
          refine j_iload_n 57 hC 2 (dg DX10_blinds 33 rfl) rfl rfl ?_
          refine j_Vi (As := [.int 0, .int 3, .int p2]) 58 hC (m_X10_isRefused  hw) kX10_89 (k_95) (by decide) ⟨_, _, rfl⟩ (rmN_ok (by decide) (by decide)) rfl rfl (Nat.le_of_ble_eq_true rfl) (dg DX10_blinds 34 rfl) (fun r10 σ9 hw => ?_)
          refine j_if_eq 61 67 hC (dg DX10_blinds 35 rfl) (by decide) (fun hbr => ?_) (fun hbr => ?_)
          · replace hw := hw.1 hbr
            refine j_aload_n 67 hC 0 (dg DX10_blinds 38 rfl) rfl rfl ?_
            refine j_iload_n 68 hC 1 (dg DX10_blinds 39 rfl) rfl rfl ?_
            refine j_iconst 69 hC (dg DX10_blinds 40 rfl) (v := 3) (by decide) ?_
            refine j_iload_n 70 hC 2 (dg DX10_blinds 41 rfl) rfl rfl ?_
            refine j_Vv (As := [.int p1, .int 3, .int p2]) 71 hC (m_X10_sets  hw) kX10_93 (k_95) (by decide) ⟨_, _, rfl⟩ (rmN_ok (by decide) (by decide)) rfl rfl (Nat.le_of_ble_eq_true rfl) (dg DX10_blinds 42 rfl) (fun σ11 hw => ?_)
            refine j_aload_n 74 hC 0 (dg DX10_blinds 43 rfl) rfl rfl ?_
            refine j_iload_n 75 hC 1 (dg DX10_blinds 44 rfl) rfl rfl ?_
            refine j_iconst 76 hC (dg DX10_blinds 45 rfl) (v := 4) (by decide) ?_
            refine j_iload_n 77 hC 3 (dg DX10_blinds 46 rfl) rfl rfl ?_
            refine j_Vv (As := [.int p1, .int 4, .int p3]) 78 hC (m_X10_sets  hw) kX10_93 (k_95) (by decide) ⟨_, _, rfl⟩ (rmN_ok (by decide) (by decide)) rfl rfl (Nat.le_of_ble_eq_true rfl) (dg DX10_blinds 47 rfl) (fun σ12 hw => ?_)
            refine j_aload_n 81 hC 0 (dg DX10_blinds 48 rfl) rfl rfl ?_
            refine j_iload_n 82 hC 1 (dg DX10_blinds 49 rfl) rfl rfl ?_
            refine j_Vi (As := [.int p1]) 83 hC (m_X10_sight  hw) kX10_116 (k_95) (by decide) ⟨_, _, rfl⟩ (rmN_ok (by decide) (by decide)) rfl rfl (Nat.le_of_ble_eq_true rfl) (dg DX10_blinds 50 rfl) (fun r14 σ13 hw => ?_)
            refine j_Si (As := [.int r14]) 86 hC (m_X10_bits  hw) kX10_119 (rmN_ok (by decide) (by decide)) rfl rfl (Nat.le_of_ble_eq_true rfl) (dg DX10_blinds 51 rfl) (fun r16 σ15 hw => ?_)
            exact hR 89 _ _ _ (dg DX10_blinds 52 rfl) hw
          · replace hw := hw.2 hbr
            refine j_bipush 64 hC (dg DX10_blinds 36 rfl) (v := (-3)) (by decide) ?_
            exact hR 66 _ _ _ (dg DX10_blinds 37 rfl) hw
        · replace hw := hw.1 hbr
          refine j_aload_n 41 hC 0 (dg DX10_blinds 23 rfl) rfl rfl ?_
          refine j_iload_n 42 hC 1 (dg DX10_blinds 24 rfl) rfl rfl ?_
          refine j_iconst 43 hC (dg DX10_blinds 25 rfl) (v := 4) (by decide) ?_
          refine j_Vi (As := [.int p1, .int 4]) 44 hC (m_X10_of  hw) kX10_55 (k_95) (by decide) ⟨_, _, rfl⟩ (rmN_ok (by decide) (by decide)) rfl rfl (Nat.le_of_ble_eq_true rfl) (dg DX10_blinds 26 rfl) (fun r18 σ17 hw => ?_)
          refine j_iload_n 47 hC 3 (dg DX10_blinds 27 rfl) rfl rfl ?_
          refine j_icmp_ne 48 55 hC (dg DX10_blinds 28 rfl) (by decide) (fun hbr => ?_) (fun hbr => ?_)
          · replace hw := hw.2 hbr
            refine j_iconst 55 hC (dg DX10_blinds 31 rfl) (v := 0) (by decide) ?_
            refine j_iconst 56 hC (dg DX10_blinds 32 rfl) (v := 3) (by decide) ?_
            refine j_iload_n 57 hC 2 (dg DX10_blinds 33 rfl) rfl rfl ?_
            refine j_Vi (As := [.int 0, .int 3, .int p2]) 58 hC (m_X10_isRefused  hw) kX10_89 (k_95) (by decide) ⟨_, _, rfl⟩ (rmN_ok (by decide) (by decide)) rfl rfl (Nat.le_of_ble_eq_true rfl) (dg DX10_blinds 34 rfl) (fun r20 σ19 hw => ?_)
            refine j_if_eq 61 67 hC (dg DX10_blinds 35 rfl) (by decide) (fun hbr => ?_) (fun hbr => ?_)
            · replace hw := hw.1 hbr
              refine j_aload_n 67 hC 0 (dg DX10_blinds 38 rfl) rfl rfl ?_
              refine j_iload_n 68 hC 1 (dg DX10_blinds 39 rfl) rfl rfl ?_
              refine j_iconst 69 hC (dg DX10_blinds 40 rfl) (v := 3) (by decide) ?_
              refine j_iload_n 70 hC 2 (dg DX10_blinds 41 rfl) rfl rfl ?_
              refine j_Vv (As := [.int p1, .int 3, .int p2]) 71 hC (m_X10_sets  hw) kX10_93 (k_95) (by decide) ⟨_, _, rfl⟩ (rmN_ok (by decide) (by decide)) rfl rfl (Nat.le_of_ble_eq_true rfl) (dg DX10_blinds 42 rfl) (fun σ21 hw => ?_)
              refine j_aload_n 74 hC 0 (dg DX10_blinds 43 rfl) rfl rfl ?_
              refine j_iload_n 75 hC 1 (dg DX10_blinds 44 rfl) rfl rfl ?_
              refine j_iconst 76 hC (dg DX10_blinds 45 rfl) (v := 4) (by decide) ?_
              refine j_iload_n 77 hC 3 (dg DX10_blinds 46 rfl) rfl rfl ?_
              refine j_Vv (As := [.int p1, .int 4, .int p3]) 78 hC (m_X10_sets  hw) kX10_93 (k_95) (by decide) ⟨_, _, rfl⟩ (rmN_ok (by decide) (by decide)) rfl rfl (Nat.le_of_ble_eq_true rfl) (dg DX10_blinds 47 rfl) (fun σ22 hw => ?_)
              refine j_aload_n 81 hC 0 (dg DX10_blinds 48 rfl) rfl rfl ?_
              refine j_iload_n 82 hC 1 (dg DX10_blinds 49 rfl) rfl rfl ?_
              refine j_Vi (As := [.int p1]) 83 hC (m_X10_sight  hw) kX10_116 (k_95) (by decide) ⟨_, _, rfl⟩ (rmN_ok (by decide) (by decide)) rfl rfl (Nat.le_of_ble_eq_true rfl) (dg DX10_blinds 50 rfl) (fun r24 σ23 hw => ?_)
              refine j_Si (As := [.int r24]) 86 hC (m_X10_bits  hw) kX10_119 (rmN_ok (by decide) (by decide)) rfl rfl (Nat.le_of_ble_eq_true rfl) (dg DX10_blinds 51 rfl) (fun r26 σ25 hw => ?_)
              exact hR 89 _ _ _ (dg DX10_blinds 52 rfl) hw
            · replace hw := hw.2 hbr
              refine j_bipush 64 hC (dg DX10_blinds 36 rfl) (v := (-3)) (by decide) ?_
              exact hR 66 _ _ _ (dg DX10_blinds 37 rfl) hw
          · replace hw := hw.1 hbr
            refine j_iconst 51 hC (dg DX10_blinds 29 rfl) (v := 1) (by decide) ?_
            refine j_goto 52 56 hC (dg DX10_blinds 30 rfl) (by decide) ?_
            refine j_iconst 56 hC (dg DX10_blinds 32 rfl) (v := 3) (by decide) ?_
            refine j_iload_n 57 hC 2 (dg DX10_blinds 33 rfl) rfl rfl ?_
            refine j_Vi (As := [.int 1, .int 3, .int p2]) 58 hC (m_X10_isRefused  hw) kX10_89 (k_95) (by decide) ⟨_, _, rfl⟩ (rmN_ok (by decide) (by decide)) rfl rfl (Nat.le_of_ble_eq_true rfl) (dg DX10_blinds 34 rfl) (fun r28 σ27 hw => ?_)
            refine j_if_eq 61 67 hC (dg DX10_blinds 35 rfl) (by decide) (fun hbr => ?_) (fun hbr => ?_)
            · replace hw := hw.1 hbr
              refine j_aload_n 67 hC 0 (dg DX10_blinds 38 rfl) rfl rfl ?_
              refine j_iload_n 68 hC 1 (dg DX10_blinds 39 rfl) rfl rfl ?_
              refine j_iconst 69 hC (dg DX10_blinds 40 rfl) (v := 3) (by decide) ?_
              refine j_iload_n 70 hC 2 (dg DX10_blinds 41 rfl) rfl rfl ?_
              refine j_Vv (As := [.int p1, .int 3, .int p2]) 71 hC (m_X10_sets  hw) kX10_93 (k_95) (by decide) ⟨_, _, rfl⟩ (rmN_ok (by decide) (by decide)) rfl rfl (Nat.le_of_ble_eq_true rfl) (dg DX10_blinds 42 rfl) (fun σ29 hw => ?_)
              refine j_aload_n 74 hC 0 (dg DX10_blinds 43 rfl) rfl rfl ?_
              refine j_iload_n 75 hC 1 (dg DX10_blinds 44 rfl) rfl rfl ?_
              refine j_iconst 76 hC (dg DX10_blinds 45 rfl) (v := 4) (by decide) ?_
              refine j_iload_n 77 hC 3 (dg DX10_blinds 46 rfl) rfl rfl ?_
              refine j_Vv (As := [.int p1, .int 4, .int p3]) 78 hC (m_X10_sets  hw) kX10_93 (k_95) (by decide) ⟨_, _, rfl⟩ (rmN_ok (by decide) (by decide)) rfl rfl (Nat.le_of_ble_eq_true rfl) (dg DX10_blinds 47 rfl) (fun σ30 hw => ?_)
              refine j_aload_n 81 hC 0 (dg DX10_blinds 48 rfl) rfl rfl ?_
              refine j_iload_n 82 hC 1 (dg DX10_blinds 49 rfl) rfl rfl ?_
              refine j_Vi (As := [.int p1]) 83 hC (m_X10_sight  hw) kX10_116 (k_95) (by decide) ⟨_, _, rfl⟩ (rmN_ok (by decide) (by decide)) rfl rfl (Nat.le_of_ble_eq_true rfl) (dg DX10_blinds 50 rfl) (fun r32 σ31 hw => ?_)
              refine j_Si (As := [.int r32]) 86 hC (m_X10_bits  hw) kX10_119 (rmN_ok (by decide) (by decide)) rfl rfl (Nat.le_of_ble_eq_true rfl) (dg DX10_blinds 51 rfl) (fun r34 σ33 hw => ?_)
              exact hR 89 _ _ _ (dg DX10_blinds 52 rfl) hw
            · replace hw := hw.2 hbr
              refine j_bipush 64 hC (dg DX10_blinds 36 rfl) (v := (-3)) (by decide) ?_
              exact hR 66 _ _ _ (dg DX10_blinds 37 rfl) hw
      · replace hw := hw.1 hbr
        refine j_bipush 27 hC (dg DX10_blinds 14 rfl) (v := (-2)) (by decide) ?_
        exact hR 29 _ _ _ (dg DX10_blinds 15 rfl) hw
    · replace hw := hw.1 hbr
      refine j_iconst 15 hC (dg DX10_blinds 7 rfl) (v := (-1)) (by decide) ?_
      exact hR 16 _ _ _ (dg DX10_blinds 8 rfl) hw
theorem m_X10_blinds {B : Nat} {σ : SS} {p1 : Int32} {p2 : Int32} {p3 : Int32} {Q : Int32 → SS → Prop} (hw : wp_X10_blinds  σ p1 p2 p3 Q) : MI yX10_blinds cX10_blinds 4 (some .int) 3 69 B 103 RS [.ref (B + 95), .int p1, .int p2, .int p3] σ Q := MI.mk (plainFor_of_name (by decide)) (Nat.le_of_ble_eq_true rfl) (fun X hC hR => t_X10_blinds hC  hR hw)
-- FortressWatchModel.blind
def wp_X10_blind  (σ : SS) (p1 : Int32) (p2 : Int32) (p3 : Int32) (Q : Int32 → SS → Prop) : Prop :=
  wp_X10_keeps σ (fun σ1 =>
    wp_X10_blinds σ1 p1 p2 p3 (fun r3 σ2 =>
      wp_X10_ends σ2 r3 (fun r5 σ4 =>
        Q r5 σ4)))
set_option maxRecDepth 100000 in
set_option maxHeartbeats 4000000 in
theorem t_X10_blind {X : XT} {B : Nat} (hC : Cx X 4 cX10_blind RX10 (rmN 4 92)) {Q : Int32 → SS → Prop} (hR : RtI X 4 B 103 RS cX10_blind Q) {σ : SS} {p1 : Int32} {p2 : Int32} {p3 : Int32} (hw : wp_X10_blind  σ p1 p2 p3 Q) : J X 4 B 103 RS 0 0 σ [(0, .ref (B + 95)), (1, .int p1), (2, .int p2), (3, .int p3)] 0 [] := by
  unfold wp_X10_blind at hw
  refine j_aload_n 0 hC 0 (dg DX10_blind 0 rfl) rfl rfl ?_
  refine j_Vv (As := []) 1 hC (m_X10_keeps  hw) kX10_97 (k_95) (by decide) ⟨_, _, rfl⟩ (rmN_ok (by decide) (by decide)) rfl rfl (Nat.le_of_ble_eq_true rfl) (dg DX10_blind 1 rfl) (fun σ1 hw => ?_)
  refine j_aload_n 4 hC 0 (dg DX10_blind 2 rfl) rfl rfl ?_
  refine j_aload_n 5 hC 0 (dg DX10_blind 3 rfl) rfl rfl ?_
  refine j_iload_n 6 hC 1 (dg DX10_blind 4 rfl) rfl rfl ?_
  refine j_iload_n 7 hC 2 (dg DX10_blind 5 rfl) rfl rfl ?_
  refine j_iload_n 8 hC 3 (dg DX10_blind 6 rfl) rfl rfl ?_
  refine j_Vi (As := [.int p1, .int p2, .int p3]) 9 hC (m_X10_blinds  hw) kX10_122 (k_95) (by decide) ⟨_, _, rfl⟩ (rmN_ok (by decide) (by decide)) rfl rfl (Nat.le_of_ble_eq_true rfl) (dg DX10_blind 7 rfl) (fun r3 σ2 hw => ?_)
  refine j_Vi (As := [.int r3]) 12 hC (m_X10_ends  hw) kX10_104 (k_95) (by decide) ⟨_, _, rfl⟩ (rmN_ok (by decide) (by decide)) rfl rfl (Nat.le_of_ble_eq_true rfl) (dg DX10_blind 8 rfl) (fun r5 σ4 hw => ?_)
  exact hR 15 _ _ _ (dg DX10_blind 9 rfl) hw
theorem m_X10_blind {B : Nat} {σ : SS} {p1 : Int32} {p2 : Int32} {p3 : Int32} {Q : Int32 → SS → Prop} (hw : wp_X10_blind  σ p1 p2 p3 Q) : MI yX10_blind cX10_blind 4 (some .int) 4 92 B 103 RS [.ref (B + 95), .int p1, .int p2, .int p3] σ Q := MI.mk (plainFor_of_name (by decide)) (Nat.le_of_ble_eq_true rfl) (fun X hC hR => t_X10_blind hC  hR hw)
-- FortressWatchModel.lets
def wp_X10_lets  (σ : SS) (p1 : Int32) (Q : Int32 → SS → Prop) : Prop :=
  wp_X10_isPost σ p1 (fun r2 σ1 =>
    ((r2 = 0 →
        Q (-1) σ1) ∧
      (¬ r2 = 0 →
        wp_X10_of σ1 p1 4 (fun r4 σ3 =>
          ((r4 = 0 →
              wp_X10_isRefused σ3 1 5 p1 (fun r14 σ13 =>
                ((r14 = 0 →
                    wp_X10_sets σ13 p1 3 (-1) (fun σ15 =>
                      wp_X10_sets σ15 p1 4 0 (fun σ16 =>
                        wp_X10_sight σ16 p1 (fun r18 σ17 =>
                          wp_X10_bits σ17 r18 (fun r20 σ19 =>
                            Q r20 σ19))))) ∧
                  (¬ r14 = 0 →
                    Q (-3) σ13)))) ∧
            (¬ r4 = 0 →
              wp_X10_isRefused σ3 0 5 p1 (fun r6 σ5 =>
                ((r6 = 0 →
                    wp_X10_sets σ5 p1 3 (-1) (fun σ7 =>
                      wp_X10_sets σ7 p1 4 0 (fun σ8 =>
                        wp_X10_sight σ8 p1 (fun r10 σ9 =>
                          wp_X10_bits σ9 r10 (fun r12 σ11 =>
                            Q r12 σ11))))) ∧
                  (¬ r6 = 0 →
                    Q (-3) σ5)))))))))
set_option maxRecDepth 100000 in
set_option maxHeartbeats 4000000 in
theorem t_X10_lets {X : XT} {B : Nat} (hC : Cx X 2 cX10_lets RX10 (rmN 3 69)) {Q : Int32 → SS → Prop} (hR : RtI X 2 B 103 RS cX10_lets Q) {σ : SS} {p1 : Int32} (hw : wp_X10_lets  σ p1 Q) : J X 2 B 103 RS 0 0 σ [(0, .ref (B + 95)), (1, .int p1)] 0 [] := by
  unfold wp_X10_lets at hw
  refine j_aload_n 0 hC 0 (dg DX10_lets 0 rfl) rfl rfl ?_
  refine j_iload_n 1 hC 1 (dg DX10_lets 1 rfl) rfl rfl ?_
  refine j_Vi (As := [.int p1]) 2 hC (m_X10_isPost  hw) kX10_107 (k_95) (by decide) ⟨_, _, rfl⟩ (rmN_ok (by decide) (by decide)) rfl rfl (Nat.le_of_ble_eq_true rfl) (dg DX10_lets 2 rfl) (fun r2 σ1 hw => ?_)
  refine j_if_ne 5 10 hC (dg DX10_lets 3 rfl) (by decide) (fun hbr => ?_) (fun hbr => ?_)
  · replace hw := hw.2 hbr
    refine j_aload_n 10 hC 0 (dg DX10_lets 6 rfl) rfl rfl ?_
    refine j_aload_n 11 hC 0 (dg DX10_lets 7 rfl) rfl rfl ?_
    refine j_iload_n 12 hC 1 (dg DX10_lets 8 rfl) rfl rfl ?_
    refine j_iconst 13 hC (dg DX10_lets 9 rfl) (v := 4) (by decide) ?_
    refine j_Vi (As := [.int p1, .int 4]) 14 hC (m_X10_of  hw) kX10_55 (k_95) (by decide) ⟨_, _, rfl⟩ (rmN_ok (by decide) (by decide)) rfl rfl (Nat.le_of_ble_eq_true rfl) (dg DX10_lets 10 rfl) (fun r4 σ3 hw => ?_)
    refine j_if_ne 17 24 hC (dg DX10_lets 11 rfl) (by decide) (fun hbr => ?_) (fun hbr => ?_)
    · replace hw := hw.2 hbr
      refine j_iconst 24 hC (dg DX10_lets 14 rfl) (v := 0) (by decide) ?_
      refine j_iconst 25 hC (dg DX10_lets 15 rfl) (v := 5) (by decide) ?_
      refine j_iload_n 26 hC 1 (dg DX10_lets 16 rfl) rfl rfl ?_
      refine j_Vi (As := [.int 0, .int 5, .int p1]) 27 hC (m_X10_isRefused  hw) kX10_89 (k_95) (by decide) ⟨_, _, rfl⟩ (rmN_ok (by decide) (by decide)) rfl rfl (Nat.le_of_ble_eq_true rfl) (dg DX10_lets 17 rfl) (fun r6 σ5 hw => ?_)
      refine j_if_eq 30 36 hC (dg DX10_lets 18 rfl) (by decide) (fun hbr => ?_) (fun hbr => ?_)
      · replace hw := hw.1 hbr
        refine j_aload_n 36 hC 0 (dg DX10_lets 21 rfl) rfl rfl ?_
        refine j_iload_n 37 hC 1 (dg DX10_lets 22 rfl) rfl rfl ?_
        refine j_iconst 38 hC (dg DX10_lets 23 rfl) (v := 3) (by decide) ?_
        refine j_iconst 39 hC (dg DX10_lets 24 rfl) (v := (-1)) (by decide) ?_
        refine j_Vv (As := [.int p1, .int 3, .int (-1)]) 40 hC (m_X10_sets  hw) kX10_93 (k_95) (by decide) ⟨_, _, rfl⟩ (rmN_ok (by decide) (by decide)) rfl rfl (Nat.le_of_ble_eq_true rfl) (dg DX10_lets 25 rfl) (fun σ7 hw => ?_)
        refine j_aload_n 43 hC 0 (dg DX10_lets 26 rfl) rfl rfl ?_
        refine j_iload_n 44 hC 1 (dg DX10_lets 27 rfl) rfl rfl ?_
        refine j_iconst 45 hC (dg DX10_lets 28 rfl) (v := 4) (by decide) ?_
        refine j_iconst 46 hC (dg DX10_lets 29 rfl) (v := 0) (by decide) ?_
        refine j_Vv (As := [.int p1, .int 4, .int 0]) 47 hC (m_X10_sets  hw) kX10_93 (k_95) (by decide) ⟨_, _, rfl⟩ (rmN_ok (by decide) (by decide)) rfl rfl (Nat.le_of_ble_eq_true rfl) (dg DX10_lets 30 rfl) (fun σ8 hw => ?_)
        refine j_aload_n 50 hC 0 (dg DX10_lets 31 rfl) rfl rfl ?_
        refine j_iload_n 51 hC 1 (dg DX10_lets 32 rfl) rfl rfl ?_
        refine j_Vi (As := [.int p1]) 52 hC (m_X10_sight  hw) kX10_116 (k_95) (by decide) ⟨_, _, rfl⟩ (rmN_ok (by decide) (by decide)) rfl rfl (Nat.le_of_ble_eq_true rfl) (dg DX10_lets 33 rfl) (fun r10 σ9 hw => ?_)
        refine j_Si (As := [.int r10]) 55 hC (m_X10_bits  hw) kX10_119 (rmN_ok (by decide) (by decide)) rfl rfl (Nat.le_of_ble_eq_true rfl) (dg DX10_lets 34 rfl) (fun r12 σ11 hw => ?_)
        exact hR 58 _ _ _ (dg DX10_lets 35 rfl) hw
      · replace hw := hw.2 hbr
        refine j_bipush 33 hC (dg DX10_lets 19 rfl) (v := (-3)) (by decide) ?_
        exact hR 35 _ _ _ (dg DX10_lets 20 rfl) hw
    · replace hw := hw.1 hbr
      refine j_iconst 20 hC (dg DX10_lets 12 rfl) (v := 1) (by decide) ?_
      refine j_goto 21 25 hC (dg DX10_lets 13 rfl) (by decide) ?_
      refine j_iconst 25 hC (dg DX10_lets 15 rfl) (v := 5) (by decide) ?_
      refine j_iload_n 26 hC 1 (dg DX10_lets 16 rfl) rfl rfl ?_
      refine j_Vi (As := [.int 1, .int 5, .int p1]) 27 hC (m_X10_isRefused  hw) kX10_89 (k_95) (by decide) ⟨_, _, rfl⟩ (rmN_ok (by decide) (by decide)) rfl rfl (Nat.le_of_ble_eq_true rfl) (dg DX10_lets 17 rfl) (fun r14 σ13 hw => ?_)
      refine j_if_eq 30 36 hC (dg DX10_lets 18 rfl) (by decide) (fun hbr => ?_) (fun hbr => ?_)
      · replace hw := hw.1 hbr
        refine j_aload_n 36 hC 0 (dg DX10_lets 21 rfl) rfl rfl ?_
        refine j_iload_n 37 hC 1 (dg DX10_lets 22 rfl) rfl rfl ?_
        refine j_iconst 38 hC (dg DX10_lets 23 rfl) (v := 3) (by decide) ?_
        refine j_iconst 39 hC (dg DX10_lets 24 rfl) (v := (-1)) (by decide) ?_
        refine j_Vv (As := [.int p1, .int 3, .int (-1)]) 40 hC (m_X10_sets  hw) kX10_93 (k_95) (by decide) ⟨_, _, rfl⟩ (rmN_ok (by decide) (by decide)) rfl rfl (Nat.le_of_ble_eq_true rfl) (dg DX10_lets 25 rfl) (fun σ15 hw => ?_)
        refine j_aload_n 43 hC 0 (dg DX10_lets 26 rfl) rfl rfl ?_
        refine j_iload_n 44 hC 1 (dg DX10_lets 27 rfl) rfl rfl ?_
        refine j_iconst 45 hC (dg DX10_lets 28 rfl) (v := 4) (by decide) ?_
        refine j_iconst 46 hC (dg DX10_lets 29 rfl) (v := 0) (by decide) ?_
        refine j_Vv (As := [.int p1, .int 4, .int 0]) 47 hC (m_X10_sets  hw) kX10_93 (k_95) (by decide) ⟨_, _, rfl⟩ (rmN_ok (by decide) (by decide)) rfl rfl (Nat.le_of_ble_eq_true rfl) (dg DX10_lets 30 rfl) (fun σ16 hw => ?_)
        refine j_aload_n 50 hC 0 (dg DX10_lets 31 rfl) rfl rfl ?_
        refine j_iload_n 51 hC 1 (dg DX10_lets 32 rfl) rfl rfl ?_
        refine j_Vi (As := [.int p1]) 52 hC (m_X10_sight  hw) kX10_116 (k_95) (by decide) ⟨_, _, rfl⟩ (rmN_ok (by decide) (by decide)) rfl rfl (Nat.le_of_ble_eq_true rfl) (dg DX10_lets 33 rfl) (fun r18 σ17 hw => ?_)
        refine j_Si (As := [.int r18]) 55 hC (m_X10_bits  hw) kX10_119 (rmN_ok (by decide) (by decide)) rfl rfl (Nat.le_of_ble_eq_true rfl) (dg DX10_lets 34 rfl) (fun r20 σ19 hw => ?_)
        exact hR 58 _ _ _ (dg DX10_lets 35 rfl) hw
      · replace hw := hw.2 hbr
        refine j_bipush 33 hC (dg DX10_lets 19 rfl) (v := (-3)) (by decide) ?_
        exact hR 35 _ _ _ (dg DX10_lets 20 rfl) hw
  · replace hw := hw.1 hbr
    refine j_iconst 8 hC (dg DX10_lets 4 rfl) (v := (-1)) (by decide) ?_
    exact hR 9 _ _ _ (dg DX10_lets 5 rfl) hw
theorem m_X10_lets {B : Nat} {σ : SS} {p1 : Int32} {Q : Int32 → SS → Prop} (hw : wp_X10_lets  σ p1 Q) : MI yX10_lets cX10_lets 2 (some .int) 3 69 B 103 RS [.ref (B + 95), .int p1] σ Q := MI.mk (plainFor_of_name (by decide)) (Nat.le_of_ble_eq_true rfl) (fun X hC hR => t_X10_lets hC  hR hw)
-- FortressWatchModel.see
def wp_X10_see  (σ : SS) (p1 : Int32) (Q : Int32 → SS → Prop) : Prop :=
  wp_X10_keeps σ (fun σ1 =>
    wp_X10_lets σ1 p1 (fun r3 σ2 =>
      wp_X10_ends σ2 r3 (fun r5 σ4 =>
        Q r5 σ4)))
set_option maxRecDepth 100000 in
set_option maxHeartbeats 4000000 in
theorem t_X10_see {X : XT} {B : Nat} (hC : Cx X 2 cX10_see RX10 (rmN 4 90)) {Q : Int32 → SS → Prop} (hR : RtI X 2 B 103 RS cX10_see Q) {σ : SS} {p1 : Int32} (hw : wp_X10_see  σ p1 Q) : J X 2 B 103 RS 0 0 σ [(0, .ref (B + 95)), (1, .int p1)] 0 [] := by
  unfold wp_X10_see at hw
  refine j_aload_n 0 hC 0 (dg DX10_see 0 rfl) rfl rfl ?_
  refine j_Vv (As := []) 1 hC (m_X10_keeps  hw) kX10_97 (k_95) (by decide) ⟨_, _, rfl⟩ (rmN_ok (by decide) (by decide)) rfl rfl (Nat.le_of_ble_eq_true rfl) (dg DX10_see 1 rfl) (fun σ1 hw => ?_)
  refine j_aload_n 4 hC 0 (dg DX10_see 2 rfl) rfl rfl ?_
  refine j_aload_n 5 hC 0 (dg DX10_see 3 rfl) rfl rfl ?_
  refine j_iload_n 6 hC 1 (dg DX10_see 4 rfl) rfl rfl ?_
  refine j_Vi (As := [.int p1]) 7 hC (m_X10_lets  hw) kX10_125 (k_95) (by decide) ⟨_, _, rfl⟩ (rmN_ok (by decide) (by decide)) rfl rfl (Nat.le_of_ble_eq_true rfl) (dg DX10_see 5 rfl) (fun r3 σ2 hw => ?_)
  refine j_Vi (As := [.int r3]) 10 hC (m_X10_ends  hw) kX10_104 (k_95) (by decide) ⟨_, _, rfl⟩ (rmN_ok (by decide) (by decide)) rfl rfl (Nat.le_of_ble_eq_true rfl) (dg DX10_see 6 rfl) (fun r5 σ4 hw => ?_)
  exact hR 13 _ _ _ (dg DX10_see 7 rfl) hw
theorem m_X10_see {B : Nat} {σ : SS} {p1 : Int32} {Q : Int32 → SS → Prop} (hw : wp_X10_see  σ p1 Q) : MI yX10_see cX10_see 2 (some .int) 4 90 B 103 RS [.ref (B + 95), .int p1] σ Q := MI.mk (plainFor_of_name (by decide)) (Nat.le_of_ble_eq_true rfl) (fun X hC hR => t_X10_see hC  hR hw)
-- FortressWatchModel.mans
def wp_X10_mans  (σ : SS) (p1 : Int32) (p2 : Int32) (Q : Int32 → SS → Prop) : Prop :=
  wp_X10_isPost σ p1 (fun r2 σ1 =>
    ((r2 = 0 →
        Q (-1) σ1) ∧
      (¬ r2 = 0 →
        wp_X10_isIn σ1 p2 0 1 (fun r4 σ3 =>
          ((r4 = 0 →
              Q (-2) σ3) ∧
            (¬ r4 = 0 →
              wp_X10_of σ3 p1 5 (fun r6 σ5 =>
                ((r6 = p2 →
                    wp_X10_isRefused σ5 1 3 p2 (fun r17 σ16 =>
                      ((r17 = 0 →
                          wp_X10_sets σ16 p1 5 p2 (fun σ18 =>
                            wp_X10_mannedSet σ18 (fun r20 σ19 =>
                              wp_X10_seen σ19 r20 (fun r22 σ21 =>
                                wp_X10_bits σ21 r22 (fun r24 σ23 =>
                                  Q r24 σ23))))) ∧
                        (¬ r17 = 0 →
                          Q (-3) σ16)))) ∧
                  (¬ r6 = p2 →
                    wp_X10_isRefused σ5 0 3 p2 (fun r8 σ7 =>
                      ((r8 = 0 →
                          wp_X10_sets σ7 p1 5 p2 (fun σ9 =>
                            wp_X10_mannedSet σ9 (fun r11 σ10 =>
                              wp_X10_seen σ10 r11 (fun r13 σ12 =>
                                wp_X10_bits σ12 r13 (fun r15 σ14 =>
                                  Q r15 σ14))))) ∧
                        (¬ r8 = 0 →
                          Q (-3) σ7))))))))))))
set_option maxRecDepth 100000 in
set_option maxHeartbeats 4000000 in
theorem t_X10_mans {X : XT} {B : Nat} (hC : Cx X 3 cX10_mans RX10 (rmN 4 93)) {Q : Int32 → SS → Prop} (hR : RtI X 3 B 103 RS cX10_mans Q) {σ : SS} {p1 : Int32} {p2 : Int32} (hw : wp_X10_mans  σ p1 p2 Q) : J X 3 B 103 RS 0 0 σ [(0, .ref (B + 95)), (1, .int p1), (2, .int p2)] 0 [] := by
  unfold wp_X10_mans at hw
  refine j_aload_n 0 hC 0 (dg DX10_mans 0 rfl) rfl rfl ?_
  refine j_iload_n 1 hC 1 (dg DX10_mans 1 rfl) rfl rfl ?_
  refine j_Vi (As := [.int p1]) 2 hC (m_X10_isPost  hw) kX10_107 (k_95) (by decide) ⟨_, _, rfl⟩ (rmN_ok (by decide) (by decide)) rfl rfl (Nat.le_of_ble_eq_true rfl) (dg DX10_mans 2 rfl) (fun r2 σ1 hw => ?_)
  refine j_if_ne 5 10 hC (dg DX10_mans 3 rfl) (by decide) (fun hbr => ?_) (fun hbr => ?_)
  · replace hw := hw.2 hbr
    refine j_iload_n 10 hC 2 (dg DX10_mans 6 rfl) rfl rfl ?_
    refine j_iconst 11 hC (dg DX10_mans 7 rfl) (v := 0) (by decide) ?_
    refine j_iconst 12 hC (dg DX10_mans 8 rfl) (v := 1) (by decide) ?_
    refine j_Si (As := [.int p2, .int 0, .int 1]) 13 hC (m_X10_isIn  hw) kX10_51 (rmN_ok (by decide) (by decide)) rfl rfl (Nat.le_of_ble_eq_true rfl) (dg DX10_mans 9 rfl) (fun r4 σ3 hw => ?_)
    refine j_if_ne 16 22 hC (dg DX10_mans 10 rfl) (by decide) (fun hbr => ?_) (fun hbr => ?_)
    · replace hw := hw.2 hbr
      refine j_aload_n 22 hC 0 (dg DX10_mans 13 rfl) rfl rfl ?_
      refine j_aload_n 23 hC 0 (dg DX10_mans 14 rfl) rfl rfl ?_
      refine j_iload_n 24 hC 1 (dg DX10_mans 15 rfl) rfl rfl ?_
      refine j_iconst 25 hC (dg DX10_mans 16 rfl) (v := 5) (by decide) ?_
      refine j_Vi (As := [.int p1, .int 5]) 26 hC (m_X10_of  hw) kX10_55 (k_95) (by decide) ⟨_, _, rfl⟩ (rmN_ok (by decide) (by decide)) rfl rfl (Nat.le_of_ble_eq_true rfl) (dg DX10_mans 17 rfl) (fun r6 σ5 hw => ?_)
      refine j_iload_n 29 hC 2 (dg DX10_mans 18 rfl) rfl rfl ?_
      refine j_icmp_ne 30 37 hC (dg DX10_mans 19 rfl) (by decide) (fun hbr => ?_) (fun hbr => ?_)
      · replace hw := hw.2 hbr
        refine j_iconst 37 hC (dg DX10_mans 22 rfl) (v := 0) (by decide) ?_
        refine j_iconst 38 hC (dg DX10_mans 23 rfl) (v := 3) (by decide) ?_
        refine j_iload_n 39 hC 2 (dg DX10_mans 24 rfl) rfl rfl ?_
        refine j_Vi (As := [.int 0, .int 3, .int p2]) 40 hC (m_X10_isRefused  hw) kX10_89 (k_95) (by decide) ⟨_, _, rfl⟩ (rmN_ok (by decide) (by decide)) rfl rfl (Nat.le_of_ble_eq_true rfl) (dg DX10_mans 25 rfl) (fun r8 σ7 hw => ?_)
        refine j_if_eq 43 49 hC (dg DX10_mans 26 rfl) (by decide) (fun hbr => ?_) (fun hbr => ?_)
        · replace hw := hw.1 hbr
          refine j_aload_n 49 hC 0 (dg DX10_mans 29 rfl) rfl rfl ?_
          refine j_iload_n 50 hC 1 (dg DX10_mans 30 rfl) rfl rfl ?_
          refine j_iconst 51 hC (dg DX10_mans 31 rfl) (v := 5) (by decide) ?_
          refine j_iload_n 52 hC 2 (dg DX10_mans 32 rfl) rfl rfl ?_
          refine j_Vv (As := [.int p1, .int 5, .int p2]) 53 hC (m_X10_sets  hw) kX10_93 (k_95) (by decide) ⟨_, _, rfl⟩ (rmN_ok (by decide) (by decide)) rfl rfl (Nat.le_of_ble_eq_true rfl) (dg DX10_mans 33 rfl) (fun σ9 hw => ?_)
          refine j_aload_n 56 hC 0 (dg DX10_mans 34 rfl) rfl rfl ?_
          refine j_aload_n 57 hC 0 (dg DX10_mans 35 rfl) rfl rfl ?_
          refine j_Vi (As := []) 58 hC (m_X10_mannedSet  hw) kX10_128 (k_95) (by decide) ⟨_, _, rfl⟩ (rmN_ok (by decide) (by decide)) rfl rfl (Nat.le_of_ble_eq_true rfl) (dg DX10_mans 36 rfl) (fun r11 σ10 hw => ?_)
          refine j_Vi (As := [.int r11]) 61 hC (m_X10_seen  hw) kX10_132 (k_95) (by decide) ⟨_, _, rfl⟩ (rmN_ok (by decide) (by decide)) rfl rfl (Nat.le_of_ble_eq_true rfl) (dg DX10_mans 37 rfl) (fun r13 σ12 hw => ?_)
          refine j_Si (As := [.int r13]) 64 hC (m_X10_bits  hw) kX10_119 (rmN_ok (by decide) (by decide)) rfl rfl (Nat.le_of_ble_eq_true rfl) (dg DX10_mans 38 rfl) (fun r15 σ14 hw => ?_)
          exact hR 67 _ _ _ (dg DX10_mans 39 rfl) hw
        · replace hw := hw.2 hbr
          refine j_bipush 46 hC (dg DX10_mans 27 rfl) (v := (-3)) (by decide) ?_
          exact hR 48 _ _ _ (dg DX10_mans 28 rfl) hw
      · replace hw := hw.1 hbr
        refine j_iconst 33 hC (dg DX10_mans 20 rfl) (v := 1) (by decide) ?_
        refine j_goto 34 38 hC (dg DX10_mans 21 rfl) (by decide) ?_
        refine j_iconst 38 hC (dg DX10_mans 23 rfl) (v := 3) (by decide) ?_
        refine j_iload_n 39 hC 2 (dg DX10_mans 24 rfl) rfl rfl ?_
        refine j_Vi (As := [.int 1, .int 3, .int p2]) 40 hC (m_X10_isRefused  hw) kX10_89 (k_95) (by decide) ⟨_, _, rfl⟩ (rmN_ok (by decide) (by decide)) rfl rfl (Nat.le_of_ble_eq_true rfl) (dg DX10_mans 25 rfl) (fun r17 σ16 hw => ?_)
        refine j_if_eq 43 49 hC (dg DX10_mans 26 rfl) (by decide) (fun hbr => ?_) (fun hbr => ?_)
        · replace hw := hw.1 hbr
          refine j_aload_n 49 hC 0 (dg DX10_mans 29 rfl) rfl rfl ?_
          refine j_iload_n 50 hC 1 (dg DX10_mans 30 rfl) rfl rfl ?_
          refine j_iconst 51 hC (dg DX10_mans 31 rfl) (v := 5) (by decide) ?_
          refine j_iload_n 52 hC 2 (dg DX10_mans 32 rfl) rfl rfl ?_
          refine j_Vv (As := [.int p1, .int 5, .int p2]) 53 hC (m_X10_sets  hw) kX10_93 (k_95) (by decide) ⟨_, _, rfl⟩ (rmN_ok (by decide) (by decide)) rfl rfl (Nat.le_of_ble_eq_true rfl) (dg DX10_mans 33 rfl) (fun σ18 hw => ?_)
          refine j_aload_n 56 hC 0 (dg DX10_mans 34 rfl) rfl rfl ?_
          refine j_aload_n 57 hC 0 (dg DX10_mans 35 rfl) rfl rfl ?_
          refine j_Vi (As := []) 58 hC (m_X10_mannedSet  hw) kX10_128 (k_95) (by decide) ⟨_, _, rfl⟩ (rmN_ok (by decide) (by decide)) rfl rfl (Nat.le_of_ble_eq_true rfl) (dg DX10_mans 36 rfl) (fun r20 σ19 hw => ?_)
          refine j_Vi (As := [.int r20]) 61 hC (m_X10_seen  hw) kX10_132 (k_95) (by decide) ⟨_, _, rfl⟩ (rmN_ok (by decide) (by decide)) rfl rfl (Nat.le_of_ble_eq_true rfl) (dg DX10_mans 37 rfl) (fun r22 σ21 hw => ?_)
          refine j_Si (As := [.int r22]) 64 hC (m_X10_bits  hw) kX10_119 (rmN_ok (by decide) (by decide)) rfl rfl (Nat.le_of_ble_eq_true rfl) (dg DX10_mans 38 rfl) (fun r24 σ23 hw => ?_)
          exact hR 67 _ _ _ (dg DX10_mans 39 rfl) hw
        · replace hw := hw.2 hbr
          refine j_bipush 46 hC (dg DX10_mans 27 rfl) (v := (-3)) (by decide) ?_
          exact hR 48 _ _ _ (dg DX10_mans 28 rfl) hw
    · replace hw := hw.1 hbr
      refine j_bipush 19 hC (dg DX10_mans 11 rfl) (v := (-2)) (by decide) ?_
      exact hR 21 _ _ _ (dg DX10_mans 12 rfl) hw
  · replace hw := hw.1 hbr
    refine j_iconst 8 hC (dg DX10_mans 4 rfl) (v := (-1)) (by decide) ?_
    exact hR 9 _ _ _ (dg DX10_mans 5 rfl) hw
theorem m_X10_mans {B : Nat} {σ : SS} {p1 : Int32} {p2 : Int32} {Q : Int32 → SS → Prop} (hw : wp_X10_mans  σ p1 p2 Q) : MI yX10_mans cX10_mans 3 (some .int) 4 93 B 103 RS [.ref (B + 95), .int p1, .int p2] σ Q := MI.mk (plainFor_of_name (by decide)) (Nat.le_of_ble_eq_true rfl) (fun X hC hR => t_X10_mans hC  hR hw)
-- FortressWatchModel.man
def wp_X10_man  (σ : SS) (p1 : Int32) (p2 : Int32) (Q : Int32 → SS → Prop) : Prop :=
  wp_X10_keeps σ (fun σ1 =>
    wp_X10_mans σ1 p1 p2 (fun r3 σ2 =>
      wp_X10_ends σ2 r3 (fun r5 σ4 =>
        Q r5 σ4)))
set_option maxRecDepth 100000 in
set_option maxHeartbeats 4000000 in
theorem t_X10_man {X : XT} {B : Nat} (hC : Cx X 3 cX10_man RX10 (rmN 5 115)) {Q : Int32 → SS → Prop} (hR : RtI X 3 B 103 RS cX10_man Q) {σ : SS} {p1 : Int32} {p2 : Int32} (hw : wp_X10_man  σ p1 p2 Q) : J X 3 B 103 RS 0 0 σ [(0, .ref (B + 95)), (1, .int p1), (2, .int p2)] 0 [] := by
  unfold wp_X10_man at hw
  refine j_aload_n 0 hC 0 (dg DX10_man 0 rfl) rfl rfl ?_
  refine j_Vv (As := []) 1 hC (m_X10_keeps  hw) kX10_97 (k_95) (by decide) ⟨_, _, rfl⟩ (rmN_ok (by decide) (by decide)) rfl rfl (Nat.le_of_ble_eq_true rfl) (dg DX10_man 1 rfl) (fun σ1 hw => ?_)
  refine j_aload_n 4 hC 0 (dg DX10_man 2 rfl) rfl rfl ?_
  refine j_aload_n 5 hC 0 (dg DX10_man 3 rfl) rfl rfl ?_
  refine j_iload_n 6 hC 1 (dg DX10_man 4 rfl) rfl rfl ?_
  refine j_iload_n 7 hC 2 (dg DX10_man 5 rfl) rfl rfl ?_
  refine j_Vi (As := [.int p1, .int p2]) 8 hC (m_X10_mans  hw) kX10_135 (k_95) (by decide) ⟨_, _, rfl⟩ (rmN_ok (by decide) (by decide)) rfl rfl (Nat.le_of_ble_eq_true rfl) (dg DX10_man 6 rfl) (fun r3 σ2 hw => ?_)
  refine j_Vi (As := [.int r3]) 11 hC (m_X10_ends  hw) kX10_104 (k_95) (by decide) ⟨_, _, rfl⟩ (rmN_ok (by decide) (by decide)) rfl rfl (Nat.le_of_ble_eq_true rfl) (dg DX10_man 7 rfl) (fun r5 σ4 hw => ?_)
  exact hR 14 _ _ _ (dg DX10_man 8 rfl) hw
theorem m_X10_man {B : Nat} {σ : SS} {p1 : Int32} {p2 : Int32} {Q : Int32 → SS → Prop} (hw : wp_X10_man  σ p1 p2 Q) : MI yX10_man cX10_man 3 (some .int) 5 115 B 103 RS [.ref (B + 95), .int p1, .int p2] σ Q := MI.mk (plainFor_of_name (by decide)) (Nat.le_of_ble_eq_true rfl) (fun X hC hR => t_X10_man hC  hR hw)
-- FortressWatchModel.tellsHour
def wp_X10_tellsHour  (σ : SS) (p1 : Int32) (Q : Int32 → SS → Prop) : Prop :=
  wp_X10_isHour σ p1 (fun r2 σ1 =>
    ((r2 = 0 →
        Q (-2) σ1) ∧
      (¬ r2 = 0 →
        (((σ1 96 1) = p1 →
            wp_X10_isRefused σ1 1 3 p1 (fun r6 σ5 =>
              ((r6 = 0 →
                  Q (σ1 96 1) (u2 σ5 96 1 p1)) ∧
                (¬ r6 = 0 →
                  Q (-3) σ5)))) ∧
          (¬ (σ1 96 1) = p1 →
            wp_X10_isRefused σ1 0 3 p1 (fun r4 σ3 =>
              ((r4 = 0 →
                  Q (σ1 96 1) (u2 σ3 96 1 p1)) ∧
                (¬ r4 = 0 →
                  Q (-3) σ3))))))))
set_option maxRecDepth 100000 in
set_option maxHeartbeats 4000000 in
theorem t_X10_tellsHour {X : XT} {B : Nat} (hC : Cx X 3 cX10_tellsHour RX10 (rmN 2 42)) {Q : Int32 → SS → Prop} (hR : RtI X 3 B 103 RS cX10_tellsHour Q) {σ : SS} {p1 : Int32} (hw : wp_X10_tellsHour  σ p1 Q) : J X 3 B 103 RS 0 0 σ [(0, .ref (B + 95)), (1, .int p1)] 0 [] := by
  unfold wp_X10_tellsHour at hw
  refine j_iload_n 0 hC 1 (dg DX10_tellsHour 0 rfl) rfl rfl ?_
  refine j_Si (As := [.int p1]) 1 hC (m_X10_isHour  hw) kX10_138 (rmN_ok (by decide) (by decide)) rfl rfl (Nat.le_of_ble_eq_true rfl) (dg DX10_tellsHour 1 rfl) (fun r2 σ1 hw => ?_)
  refine j_if_ne 4 10 hC (dg DX10_tellsHour 2 rfl) (by decide) (fun hbr => ?_) (fun hbr => ?_)
  · replace hw := hw.2 hbr
    refine j_aload_n 10 hC 0 (dg DX10_tellsHour 5 rfl) rfl rfl ?_
    refine j_getR 11 hC fX10_9 (k_95) (by decide) (by decide) rfl (dg DX10_tellsHour 6 rfl) ?_
    refine j_iconst 14 hC (dg DX10_tellsHour 7 rfl) (v := 1) (by decide) ?_
    refine j_iald0 15 1 hC (k_96) (by decide) (by unfold vp_in; decide) rfl (dg DX10_tellsHour 8 rfl) ?_
    refine j_istore_n 16 hC [(2, .int (σ1 96 1)), (0, .ref (B + 95)), (1, .int p1)] (dg DX10_tellsHour 9 rfl) rfl (by decide) rfl ?_
    refine j_aload_n 17 hC 1 (dg DX10_tellsHour 10 rfl) rfl rfl ?_
    refine j_iload_n 18 hC 0 (dg DX10_tellsHour 11 rfl) rfl rfl ?_
    refine j_iload_n 19 hC 2 (dg DX10_tellsHour 12 rfl) rfl rfl ?_
    refine j_icmp_ne 20 27 hC (dg DX10_tellsHour 13 rfl) (by decide) (fun hbr => ?_) (fun hbr => ?_)
    · replace hw := hw.2 hbr
      refine j_iconst 27 hC (dg DX10_tellsHour 16 rfl) (v := 0) (by decide) ?_
      refine j_iconst 28 hC (dg DX10_tellsHour 17 rfl) (v := 3) (by decide) ?_
      refine j_iload_n 29 hC 2 (dg DX10_tellsHour 18 rfl) rfl rfl ?_
      refine j_Vi (As := [.int 0, .int 3, .int p1]) 30 hC (m_X10_isRefused  hw) kX10_89 (k_95) (by decide) ⟨_, _, rfl⟩ (rmN_ok (by decide) (by decide)) rfl rfl (Nat.le_of_ble_eq_true rfl) (dg DX10_tellsHour 19 rfl) (fun r4 σ3 hw => ?_)
      refine j_if_eq 33 39 hC (dg DX10_tellsHour 20 rfl) (by decide) (fun hbr => ?_) (fun hbr => ?_)
      · replace hw := hw.1 hbr
        refine j_aload_n 39 hC 1 (dg DX10_tellsHour 23 rfl) rfl rfl ?_
        refine j_getR 40 hC fX10_9 (k_95) (by decide) (by decide) rfl (dg DX10_tellsHour 24 rfl) ?_
        refine j_iconst 43 hC (dg DX10_tellsHour 25 rfl) (v := 1) (by decide) ?_
        refine j_iload_n 44 hC 2 (dg DX10_tellsHour 26 rfl) rfl rfl ?_
        refine j_iast0 45 1 hC (k_96) (by decide) (by unfold vp_in; decide) rfl (dg DX10_tellsHour 27 rfl) ?_
        refine j_iload_n 46 hC 0 (dg DX10_tellsHour 28 rfl) rfl rfl ?_
        exact hR 47 _ _ _ (dg DX10_tellsHour 29 rfl) hw
      · replace hw := hw.2 hbr
        refine j_bipush 36 hC (dg DX10_tellsHour 21 rfl) (v := (-3)) (by decide) ?_
        exact hR 38 _ _ _ (dg DX10_tellsHour 22 rfl) hw
    · replace hw := hw.1 hbr
      refine j_iconst 23 hC (dg DX10_tellsHour 14 rfl) (v := 1) (by decide) ?_
      refine j_goto 24 28 hC (dg DX10_tellsHour 15 rfl) (by decide) ?_
      refine j_iconst 28 hC (dg DX10_tellsHour 17 rfl) (v := 3) (by decide) ?_
      refine j_iload_n 29 hC 2 (dg DX10_tellsHour 18 rfl) rfl rfl ?_
      refine j_Vi (As := [.int 1, .int 3, .int p1]) 30 hC (m_X10_isRefused  hw) kX10_89 (k_95) (by decide) ⟨_, _, rfl⟩ (rmN_ok (by decide) (by decide)) rfl rfl (Nat.le_of_ble_eq_true rfl) (dg DX10_tellsHour 19 rfl) (fun r6 σ5 hw => ?_)
      refine j_if_eq 33 39 hC (dg DX10_tellsHour 20 rfl) (by decide) (fun hbr => ?_) (fun hbr => ?_)
      · replace hw := hw.1 hbr
        refine j_aload_n 39 hC 1 (dg DX10_tellsHour 23 rfl) rfl rfl ?_
        refine j_getR 40 hC fX10_9 (k_95) (by decide) (by decide) rfl (dg DX10_tellsHour 24 rfl) ?_
        refine j_iconst 43 hC (dg DX10_tellsHour 25 rfl) (v := 1) (by decide) ?_
        refine j_iload_n 44 hC 2 (dg DX10_tellsHour 26 rfl) rfl rfl ?_
        refine j_iast0 45 1 hC (k_96) (by decide) (by unfold vp_in; decide) rfl (dg DX10_tellsHour 27 rfl) ?_
        refine j_iload_n 46 hC 0 (dg DX10_tellsHour 28 rfl) rfl rfl ?_
        exact hR 47 _ _ _ (dg DX10_tellsHour 29 rfl) hw
      · replace hw := hw.2 hbr
        refine j_bipush 36 hC (dg DX10_tellsHour 21 rfl) (v := (-3)) (by decide) ?_
        exact hR 38 _ _ _ (dg DX10_tellsHour 22 rfl) hw
  · replace hw := hw.1 hbr
    refine j_bipush 7 hC (dg DX10_tellsHour 3 rfl) (v := (-2)) (by decide) ?_
    exact hR 9 _ _ _ (dg DX10_tellsHour 4 rfl) hw
theorem m_X10_tellsHour {B : Nat} {σ : SS} {p1 : Int32} {Q : Int32 → SS → Prop} (hw : wp_X10_tellsHour  σ p1 Q) : MI yX10_tellsHour cX10_tellsHour 3 (some .int) 2 42 B 103 RS [.ref (B + 95), .int p1] σ Q := MI.mk (plainFor_of_name (by decide)) (Nat.le_of_ble_eq_true rfl) (fun X hC hR => t_X10_tellsHour hC  hR hw)
