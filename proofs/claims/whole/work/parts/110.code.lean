-- FortressWatchModel.ends
def wp_X10_ends  (σ : SS) (p1 : Int32) (Q : Int32 → SS → Prop) : Prop :=
  ((p1 < 0 →
      Q p1 σ) ∧
    (¬ p1 < 0 →
      wp_X10_changed σ (fun σ1 =>
        Q p1 σ1)))
set_option maxRecDepth 100000 in
set_option maxHeartbeats 4000000 in
theorem t_X10_ends {X : XT} {B : Nat} (hC : Cx X 2 cX10_ends RX10 (rmN 2 45)) {Q : Int32 → SS → Prop} (hR : RtI X 2 B 103 RS cX10_ends Q) {σ : SS} {p1 : Int32} (hw : wp_X10_ends  σ p1 Q) : J X 2 B 103 RS 0 0 σ [(0, .ref (B + 95)), (1, .int p1)] 0 [] := by
  unfold wp_X10_ends at hw
  refine j_iload_n 0 hC 1 (dg DX10_ends 0 rfl) rfl rfl ?_
  refine j_if_lt 1 8 hC (dg DX10_ends 1 rfl) (by decide) (fun hbr => ?_) (fun hbr => ?_)
  · replace hw := hw.1 hbr
    refine j_iload_n 8 hC 1 (dg DX10_ends 4 rfl) rfl rfl ?_
    exact hR 9 _ _ _ (dg DX10_ends 5 rfl) hw
  · replace hw := hw.2 hbr
    refine j_aload_n 4 hC 0 (dg DX10_ends 2 rfl) rfl rfl ?_
    refine j_Vv (As := []) 5 hC (m_X10_changed  hw) kX10_42 (k_95) (by decide) ⟨_, _, rfl⟩ (rmN_ok (by decide) (by decide)) rfl rfl (Nat.le_of_ble_eq_true rfl) (dg DX10_ends 3 rfl) (fun σ1 hw => ?_)
    refine j_iload_n 8 hC 1 (dg DX10_ends 4 rfl) rfl rfl ?_
    exact hR 9 _ _ _ (dg DX10_ends 5 rfl) hw
theorem m_X10_ends {B : Nat} {σ : SS} {p1 : Int32} {Q : Int32 → SS → Prop} (hw : wp_X10_ends  σ p1 Q) : MI yX10_ends cX10_ends 2 (some .int) 2 45 B 103 RS [.ref (B + 95), .int p1] σ Q := MI.mk (plainFor_of_name (by decide)) (Nat.le_of_ble_eq_true rfl) (fun X hC hR => t_X10_ends hC  hR hw)
-- FortressWatchModel.isRefused
def wp_X10_isRefused  (σ : SS) (p1 : Int32) (p2 : Int32) (p3 : Int32) (Q : Int32 → SS → Prop) : Prop :=
  ((p1 = 0 →
      (p1 = 0 ∨ p1 = 1) ∧ Q p1 σ) ∧
    (¬ p1 = 0 →
      ∀ σ1 : SS, σ1 = u2 (u2 (u2 σ 95 5 p2) 95 6 p3) 95 7 (-4) →
      (p1 = 0 ∨ p1 = 1) ∧ Q p1 σ1))
set_option maxRecDepth 100000 in
set_option maxHeartbeats 4000000 in
theorem t_X10_isRefused {X : XT} {B : Nat} (hC : Cx X 4 cX10_isRefused RX10 (rmN 0 0)) {Q : Int32 → SS → Prop} (hR : RtZ X 4 B 103 RS cX10_isRefused Q) {σ : SS} {p1 : Int32} {p2 : Int32} {p3 : Int32} (hw : wp_X10_isRefused  σ p1 p2 p3 Q) : J X 4 B 103 RS 0 0 σ [(0, .ref (B + 95)), (1, .int p1), (2, .int p2), (3, .int p3)] 0 [] := by
  unfold wp_X10_isRefused at hw
  refine j_iload_n 0 hC 1 (dg DX10_isRefused 0 rfl) rfl rfl ?_
  refine j_if_eq 1 20 hC (dg DX10_isRefused 1 rfl) (by decide) (fun hbr => ?_) (fun hbr => ?_)
  · replace hw := hw.1 hbr
    refine j_iload_n 20 hC 1 (dg DX10_isRefused 11 rfl) rfl rfl ?_
    exact hR 21 _ _ _ (dg DX10_isRefused 12 rfl) hw
  · replace hw := hw.2 hbr
    refine j_aload_n 4 hC 0 (dg DX10_isRefused 2 rfl) rfl rfl ?_
    refine j_iload_n 5 hC 2 (dg DX10_isRefused 3 rfl) rfl rfl ?_
    refine j_putI 6 hC fX10_45 (k_95) (by decide) (by decide) rfl fp10_5 rfl (dg DX10_isRefused 4 rfl) ?_
    refine j_aload_n 9 hC 0 (dg DX10_isRefused 5 rfl) rfl rfl ?_
    refine j_iload_n 10 hC 3 (dg DX10_isRefused 6 rfl) rfl rfl ?_
    refine j_putI 11 hC fX10_48 (k_95) (by decide) (by decide) rfl fp10_6 rfl (dg DX10_isRefused 7 rfl) ?_
    refine j_aload_n 14 hC 0 (dg DX10_isRefused 8 rfl) rfl rfl ?_
    refine j_bipush 15 hC (dg DX10_isRefused 9 rfl) (v := (-4)) (by decide) ?_
    refine j_putI 17 hC fX10_22 (k_95) (by decide) (by decide) rfl fp10_7 rfl (dg DX10_isRefused 10 rfl) ?_
    refine j_sg (fun σ1 es => ?_)
    replace hw := hw _ es
    refine j_iload_n 20 hC 1 (dg DX10_isRefused 11 rfl) rfl rfl ?_
    exact hR 21 _ _ _ (dg DX10_isRefused 12 rfl) hw
theorem m_X10_isRefused {B : Nat} {σ : SS} {p1 : Int32} {p2 : Int32} {p3 : Int32} {Q : Int32 → SS → Prop} (hw : wp_X10_isRefused  σ p1 p2 p3 Q) : MI yX10_isRefused cX10_isRefused 4 (some .boolean) 0 0 B 103 RS [.ref (B + 95), .int p1, .int p2, .int p3] σ Q := MI.mkZ (plainFor_of_name (by decide)) (Nat.le_of_ble_eq_true rfl) (fun X hC hR => t_X10_isRefused hC  hR hw)
-- FortressWatchModel.of
def wp_X10_of  (σ : SS) (p1 : Int32) (p2 : Int32) (Q : Int32 → SS → Prop) : Prop :=
  vp_in ((5 + (6 * p1)) + p2) 59 ∧
  Q (σ 96 ((5 + (6 * p1)) + p2).toNatClampNeg) σ
set_option maxRecDepth 100000 in
set_option maxHeartbeats 4000000 in
theorem t_X10_of {X : XT} {B : Nat} (hC : Cx X 3 cX10_of RX10 (rmN 0 0)) {Q : Int32 → SS → Prop} (hR : RtI X 3 B 103 RS cX10_of Q) {σ : SS} {p1 : Int32} {p2 : Int32} (hw : wp_X10_of  σ p1 p2 Q) : J X 3 B 103 RS 0 0 σ [(0, .ref (B + 95)), (1, .int p1), (2, .int p2)] 0 [] := by
  unfold wp_X10_of at hw
  refine j_aload_n 0 hC 0 (dg DX10_of 0 rfl) rfl rfl ?_
  refine j_getR 1 hC fX10_9 (k_95) (by decide) (by decide) rfl (dg DX10_of 1 rfl) ?_
  refine j_iconst 4 hC (dg DX10_of 2 rfl) (v := 5) (by decide) ?_
  refine j_bipush 5 hC (dg DX10_of 3 rfl) (v := 6) (by decide) ?_
  refine j_iload_n 7 hC 1 (dg DX10_of 4 rfl) rfl rfl ?_
  refine j_imul 8 hC (dg DX10_of 5 rfl) ?_
  refine j_iadd 9 hC (dg DX10_of 6 rfl) ?_
  refine j_iload_n 10 hC 2 (dg DX10_of 7 rfl) rfl rfl ?_
  refine j_iadd 11 hC (dg DX10_of 8 rfl) ?_
  refine j_iald0 12 _ hC (k_96) (by decide) hw.1 rfl (dg DX10_of 9 rfl) ?_
  replace hw := hw.2
  exact hR 13 _ _ _ (dg DX10_of 10 rfl) hw
theorem m_X10_of {B : Nat} {σ : SS} {p1 : Int32} {p2 : Int32} {Q : Int32 → SS → Prop} (hw : wp_X10_of  σ p1 p2 Q) : MI yX10_of cX10_of 3 (some .int) 0 0 B 103 RS [.ref (B + 95), .int p1, .int p2] σ Q := MI.mk (plainFor_of_name (by decide)) (Nat.le_of_ble_eq_true rfl) (fun X hC hR => t_X10_of hC  hR hw)
-- FortressWatchModel.sets
def wp_X10_sets  (σ : SS) (p1 : Int32) (p2 : Int32) (p3 : Int32) (Q : SS → Prop) : Prop :=
  vp_in ((5 + (6 * p1)) + p2) 59 ∧
  ∀ σ1 : SS, σ1 = u2 σ 96 ((5 + (6 * p1)) + p2).toNatClampNeg p3 →
  Q σ1
set_option maxRecDepth 100000 in
set_option maxHeartbeats 4000000 in
theorem t_X10_sets {X : XT} {B : Nat} (hC : Cx X 4 cX10_sets RX10 (rmN 0 0)) {Q : SS → Prop} (hR : RtV X 4 B 103 RS cX10_sets Q) {σ : SS} {p1 : Int32} {p2 : Int32} {p3 : Int32} (hw : wp_X10_sets  σ p1 p2 p3 Q) : J X 4 B 103 RS 0 0 σ [(0, .ref (B + 95)), (1, .int p1), (2, .int p2), (3, .int p3)] 0 [] := by
  unfold wp_X10_sets at hw
  refine j_aload_n 0 hC 0 (dg DX10_sets 0 rfl) rfl rfl ?_
  refine j_getR 1 hC fX10_9 (k_95) (by decide) (by decide) rfl (dg DX10_sets 1 rfl) ?_
  refine j_iconst 4 hC (dg DX10_sets 2 rfl) (v := 5) (by decide) ?_
  refine j_bipush 5 hC (dg DX10_sets 3 rfl) (v := 6) (by decide) ?_
  refine j_iload_n 7 hC 1 (dg DX10_sets 4 rfl) rfl rfl ?_
  refine j_imul 8 hC (dg DX10_sets 5 rfl) ?_
  refine j_iadd 9 hC (dg DX10_sets 6 rfl) ?_
  refine j_iload_n 10 hC 2 (dg DX10_sets 7 rfl) rfl rfl ?_
  refine j_iadd 11 hC (dg DX10_sets 8 rfl) ?_
  refine j_iload_n 12 hC 3 (dg DX10_sets 9 rfl) rfl rfl ?_
  refine j_iast0 13 _ hC (k_96) (by decide) hw.1 rfl (dg DX10_sets 10 rfl) ?_
  replace hw := hw.2
  refine j_sg (fun σ1 es => ?_)
  replace hw := hw _ es
  exact hR 14 _ _ (dg DX10_sets 11 rfl) hw
theorem m_X10_sets {B : Nat} {σ : SS} {p1 : Int32} {p2 : Int32} {p3 : Int32} {Q : SS → Prop} (hw : wp_X10_sets  σ p1 p2 p3 Q) : MV yX10_sets cX10_sets 4 0 0 B 103 RS [.ref (B + 95), .int p1, .int p2, .int p3] σ Q := MV.mk (plainFor_of_name (by decide)) (Nat.le_of_ble_eq_true rfl) (fun X hC hR => t_X10_sets hC  hR hw)
-- FortressWatchModel.isPost
def wp_X10_isPost  (σ : SS) (p1 : Int32) (Q : Int32 → SS → Prop) : Prop :=
  wp_X10_isIn σ p1 0 ((σ 96 0) - 1) (fun r2 σ1 =>
    (r2 = 0 ∨ r2 = 1) ∧ Q r2 σ1)
set_option maxRecDepth 100000 in
set_option maxHeartbeats 4000000 in
theorem t_X10_isPost {X : XT} {B : Nat} (hC : Cx X 2 cX10_isPost RX10 (rmN 1 22)) {Q : Int32 → SS → Prop} (hR : RtZ X 2 B 103 RS cX10_isPost Q) {σ : SS} {p1 : Int32} (hw : wp_X10_isPost  σ p1 Q) : J X 2 B 103 RS 0 0 σ [(0, .ref (B + 95)), (1, .int p1)] 0 [] := by
  unfold wp_X10_isPost at hw
  refine j_iload_n 0 hC 1 (dg DX10_isPost 0 rfl) rfl rfl ?_
  refine j_iconst 1 hC (dg DX10_isPost 1 rfl) (v := 0) (by decide) ?_
  refine j_aload_n 2 hC 0 (dg DX10_isPost 2 rfl) rfl rfl ?_
  refine j_getR 3 hC fX10_9 (k_95) (by decide) (by decide) rfl (dg DX10_isPost 3 rfl) ?_
  refine j_iconst 6 hC (dg DX10_isPost 4 rfl) (v := 0) (by decide) ?_
  refine j_iald0 7 0 hC (k_96) (by decide) (by unfold vp_in; decide) rfl (dg DX10_isPost 5 rfl) ?_
  refine j_iconst 8 hC (dg DX10_isPost 6 rfl) (v := 1) (by decide) ?_
  refine j_isub 9 hC (dg DX10_isPost 7 rfl) ?_
  refine j_Si (As := [.int p1, .int 0, .int ((σ 96 0) - 1)]) 10 hC (m_X10_isIn  hw) kX10_51 (rmN_ok (by decide) (by decide)) rfl rfl (Nat.le_of_ble_eq_true rfl) (dg DX10_isPost 8 rfl) (fun r2 σ1 hw => ?_)
  exact hR 13 _ _ _ (dg DX10_isPost 9 rfl) hw
theorem m_X10_isPost {B : Nat} {σ : SS} {p1 : Int32} {Q : Int32 → SS → Prop} (hw : wp_X10_isPost  σ p1 Q) : MI yX10_isPost cX10_isPost 2 (some .boolean) 1 22 B 103 RS [.ref (B + 95), .int p1] σ Q := MI.mkZ (plainFor_of_name (by decide)) (Nat.le_of_ble_eq_true rfl) (fun X hC hR => t_X10_isPost hC  hR hw)
-- FortressWatchModel.isStone
def wp_X10_isStone  (σ : SS) (p0 : Int32) (Q : Int32 → SS → Prop) : Prop :=
  wp_X10_isIn σ p0 0 23 (fun r2 σ1 =>
    (r2 = 0 ∨ r2 = 1) ∧ Q r2 σ1)
set_option maxRecDepth 100000 in
set_option maxHeartbeats 4000000 in
theorem t_X10_isStone {X : XT} {B : Nat} (hC : Cx X 1 cX10_isStone RX10 (rmN 1 22)) {Q : Int32 → SS → Prop} (hR : RtZ X 1 B 103 RS cX10_isStone Q) {σ : SS} {p0 : Int32} (hw : wp_X10_isStone  σ p0 Q) : J X 1 B 103 RS 0 0 σ [(0, .int p0)] 0 [] := by
  unfold wp_X10_isStone at hw
  refine j_iload_n 0 hC 0 (dg DX10_isStone 0 rfl) rfl rfl ?_
  refine j_iconst 1 hC (dg DX10_isStone 1 rfl) (v := 0) (by decide) ?_
  refine j_bipush 2 hC (dg DX10_isStone 2 rfl) (v := 23) (by decide) ?_
  refine j_Si (As := [.int p0, .int 0, .int 23]) 4 hC (m_X10_isIn  hw) kX10_51 (rmN_ok (by decide) (by decide)) rfl rfl (Nat.le_of_ble_eq_true rfl) (dg DX10_isStone 3 rfl) (fun r2 σ1 hw => ?_)
  exact hR 7 _ _ _ (dg DX10_isStone 4 rfl) hw
theorem m_X10_isStone {B : Nat} {σ : SS} {p0 : Int32} {Q : Int32 → SS → Prop} (hw : wp_X10_isStone  σ p0 Q) : MI yX10_isStone cX10_isStone 1 (some .boolean) 1 22 B 103 RS [.int p0] σ Q := MI.mkZ (plainFor_of_name (by decide)) (Nat.le_of_ble_eq_true rfl) (fun X hC hR => t_X10_isStone hC  hR hw)
-- FortressWatchModel.isReach
def wp_X10_isReach  (σ : SS) (p0 : Int32) (Q : Int32 → SS → Prop) : Prop :=
  wp_X10_isIn σ p0 0 11 (fun r2 σ1 =>
    (r2 = 0 ∨ r2 = 1) ∧ Q r2 σ1)
set_option maxRecDepth 100000 in
set_option maxHeartbeats 4000000 in
theorem t_X10_isReach {X : XT} {B : Nat} (hC : Cx X 1 cX10_isReach RX10 (rmN 1 22)) {Q : Int32 → SS → Prop} (hR : RtZ X 1 B 103 RS cX10_isReach Q) {σ : SS} {p0 : Int32} (hw : wp_X10_isReach  σ p0 Q) : J X 1 B 103 RS 0 0 σ [(0, .int p0)] 0 [] := by
  unfold wp_X10_isReach at hw
  refine j_iload_n 0 hC 0 (dg DX10_isReach 0 rfl) rfl rfl ?_
  refine j_iconst 1 hC (dg DX10_isReach 1 rfl) (v := 0) (by decide) ?_
  refine j_bipush 2 hC (dg DX10_isReach 2 rfl) (v := 11) (by decide) ?_
  refine j_Si (As := [.int p0, .int 0, .int 11]) 4 hC (m_X10_isIn  hw) kX10_51 (rmN_ok (by decide) (by decide)) rfl rfl (Nat.le_of_ble_eq_true rfl) (dg DX10_isReach 3 rfl) (fun r2 σ1 hw => ?_)
  exact hR 7 _ _ _ (dg DX10_isReach 4 rfl) hw
theorem m_X10_isReach {B : Nat} {σ : SS} {p0 : Int32} {Q : Int32 → SS → Prop} (hw : wp_X10_isReach  σ p0 Q) : MI yX10_isReach cX10_isReach 1 (some .boolean) 1 22 B 103 RS [.int p0] σ Q := MI.mkZ (plainFor_of_name (by decide)) (Nat.le_of_ble_eq_true rfl) (fun X hC hR => t_X10_isReach hC  hR hw)
-- FortressWatchModel.isHour
def wp_X10_isHour  (σ : SS) (p0 : Int32) (Q : Int32 → SS → Prop) : Prop :=
  wp_X10_isIn σ p0 0 11 (fun r2 σ1 =>
    (r2 = 0 ∨ r2 = 1) ∧ Q r2 σ1)
set_option maxRecDepth 100000 in
set_option maxHeartbeats 4000000 in
theorem t_X10_isHour {X : XT} {B : Nat} (hC : Cx X 1 cX10_isHour RX10 (rmN 1 22)) {Q : Int32 → SS → Prop} (hR : RtZ X 1 B 103 RS cX10_isHour Q) {σ : SS} {p0 : Int32} (hw : wp_X10_isHour  σ p0 Q) : J X 1 B 103 RS 0 0 σ [(0, .int p0)] 0 [] := by
  unfold wp_X10_isHour at hw
  refine j_iload_n 0 hC 0 (dg DX10_isHour 0 rfl) rfl rfl ?_
  refine j_iconst 1 hC (dg DX10_isHour 1 rfl) (v := 0) (by decide) ?_
  refine j_bipush 2 hC (dg DX10_isHour 2 rfl) (v := 11) (by decide) ?_
  refine j_Si (As := [.int p0, .int 0, .int 11]) 4 hC (m_X10_isIn  hw) kX10_51 (rmN_ok (by decide) (by decide)) rfl rfl (Nat.le_of_ble_eq_true rfl) (dg DX10_isHour 3 rfl) (fun r2 σ1 hw => ?_)
  exact hR 7 _ _ _ (dg DX10_isHour 4 rfl) hw
theorem m_X10_isHour {B : Nat} {σ : SS} {p0 : Int32} {Q : Int32 → SS → Prop} (hw : wp_X10_isHour  σ p0 Q) : MI yX10_isHour cX10_isHour 1 (some .boolean) 1 22 B 103 RS [.int p0] σ Q := MI.mkZ (plainFor_of_name (by decide)) (Nat.le_of_ble_eq_true rfl) (fun X hC hR => t_X10_isHour hC  hR hw)
-- FortressWatchModel.isManned
def wp_X10_isManned  (σ : SS) (p1 : Int32) (Q : Int32 → SS → Prop) : Prop :=
  wp_X10_of σ p1 5 (fun r2 σ1 =>
    ((r2 = 1 →
        Q 1 σ1) ∧
      (¬ r2 = 1 →
        Q 0 σ1)))
set_option maxRecDepth 100000 in
set_option maxHeartbeats 4000000 in
theorem t_X10_isManned {X : XT} {B : Nat} (hC : Cx X 2 cX10_isManned RX10 (rmN 1 22)) {Q : Int32 → SS → Prop} (hR : RtZ X 2 B 103 RS cX10_isManned Q) {σ : SS} {p1 : Int32} (hw : wp_X10_isManned  σ p1 Q) : J X 2 B 103 RS 0 0 σ [(0, .ref (B + 95)), (1, .int p1)] 0 [] := by
  unfold wp_X10_isManned at hw
  refine j_aload_n 0 hC 0 (dg DX10_isManned 0 rfl) rfl rfl ?_
  refine j_iload_n 1 hC 1 (dg DX10_isManned 1 rfl) rfl rfl ?_
  refine j_iconst 2 hC (dg DX10_isManned 2 rfl) (v := 5) (by decide) ?_
  refine j_Vi (As := [.int p1, .int 5]) 3 hC (m_X10_of  hw) kX10_55 (k_95) (by decide) ⟨_, _, rfl⟩ (rmN_ok (by decide) (by decide)) rfl rfl (Nat.le_of_ble_eq_true rfl) (dg DX10_isManned 3 rfl) (fun r2 σ1 hw => ?_)
  refine j_iconst 6 hC (dg DX10_isManned 4 rfl) (v := 1) (by decide) ?_
  refine j_icmp_ne 7 14 hC (dg DX10_isManned 5 rfl) (by decide) (fun hbr => ?_) (fun hbr => ?_)
  · replace hw := hw.2 hbr
    refine j_iconst 14 hC (dg DX10_isManned 8 rfl) (v := 0) (by decide) ?_
    exact hR 15 _ _ _ (dg DX10_isManned 9 rfl) ⟨by decide, hw⟩
  · replace hw := hw.1 hbr
    refine j_iconst 10 hC (dg DX10_isManned 6 rfl) (v := 1) (by decide) ?_
    refine j_goto 11 15 hC (dg DX10_isManned 7 rfl) (by decide) ?_
    exact hR 15 _ _ _ (dg DX10_isManned 9 rfl) ⟨by decide, hw⟩
theorem m_X10_isManned {B : Nat} {σ : SS} {p1 : Int32} {Q : Int32 → SS → Prop} (hw : wp_X10_isManned  σ p1 Q) : MI yX10_isManned cX10_isManned 2 (some .boolean) 1 22 B 103 RS [.ref (B + 95), .int p1] σ Q := MI.mkZ (plainFor_of_name (by decide)) (Nat.le_of_ble_eq_true rfl) (fun X hC hR => t_X10_isManned hC  hR hw)
-- FortressWatchModel.less
def wp_X10_less  (σ : SS) (p0 : Int32) (Q : Int32 → SS → Prop) : Prop :=
  ((6 ≤ p0 →
      ((8 ≤ p0 →
          ((10 ≤ p0 →
              Q 3 σ) ∧
            (¬ 10 ≤ p0 →
              Q 2 σ))) ∧
        (¬ 8 ≤ p0 →
          Q 1 σ))) ∧
    (¬ 6 ≤ p0 →
      Q 0 σ))
set_option maxRecDepth 100000 in
set_option maxHeartbeats 4000000 in
theorem t_X10_less {X : XT} {B : Nat} (hC : Cx X 1 cX10_less RX10 (rmN 0 0)) {Q : Int32 → SS → Prop} (hR : RtI X 1 B 103 RS cX10_less Q) {σ : SS} {p0 : Int32} (hw : wp_X10_less  σ p0 Q) : J X 1 B 103 RS 0 0 σ [(0, .int p0)] 0 [] := by
  unfold wp_X10_less at hw
  refine j_iload_n 0 hC 0 (dg DX10_less 0 rfl) rfl rfl ?_
  refine j_bipush 1 hC (dg DX10_less 1 rfl) (v := 6) (by decide) ?_
  refine j_icmp_ge 3 10 hC (dg DX10_less 2 rfl) (by decide) (fun hbr => ?_) (fun hbr => ?_)
  · replace hw := hw.1 hbr
    refine j_iload_n 10 hC 0 (dg DX10_less 5 rfl) rfl rfl ?_
    refine j_bipush 11 hC (dg DX10_less 6 rfl) (v := 8) (by decide) ?_
    refine j_icmp_ge 13 20 hC (dg DX10_less 7 rfl) (by decide) (fun hbr => ?_) (fun hbr => ?_)
    · replace hw := hw.1 hbr
      refine j_iload_n 20 hC 0 (dg DX10_less 10 rfl) rfl rfl ?_
      refine j_bipush 21 hC (dg DX10_less 11 rfl) (v := 10) (by decide) ?_
      refine j_icmp_ge 23 30 hC (dg DX10_less 12 rfl) (by decide) (fun hbr => ?_) (fun hbr => ?_)
      · replace hw := hw.1 hbr
        refine j_iconst 30 hC (dg DX10_less 15 rfl) (v := 3) (by decide) ?_
        exact hR 31 _ _ _ (dg DX10_less 16 rfl) hw
      · replace hw := hw.2 hbr
        refine j_iconst 26 hC (dg DX10_less 13 rfl) (v := 2) (by decide) ?_
        refine j_goto 27 31 hC (dg DX10_less 14 rfl) (by decide) ?_
        exact hR 31 _ _ _ (dg DX10_less 16 rfl) hw
    · replace hw := hw.2 hbr
      refine j_iconst 16 hC (dg DX10_less 8 rfl) (v := 1) (by decide) ?_
      refine j_goto 17 31 hC (dg DX10_less 9 rfl) (by decide) ?_
      exact hR 31 _ _ _ (dg DX10_less 16 rfl) hw
  · replace hw := hw.2 hbr
    refine j_iconst 6 hC (dg DX10_less 3 rfl) (v := 0) (by decide) ?_
    refine j_goto 7 31 hC (dg DX10_less 4 rfl) (by decide) ?_
    exact hR 31 _ _ _ (dg DX10_less 16 rfl) hw
theorem m_X10_less {B : Nat} {σ : SS} {p0 : Int32} {Q : Int32 → SS → Prop} (hw : wp_X10_less  σ p0 Q) : MI yX10_less cX10_less 1 (some .int) 0 0 B 103 RS [.int p0] σ Q := MI.mk (plainFor_of_name (by decide)) (Nat.le_of_ble_eq_true rfl) (fun X hC hR => t_X10_less hC  hR hw)
-- FortressWatchModel.sightIn
def bd_X10_sightIn_78    (Q : Int32 → SS → Prop) (l1 : Int32) (l2 : Int32) (l3 : Int32) (l4 : Int32) (rc : SS → Int32 → Int32 → Prop) (σ : SS) (v5 : Int32) (v6 : Int32) : Prop :=
  wp_X10_of σ l1 4 (fun r14 σ13 =>
    ((r14 ≤ v6 →
        Q v5 σ13) ∧
      (¬ r14 ≤ v6 →
        wp_X10_of σ13 l1 3 (fun r16 σ15 =>
          ∀ x17 : Int32, x17 = v5 &&& (((1 : Int32) <<< (((r16 + v6) - (r16 + v6) / 24 * 24) &&& 31)) ^^^ (-1)) →
          rc σ15 x17 (v6 + 1)))))
def bd_X10_sightIn_40    (Q : Int32 → SS → Prop) (l1 : Int32) (l2 : Int32) (l3 : Int32) (l4 : Int32) (rc : SS → Int32 → Int32 → Prop) (σ : SS) (v5 : Int32) (v6 : Int32) : Prop :=
  ((l4 < v6 →
      ∃ k18, Lii (bd_X10_sightIn_78 Q l1 l2 l3 l4) k18 σ v5 0) ∧
    (¬ l4 < v6 →
      wp_X10_of σ l1 0 (fun r20 σ19 =>
        ∀ x21 : Int32, x21 = v5 ||| ((1 : Int32) <<< ((((r20 + v6) + 24) - ((r20 + v6) + 24) / 24 * 24) &&& 31)) →
        rc σ19 x21 (v6 + 1))))
def wp_X10_sightIn  (σ : SS) (p1 : Int32) (p2 : Int32) (Q : Int32 → SS → Prop) : Prop :=
  wp_X10_of σ p1 1 (fun r2 σ1 =>
    wp_X10_less σ1 p2 (fun r4 σ3 =>
      wp_X10_greater σ3 0 (r2 - r4) (fun r6 σ5 =>
        wp_X10_of σ5 p1 2 (fun r8 σ7 =>
          wp_X10_less σ7 p2 (fun r10 σ9 =>
            wp_X10_greater σ9 0 (r8 - r10) (fun r12 σ11 =>
              ∃ k22, Lii (bd_X10_sightIn_40 Q p1 p2 r6 r12) k22 σ11 0 (-r6)))))))
set_option maxRecDepth 100000 in
set_option maxHeartbeats 4000000 in
theorem tb_X10_sightIn_78 {X : XT} {B : Nat} (hC : Cx X 7 cX10_sightIn RX10 (rmN 1 22)) {Q : Int32 → SS → Prop} {l1 : Int32} {l2 : Int32} {l3 : Int32} {l4 : Int32} (hR : RtI X 7 B 103 RS cX10_sightIn Q) {rc : SS → Int32 → Int32 → Prop} (hrc : ∀ (σ : SS) (v5 : Int32) (v6 : Int32), rc σ v5 v6 → J X 7 B 103 RS 0 0 σ [(0, .ref (B + 95)), (1, .int l1), (2, .int l2), (3, .int l3), (4, .int l4), (5, .int v5), (6, .int v6)] 78 []) : ∀ (σ : SS) (v5 : Int32) (v6 : Int32), bd_X10_sightIn_78 Q l1 l2 l3 l4 rc σ v5 v6 → J X 7 B 103 RS 0 0 σ [(0, .ref (B + 95)), (1, .int l1), (2, .int l2), (3, .int l3), (4, .int l4), (5, .int v5), (6, .int v6)] 78 [] := by
  intro σ v5 v6 hw
  unfold bd_X10_sightIn_78 at hw
  refine j_iload 78 hC 6 (dg DX10_sightIn 47 rfl) rfl ?_
  refine j_aload_n 80 hC 0 (dg DX10_sightIn 48 rfl) rfl rfl ?_
  refine j_iload_n 81 hC 1 (dg DX10_sightIn 49 rfl) rfl rfl ?_
  refine j_iconst 82 hC (dg DX10_sightIn 50 rfl) (v := 4) (by decide) ?_
  refine j_Vi (As := [.int l1, .int 4]) 83 hC (m_X10_of  hw) kX10_55 (k_95) (by decide) ⟨_, _, rfl⟩ (rmN_ok (by decide) (by decide)) rfl rfl (Nat.le_of_ble_eq_true rfl) (dg DX10_sightIn 51 rfl) (fun r14 σ13 hw => ?_)
  refine j_icmp_ge 86 116 hC (dg DX10_sightIn 52 rfl) (by decide) (fun hbr => ?_) (fun hbr => ?_)
  · replace hw := hw.1 hbr
    refine j_iload 116 hC 5 (dg DX10_sightIn 70 rfl) rfl ?_
    exact hR 118 _ _ _ (dg DX10_sightIn 71 rfl) hw
  · replace hw := hw.2 hbr
    refine j_iload 89 hC 5 (dg DX10_sightIn 53 rfl) rfl ?_
    refine j_iconst 91 hC (dg DX10_sightIn 54 rfl) (v := 1) (by decide) ?_
    refine j_aload_n 92 hC 0 (dg DX10_sightIn 55 rfl) rfl rfl ?_
    refine j_iload_n 93 hC 1 (dg DX10_sightIn 56 rfl) rfl rfl ?_
    refine j_iconst 94 hC (dg DX10_sightIn 57 rfl) (v := 3) (by decide) ?_
    refine j_Vi (As := [.int l1, .int 3]) 95 hC (m_X10_of  hw) kX10_55 (k_95) (by decide) ⟨_, _, rfl⟩ (rmN_ok (by decide) (by decide)) rfl rfl (Nat.le_of_ble_eq_true rfl) (dg DX10_sightIn 58 rfl) (fun r16 σ15 hw => ?_)
    refine j_iload 98 hC 6 (dg DX10_sightIn 59 rfl) rfl ?_
    refine j_iadd 100 hC (dg DX10_sightIn 60 rfl) ?_
    refine j_bipush 101 hC (dg DX10_sightIn 61 rfl) (v := 24) (by decide) ?_
    refine j_irem 103 hC (dg DX10_sightIn 62 rfl) (by decide) ?_
    refine j_ishl 104 hC (dg DX10_sightIn 63 rfl) ?_
    refine j_iconst 105 hC (dg DX10_sightIn 64 rfl) (v := (-1)) (by decide) ?_
    refine j_ixor 106 hC (dg DX10_sightIn 65 rfl) ?_
    refine j_iand 107 hC (dg DX10_sightIn 66 rfl) ?_
    refine j_top (fun x17 ex => ?_)
    replace hw := hw _ ex
    refine j_istore 108 hC [(5, .int x17), (0, .ref (B + 95)), (1, .int l1), (2, .int l2), (3, .int l3), (4, .int l4), (6, .int v6)] (dg DX10_sightIn 67 rfl) (by decide) rfl ?_
    refine j_iinc 110 hC 6 (v6 + 1) [(6, .int (v6 + 1)), (5, .int x17), (0, .ref (B + 95)), (1, .int l1), (2, .int l2), (3, .int l3), (4, .int l4)] (dg DX10_sightIn 68 rfl) rfl rfl (by decide) rfl ?_
    refine j_goto 113 78 hC (dg DX10_sightIn 69 rfl) (by decide) ?_
    refine j_lv [2, 3, 4, 5, 6, 1, 0] (lv' := [(0, .ref (B + 95)), (1, .int l1), (2, .int l2), (3, .int l3), (4, .int l4), (5, .int x17), (6, .int (v6 + 1))]) rfl ?_
    exact hrc _ _ _ hw
set_option maxRecDepth 100000 in
set_option maxHeartbeats 4000000 in
theorem tb_X10_sightIn_40 {X : XT} {B : Nat} (hC : Cx X 7 cX10_sightIn RX10 (rmN 1 22)) {Q : Int32 → SS → Prop} {l1 : Int32} {l2 : Int32} {l3 : Int32} {l4 : Int32} (hR : RtI X 7 B 103 RS cX10_sightIn Q) {rc : SS → Int32 → Int32 → Prop} (hrc : ∀ (σ : SS) (v5 : Int32) (v6 : Int32), rc σ v5 v6 → J X 7 B 103 RS 0 0 σ [(0, .ref (B + 95)), (1, .int l1), (2, .int l2), (3, .int l3), (4, .int l4), (5, .int v5), (6, .int v6)] 40 []) : ∀ (σ : SS) (v5 : Int32) (v6 : Int32), bd_X10_sightIn_40 Q l1 l2 l3 l4 rc σ v5 v6 → J X 7 B 103 RS 0 0 σ [(0, .ref (B + 95)), (1, .int l1), (2, .int l2), (3, .int l3), (4, .int l4), (5, .int v5), (6, .int v6)] 40 [] := by
  intro σ v5 v6 hw
  unfold bd_X10_sightIn_40 at hw
  refine j_iload 40 hC 6 (dg DX10_sightIn 25 rfl) rfl ?_
  refine j_iload 42 hC 4 (dg DX10_sightIn 26 rfl) rfl ?_
  refine j_icmp_gt 44 75 hC (dg DX10_sightIn 27 rfl) (by decide) (fun hbr => ?_) (fun hbr => ?_)
  · replace hw := hw.1 hbr
    refine j_iconst 75 hC (dg DX10_sightIn 45 rfl) (v := 0) (by decide) ?_
    refine j_istore 76 hC [(6, .int 0), (0, .ref (B + 95)), (1, .int l1), (2, .int l2), (3, .int l3), (4, .int l4), (5, .int v5)] (dg DX10_sightIn 46 rfl) (by decide) rfl ?_
    obtain ⟨k18, hw⟩ := hw
    refine j_lv [1, 2, 3, 4, 5, 6, 0] (lv' := [(0, .ref (B + 95)), (1, .int l1), (2, .int l2), (3, .int l3), (4, .int l4), (5, .int v5), (6, .int 0)]) rfl ?_
    exact Lii.snd (P := fun τ w5 w6 => J X 7 B 103 RS 0 0 τ [(0, .ref (B + 95)), (1, .int l1), (2, .int l2), (3, .int l3), (4, .int l4), (5, .int w5), (6, .int w6)] 78 []) (fun rcc hrcc => tb_X10_sightIn_78 hC  hR  hrcc) k18 _ _ _ hw
  · replace hw := hw.2 hbr
    refine j_iload 47 hC 5 (dg DX10_sightIn 28 rfl) rfl ?_
    refine j_iconst 49 hC (dg DX10_sightIn 29 rfl) (v := 1) (by decide) ?_
    refine j_aload_n 50 hC 0 (dg DX10_sightIn 30 rfl) rfl rfl ?_
    refine j_iload_n 51 hC 1 (dg DX10_sightIn 31 rfl) rfl rfl ?_
    refine j_iconst 52 hC (dg DX10_sightIn 32 rfl) (v := 0) (by decide) ?_
    refine j_Vi (As := [.int l1, .int 0]) 53 hC (m_X10_of  hw) kX10_55 (k_95) (by decide) ⟨_, _, rfl⟩ (rmN_ok (by decide) (by decide)) rfl rfl (Nat.le_of_ble_eq_true rfl) (dg DX10_sightIn 33 rfl) (fun r20 σ19 hw => ?_)
    refine j_iload 56 hC 6 (dg DX10_sightIn 34 rfl) rfl ?_
    refine j_iadd 58 hC (dg DX10_sightIn 35 rfl) ?_
    refine j_bipush 59 hC (dg DX10_sightIn 36 rfl) (v := 24) (by decide) ?_
    refine j_iadd 61 hC (dg DX10_sightIn 37 rfl) ?_
    refine j_bipush 62 hC (dg DX10_sightIn 38 rfl) (v := 24) (by decide) ?_
    refine j_irem 64 hC (dg DX10_sightIn 39 rfl) (by decide) ?_
    refine j_ishl 65 hC (dg DX10_sightIn 40 rfl) ?_
    refine j_ior 66 hC (dg DX10_sightIn 41 rfl) ?_
    refine j_top (fun x21 ex => ?_)
    replace hw := hw _ ex
    refine j_istore 67 hC [(5, .int x21), (0, .ref (B + 95)), (1, .int l1), (2, .int l2), (3, .int l3), (4, .int l4), (6, .int v6)] (dg DX10_sightIn 42 rfl) (by decide) rfl ?_
    refine j_iinc 69 hC 6 (v6 + 1) [(6, .int (v6 + 1)), (5, .int x21), (0, .ref (B + 95)), (1, .int l1), (2, .int l2), (3, .int l3), (4, .int l4)] (dg DX10_sightIn 43 rfl) rfl rfl (by decide) rfl ?_
    refine j_goto 72 40 hC (dg DX10_sightIn 44 rfl) (by decide) ?_
    refine j_lv [2, 3, 4, 5, 6, 1, 0] (lv' := [(0, .ref (B + 95)), (1, .int l1), (2, .int l2), (3, .int l3), (4, .int l4), (5, .int x21), (6, .int (v6 + 1))]) rfl ?_
    exact hrc _ _ _ hw
set_option maxRecDepth 100000 in
set_option maxHeartbeats 4000000 in
theorem t_X10_sightIn {X : XT} {B : Nat} (hC : Cx X 7 cX10_sightIn RX10 (rmN 1 22)) {Q : Int32 → SS → Prop} (hR : RtI X 7 B 103 RS cX10_sightIn Q) {σ : SS} {p1 : Int32} {p2 : Int32} (hw : wp_X10_sightIn  σ p1 p2 Q) : J X 7 B 103 RS 0 0 σ [(0, .ref (B + 95)), (1, .int p1), (2, .int p2)] 0 [] := by
  unfold wp_X10_sightIn at hw
  refine j_iconst 0 hC (dg DX10_sightIn 0 rfl) (v := 0) (by decide) ?_
  refine j_aload_n 1 hC 0 (dg DX10_sightIn 1 rfl) rfl rfl ?_
  refine j_iload_n 2 hC 1 (dg DX10_sightIn 2 rfl) rfl rfl ?_
  refine j_iconst 3 hC (dg DX10_sightIn 3 rfl) (v := 1) (by decide) ?_
  refine j_Vi (As := [.int p1, .int 1]) 4 hC (m_X10_of  hw) kX10_55 (k_95) (by decide) ⟨_, _, rfl⟩ (rmN_ok (by decide) (by decide)) rfl rfl (Nat.le_of_ble_eq_true rfl) (dg DX10_sightIn 4 rfl) (fun r2 σ1 hw => ?_)
  refine j_iload_n 7 hC 2 (dg DX10_sightIn 5 rfl) rfl rfl ?_
  refine j_Si (As := [.int p2]) 8 hC (m_X10_less  hw) kX10_59 (rmN_ok (by decide) (by decide)) rfl rfl (Nat.le_of_ble_eq_true rfl) (dg DX10_sightIn 6 rfl) (fun r4 σ3 hw => ?_)
  refine j_isub 11 hC (dg DX10_sightIn 7 rfl) ?_
  refine j_Si (As := [.int 0, .int (r2 - r4)]) 12 hC (m_X10_greater  hw) kX10_63 (rmN_ok (by decide) (by decide)) rfl rfl (Nat.le_of_ble_eq_true rfl) (dg DX10_sightIn 8 rfl) (fun r6 σ5 hw => ?_)
  refine j_istore_n 15 hC [(3, .int r6), (0, .ref (B + 95)), (1, .int p1), (2, .int p2)] (dg DX10_sightIn 9 rfl) rfl (by decide) rfl ?_
  refine j_iconst 16 hC (dg DX10_sightIn 10 rfl) (v := 0) (by decide) ?_
  refine j_aload_n 17 hC 1 (dg DX10_sightIn 11 rfl) rfl rfl ?_
  refine j_iload_n 18 hC 2 (dg DX10_sightIn 12 rfl) rfl rfl ?_
  refine j_iconst 19 hC (dg DX10_sightIn 13 rfl) (v := 2) (by decide) ?_
  refine j_Vi (As := [.int p1, .int 2]) 20 hC (m_X10_of  hw) kX10_55 (k_95) (by decide) ⟨_, _, rfl⟩ (rmN_ok (by decide) (by decide)) rfl rfl (Nat.le_of_ble_eq_true rfl) (dg DX10_sightIn 14 rfl) (fun r8 σ7 hw => ?_)
  refine j_iload_n 23 hC 3 (dg DX10_sightIn 15 rfl) rfl rfl ?_
  refine j_Si (As := [.int p2]) 24 hC (m_X10_less  hw) kX10_59 (rmN_ok (by decide) (by decide)) rfl rfl (Nat.le_of_ble_eq_true rfl) (dg DX10_sightIn 16 rfl) (fun r10 σ9 hw => ?_)
  refine j_isub 27 hC (dg DX10_sightIn 17 rfl) ?_
  refine j_Si (As := [.int 0, .int (r8 - r10)]) 28 hC (m_X10_greater  hw) kX10_63 (rmN_ok (by decide) (by decide)) rfl rfl (Nat.le_of_ble_eq_true rfl) (dg DX10_sightIn 18 rfl) (fun r12 σ11 hw => ?_)
  refine j_istore 31 hC [(4, .int r12), (3, .int r6), (0, .ref (B + 95)), (1, .int p1), (2, .int p2)] (dg DX10_sightIn 19 rfl) (by decide) rfl ?_
  refine j_iconst 33 hC (dg DX10_sightIn 20 rfl) (v := 0) (by decide) ?_
  refine j_istore 34 hC [(5, .int 0), (4, .int r12), (3, .int r6), (0, .ref (B + 95)), (1, .int p1), (2, .int p2)] (dg DX10_sightIn 21 rfl) (by decide) rfl ?_
  refine j_iload_n 36 hC 2 (dg DX10_sightIn 22 rfl) rfl rfl ?_
  refine j_ineg 37 hC (dg DX10_sightIn 23 rfl) ?_
  refine j_istore 38 hC [(6, .int (-r6)), (5, .int 0), (4, .int r12), (3, .int r6), (0, .ref (B + 95)), (1, .int p1), (2, .int p2)] (dg DX10_sightIn 24 rfl) (by decide) rfl ?_
  obtain ⟨k22, hw⟩ := hw
  refine j_lv [4, 5, 6, 3, 2, 1, 0] (lv' := [(0, .ref (B + 95)), (1, .int p1), (2, .int p2), (3, .int r6), (4, .int r12), (5, .int 0), (6, .int (-r6))]) rfl ?_
  exact Lii.snd (P := fun τ w5 w6 => J X 7 B 103 RS 0 0 τ [(0, .ref (B + 95)), (1, .int p1), (2, .int p2), (3, .int r6), (4, .int r12), (5, .int w5), (6, .int w6)] 40 []) (fun rcc hrcc => tb_X10_sightIn_40 hC  hR  hrcc) k22 _ _ _ hw
theorem m_X10_sightIn {B : Nat} {σ : SS} {p1 : Int32} {p2 : Int32} {Q : Int32 → SS → Prop} (hw : wp_X10_sightIn  σ p1 p2 Q) : MI yX10_sightIn cX10_sightIn 7 (some .int) 1 22 B 103 RS [.ref (B + 95), .int p1, .int p2] σ Q := MI.mk (plainFor_of_name (by decide)) (Nat.le_of_ble_eq_true rfl) (fun X hC hR => t_X10_sightIn hC  hR hw)
-- FortressWatchModel.sight
def wp_X10_sight  (σ : SS) (p1 : Int32) (Q : Int32 → SS → Prop) : Prop :=
  wp_X10_sightIn σ p1 (σ 96 1) (fun r2 σ1 =>
    Q r2 σ1)
set_option maxRecDepth 100000 in
set_option maxHeartbeats 4000000 in
theorem t_X10_sight {X : XT} {B : Nat} (hC : Cx X 2 cX10_sight RX10 (rmN 2 48)) {Q : Int32 → SS → Prop} (hR : RtI X 2 B 103 RS cX10_sight Q) {σ : SS} {p1 : Int32} (hw : wp_X10_sight  σ p1 Q) : J X 2 B 103 RS 0 0 σ [(0, .ref (B + 95)), (1, .int p1)] 0 [] := by
  unfold wp_X10_sight at hw
  refine j_aload_n 0 hC 0 (dg DX10_sight 0 rfl) rfl rfl ?_
  refine j_iload_n 1 hC 1 (dg DX10_sight 1 rfl) rfl rfl ?_
  refine j_aload_n 2 hC 0 (dg DX10_sight 2 rfl) rfl rfl ?_
  refine j_getR 3 hC fX10_9 (k_95) (by decide) (by decide) rfl (dg DX10_sight 3 rfl) ?_
  refine j_iconst 6 hC (dg DX10_sight 4 rfl) (v := 1) (by decide) ?_
  refine j_iald0 7 1 hC (k_96) (by decide) (by unfold vp_in; decide) rfl (dg DX10_sight 5 rfl) ?_
  refine j_Vi (As := [.int p1, .int (σ 96 1)]) 8 hC (m_X10_sightIn  hw) kX10_66 (k_95) (by decide) ⟨_, _, rfl⟩ (rmN_ok (by decide) (by decide)) rfl rfl (Nat.le_of_ble_eq_true rfl) (dg DX10_sight 6 rfl) (fun r2 σ1 hw => ?_)
  exact hR 11 _ _ _ (dg DX10_sight 7 rfl) hw
theorem m_X10_sight {B : Nat} {σ : SS} {p1 : Int32} {Q : Int32 → SS → Prop} (hw : wp_X10_sight  σ p1 Q) : MI yX10_sight cX10_sight 2 (some .int) 2 48 B 103 RS [.ref (B + 95), .int p1] σ Q := MI.mk (plainFor_of_name (by decide)) (Nat.le_of_ble_eq_true rfl) (fun X hC hR => t_X10_sight hC  hR hw)
-- FortressWatchModel.mannedSet
def bd_X10_mannedSet_4    (Q : Int32 → SS → Prop)  (rc : SS → Int32 → Int32 → Prop) (σ : SS) (v1 : Int32) (v2 : Int32) : Prop :=
  (((σ 96 0) ≤ v2 →
      Q v1 σ) ∧
    (¬ (σ 96 0) ≤ v2 →
      wp_X10_isManned σ v2 (fun r2 σ1 =>
        ((r2 = 0 →
            rc σ1 (v1 ||| 0) (v2 + 1)) ∧
          (¬ r2 = 0 →
            rc σ1 (v1 ||| ((1 : Int32) <<< (v2 &&& 31))) (v2 + 1))))))
def wp_X10_mannedSet  (σ : SS)  (Q : Int32 → SS → Prop) : Prop :=
  ∃ k3, Lii (bd_X10_mannedSet_4 Q) k3 σ 0 0
set_option maxRecDepth 100000 in
set_option maxHeartbeats 4000000 in
theorem tb_X10_mannedSet_4 {X : XT} {B : Nat} (hC : Cx X 3 cX10_mannedSet RX10 (rmN 2 43)) {Q : Int32 → SS → Prop} (hR : RtI X 3 B 103 RS cX10_mannedSet Q) {rc : SS → Int32 → Int32 → Prop} (hrc : ∀ (σ : SS) (v1 : Int32) (v2 : Int32), rc σ v1 v2 → J X 3 B 103 RS 0 0 σ [(0, .ref (B + 95)), (1, .int v1), (2, .int v2)] 4 []) : ∀ (σ : SS) (v1 : Int32) (v2 : Int32), bd_X10_mannedSet_4 Q rc σ v1 v2 → J X 3 B 103 RS 0 0 σ [(0, .ref (B + 95)), (1, .int v1), (2, .int v2)] 4 [] := by
  intro σ v1 v2 hw
  unfold bd_X10_mannedSet_4 at hw
  refine j_iload_n 4 hC 2 (dg DX10_mannedSet 4 rfl) rfl rfl ?_
  refine j_aload_n 5 hC 0 (dg DX10_mannedSet 5 rfl) rfl rfl ?_
  refine j_getR 6 hC fX10_9 (k_95) (by decide) (by decide) rfl (dg DX10_mannedSet 6 rfl) ?_
  refine j_iconst 9 hC (dg DX10_mannedSet 7 rfl) (v := 0) (by decide) ?_
  refine j_iald0 10 0 hC (k_96) (by decide) (by unfold vp_in; decide) rfl (dg DX10_mannedSet 8 rfl) ?_
  refine j_icmp_ge 11 38 hC (dg DX10_mannedSet 9 rfl) (by decide) (fun hbr => ?_) (fun hbr => ?_)
  · replace hw := hw.1 hbr
    refine j_iload_n 38 hC 1 (dg DX10_mannedSet 24 rfl) rfl rfl ?_
    exact hR 39 _ _ _ (dg DX10_mannedSet 25 rfl) hw
  · replace hw := hw.2 hbr
    refine j_iload_n 14 hC 1 (dg DX10_mannedSet 10 rfl) rfl rfl ?_
    refine j_aload_n 15 hC 0 (dg DX10_mannedSet 11 rfl) rfl rfl ?_
    refine j_iload_n 16 hC 2 (dg DX10_mannedSet 12 rfl) rfl rfl ?_
    refine j_Vi (As := [.int v2]) 17 hC (m_X10_isManned  hw) kX10_69 (k_95) (by decide) ⟨_, _, rfl⟩ (rmN_ok (by decide) (by decide)) rfl rfl (Nat.le_of_ble_eq_true rfl) (dg DX10_mannedSet 13 rfl) (fun r2 σ1 hw => ?_)
    refine j_if_eq 20 29 hC (dg DX10_mannedSet 14 rfl) (by decide) (fun hbr => ?_) (fun hbr => ?_)
    · replace hw := hw.1 hbr
      refine j_iconst 29 hC (dg DX10_mannedSet 19 rfl) (v := 0) (by decide) ?_
      refine j_ior 30 hC (dg DX10_mannedSet 20 rfl) ?_
      refine j_istore_n 31 hC [(1, .int (v1 ||| 0)), (0, .ref (B + 95)), (2, .int v2)] (dg DX10_mannedSet 21 rfl) rfl (by decide) rfl ?_
      refine j_iinc 32 hC 2 (v2 + 1) [(2, .int (v2 + 1)), (1, .int (v1 ||| 0)), (0, .ref (B + 95))] (dg DX10_mannedSet 22 rfl) rfl rfl (by decide) rfl ?_
      refine j_goto 35 4 hC (dg DX10_mannedSet 23 rfl) (by decide) ?_
      refine j_lv [2, 1, 0] (lv' := [(0, .ref (B + 95)), (1, .int (v1 ||| 0)), (2, .int (v2 + 1))]) rfl ?_
      exact hrc _ _ _ hw
    · replace hw := hw.2 hbr
      refine j_iconst 23 hC (dg DX10_mannedSet 15 rfl) (v := 1) (by decide) ?_
      refine j_iload_n 24 hC 2 (dg DX10_mannedSet 16 rfl) rfl rfl ?_
      refine j_ishl 25 hC (dg DX10_mannedSet 17 rfl) ?_
      refine j_goto 26 30 hC (dg DX10_mannedSet 18 rfl) (by decide) ?_
      refine j_ior 30 hC (dg DX10_mannedSet 20 rfl) ?_
      refine j_istore_n 31 hC [(1, .int (v1 ||| ((1 : Int32) <<< (v2 &&& 31)))), (0, .ref (B + 95)), (2, .int v2)] (dg DX10_mannedSet 21 rfl) rfl (by decide) rfl ?_
      refine j_iinc 32 hC 2 (v2 + 1) [(2, .int (v2 + 1)), (1, .int (v1 ||| ((1 : Int32) <<< (v2 &&& 31)))), (0, .ref (B + 95))] (dg DX10_mannedSet 22 rfl) rfl rfl (by decide) rfl ?_
      refine j_goto 35 4 hC (dg DX10_mannedSet 23 rfl) (by decide) ?_
      refine j_lv [2, 1, 0] (lv' := [(0, .ref (B + 95)), (1, .int (v1 ||| ((1 : Int32) <<< (v2 &&& 31)))), (2, .int (v2 + 1))]) rfl ?_
      exact hrc _ _ _ hw
set_option maxRecDepth 100000 in
set_option maxHeartbeats 4000000 in
theorem t_X10_mannedSet {X : XT} {B : Nat} (hC : Cx X 3 cX10_mannedSet RX10 (rmN 2 43)) {Q : Int32 → SS → Prop} (hR : RtI X 3 B 103 RS cX10_mannedSet Q) {σ : SS} (hw : wp_X10_mannedSet  σ  Q) : J X 3 B 103 RS 0 0 σ [(0, .ref (B + 95))] 0 [] := by
  unfold wp_X10_mannedSet at hw
  refine j_iconst 0 hC (dg DX10_mannedSet 0 rfl) (v := 0) (by decide) ?_
  refine j_istore_n 1 hC [(1, .int 0), (0, .ref (B + 95))] (dg DX10_mannedSet 1 rfl) rfl (by decide) rfl ?_
  refine j_iconst 2 hC (dg DX10_mannedSet 2 rfl) (v := 0) (by decide) ?_
  refine j_istore_n 3 hC [(2, .int 0), (1, .int 0), (0, .ref (B + 95))] (dg DX10_mannedSet 3 rfl) rfl (by decide) rfl ?_
  obtain ⟨k3, hw⟩ := hw
  refine j_lv [2, 1, 0] (lv' := [(0, .ref (B + 95)), (1, .int 0), (2, .int 0)]) rfl ?_
  exact Lii.snd (P := fun τ w1 w2 => J X 3 B 103 RS 0 0 τ [(0, .ref (B + 95)), (1, .int w1), (2, .int w2)] 4 []) (fun rcc hrcc => tb_X10_mannedSet_4 hC  hR  hrcc) k3 _ _ _ hw
theorem m_X10_mannedSet {B : Nat} {σ : SS} {Q : Int32 → SS → Prop} (hw : wp_X10_mannedSet  σ  Q) : MI yX10_mannedSet cX10_mannedSet 3 (some .int) 2 43 B 103 RS [.ref (B + 95)] σ Q := MI.mk (plainFor_of_name (by decide)) (Nat.le_of_ble_eq_true rfl) (fun X hC hR => t_X10_mannedSet hC  hR hw)
-- FortressWatchModel.seenIn
def bd_X10_seenIn_5    (Q : Int32 → SS → Prop) (l1 : Int32) (l2 : Int32) (rc : SS → Int32 → Int32 → Prop) (σ : SS) (v3 : Int32) (v4 : Int32) : Prop :=
  (((σ 96 0) ≤ v4 →
      Q v3 σ) ∧
    (¬ (σ 96 0) ≤ v4 →
      wp_X10_has σ l1 v4 (fun r2 σ1 =>
        ((r2 = 0 →
            rc σ1 (v3 ||| 0) (v4 + 1)) ∧
          (¬ r2 = 0 →
            wp_X10_sightIn σ1 v4 l2 (fun r4 σ3 =>
              rc σ3 (v3 ||| r4) (v4 + 1)))))))
def wp_X10_seenIn  (σ : SS) (p1 : Int32) (p2 : Int32) (Q : Int32 → SS → Prop) : Prop :=
  ∃ k5, Lii (bd_X10_seenIn_5 Q p1 p2) k5 σ 0 0
set_option maxRecDepth 100000 in
set_option maxHeartbeats 4000000 in
theorem tb_X10_seenIn_5 {X : XT} {B : Nat} (hC : Cx X 5 cX10_seenIn RX10 (rmN 2 48)) {Q : Int32 → SS → Prop} {l1 : Int32} {l2 : Int32} (hR : RtI X 5 B 103 RS cX10_seenIn Q) {rc : SS → Int32 → Int32 → Prop} (hrc : ∀ (σ : SS) (v3 : Int32) (v4 : Int32), rc σ v3 v4 → J X 5 B 103 RS 0 0 σ [(0, .ref (B + 95)), (1, .int l1), (2, .int l2), (3, .int v3), (4, .int v4)] 5 []) : ∀ (σ : SS) (v3 : Int32) (v4 : Int32), bd_X10_seenIn_5 Q l1 l2 rc σ v3 v4 → J X 5 B 103 RS 0 0 σ [(0, .ref (B + 95)), (1, .int l1), (2, .int l2), (3, .int v3), (4, .int v4)] 5 [] := by
  intro σ v3 v4 hw
  unfold bd_X10_seenIn_5 at hw
  refine j_iload 5 hC 4 (dg DX10_seenIn 4 rfl) rfl ?_
  refine j_aload_n 7 hC 0 (dg DX10_seenIn 5 rfl) rfl rfl ?_
  refine j_getR 8 hC fX10_9 (k_95) (by decide) (by decide) rfl (dg DX10_seenIn 6 rfl) ?_
  refine j_iconst 11 hC (dg DX10_seenIn 7 rfl) (v := 0) (by decide) ?_
  refine j_iald0 12 0 hC (k_96) (by decide) (by unfold vp_in; decide) rfl (dg DX10_seenIn 8 rfl) ?_
  refine j_icmp_ge 13 45 hC (dg DX10_seenIn 9 rfl) (by decide) (fun hbr => ?_) (fun hbr => ?_)
  · replace hw := hw.1 hbr
    refine j_iload_n 45 hC 3 (dg DX10_seenIn 25 rfl) rfl rfl ?_
    exact hR 46 _ _ _ (dg DX10_seenIn 26 rfl) hw
  · replace hw := hw.2 hbr
    refine j_iload_n 16 hC 3 (dg DX10_seenIn 10 rfl) rfl rfl ?_
    refine j_iload_n 17 hC 1 (dg DX10_seenIn 11 rfl) rfl rfl ?_
    refine j_iload 18 hC 4 (dg DX10_seenIn 12 rfl) rfl ?_
    refine j_Si (As := [.int l1, .int v4]) 20 hC (m_X10_has  hw) kX10_73 (rmN_ok (by decide) (by decide)) rfl rfl (Nat.le_of_ble_eq_true rfl) (dg DX10_seenIn 13 rfl) (fun r2 σ1 hw => ?_)
    refine j_if_eq 23 36 hC (dg DX10_seenIn 14 rfl) (by decide) (fun hbr => ?_) (fun hbr => ?_)
    · replace hw := hw.1 hbr
      refine j_iconst 36 hC (dg DX10_seenIn 20 rfl) (v := 0) (by decide) ?_
      refine j_ior 37 hC (dg DX10_seenIn 21 rfl) ?_
      refine j_istore_n 38 hC [(3, .int (v3 ||| 0)), (0, .ref (B + 95)), (1, .int l1), (2, .int l2), (4, .int v4)] (dg DX10_seenIn 22 rfl) rfl (by decide) rfl ?_
      refine j_iinc 39 hC 4 (v4 + 1) [(4, .int (v4 + 1)), (3, .int (v3 ||| 0)), (0, .ref (B + 95)), (1, .int l1), (2, .int l2)] (dg DX10_seenIn 23 rfl) rfl rfl (by decide) rfl ?_
      refine j_goto 42 5 hC (dg DX10_seenIn 24 rfl) (by decide) ?_
      refine j_lv [2, 3, 4, 1, 0] (lv' := [(0, .ref (B + 95)), (1, .int l1), (2, .int l2), (3, .int (v3 ||| 0)), (4, .int (v4 + 1))]) rfl ?_
      exact hrc _ _ _ hw
    · replace hw := hw.2 hbr
      refine j_aload_n 26 hC 0 (dg DX10_seenIn 15 rfl) rfl rfl ?_
      refine j_iload 27 hC 4 (dg DX10_seenIn 16 rfl) rfl ?_
      refine j_iload_n 29 hC 2 (dg DX10_seenIn 17 rfl) rfl rfl ?_
      refine j_Vi (As := [.int v4, .int l2]) 30 hC (m_X10_sightIn  hw) kX10_66 (k_95) (by decide) ⟨_, _, rfl⟩ (rmN_ok (by decide) (by decide)) rfl rfl (Nat.le_of_ble_eq_true rfl) (dg DX10_seenIn 18 rfl) (fun r4 σ3 hw => ?_)
      refine j_goto 33 37 hC (dg DX10_seenIn 19 rfl) (by decide) ?_
      refine j_ior 37 hC (dg DX10_seenIn 21 rfl) ?_
      refine j_istore_n 38 hC [(3, .int (v3 ||| r4)), (0, .ref (B + 95)), (1, .int l1), (2, .int l2), (4, .int v4)] (dg DX10_seenIn 22 rfl) rfl (by decide) rfl ?_
      refine j_iinc 39 hC 4 (v4 + 1) [(4, .int (v4 + 1)), (3, .int (v3 ||| r4)), (0, .ref (B + 95)), (1, .int l1), (2, .int l2)] (dg DX10_seenIn 23 rfl) rfl rfl (by decide) rfl ?_
      refine j_goto 42 5 hC (dg DX10_seenIn 24 rfl) (by decide) ?_
      refine j_lv [2, 3, 4, 1, 0] (lv' := [(0, .ref (B + 95)), (1, .int l1), (2, .int l2), (3, .int (v3 ||| r4)), (4, .int (v4 + 1))]) rfl ?_
      exact hrc _ _ _ hw
set_option maxRecDepth 100000 in
set_option maxHeartbeats 4000000 in
theorem t_X10_seenIn {X : XT} {B : Nat} (hC : Cx X 5 cX10_seenIn RX10 (rmN 2 48)) {Q : Int32 → SS → Prop} (hR : RtI X 5 B 103 RS cX10_seenIn Q) {σ : SS} {p1 : Int32} {p2 : Int32} (hw : wp_X10_seenIn  σ p1 p2 Q) : J X 5 B 103 RS 0 0 σ [(0, .ref (B + 95)), (1, .int p1), (2, .int p2)] 0 [] := by
  unfold wp_X10_seenIn at hw
  refine j_iconst 0 hC (dg DX10_seenIn 0 rfl) (v := 0) (by decide) ?_
  refine j_istore_n 1 hC [(3, .int 0), (0, .ref (B + 95)), (1, .int p1), (2, .int p2)] (dg DX10_seenIn 1 rfl) rfl (by decide) rfl ?_
  refine j_iconst 2 hC (dg DX10_seenIn 2 rfl) (v := 0) (by decide) ?_
  refine j_istore 3 hC [(4, .int 0), (3, .int 0), (0, .ref (B + 95)), (1, .int p1), (2, .int p2)] (dg DX10_seenIn 3 rfl) (by decide) rfl ?_
  obtain ⟨k5, hw⟩ := hw
  refine j_lv [2, 3, 4, 1, 0] (lv' := [(0, .ref (B + 95)), (1, .int p1), (2, .int p2), (3, .int 0), (4, .int 0)]) rfl ?_
  exact Lii.snd (P := fun τ w3 w4 => J X 5 B 103 RS 0 0 τ [(0, .ref (B + 95)), (1, .int p1), (2, .int p2), (3, .int w3), (4, .int w4)] 5 []) (fun rcc hrcc => tb_X10_seenIn_5 hC  hR  hrcc) k5 _ _ _ hw
theorem m_X10_seenIn {B : Nat} {σ : SS} {p1 : Int32} {p2 : Int32} {Q : Int32 → SS → Prop} (hw : wp_X10_seenIn  σ p1 p2 Q) : MI yX10_seenIn cX10_seenIn 5 (some .int) 2 48 B 103 RS [.ref (B + 95), .int p1, .int p2] σ Q := MI.mk (plainFor_of_name (by decide)) (Nat.le_of_ble_eq_true rfl) (fun X hC hR => t_X10_seenIn hC  hR hw)
-- FortressWatchModel.seen
def wp_X10_seen  (σ : SS) (p1 : Int32) (Q : Int32 → SS → Prop) : Prop :=
  wp_X10_seenIn σ p1 (σ 96 1) (fun r2 σ1 =>
    Q r2 σ1)
set_option maxRecDepth 100000 in
set_option maxHeartbeats 4000000 in
theorem t_X10_seen {X : XT} {B : Nat} (hC : Cx X 2 cX10_seen RX10 (rmN 3 72)) {Q : Int32 → SS → Prop} (hR : RtI X 2 B 103 RS cX10_seen Q) {σ : SS} {p1 : Int32} (hw : wp_X10_seen  σ p1 Q) : J X 2 B 103 RS 0 0 σ [(0, .ref (B + 95)), (1, .int p1)] 0 [] := by
  unfold wp_X10_seen at hw
  refine j_aload_n 0 hC 0 (dg DX10_seen 0 rfl) rfl rfl ?_
  refine j_iload_n 1 hC 1 (dg DX10_seen 1 rfl) rfl rfl ?_
  refine j_aload_n 2 hC 0 (dg DX10_seen 2 rfl) rfl rfl ?_
  refine j_getR 3 hC fX10_9 (k_95) (by decide) (by decide) rfl (dg DX10_seen 3 rfl) ?_
  refine j_iconst 6 hC (dg DX10_seen 4 rfl) (v := 1) (by decide) ?_
  refine j_iald0 7 1 hC (k_96) (by decide) (by unfold vp_in; decide) rfl (dg DX10_seen 5 rfl) ?_
  refine j_Vi (As := [.int p1, .int (σ 96 1)]) 8 hC (m_X10_seenIn  hw) kX10_77 (k_95) (by decide) ⟨_, _, rfl⟩ (rmN_ok (by decide) (by decide)) rfl rfl (Nat.le_of_ble_eq_true rfl) (dg DX10_seen 6 rfl) (fun r2 σ1 hw => ?_)
  exact hR 11 _ _ _ (dg DX10_seen 7 rfl) hw
theorem m_X10_seen {B : Nat} {σ : SS} {p1 : Int32} {Q : Int32 → SS → Prop} (hw : wp_X10_seen  σ p1 Q) : MI yX10_seen cX10_seen 2 (some .int) 3 72 B 103 RS [.ref (B + 95), .int p1] σ Q := MI.mk (plainFor_of_name (by decide)) (Nat.le_of_ble_eq_true rfl) (fun X hC hR => t_X10_seen hC  hR hw)
-- FortressWatchModel.all
def wp_X10_all  (σ : SS)  (Q : Int32 → SS → Prop) : Prop :=
  Q (((1 : Int32) <<< ((σ 96 0) &&& 31)) - 1) σ
set_option maxRecDepth 100000 in
set_option maxHeartbeats 4000000 in
theorem t_X10_all {X : XT} {B : Nat} (hC : Cx X 1 cX10_all RX10 (rmN 0 0)) {Q : Int32 → SS → Prop} (hR : RtI X 1 B 103 RS cX10_all Q) {σ : SS} (hw : wp_X10_all  σ  Q) : J X 1 B 103 RS 0 0 σ [(0, .ref (B + 95))] 0 [] := by
  unfold wp_X10_all at hw
  refine j_iconst 0 hC (dg DX10_all 0 rfl) (v := 1) (by decide) ?_
  refine j_aload_n 1 hC 0 (dg DX10_all 1 rfl) rfl rfl ?_
  refine j_getR 2 hC fX10_9 (k_95) (by decide) (by decide) rfl (dg DX10_all 2 rfl) ?_
  refine j_iconst 5 hC (dg DX10_all 3 rfl) (v := 0) (by decide) ?_
  refine j_iald0 6 0 hC (k_96) (by decide) (by unfold vp_in; decide) rfl (dg DX10_all 4 rfl) ?_
  refine j_ishl 7 hC (dg DX10_all 5 rfl) ?_
  refine j_iconst 8 hC (dg DX10_all 6 rfl) (v := 1) (by decide) ?_
  refine j_isub 9 hC (dg DX10_all 7 rfl) ?_
  exact hR 10 _ _ _ (dg DX10_all 8 rfl) hw
theorem m_X10_all {B : Nat} {σ : SS} {Q : Int32 → SS → Prop} (hw : wp_X10_all  σ  Q) : MI yX10_all cX10_all 1 (some .int) 0 0 B 103 RS [.ref (B + 95)] σ Q := MI.mk (plainFor_of_name (by decide)) (Nat.le_of_ble_eq_true rfl) (fun X hC hR => t_X10_all hC  hR hw)
-- FortressWatchModel.postOn
def bd_X10_postOn_2    (Q : Int32 → SS → Prop) (l1 : Int32) (rc : SS → Int32 → Prop) (σ : SS) (v2 : Int32) : Prop :=
  (((σ 96 0) ≤ v2 →
      Q (-1) σ) ∧
    (¬ (σ 96 0) ≤ v2 →
      wp_X10_of σ v2 0 (fun r2 σ1 =>
        ((r2 = l1 →
            Q v2 σ1) ∧
          (¬ r2 = l1 →
            rc σ1 (v2 + 1))))))
def wp_X10_postOn  (σ : SS) (p1 : Int32) (Q : Int32 → SS → Prop) : Prop :=
  ∃ k3, Li (bd_X10_postOn_2 Q p1) k3 σ 0
set_option maxRecDepth 100000 in
set_option maxHeartbeats 4000000 in
theorem tb_X10_postOn_2 {X : XT} {B : Nat} (hC : Cx X 3 cX10_postOn RX10 (rmN 1 22)) {Q : Int32 → SS → Prop} {l1 : Int32} (hR : RtI X 3 B 103 RS cX10_postOn Q) {rc : SS → Int32 → Prop} (hrc : ∀ (σ : SS) (v2 : Int32), rc σ v2 → J X 3 B 103 RS 0 0 σ [(0, .ref (B + 95)), (1, .int l1), (2, .int v2)] 2 []) : ∀ (σ : SS) (v2 : Int32), bd_X10_postOn_2 Q l1 rc σ v2 → J X 3 B 103 RS 0 0 σ [(0, .ref (B + 95)), (1, .int l1), (2, .int v2)] 2 [] := by
  intro σ v2 hw
  unfold bd_X10_postOn_2 at hw
  refine j_iload_n 2 hC 2 (dg DX10_postOn 2 rfl) rfl rfl ?_
  refine j_aload_n 3 hC 0 (dg DX10_postOn 3 rfl) rfl rfl ?_
  refine j_getR 4 hC fX10_9 (k_95) (by decide) (by decide) rfl (dg DX10_postOn 4 rfl) ?_
  refine j_iconst 7 hC (dg DX10_postOn 5 rfl) (v := 0) (by decide) ?_
  refine j_iald0 8 0 hC (k_96) (by decide) (by unfold vp_in; decide) rfl (dg DX10_postOn 6 rfl) ?_
  refine j_icmp_ge 9 30 hC (dg DX10_postOn 7 rfl) (by decide) (fun hbr => ?_) (fun hbr => ?_)
  · replace hw := hw.1 hbr
    refine j_iconst 30 hC (dg DX10_postOn 18 rfl) (v := (-1)) (by decide) ?_
    exact hR 31 _ _ _ (dg DX10_postOn 19 rfl) hw
  · replace hw := hw.2 hbr
    refine j_aload_n 12 hC 0 (dg DX10_postOn 8 rfl) rfl rfl ?_
    refine j_iload_n 13 hC 2 (dg DX10_postOn 9 rfl) rfl rfl ?_
    refine j_iconst 14 hC (dg DX10_postOn 10 rfl) (v := 0) (by decide) ?_
    refine j_Vi (As := [.int v2, .int 0]) 15 hC (m_X10_of  hw) kX10_55 (k_95) (by decide) ⟨_, _, rfl⟩ (rmN_ok (by decide) (by decide)) rfl rfl (Nat.le_of_ble_eq_true rfl) (dg DX10_postOn 11 rfl) (fun r2 σ1 hw => ?_)
    refine j_iload_n 18 hC 1 (dg DX10_postOn 12 rfl) rfl rfl ?_
    refine j_icmp_ne 19 24 hC (dg DX10_postOn 13 rfl) (by decide) (fun hbr => ?_) (fun hbr => ?_)
    · replace hw := hw.2 hbr
      refine j_iinc 24 hC 2 (v2 + 1) [(2, .int (v2 + 1)), (0, .ref (B + 95)), (1, .int l1)] (dg DX10_postOn 16 rfl) rfl rfl (by decide) rfl ?_
      refine j_goto 27 2 hC (dg DX10_postOn 17 rfl) (by decide) ?_
      refine j_lv [1, 2, 0] (lv' := [(0, .ref (B + 95)), (1, .int l1), (2, .int (v2 + 1))]) rfl ?_
      exact hrc _ _ hw
    · replace hw := hw.1 hbr
      refine j_iload_n 22 hC 2 (dg DX10_postOn 14 rfl) rfl rfl ?_
      exact hR 23 _ _ _ (dg DX10_postOn 15 rfl) hw
set_option maxRecDepth 100000 in
set_option maxHeartbeats 4000000 in
theorem t_X10_postOn {X : XT} {B : Nat} (hC : Cx X 3 cX10_postOn RX10 (rmN 1 22)) {Q : Int32 → SS → Prop} (hR : RtI X 3 B 103 RS cX10_postOn Q) {σ : SS} {p1 : Int32} (hw : wp_X10_postOn  σ p1 Q) : J X 3 B 103 RS 0 0 σ [(0, .ref (B + 95)), (1, .int p1)] 0 [] := by
  unfold wp_X10_postOn at hw
  refine j_iconst 0 hC (dg DX10_postOn 0 rfl) (v := 0) (by decide) ?_
  refine j_istore_n 1 hC [(2, .int 0), (0, .ref (B + 95)), (1, .int p1)] (dg DX10_postOn 1 rfl) rfl (by decide) rfl ?_
  obtain ⟨k3, hw⟩ := hw
  refine j_lv [1, 2, 0] (lv' := [(0, .ref (B + 95)), (1, .int p1), (2, .int 0)]) rfl ?_
  exact Li.snd (P := fun τ w2 => J X 3 B 103 RS 0 0 τ [(0, .ref (B + 95)), (1, .int p1), (2, .int w2)] 2 []) (fun rcc hrcc => tb_X10_postOn_2 hC  hR  hrcc) k3 _ _ hw
theorem m_X10_postOn {B : Nat} {σ : SS} {p1 : Int32} {Q : Int32 → SS → Prop} (hw : wp_X10_postOn  σ p1 Q) : MI yX10_postOn cX10_postOn 3 (some .int) 1 22 B 103 RS [.ref (B + 95), .int p1] σ Q := MI.mk (plainFor_of_name (by decide)) (Nat.le_of_ble_eq_true rfl) (fun X hC hR => t_X10_postOn hC  hR hw)
-- FortressWatchModel.builds
def wp_X10_builds  (σ : SS) (p1 : Int32) (p2 : Int32) (p3 : Int32) (Q : Int32 → SS → Prop) : Prop :=
  wp_X10_isStone σ p1 (fun r2 σ1 =>
    ((r2 = 0 →
        Q (-1) σ1) ∧
      (¬ r2 = 0 →
        wp_X10_isReach σ1 p2 (fun r4 σ3 =>
          ((r4 = 0 →
              Q (-2) σ3) ∧
            (¬ r4 = 0 →
              wp_X10_isReach σ3 p3 (fun r6 σ5 =>
                ((r6 = 0 →
                    Q (-2) σ5) ∧
                  (¬ r6 = 0 →
                    wp_X10_postOn σ5 p1 (fun r8 σ7 =>
                      ((r8 = (-1) →
                          wp_X10_isRefused σ7 0 2 r8 (fun r10 σ9 =>
                            ((r10 = 0 →
                                (((σ9 96 0) = 9 →
                                    wp_X10_isRefused σ9 1 1 9 (fun r21 σ20 =>
                                      ((r21 = 0 →
                                          wp_X10_sets σ20 (σ20 96 0) 0 p1 (fun σ22 =>
                                            wp_X10_sets σ22 (σ20 96 0) 1 p2 (fun σ23 =>
                                              wp_X10_sets σ23 (σ20 96 0) 2 p3 (fun σ24 =>
                                                wp_X10_sets σ24 (σ20 96 0) 3 (-1) (fun σ25 =>
                                                  wp_X10_sets σ25 (σ20 96 0) 4 0 (fun σ26 =>
                                                    wp_X10_sets σ26 (σ20 96 0) 5 0 (fun σ27 =>
                                                      ∀ σ28 : SS, σ28 = u2 (u2 σ27 96 0 ((σ27 96 0) + 1)) 96 2 (((u2 σ27 96 0 ((σ27 96 0) + 1)) 96 2) + 1) →
                                                      Q (σ20 96 0) σ28))))))) ∧
                                        (¬ r21 = 0 →
                                          Q (-3) σ20)))) ∧
                                  (¬ (σ9 96 0) = 9 →
                                    wp_X10_isRefused σ9 0 1 9 (fun r12 σ11 =>
                                      ((r12 = 0 →
                                          wp_X10_sets σ11 (σ11 96 0) 0 p1 (fun σ13 =>
                                            wp_X10_sets σ13 (σ11 96 0) 1 p2 (fun σ14 =>
                                              wp_X10_sets σ14 (σ11 96 0) 2 p3 (fun σ15 =>
                                                wp_X10_sets σ15 (σ11 96 0) 3 (-1) (fun σ16 =>
                                                  wp_X10_sets σ16 (σ11 96 0) 4 0 (fun σ17 =>
                                                    wp_X10_sets σ17 (σ11 96 0) 5 0 (fun σ18 =>
                                                      ∀ σ19 : SS, σ19 = u2 (u2 σ18 96 0 ((σ18 96 0) + 1)) 96 2 (((u2 σ18 96 0 ((σ18 96 0) + 1)) 96 2) + 1) →
                                                      Q (σ11 96 0) σ19))))))) ∧
                                        (¬ r12 = 0 →
                                          Q (-3) σ11)))))) ∧
                              (¬ r10 = 0 →
                                Q (-3) σ9)))) ∧
                        (¬ r8 = (-1) →
                          wp_X10_isRefused σ7 1 2 r8 (fun r30 σ29 =>
                            ((r30 = 0 →
                                (((σ29 96 0) = 9 →
                                    wp_X10_isRefused σ29 1 1 9 (fun r41 σ40 =>
                                      ((r41 = 0 →
                                          wp_X10_sets σ40 (σ40 96 0) 0 p1 (fun σ42 =>
                                            wp_X10_sets σ42 (σ40 96 0) 1 p2 (fun σ43 =>
                                              wp_X10_sets σ43 (σ40 96 0) 2 p3 (fun σ44 =>
                                                wp_X10_sets σ44 (σ40 96 0) 3 (-1) (fun σ45 =>
                                                  wp_X10_sets σ45 (σ40 96 0) 4 0 (fun σ46 =>
                                                    wp_X10_sets σ46 (σ40 96 0) 5 0 (fun σ47 =>
                                                      ∀ σ48 : SS, σ48 = u2 (u2 σ47 96 0 ((σ47 96 0) + 1)) 96 2 (((u2 σ47 96 0 ((σ47 96 0) + 1)) 96 2) + 1) →
                                                      Q (σ40 96 0) σ48))))))) ∧
                                        (¬ r41 = 0 →
                                          Q (-3) σ40)))) ∧
                                  (¬ (σ29 96 0) = 9 →
                                    wp_X10_isRefused σ29 0 1 9 (fun r32 σ31 =>
                                      ((r32 = 0 →
                                          wp_X10_sets σ31 (σ31 96 0) 0 p1 (fun σ33 =>
                                            wp_X10_sets σ33 (σ31 96 0) 1 p2 (fun σ34 =>
                                              wp_X10_sets σ34 (σ31 96 0) 2 p3 (fun σ35 =>
                                                wp_X10_sets σ35 (σ31 96 0) 3 (-1) (fun σ36 =>
                                                  wp_X10_sets σ36 (σ31 96 0) 4 0 (fun σ37 =>
                                                    wp_X10_sets σ37 (σ31 96 0) 5 0 (fun σ38 =>
                                                      ∀ σ39 : SS, σ39 = u2 (u2 σ38 96 0 ((σ38 96 0) + 1)) 96 2 (((u2 σ38 96 0 ((σ38 96 0) + 1)) 96 2) + 1) →
                                                      Q (σ31 96 0) σ39))))))) ∧
                                        (¬ r32 = 0 →
                                          Q (-3) σ31)))))) ∧
                              (¬ r30 = 0 →
                                Q (-3) σ29)))))))))))))))
set_option maxRecDepth 100000 in
set_option maxHeartbeats 4000000 in
theorem t_X10_builds {X : XT} {B : Nat} (hC : Cx X 6 cX10_builds RX10 (rmN 2 44)) {Q : Int32 → SS → Prop} (hR : RtI X 6 B 103 RS cX10_builds Q) {σ : SS} {p1 : Int32} {p2 : Int32} {p3 : Int32} (hw : wp_X10_builds  σ p1 p2 p3 Q) : J X 6 B 103 RS 0 0 σ [(0, .ref (B + 95)), (1, .int p1), (2, .int p2), (3, .int p3)] 0 [] := by
  unfold wp_X10_builds at hw
  refine j_iload_n 0 hC 1 (dg DX10_builds 0 rfl) rfl rfl ?_
  refine j_Si (As := [.int p1]) 1 hC (m_X10_isStone  hw) kX10_80 (rmN_ok (by decide) (by decide)) rfl rfl (Nat.le_of_ble_eq_true rfl) (dg DX10_builds 1 rfl) (fun r2 σ1 hw => ?_)
  refine j_if_ne 4 9 hC (dg DX10_builds 2 rfl) (by decide) (fun hbr => ?_) (fun hbr => ?_)
  · replace hw := hw.2 hbr
    refine j_iload_n 9 hC 2 (dg DX10_builds 5 rfl) rfl rfl ?_
    refine j_Si (As := [.int p2]) 10 hC (m_X10_isReach  hw) kX10_83 (rmN_ok (by decide) (by decide)) rfl rfl (Nat.le_of_ble_eq_true rfl) (dg DX10_builds 6 rfl) (fun r4 σ3 hw => ?_)
    refine j_if_eq 13 23 hC (dg DX10_builds 7 rfl) (by decide) (fun hbr => ?_) (fun hbr => ?_)
    · replace hw := hw.1 hbr
      refine j_bipush 23 hC (dg DX10_builds 11 rfl) (v := (-2)) (by decide) ?_
      exact hR 25 _ _ _ (dg DX10_builds 12 rfl) hw
    · replace hw := hw.2 hbr
      refine j_iload_n 16 hC 3 (dg DX10_builds 8 rfl) rfl rfl ?_
      refine j_Si (As := [.int p3]) 17 hC (m_X10_isReach  hw) kX10_83 (rmN_ok (by decide) (by decide)) rfl rfl (Nat.le_of_ble_eq_true rfl) (dg DX10_builds 9 rfl) (fun r6 σ5 hw => ?_)
      refine j_if_ne 20 26 hC (dg DX10_builds 10 rfl) (by decide) (fun hbr => ?_) (fun hbr => ?_)
      · replace hw := hw.2 hbr
        refine j_aload_n 26 hC 0 (dg DX10_builds 13 rfl) rfl rfl ?_
        refine j_iload_n 27 hC 1 (dg DX10_builds 14 rfl) rfl rfl ?_
        refine j_Vi (As := [.int p1]) 28 hC (m_X10_postOn  hw) kX10_86 (k_95) (by decide) ⟨_, _, rfl⟩ (rmN_ok (by decide) (by decide)) rfl rfl (Nat.le_of_ble_eq_true rfl) (dg DX10_builds 15 rfl) (fun r8 σ7 hw => ?_)
        refine j_istore 31 hC [(4, .int r8), (0, .ref (B + 95)), (1, .int p1), (2, .int p2), (3, .int p3)] (dg DX10_builds 16 rfl) (by decide) rfl ?_
        refine j_aload_n 33 hC 1 (dg DX10_builds 17 rfl) rfl rfl ?_
        refine j_iload 34 hC 0 (dg DX10_builds 18 rfl) rfl ?_
        refine j_iconst 36 hC (dg DX10_builds 19 rfl) (v := (-1)) (by decide) ?_
        refine j_icmp_eq 37 44 hC (dg DX10_builds 20 rfl) (by decide) (fun hbr => ?_) (fun hbr => ?_)
        · replace hw := hw.1 hbr
          refine j_iconst 44 hC (dg DX10_builds 23 rfl) (v := 0) (by decide) ?_
          refine j_iconst 45 hC (dg DX10_builds 24 rfl) (v := 2) (by decide) ?_
          refine j_iload 46 hC 0 (dg DX10_builds 25 rfl) rfl ?_
          refine j_Vi (As := [.int 0, .int 2, .int r8]) 48 hC (m_X10_isRefused  hw) kX10_89 (k_95) (by decide) ⟨_, _, rfl⟩ (rmN_ok (by decide) (by decide)) rfl rfl (Nat.le_of_ble_eq_true rfl) (dg DX10_builds 26 rfl) (fun r10 σ9 hw => ?_)
          refine j_if_ne 51 80 hC (dg DX10_builds 27 rfl) (by decide) (fun hbr => ?_) (fun hbr => ?_)
          · replace hw := hw.2 hbr
            refine j_bipush 80 hC (dg DX10_builds 42 rfl) (v := (-3)) (by decide) ?_
            exact hR 82 _ _ _ (dg DX10_builds 43 rfl) hw
          · replace hw := hw.1 hbr
            refine j_aload_n 54 hC 1 (dg DX10_builds 28 rfl) rfl rfl ?_
            refine j_aload_n 55 hC 1 (dg DX10_builds 29 rfl) rfl rfl ?_
            refine j_getR 56 hC fX10_9 (k_95) (by decide) (by decide) rfl (dg DX10_builds 30 rfl) ?_
            refine j_iconst 59 hC (dg DX10_builds 31 rfl) (v := 0) (by decide) ?_
            refine j_iald0 60 0 hC (k_96) (by decide) (by unfold vp_in; decide) rfl (dg DX10_builds 32 rfl) ?_
            refine j_bipush 61 hC (dg DX10_builds 33 rfl) (v := 9) (by decide) ?_
            refine j_icmp_ne 63 70 hC (dg DX10_builds 34 rfl) (by decide) (fun hbr => ?_) (fun hbr => ?_)
            · replace hw := hw.2 hbr
              refine j_iconst 70 hC (dg DX10_builds 37 rfl) (v := 0) (by decide) ?_
              refine j_iconst 71 hC (dg DX10_builds 38 rfl) (v := 1) (by decide) ?_
              refine j_bipush 72 hC (dg DX10_builds 39 rfl) (v := 9) (by decide) ?_
              refine j_Vi (As := [.int 0, .int 1, .int 9]) 74 hC (m_X10_isRefused  hw) kX10_89 (k_95) (by decide) ⟨_, _, rfl⟩ (rmN_ok (by decide) (by decide)) rfl rfl (Nat.le_of_ble_eq_true rfl) (dg DX10_builds 40 rfl) (fun r12 σ11 hw => ?_)
              refine j_if_eq 77 83 hC (dg DX10_builds 41 rfl) (by decide) (fun hbr => ?_) (fun hbr => ?_)
              · replace hw := hw.1 hbr
                refine j_aload_n 83 hC 1 (dg DX10_builds 44 rfl) rfl rfl ?_
                refine j_getR 84 hC fX10_9 (k_95) (by decide) (by decide) rfl (dg DX10_builds 45 rfl) ?_
                refine j_iconst 87 hC (dg DX10_builds 46 rfl) (v := 0) (by decide) ?_
                refine j_iald0 88 0 hC (k_96) (by decide) (by unfold vp_in; decide) rfl (dg DX10_builds 47 rfl) ?_
                refine j_istore 89 hC [(5, .int (σ11 96 0)), (4, .int r8), (0, .ref (B + 95)), (1, .int p1), (2, .int p2), (3, .int p3)] (dg DX10_builds 48 rfl) (by decide) rfl ?_
                refine j_aload_n 91 hC 2 (dg DX10_builds 49 rfl) rfl rfl ?_
                refine j_iload 92 hC 0 (dg DX10_builds 50 rfl) rfl ?_
                refine j_iconst 94 hC (dg DX10_builds 51 rfl) (v := 0) (by decide) ?_
                refine j_iload_n 95 hC 3 (dg DX10_builds 52 rfl) rfl rfl ?_
                refine j_Vv (As := [.int (σ11 96 0), .int 0, .int p1]) 96 hC (m_X10_sets  hw) kX10_93 (k_95) (by decide) ⟨_, _, rfl⟩ (rmN_ok (by decide) (by decide)) rfl rfl (Nat.le_of_ble_eq_true rfl) (dg DX10_builds 53 rfl) (fun σ13 hw => ?_)
                refine j_aload_n 99 hC 2 (dg DX10_builds 54 rfl) rfl rfl ?_
                refine j_iload 100 hC 0 (dg DX10_builds 55 rfl) rfl ?_
                refine j_iconst 102 hC (dg DX10_builds 56 rfl) (v := 1) (by decide) ?_
                refine j_iload_n 103 hC 4 (dg DX10_builds 57 rfl) rfl rfl ?_
                refine j_Vv (As := [.int (σ11 96 0), .int 1, .int p2]) 104 hC (m_X10_sets  hw) kX10_93 (k_95) (by decide) ⟨_, _, rfl⟩ (rmN_ok (by decide) (by decide)) rfl rfl (Nat.le_of_ble_eq_true rfl) (dg DX10_builds 58 rfl) (fun σ14 hw => ?_)
                refine j_aload_n 107 hC 2 (dg DX10_builds 59 rfl) rfl rfl ?_
                refine j_iload 108 hC 0 (dg DX10_builds 60 rfl) rfl ?_
                refine j_iconst 110 hC (dg DX10_builds 61 rfl) (v := 2) (by decide) ?_
                refine j_iload_n 111 hC 5 (dg DX10_builds 62 rfl) rfl rfl ?_
                refine j_Vv (As := [.int (σ11 96 0), .int 2, .int p3]) 112 hC (m_X10_sets  hw) kX10_93 (k_95) (by decide) ⟨_, _, rfl⟩ (rmN_ok (by decide) (by decide)) rfl rfl (Nat.le_of_ble_eq_true rfl) (dg DX10_builds 63 rfl) (fun σ15 hw => ?_)
                refine j_aload_n 115 hC 2 (dg DX10_builds 64 rfl) rfl rfl ?_
                refine j_iload 116 hC 0 (dg DX10_builds 65 rfl) rfl ?_
                refine j_iconst 118 hC (dg DX10_builds 66 rfl) (v := 3) (by decide) ?_
                refine j_iconst 119 hC (dg DX10_builds 67 rfl) (v := (-1)) (by decide) ?_
                refine j_Vv (As := [.int (σ11 96 0), .int 3, .int (-1)]) 120 hC (m_X10_sets  hw) kX10_93 (k_95) (by decide) ⟨_, _, rfl⟩ (rmN_ok (by decide) (by decide)) rfl rfl (Nat.le_of_ble_eq_true rfl) (dg DX10_builds 68 rfl) (fun σ16 hw => ?_)
                refine j_aload_n 123 hC 2 (dg DX10_builds 69 rfl) rfl rfl ?_
                refine j_iload 124 hC 0 (dg DX10_builds 70 rfl) rfl ?_
                refine j_iconst 126 hC (dg DX10_builds 71 rfl) (v := 4) (by decide) ?_
                refine j_iconst 127 hC (dg DX10_builds 72 rfl) (v := 0) (by decide) ?_
                refine j_Vv (As := [.int (σ11 96 0), .int 4, .int 0]) 128 hC (m_X10_sets  hw) kX10_93 (k_95) (by decide) ⟨_, _, rfl⟩ (rmN_ok (by decide) (by decide)) rfl rfl (Nat.le_of_ble_eq_true rfl) (dg DX10_builds 73 rfl) (fun σ17 hw => ?_)
                refine j_aload_n 131 hC 2 (dg DX10_builds 74 rfl) rfl rfl ?_
                refine j_iload 132 hC 0 (dg DX10_builds 75 rfl) rfl ?_
                refine j_iconst 134 hC (dg DX10_builds 76 rfl) (v := 5) (by decide) ?_
                refine j_iconst 135 hC (dg DX10_builds 77 rfl) (v := 0) (by decide) ?_
                refine j_Vv (As := [.int (σ11 96 0), .int 5, .int 0]) 136 hC (m_X10_sets  hw) kX10_93 (k_95) (by decide) ⟨_, _, rfl⟩ (rmN_ok (by decide) (by decide)) rfl rfl (Nat.le_of_ble_eq_true rfl) (dg DX10_builds 78 rfl) (fun σ18 hw => ?_)
                refine j_aload_n 139 hC 2 (dg DX10_builds 79 rfl) rfl rfl ?_
                refine j_getR 140 hC fX10_9 (k_95) (by decide) (by decide) rfl (dg DX10_builds 80 rfl) ?_
                refine j_iconst 143 hC (dg DX10_builds 81 rfl) (v := 0) (by decide) ?_
                refine j_dup2 144 hC (dg DX10_builds 82 rfl) rfl rfl ?_
                refine j_iald0 145 0 hC (k_96) (by decide) (by unfold vp_in; decide) rfl (dg DX10_builds 83 rfl) ?_
                refine j_iconst 146 hC (dg DX10_builds 84 rfl) (v := 1) (by decide) ?_
                refine j_iadd 147 hC (dg DX10_builds 85 rfl) ?_
                refine j_iast0 148 0 hC (k_96) (by decide) (by unfold vp_in; decide) rfl (dg DX10_builds 86 rfl) ?_
                refine j_aload_n 149 hC 2 (dg DX10_builds 87 rfl) rfl rfl ?_
                refine j_getR 150 hC fX10_9 (k_95) (by decide) (by decide) rfl (dg DX10_builds 88 rfl) ?_
                refine j_iconst 153 hC (dg DX10_builds 89 rfl) (v := 2) (by decide) ?_
                refine j_dup2 154 hC (dg DX10_builds 90 rfl) rfl rfl ?_
                refine j_iald0 155 2 hC (k_96) (by decide) (by unfold vp_in; decide) rfl (dg DX10_builds 91 rfl) ?_
                refine j_iconst 156 hC (dg DX10_builds 92 rfl) (v := 1) (by decide) ?_
                refine j_iadd 157 hC (dg DX10_builds 93 rfl) ?_
                refine j_iast0 158 2 hC (k_96) (by decide) (by unfold vp_in; decide) rfl (dg DX10_builds 94 rfl) ?_
                refine j_sg (fun σ19 es => ?_)
                replace hw := hw _ es
                refine j_iload 159 hC 0 (dg DX10_builds 95 rfl) rfl ?_
                exact hR 161 _ _ _ (dg DX10_builds 96 rfl) hw
              · replace hw := hw.2 hbr
                refine j_bipush 80 hC (dg DX10_builds 42 rfl) (v := (-3)) (by decide) ?_
                exact hR 82 _ _ _ (dg DX10_builds 43 rfl) hw
            · replace hw := hw.1 hbr
              refine j_iconst 66 hC (dg DX10_builds 35 rfl) (v := 1) (by decide) ?_
              refine j_goto 67 71 hC (dg DX10_builds 36 rfl) (by decide) ?_
              refine j_iconst 71 hC (dg DX10_builds 38 rfl) (v := 1) (by decide) ?_
              refine j_bipush 72 hC (dg DX10_builds 39 rfl) (v := 9) (by decide) ?_
              refine j_Vi (As := [.int 1, .int 1, .int 9]) 74 hC (m_X10_isRefused  hw) kX10_89 (k_95) (by decide) ⟨_, _, rfl⟩ (rmN_ok (by decide) (by decide)) rfl rfl (Nat.le_of_ble_eq_true rfl) (dg DX10_builds 40 rfl) (fun r21 σ20 hw => ?_)
              refine j_if_eq 77 83 hC (dg DX10_builds 41 rfl) (by decide) (fun hbr => ?_) (fun hbr => ?_)
              · replace hw := hw.1 hbr
                refine j_aload_n 83 hC 1 (dg DX10_builds 44 rfl) rfl rfl ?_
                refine j_getR 84 hC fX10_9 (k_95) (by decide) (by decide) rfl (dg DX10_builds 45 rfl) ?_
                refine j_iconst 87 hC (dg DX10_builds 46 rfl) (v := 0) (by decide) ?_
                refine j_iald0 88 0 hC (k_96) (by decide) (by unfold vp_in; decide) rfl (dg DX10_builds 47 rfl) ?_
                refine j_istore 89 hC [(5, .int (σ20 96 0)), (4, .int r8), (0, .ref (B + 95)), (1, .int p1), (2, .int p2), (3, .int p3)] (dg DX10_builds 48 rfl) (by decide) rfl ?_
                refine j_aload_n 91 hC 2 (dg DX10_builds 49 rfl) rfl rfl ?_
                refine j_iload 92 hC 0 (dg DX10_builds 50 rfl) rfl ?_
                refine j_iconst 94 hC (dg DX10_builds 51 rfl) (v := 0) (by decide) ?_
                refine j_iload_n 95 hC 3 (dg DX10_builds 52 rfl) rfl rfl ?_
                refine j_Vv (As := [.int (σ20 96 0), .int 0, .int p1]) 96 hC (m_X10_sets  hw) kX10_93 (k_95) (by decide) ⟨_, _, rfl⟩ (rmN_ok (by decide) (by decide)) rfl rfl (Nat.le_of_ble_eq_true rfl) (dg DX10_builds 53 rfl) (fun σ22 hw => ?_)
                refine j_aload_n 99 hC 2 (dg DX10_builds 54 rfl) rfl rfl ?_
                refine j_iload 100 hC 0 (dg DX10_builds 55 rfl) rfl ?_
                refine j_iconst 102 hC (dg DX10_builds 56 rfl) (v := 1) (by decide) ?_
                refine j_iload_n 103 hC 4 (dg DX10_builds 57 rfl) rfl rfl ?_
                refine j_Vv (As := [.int (σ20 96 0), .int 1, .int p2]) 104 hC (m_X10_sets  hw) kX10_93 (k_95) (by decide) ⟨_, _, rfl⟩ (rmN_ok (by decide) (by decide)) rfl rfl (Nat.le_of_ble_eq_true rfl) (dg DX10_builds 58 rfl) (fun σ23 hw => ?_)
                refine j_aload_n 107 hC 2 (dg DX10_builds 59 rfl) rfl rfl ?_
                refine j_iload 108 hC 0 (dg DX10_builds 60 rfl) rfl ?_
                refine j_iconst 110 hC (dg DX10_builds 61 rfl) (v := 2) (by decide) ?_
                refine j_iload_n 111 hC 5 (dg DX10_builds 62 rfl) rfl rfl ?_
                refine j_Vv (As := [.int (σ20 96 0), .int 2, .int p3]) 112 hC (m_X10_sets  hw) kX10_93 (k_95) (by decide) ⟨_, _, rfl⟩ (rmN_ok (by decide) (by decide)) rfl rfl (Nat.le_of_ble_eq_true rfl) (dg DX10_builds 63 rfl) (fun σ24 hw => ?_)
                refine j_aload_n 115 hC 2 (dg DX10_builds 64 rfl) rfl rfl ?_
                refine j_iload 116 hC 0 (dg DX10_builds 65 rfl) rfl ?_
                refine j_iconst 118 hC (dg DX10_builds 66 rfl) (v := 3) (by decide) ?_
                refine j_iconst 119 hC (dg DX10_builds 67 rfl) (v := (-1)) (by decide) ?_
                refine j_Vv (As := [.int (σ20 96 0), .int 3, .int (-1)]) 120 hC (m_X10_sets  hw) kX10_93 (k_95) (by decide) ⟨_, _, rfl⟩ (rmN_ok (by decide) (by decide)) rfl rfl (Nat.le_of_ble_eq_true rfl) (dg DX10_builds 68 rfl) (fun σ25 hw => ?_)
                refine j_aload_n 123 hC 2 (dg DX10_builds 69 rfl) rfl rfl ?_
                refine j_iload 124 hC 0 (dg DX10_builds 70 rfl) rfl ?_
                refine j_iconst 126 hC (dg DX10_builds 71 rfl) (v := 4) (by decide) ?_
                refine j_iconst 127 hC (dg DX10_builds 72 rfl) (v := 0) (by decide) ?_
                refine j_Vv (As := [.int (σ20 96 0), .int 4, .int 0]) 128 hC (m_X10_sets  hw) kX10_93 (k_95) (by decide) ⟨_, _, rfl⟩ (rmN_ok (by decide) (by decide)) rfl rfl (Nat.le_of_ble_eq_true rfl) (dg DX10_builds 73 rfl) (fun σ26 hw => ?_)
                refine j_aload_n 131 hC 2 (dg DX10_builds 74 rfl) rfl rfl ?_
                refine j_iload 132 hC 0 (dg DX10_builds 75 rfl) rfl ?_
                refine j_iconst 134 hC (dg DX10_builds 76 rfl) (v := 5) (by decide) ?_
                refine j_iconst 135 hC (dg DX10_builds 77 rfl) (v := 0) (by decide) ?_
                refine j_Vv (As := [.int (σ20 96 0), .int 5, .int 0]) 136 hC (m_X10_sets  hw) kX10_93 (k_95) (by decide) ⟨_, _, rfl⟩ (rmN_ok (by decide) (by decide)) rfl rfl (Nat.le_of_ble_eq_true rfl) (dg DX10_builds 78 rfl) (fun σ27 hw => ?_)
                refine j_aload_n 139 hC 2 (dg DX10_builds 79 rfl) rfl rfl ?_
                refine j_getR 140 hC fX10_9 (k_95) (by decide) (by decide) rfl (dg DX10_builds 80 rfl) ?_
                refine j_iconst 143 hC (dg DX10_builds 81 rfl) (v := 0) (by decide) ?_
                refine j_dup2 144 hC (dg DX10_builds 82 rfl) rfl rfl ?_
                refine j_iald0 145 0 hC (k_96) (by decide) (by unfold vp_in; decide) rfl (dg DX10_builds 83 rfl) ?_
                refine j_iconst 146 hC (dg DX10_builds 84 rfl) (v := 1) (by decide) ?_
                refine j_iadd 147 hC (dg DX10_builds 85 rfl) ?_
                refine j_iast0 148 0 hC (k_96) (by decide) (by unfold vp_in; decide) rfl (dg DX10_builds 86 rfl) ?_
                refine j_aload_n 149 hC 2 (dg DX10_builds 87 rfl) rfl rfl ?_
                refine j_getR 150 hC fX10_9 (k_95) (by decide) (by decide) rfl (dg DX10_builds 88 rfl) ?_
                refine j_iconst 153 hC (dg DX10_builds 89 rfl) (v := 2) (by decide) ?_
                refine j_dup2 154 hC (dg DX10_builds 90 rfl) rfl rfl ?_
                refine j_iald0 155 2 hC (k_96) (by decide) (by unfold vp_in; decide) rfl (dg DX10_builds 91 rfl) ?_
                refine j_iconst 156 hC (dg DX10_builds 92 rfl) (v := 1) (by decide) ?_
                refine j_iadd 157 hC (dg DX10_builds 93 rfl) ?_
                refine j_iast0 158 2 hC (k_96) (by decide) (by unfold vp_in; decide) rfl (dg DX10_builds 94 rfl) ?_
                refine j_sg (fun σ28 es => ?_)
                replace hw := hw _ es
                refine j_iload 159 hC 0 (dg DX10_builds 95 rfl) rfl ?_
                exact hR 161 _ _ _ (dg DX10_builds 96 rfl) hw
              · replace hw := hw.2 hbr
                refine j_bipush 80 hC (dg DX10_builds 42 rfl) (v := (-3)) (by decide) ?_
                exact hR 82 _ _ _ (dg DX10_builds 43 rfl) hw
        · replace hw := hw.2 hbr
          refine j_iconst 40 hC (dg DX10_builds 21 rfl) (v := 1) (by decide) ?_
          refine j_goto 41 45 hC (dg DX10_builds 22 rfl) (by decide) ?_
          refine j_iconst 45 hC (dg DX10_builds 24 rfl) (v := 2) (by decide) ?_
          refine j_iload 46 hC 0 (dg DX10_builds 25 rfl) rfl ?_
          refine j_Vi (As := [.int 1, .int 2, .int r8]) 48 hC (m_X10_isRefused  hw) kX10_89 (k_95) (by decide) ⟨_, _, rfl⟩ (rmN_ok (by decide) (by decide)) rfl rfl (Nat.le_of_ble_eq_true rfl) (dg DX10_builds 26 rfl) (fun r30 σ29 hw => ?_)
          refine j_if_ne 51 80 hC (dg DX10_builds 27 rfl) (by decide) (fun hbr => ?_) (fun hbr => ?_)
          · replace hw := hw.2 hbr
            refine j_bipush 80 hC (dg DX10_builds 42 rfl) (v := (-3)) (by decide) ?_
            exact hR 82 _ _ _ (dg DX10_builds 43 rfl) hw
          · replace hw := hw.1 hbr
            refine j_aload_n 54 hC 1 (dg DX10_builds 28 rfl) rfl rfl ?_
            refine j_aload_n 55 hC 1 (dg DX10_builds 29 rfl) rfl rfl ?_
            refine j_getR 56 hC fX10_9 (k_95) (by decide) (by decide) rfl (dg DX10_builds 30 rfl) ?_
            refine j_iconst 59 hC (dg DX10_builds 31 rfl) (v := 0) (by decide) ?_
            refine j_iald0 60 0 hC (k_96) (by decide) (by unfold vp_in; decide) rfl (dg DX10_builds 32 rfl) ?_
            refine j_bipush 61 hC (dg DX10_builds 33 rfl) (v := 9) (by decide) ?_
            refine j_icmp_ne 63 70 hC (dg DX10_builds 34 rfl) (by decide) (fun hbr => ?_) (fun hbr => ?_)
            · replace hw := hw.2 hbr
              refine j_iconst 70 hC (dg DX10_builds 37 rfl) (v := 0) (by decide) ?_
              refine j_iconst 71 hC (dg DX10_builds 38 rfl) (v := 1) (by decide) ?_
              refine j_bipush 72 hC (dg DX10_builds 39 rfl) (v := 9) (by decide) ?_
              refine j_Vi (As := [.int 0, .int 1, .int 9]) 74 hC (m_X10_isRefused  hw) kX10_89 (k_95) (by decide) ⟨_, _, rfl⟩ (rmN_ok (by decide) (by decide)) rfl rfl (Nat.le_of_ble_eq_true rfl) (dg DX10_builds 40 rfl) (fun r32 σ31 hw => ?_)
              refine j_if_eq 77 83 hC (dg DX10_builds 41 rfl) (by decide) (fun hbr => ?_) (fun hbr => ?_)
              · replace hw := hw.1 hbr
                refine j_aload_n 83 hC 1 (dg DX10_builds 44 rfl) rfl rfl ?_
                refine j_getR 84 hC fX10_9 (k_95) (by decide) (by decide) rfl (dg DX10_builds 45 rfl) ?_
                refine j_iconst 87 hC (dg DX10_builds 46 rfl) (v := 0) (by decide) ?_
                refine j_iald0 88 0 hC (k_96) (by decide) (by unfold vp_in; decide) rfl (dg DX10_builds 47 rfl) ?_
                refine j_istore 89 hC [(5, .int (σ31 96 0)), (4, .int r8), (0, .ref (B + 95)), (1, .int p1), (2, .int p2), (3, .int p3)] (dg DX10_builds 48 rfl) (by decide) rfl ?_
                refine j_aload_n 91 hC 2 (dg DX10_builds 49 rfl) rfl rfl ?_
                refine j_iload 92 hC 0 (dg DX10_builds 50 rfl) rfl ?_
                refine j_iconst 94 hC (dg DX10_builds 51 rfl) (v := 0) (by decide) ?_
                refine j_iload_n 95 hC 3 (dg DX10_builds 52 rfl) rfl rfl ?_
                refine j_Vv (As := [.int (σ31 96 0), .int 0, .int p1]) 96 hC (m_X10_sets  hw) kX10_93 (k_95) (by decide) ⟨_, _, rfl⟩ (rmN_ok (by decide) (by decide)) rfl rfl (Nat.le_of_ble_eq_true rfl) (dg DX10_builds 53 rfl) (fun σ33 hw => ?_)
                refine j_aload_n 99 hC 2 (dg DX10_builds 54 rfl) rfl rfl ?_
                refine j_iload 100 hC 0 (dg DX10_builds 55 rfl) rfl ?_
                refine j_iconst 102 hC (dg DX10_builds 56 rfl) (v := 1) (by decide) ?_
                refine j_iload_n 103 hC 4 (dg DX10_builds 57 rfl) rfl rfl ?_
                refine j_Vv (As := [.int (σ31 96 0), .int 1, .int p2]) 104 hC (m_X10_sets  hw) kX10_93 (k_95) (by decide) ⟨_, _, rfl⟩ (rmN_ok (by decide) (by decide)) rfl rfl (Nat.le_of_ble_eq_true rfl) (dg DX10_builds 58 rfl) (fun σ34 hw => ?_)
                refine j_aload_n 107 hC 2 (dg DX10_builds 59 rfl) rfl rfl ?_
                refine j_iload 108 hC 0 (dg DX10_builds 60 rfl) rfl ?_
                refine j_iconst 110 hC (dg DX10_builds 61 rfl) (v := 2) (by decide) ?_
                refine j_iload_n 111 hC 5 (dg DX10_builds 62 rfl) rfl rfl ?_
                refine j_Vv (As := [.int (σ31 96 0), .int 2, .int p3]) 112 hC (m_X10_sets  hw) kX10_93 (k_95) (by decide) ⟨_, _, rfl⟩ (rmN_ok (by decide) (by decide)) rfl rfl (Nat.le_of_ble_eq_true rfl) (dg DX10_builds 63 rfl) (fun σ35 hw => ?_)
                refine j_aload_n 115 hC 2 (dg DX10_builds 64 rfl) rfl rfl ?_
                refine j_iload 116 hC 0 (dg DX10_builds 65 rfl) rfl ?_
                refine j_iconst 118 hC (dg DX10_builds 66 rfl) (v := 3) (by decide) ?_
                refine j_iconst 119 hC (dg DX10_builds 67 rfl) (v := (-1)) (by decide) ?_
                refine j_Vv (As := [.int (σ31 96 0), .int 3, .int (-1)]) 120 hC (m_X10_sets  hw) kX10_93 (k_95) (by decide) ⟨_, _, rfl⟩ (rmN_ok (by decide) (by decide)) rfl rfl (Nat.le_of_ble_eq_true rfl) (dg DX10_builds 68 rfl) (fun σ36 hw => ?_)
                refine j_aload_n 123 hC 2 (dg DX10_builds 69 rfl) rfl rfl ?_
                refine j_iload 124 hC 0 (dg DX10_builds 70 rfl) rfl ?_
                refine j_iconst 126 hC (dg DX10_builds 71 rfl) (v := 4) (by decide) ?_
                refine j_iconst 127 hC (dg DX10_builds 72 rfl) (v := 0) (by decide) ?_
                refine j_Vv (As := [.int (σ31 96 0), .int 4, .int 0]) 128 hC (m_X10_sets  hw) kX10_93 (k_95) (by decide) ⟨_, _, rfl⟩ (rmN_ok (by decide) (by decide)) rfl rfl (Nat.le_of_ble_eq_true rfl) (dg DX10_builds 73 rfl) (fun σ37 hw => ?_)
                refine j_aload_n 131 hC 2 (dg DX10_builds 74 rfl) rfl rfl ?_
                refine j_iload 132 hC 0 (dg DX10_builds 75 rfl) rfl ?_
                refine j_iconst 134 hC (dg DX10_builds 76 rfl) (v := 5) (by decide) ?_
                refine j_iconst 135 hC (dg DX10_builds 77 rfl) (v := 0) (by decide) ?_
                refine j_Vv (As := [.int (σ31 96 0), .int 5, .int 0]) 136 hC (m_X10_sets  hw) kX10_93 (k_95) (by decide) ⟨_, _, rfl⟩ (rmN_ok (by decide) (by decide)) rfl rfl (Nat.le_of_ble_eq_true rfl) (dg DX10_builds 78 rfl) (fun σ38 hw => ?_)
                refine j_aload_n 139 hC 2 (dg DX10_builds 79 rfl) rfl rfl ?_
                refine j_getR 140 hC fX10_9 (k_95) (by decide) (by decide) rfl (dg DX10_builds 80 rfl) ?_
                refine j_iconst 143 hC (dg DX10_builds 81 rfl) (v := 0) (by decide) ?_
                refine j_dup2 144 hC (dg DX10_builds 82 rfl) rfl rfl ?_
                refine j_iald0 145 0 hC (k_96) (by decide) (by unfold vp_in; decide) rfl (dg DX10_builds 83 rfl) ?_
                refine j_iconst 146 hC (dg DX10_builds 84 rfl) (v := 1) (by decide) ?_
                refine j_iadd 147 hC (dg DX10_builds 85 rfl) ?_
                refine j_iast0 148 0 hC (k_96) (by decide) (by unfold vp_in; decide) rfl (dg DX10_builds 86 rfl) ?_
                refine j_aload_n 149 hC 2 (dg DX10_builds 87 rfl) rfl rfl ?_
                refine j_getR 150 hC fX10_9 (k_95) (by decide) (by decide) rfl (dg DX10_builds 88 rfl) ?_
                refine j_iconst 153 hC (dg DX10_builds 89 rfl) (v := 2) (by decide) ?_
                refine j_dup2 154 hC (dg DX10_builds 90 rfl) rfl rfl ?_
                refine j_iald0 155 2 hC (k_96) (by decide) (by unfold vp_in; decide) rfl (dg DX10_builds 91 rfl) ?_
                refine j_iconst 156 hC (dg DX10_builds 92 rfl) (v := 1) (by decide) ?_
                refine j_iadd 157 hC (dg DX10_builds 93 rfl) ?_
                refine j_iast0 158 2 hC (k_96) (by decide) (by unfold vp_in; decide) rfl (dg DX10_builds 94 rfl) ?_
                refine j_sg (fun σ39 es => ?_)
                replace hw := hw _ es
                refine j_iload 159 hC 0 (dg DX10_builds 95 rfl) rfl ?_
                exact hR 161 _ _ _ (dg DX10_builds 96 rfl) hw
              · replace hw := hw.2 hbr
                refine j_bipush 80 hC (dg DX10_builds 42 rfl) (v := (-3)) (by decide) ?_
                exact hR 82 _ _ _ (dg DX10_builds 43 rfl) hw
            · replace hw := hw.1 hbr
              refine j_iconst 66 hC (dg DX10_builds 35 rfl) (v := 1) (by decide) ?_
              refine j_goto 67 71 hC (dg DX10_builds 36 rfl) (by decide) ?_
              refine j_iconst 71 hC (dg DX10_builds 38 rfl) (v := 1) (by decide) ?_
              refine j_bipush 72 hC (dg DX10_builds 39 rfl) (v := 9) (by decide) ?_
              refine j_Vi (As := [.int 1, .int 1, .int 9]) 74 hC (m_X10_isRefused  hw) kX10_89 (k_95) (by decide) ⟨_, _, rfl⟩ (rmN_ok (by decide) (by decide)) rfl rfl (Nat.le_of_ble_eq_true rfl) (dg DX10_builds 40 rfl) (fun r41 σ40 hw => ?_)
              refine j_if_eq 77 83 hC (dg DX10_builds 41 rfl) (by decide) (fun hbr => ?_) (fun hbr => ?_)
              · replace hw := hw.1 hbr
                refine j_aload_n 83 hC 1 (dg DX10_builds 44 rfl) rfl rfl ?_
                refine j_getR 84 hC fX10_9 (k_95) (by decide) (by decide) rfl (dg DX10_builds 45 rfl) ?_
                refine j_iconst 87 hC (dg DX10_builds 46 rfl) (v := 0) (by decide) ?_
                refine j_iald0 88 0 hC (k_96) (by decide) (by unfold vp_in; decide) rfl (dg DX10_builds 47 rfl) ?_
                refine j_istore 89 hC [(5, .int (σ40 96 0)), (4, .int r8), (0, .ref (B + 95)), (1, .int p1), (2, .int p2), (3, .int p3)] (dg DX10_builds 48 rfl) (by decide) rfl ?_
                refine j_aload_n 91 hC 2 (dg DX10_builds 49 rfl) rfl rfl ?_
                refine j_iload 92 hC 0 (dg DX10_builds 50 rfl) rfl ?_
                refine j_iconst 94 hC (dg DX10_builds 51 rfl) (v := 0) (by decide) ?_
                refine j_iload_n 95 hC 3 (dg DX10_builds 52 rfl) rfl rfl ?_
                refine j_Vv (As := [.int (σ40 96 0), .int 0, .int p1]) 96 hC (m_X10_sets  hw) kX10_93 (k_95) (by decide) ⟨_, _, rfl⟩ (rmN_ok (by decide) (by decide)) rfl rfl (Nat.le_of_ble_eq_true rfl) (dg DX10_builds 53 rfl) (fun σ42 hw => ?_)
                refine j_aload_n 99 hC 2 (dg DX10_builds 54 rfl) rfl rfl ?_
                refine j_iload 100 hC 0 (dg DX10_builds 55 rfl) rfl ?_
                refine j_iconst 102 hC (dg DX10_builds 56 rfl) (v := 1) (by decide) ?_
                refine j_iload_n 103 hC 4 (dg DX10_builds 57 rfl) rfl rfl ?_
                refine j_Vv (As := [.int (σ40 96 0), .int 1, .int p2]) 104 hC (m_X10_sets  hw) kX10_93 (k_95) (by decide) ⟨_, _, rfl⟩ (rmN_ok (by decide) (by decide)) rfl rfl (Nat.le_of_ble_eq_true rfl) (dg DX10_builds 58 rfl) (fun σ43 hw => ?_)
                refine j_aload_n 107 hC 2 (dg DX10_builds 59 rfl) rfl rfl ?_
                refine j_iload 108 hC 0 (dg DX10_builds 60 rfl) rfl ?_
                refine j_iconst 110 hC (dg DX10_builds 61 rfl) (v := 2) (by decide) ?_
                refine j_iload_n 111 hC 5 (dg DX10_builds 62 rfl) rfl rfl ?_
                refine j_Vv (As := [.int (σ40 96 0), .int 2, .int p3]) 112 hC (m_X10_sets  hw) kX10_93 (k_95) (by decide) ⟨_, _, rfl⟩ (rmN_ok (by decide) (by decide)) rfl rfl (Nat.le_of_ble_eq_true rfl) (dg DX10_builds 63 rfl) (fun σ44 hw => ?_)
                refine j_aload_n 115 hC 2 (dg DX10_builds 64 rfl) rfl rfl ?_
                refine j_iload 116 hC 0 (dg DX10_builds 65 rfl) rfl ?_
                refine j_iconst 118 hC (dg DX10_builds 66 rfl) (v := 3) (by decide) ?_
                refine j_iconst 119 hC (dg DX10_builds 67 rfl) (v := (-1)) (by decide) ?_
                refine j_Vv (As := [.int (σ40 96 0), .int 3, .int (-1)]) 120 hC (m_X10_sets  hw) kX10_93 (k_95) (by decide) ⟨_, _, rfl⟩ (rmN_ok (by decide) (by decide)) rfl rfl (Nat.le_of_ble_eq_true rfl) (dg DX10_builds 68 rfl) (fun σ45 hw => ?_)
                refine j_aload_n 123 hC 2 (dg DX10_builds 69 rfl) rfl rfl ?_
                refine j_iload 124 hC 0 (dg DX10_builds 70 rfl) rfl ?_
                refine j_iconst 126 hC (dg DX10_builds 71 rfl) (v := 4) (by decide) ?_
                refine j_iconst 127 hC (dg DX10_builds 72 rfl) (v := 0) (by decide) ?_
                refine j_Vv (As := [.int (σ40 96 0), .int 4, .int 0]) 128 hC (m_X10_sets  hw) kX10_93 (k_95) (by decide) ⟨_, _, rfl⟩ (rmN_ok (by decide) (by decide)) rfl rfl (Nat.le_of_ble_eq_true rfl) (dg DX10_builds 73 rfl) (fun σ46 hw => ?_)
                refine j_aload_n 131 hC 2 (dg DX10_builds 74 rfl) rfl rfl ?_
                refine j_iload 132 hC 0 (dg DX10_builds 75 rfl) rfl ?_
                refine j_iconst 134 hC (dg DX10_builds 76 rfl) (v := 5) (by decide) ?_
                refine j_iconst 135 hC (dg DX10_builds 77 rfl) (v := 0) (by decide) ?_
                refine j_Vv (As := [.int (σ40 96 0), .int 5, .int 0]) 136 hC (m_X10_sets  hw) kX10_93 (k_95) (by decide) ⟨_, _, rfl⟩ (rmN_ok (by decide) (by decide)) rfl rfl (Nat.le_of_ble_eq_true rfl) (dg DX10_builds 78 rfl) (fun σ47 hw => ?_)
                refine j_aload_n 139 hC 2 (dg DX10_builds 79 rfl) rfl rfl ?_
                refine j_getR 140 hC fX10_9 (k_95) (by decide) (by decide) rfl (dg DX10_builds 80 rfl) ?_
                refine j_iconst 143 hC (dg DX10_builds 81 rfl) (v := 0) (by decide) ?_
                refine j_dup2 144 hC (dg DX10_builds 82 rfl) rfl rfl ?_
                refine j_iald0 145 0 hC (k_96) (by decide) (by unfold vp_in; decide) rfl (dg DX10_builds 83 rfl) ?_
                refine j_iconst 146 hC (dg DX10_builds 84 rfl) (v := 1) (by decide) ?_
                refine j_iadd 147 hC (dg DX10_builds 85 rfl) ?_
                refine j_iast0 148 0 hC (k_96) (by decide) (by unfold vp_in; decide) rfl (dg DX10_builds 86 rfl) ?_
                refine j_aload_n 149 hC 2 (dg DX10_builds 87 rfl) rfl rfl ?_
                refine j_getR 150 hC fX10_9 (k_95) (by decide) (by decide) rfl (dg DX10_builds 88 rfl) ?_
                refine j_iconst 153 hC (dg DX10_builds 89 rfl) (v := 2) (by decide) ?_
                refine j_dup2 154 hC (dg DX10_builds 90 rfl) rfl rfl ?_
                refine j_iald0 155 2 hC (k_96) (by decide) (by unfold vp_in; decide) rfl (dg DX10_builds 91 rfl) ?_
                refine j_iconst 156 hC (dg DX10_builds 92 rfl) (v := 1) (by decide) ?_
                refine j_iadd 157 hC (dg DX10_builds 93 rfl) ?_
                refine j_iast0 158 2 hC (k_96) (by decide) (by unfold vp_in; decide) rfl (dg DX10_builds 94 rfl) ?_
                refine j_sg (fun σ48 es => ?_)
                replace hw := hw _ es
                refine j_iload 159 hC 0 (dg DX10_builds 95 rfl) rfl ?_
                exact hR 161 _ _ _ (dg DX10_builds 96 rfl) hw
              · replace hw := hw.2 hbr
                refine j_bipush 80 hC (dg DX10_builds 42 rfl) (v := (-3)) (by decide) ?_
                exact hR 82 _ _ _ (dg DX10_builds 43 rfl) hw
      · replace hw := hw.1 hbr
        refine j_bipush 23 hC (dg DX10_builds 11 rfl) (v := (-2)) (by decide) ?_
        exact hR 25 _ _ _ (dg DX10_builds 12 rfl) hw
  · replace hw := hw.1 hbr
    refine j_iconst 7 hC (dg DX10_builds 3 rfl) (v := (-1)) (by decide) ?_
    exact hR 8 _ _ _ (dg DX10_builds 4 rfl) hw
theorem m_X10_builds {B : Nat} {σ : SS} {p1 : Int32} {p2 : Int32} {p3 : Int32} {Q : Int32 → SS → Prop} (hw : wp_X10_builds  σ p1 p2 p3 Q) : MI yX10_builds cX10_builds 6 (some .int) 2 44 B 103 RS [.ref (B + 95), .int p1, .int p2, .int p3] σ Q := MI.mk (plainFor_of_name (by decide)) (Nat.le_of_ble_eq_true rfl) (fun X hC hR => t_X10_builds hC  hR hw)
