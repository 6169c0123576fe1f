-- FortressWatch$Sights.seersOf
def bd_X6_seersOf_4    (Q : Int32 → SS → Prop) (l1 : Int32) (rc : SS → Int32 → Int32 → Prop) (σ : SS) (v2 : Int32) (v3 : Int32) : Prop :=
  ((9 ≤ v3 →
      Q v2 σ) ∧
    (¬ 9 ≤ v3 →
      vp_in v3 9 ∧
      ∀ x1 : Int32, x1 = v2 ||| (((((σ 81 v3.toNatClampNeg).toUInt32 >>> (l1.toUInt32 &&& Int32.toUInt32 31)).toInt32) &&& 1) <<< (v3 &&& 31)) →
      rc σ x1 (v3 + 1)))
def wp_X6_seersOf  (σ : SS) (p1 : Int32) (Q : Int32 → SS → Prop) : Prop :=
  ∃ k2, Lii (bd_X6_seersOf_4 Q p1) k2 σ 0 0
set_option maxRecDepth 100000 in
set_option maxHeartbeats 4000000 in
theorem tb_X6_seersOf_4 {X : XT} {B : Nat} (hC : Cx X 4 cX6_seersOf RX6 (rmN 0 0)) {Q : Int32 → SS → Prop} {l1 : Int32} (hR : RtI X 4 B 95 RS cX6_seersOf Q) {rc : SS → Int32 → Int32 → Prop} (hrc : ∀ (σ : SS) (v2 : Int32) (v3 : Int32), rc σ v2 v3 → J X 4 B 95 RS 0 0 σ [(0, .ref (B + 80)), (1, .int l1), (2, .int v2), (3, .int v3)] 4 []) : ∀ (σ : SS) (v2 : Int32) (v3 : Int32), bd_X6_seersOf_4 Q l1 rc σ v2 v3 → J X 4 B 95 RS 0 0 σ [(0, .ref (B + 80)), (1, .int l1), (2, .int v2), (3, .int v3)] 4 [] := by
  intro σ v2 v3 hw
  unfold bd_X6_seersOf_4 at hw
  refine j_iload_n 4 hC 3 (dg DX6_seersOf 4 rfl) rfl rfl ?_
  refine j_bipush 5 hC (dg DX6_seersOf 5 rfl) (v := 9) (by decide) ?_
  refine j_icmp_ge 7 31 hC (dg DX6_seersOf 6 rfl) (by decide) (fun hbr => ?_) (fun hbr => ?_)
  · replace hw := hw.1 hbr
    refine j_iload_n 31 hC 2 (dg DX6_seersOf 22 rfl) rfl rfl ?_
    exact hR 32 _ _ _ (dg DX6_seersOf 23 rfl) hw
  · replace hw := hw.2 hbr
    refine j_iload_n 10 hC 2 (dg DX6_seersOf 7 rfl) rfl rfl ?_
    refine j_aload_n 11 hC 0 (dg DX6_seersOf 8 rfl) rfl rfl ?_
    refine j_getR 12 hC fX6_9 (k_80) (by decide) (by decide) rfl (dg DX6_seersOf 9 rfl) ?_
    refine j_iload_n 15 hC 3 (dg DX6_seersOf 10 rfl) rfl rfl ?_
    refine j_iald0 16 _ hC (k_81) (by decide) hw.1 rfl (dg DX6_seersOf 11 rfl) ?_
    replace hw := hw.2
    refine j_iload_n 17 hC 1 (dg DX6_seersOf 12 rfl) rfl rfl ?_
    refine j_iushr 18 hC (dg DX6_seersOf 13 rfl) ?_
    refine j_iconst 19 hC (dg DX6_seersOf 14 rfl) (v := 1) (by decide) ?_
    refine j_iand 20 hC (dg DX6_seersOf 15 rfl) ?_
    refine j_iload_n 21 hC 3 (dg DX6_seersOf 16 rfl) rfl rfl ?_
    refine j_ishl 22 hC (dg DX6_seersOf 17 rfl) ?_
    refine j_ior 23 hC (dg DX6_seersOf 18 rfl) ?_
    refine j_top (fun x1 ex => ?_)
    replace hw := hw _ ex
    refine j_istore_n 24 hC [(2, .int x1), (0, .ref (B + 80)), (1, .int l1), (3, .int v3)] (dg DX6_seersOf 19 rfl) rfl (by decide) rfl ?_
    refine j_iinc 25 hC 3 (v3 + 1) [(3, .int (v3 + 1)), (2, .int x1), (0, .ref (B + 80)), (1, .int l1)] (dg DX6_seersOf 20 rfl) rfl rfl (by decide) rfl ?_
    refine j_goto 28 4 hC (dg DX6_seersOf 21 rfl) (by decide) ?_
    refine j_lv [2, 3, 1, 0] (lv' := [(0, .ref (B + 80)), (1, .int l1), (2, .int x1), (3, .int (v3 + 1))]) rfl ?_
    exact hrc _ _ _ hw
set_option maxRecDepth 100000 in
set_option maxHeartbeats 4000000 in
theorem t_X6_seersOf {X : XT} {B : Nat} (hC : Cx X 4 cX6_seersOf RX6 (rmN 0 0)) {Q : Int32 → SS → Prop} (hR : RtI X 4 B 95 RS cX6_seersOf Q) {σ : SS} {p1 : Int32} (hw : wp_X6_seersOf  σ p1 Q) : J X 4 B 95 RS 0 0 σ [(0, .ref (B + 80)), (1, .int p1)] 0 [] := by
  unfold wp_X6_seersOf at hw
  refine j_iconst 0 hC (dg DX6_seersOf 0 rfl) (v := 0) (by decide) ?_
  refine j_istore_n 1 hC [(2, .int 0), (0, .ref (B + 80)), (1, .int p1)] (dg DX6_seersOf 1 rfl) rfl (by decide) rfl ?_
  refine j_iconst 2 hC (dg DX6_seersOf 2 rfl) (v := 0) (by decide) ?_
  refine j_istore_n 3 hC [(3, .int 0), (2, .int 0), (0, .ref (B + 80)), (1, .int p1)] (dg DX6_seersOf 3 rfl) rfl (by decide) rfl ?_
  obtain ⟨k2, hw⟩ := hw
  refine j_lv [2, 3, 1, 0] (lv' := [(0, .ref (B + 80)), (1, .int p1), (2, .int 0), (3, .int 0)]) rfl ?_
  exact Lii.snd (P := fun τ w2 w3 => J X 4 B 95 RS 0 0 τ [(0, .ref (B + 80)), (1, .int p1), (2, .int w2), (3, .int w3)] 4 []) (fun rcc hrcc => tb_X6_seersOf_4 hC  hR  hrcc) k2 _ _ _ hw
theorem m_X6_seersOf {B : Nat} {σ : SS} {p1 : Int32} {Q : Int32 → SS → Prop} (hw : wp_X6_seersOf  σ p1 Q) : MI yX6_seersOf cX6_seersOf 4 (some .int) 0 0 B 95 RS [.ref (B + 80), .int p1] σ Q := MI.mk (plainFor_of_name (by decide)) (Nat.le_of_ble_eq_true rfl) (fun X hC hR => t_X6_seersOf hC  hR hw)
-- FortressWatch$Chooser.searchStones
def bd_X0_searchStones_2    (Q : Int32 → SS → Prop)  (rc : SS → Int32 → Prop) (σ : SS) (v2 : Int32) : Prop :=
  ((24 ≤ v2 →
      wp_X0_search 12 σ 16777215 0 (-4) 0 (fun r2 σ1 =>
        Q r2 σ1)) ∧
    (¬ 24 ≤ v2 →
      wp_X6_seersOf σ v2 (fun r4 σ3 =>
        vp_in v2 24 ∧
        rc (u2 σ3 84 v2.toNatClampNeg r4) (v2 + 1))))
def wp_X0_searchStones  (σ : SS)  (Q : Int32 → SS → Prop) : Prop :=
  ∃ k5, Li (bd_X0_searchStones_2 Q) k5 σ 0
set_option maxRecDepth 100000 in
set_option maxHeartbeats 4000000 in
theorem tb_X0_searchStones_2 {X : XT} {B : Nat} (hC : Cx X 3 cX0_searchStones RX0 (rmN 15 410)) {Q : Int32 → SS → Prop} (hR : RtI X 3 B 95 RS cX0_searchStones Q) {rc : SS → Int32 → Prop} (hrc : ∀ (σ : SS) (v2 : Int32), rc σ v2 → J X 3 B 95 RS 0 0 σ [(0, .ref (B + 82)), (1, .ref (B + 80)), (2, .int v2)] 2 []) : ∀ (σ : SS) (v2 : Int32), bd_X0_searchStones_2 Q rc σ v2 → J X 3 B 95 RS 0 0 σ [(0, .ref (B + 82)), (1, .ref (B + 80)), (2, .int v2)] 2 [] := by
  intro σ v2 hw
  unfold bd_X0_searchStones_2 at hw
  refine j_iload_n 2 hC 2 (dg DX0_searchStones 2 rfl) rfl rfl ?_
  refine j_bipush 3 hC (dg DX0_searchStones 3 rfl) (v := 24) (by decide) ?_
  refine j_icmp_ge 5 25 hC (dg DX0_searchStones 4 rfl) (by decide) (fun hbr => ?_) (fun hbr => ?_)
  · replace hw := hw.1 hbr
    refine j_aload_n 25 hC 1 (dg DX0_searchStones 14 rfl) rfl rfl ?_
    refine j_aload_n 26 hC 0 (dg DX0_searchStones 15 rfl) rfl rfl ?_
    refine j_getR 27 hC fX0_15 (k_82) (by decide) (by decide) rfl (dg DX0_searchStones 16 rfl) ?_
    refine j_ldc 30 hC (dg DX0_searchStones 17 rfl) w_181 ?_
    refine j_iconst 32 hC (dg DX0_searchStones 18 rfl) (v := 0) (by decide) ?_
    refine j_bipush 33 hC (dg DX0_searchStones 19 rfl) (v := (-4)) (by decide) ?_
    refine j_iconst 35 hC (dg DX0_searchStones 20 rfl) (v := 0) (by decide) ?_
    refine j_Si (As := [.ref (B + 80), .ref (B + 84), .int 16777215, .int 0, .int (-4), .int 0]) 36 hC (m_X0_search 12 hw) kX0_50 (rmN_ok (by decide) (by decide)) rfl rfl (Nat.le_of_ble_eq_true rfl) (dg DX0_searchStones 21 rfl) (fun r2 σ1 hw => ?_)
    exact hR 39 _ _ _ (dg DX0_searchStones 22 rfl) hw
  · replace hw := hw.2 hbr
    refine j_aload_n 8 hC 0 (dg DX0_searchStones 5 rfl) rfl rfl ?_
    refine j_getR 9 hC fX0_15 (k_82) (by decide) (by decide) rfl (dg DX0_searchStones 6 rfl) ?_
    refine j_iload_n 12 hC 2 (dg DX0_searchStones 7 rfl) rfl rfl ?_
    refine j_aload_n 13 hC 1 (dg DX0_searchStones 8 rfl) rfl rfl ?_
    refine j_iload_n 14 hC 2 (dg DX0_searchStones 9 rfl) rfl rfl ?_
    refine j_Vi (As := [.int v2]) 15 hC (m_X6_seersOf  hw) kX0_47 (k_80) (by decide) ⟨_, _, rfl⟩ (rmN_ok (by decide) (by decide)) rfl rfl (Nat.le_of_ble_eq_true rfl) (dg DX0_searchStones 10 rfl) (fun r4 σ3 hw => ?_)
    refine j_iast0 18 _ hC (k_84) (by decide) hw.1 rfl (dg DX0_searchStones 11 rfl) ?_
    replace hw := hw.2
    refine j_iinc 19 hC 2 (v2 + 1) [(2, .int (v2 + 1)), (0, .ref (B + 82)), (1, .ref (B + 80))] (dg DX0_searchStones 12 rfl) rfl rfl (by decide) rfl ?_
    refine j_goto 22 2 hC (dg DX0_searchStones 13 rfl) (by decide) ?_
    refine j_lv [1, 2, 0] (lv' := [(0, .ref (B + 82)), (1, .ref (B + 80)), (2, .int (v2 + 1))]) rfl ?_
    exact hrc _ _ hw
set_option maxRecDepth 100000 in
set_option maxHeartbeats 4000000 in
theorem t_X0_searchStones {X : XT} {B : Nat} (hC : Cx X 3 cX0_searchStones RX0 (rmN 15 410)) {Q : Int32 → SS → Prop} (hR : RtI X 3 B 95 RS cX0_searchStones Q) {σ : SS} (hw : wp_X0_searchStones  σ  Q) : J X 3 B 95 RS 0 0 σ [(0, .ref (B + 82)), (1, .ref (B + 80))] 0 [] := by
  unfold wp_X0_searchStones at hw
  refine j_iconst 0 hC (dg DX0_searchStones 0 rfl) (v := 0) (by decide) ?_
  refine j_istore_n 1 hC [(2, .int 0), (0, .ref (B + 82)), (1, .ref (B + 80))] (dg DX0_searchStones 1 rfl) rfl (by decide) rfl ?_
  obtain ⟨k5, hw⟩ := hw
  refine j_lv [1, 2, 0] (lv' := [(0, .ref (B + 82)), (1, .ref (B + 80)), (2, .int 0)]) rfl ?_
  exact Li.snd (P := fun τ w2 => J X 3 B 95 RS 0 0 τ [(0, .ref (B + 82)), (1, .ref (B + 80)), (2, .int w2)] 2 []) (fun rcc hrcc => tb_X0_searchStones_2 hC  hR  hrcc) k5 _ _ hw
theorem m_X0_searchStones {B : Nat} {σ : SS} {Q : Int32 → SS → Prop} (hw : wp_X0_searchStones  σ  Q) : MI yX0_searchStones cX0_searchStones 3 (some .int) 15 410 B 95 RS [.ref (B + 82), .ref (B + 80)] σ Q := MI.mk (plainFor_of_name (by decide)) (Nat.le_of_ble_eq_true rfl) (fun X hC hR => t_X0_searchStones hC  hR hw)
-- FortressWatch.turned
def wp_X9_turned  (σ : SS) (p0 : Int32) (p1 : Int32) (Q : Int32 → SS → Prop) : Prop :=
  Q (((p0 <<< (p1 &&& 31)) ||| ((p0.toUInt32 >>> ((24 - p1).toUInt32 &&& Int32.toUInt32 31)).toInt32)) &&& 16777215) σ
set_option maxRecDepth 100000 in
set_option maxHeartbeats 4000000 in
theorem t_X9_turned {X : XT} {B : Nat} (hC : Cx X 2 cX9_turned RX9 (rmN 0 0)) {Q : Int32 → SS → Prop} (hR : RtI X 2 B 95 RS cX9_turned Q) {σ : SS} {p0 : Int32} {p1 : Int32} (hw : wp_X9_turned  σ p0 p1 Q) : J X 2 B 95 RS 0 0 σ [(0, .int p0), (1, .int p1)] 0 [] := by
  unfold wp_X9_turned at hw
  refine j_iload_n 0 hC 0 (dg DX9_turned 0 rfl) rfl rfl ?_
  refine j_iload_n 1 hC 1 (dg DX9_turned 1 rfl) rfl rfl ?_
  refine j_ishl 2 hC (dg DX9_turned 2 rfl) ?_
  refine j_iload_n 3 hC 0 (dg DX9_turned 3 rfl) rfl rfl ?_
  refine j_bipush 4 hC (dg DX9_turned 4 rfl) (v := 24) (by decide) ?_
  refine j_iload_n 6 hC 1 (dg DX9_turned 5 rfl) rfl rfl ?_
  refine j_isub 7 hC (dg DX9_turned 6 rfl) ?_
  refine j_iushr 8 hC (dg DX9_turned 7 rfl) ?_
  refine j_ior 9 hC (dg DX9_turned 8 rfl) ?_
  refine j_ldc 10 hC (dg DX9_turned 9 rfl) w_210 ?_
  refine j_iand 12 hC (dg DX9_turned 10 rfl) ?_
  exact hR 13 _ _ _ (dg DX9_turned 11 rfl) hw
theorem m_X9_turned {B : Nat} {σ : SS} {p0 : Int32} {p1 : Int32} {Q : Int32 → SS → Prop} (hw : wp_X9_turned  σ p0 p1 Q) : MI yX9_turned cX9_turned 2 (some .int) 0 0 B 95 RS [.int p0, .int p1] σ Q := MI.mk (plainFor_of_name (by decide)) (Nat.le_of_ble_eq_true rfl) (fun X hC hR => t_X9_turned hC  hR hw)
-- FortressWatch$Gaps.openFrom
def bd_X1_openFrom_4    (Q : Int32 → SS → Prop) (l0 : Int32) (l1 : Int32) (rc : SS → Int32 → Int32 → Prop) (σ : SS) (v2 : Int32) (v3 : Int32) : Prop :=
  ((24 ≤ v3 →
      Q 24 σ) ∧
    (¬ 24 ≤ v3 →
      wp_X9_isIn σ l0 v2 (fun r2 σ1 =>
        ((r2 = 0 →
            ((v2 = 23 →
                rc σ1 0 (v3 + 1)) ∧
              (¬ v2 = 23 →
                rc σ1 (v2 + 1) (v3 + 1)))) ∧
          (¬ r2 = 0 →
            Q v3 σ1)))))
def wp_X1_openFrom  (σ : SS) (p0 : Int32) (p1 : Int32) (Q : Int32 → SS → Prop) : Prop :=
  ∃ k3, Lii (bd_X1_openFrom_4 Q p0 p1) k3 σ p1 0
set_option maxRecDepth 100000 in
set_option maxHeartbeats 4000000 in
theorem tb_X1_openFrom_4 {X : XT} {B : Nat} (hC : Cx X 4 cX1_openFrom RX1 (rmN 1 21)) {Q : Int32 → SS → Prop} {l0 : Int32} {l1 : Int32} (hR : RtI X 4 B 95 RS cX1_openFrom Q) {rc : SS → Int32 → Int32 → Prop} (hrc : ∀ (σ : SS) (v2 : Int32) (v3 : Int32), rc σ v2 v3 → J X 4 B 95 RS 0 0 σ [(0, .int l0), (1, .int l1), (2, .int v2), (3, .int v3)] 4 []) : ∀ (σ : SS) (v2 : Int32) (v3 : Int32), bd_X1_openFrom_4 Q l0 l1 rc σ v2 v3 → J X 4 B 95 RS 0 0 σ [(0, .int l0), (1, .int l1), (2, .int v2), (3, .int v3)] 4 [] := by
  intro σ v2 v3 hw
  unfold bd_X1_openFrom_4 at hw
  refine j_iload_n 4 hC 3 (dg DX1_openFrom 4 rfl) rfl rfl ?_
  refine j_bipush 5 hC (dg DX1_openFrom 5 rfl) (v := 24) (by decide) ?_
  refine j_icmp_ge 7 40 hC (dg DX1_openFrom 6 rfl) (by decide) (fun hbr => ?_) (fun hbr => ?_)
  · replace hw := hw.1 hbr
    refine j_bipush 40 hC (dg DX1_openFrom 24 rfl) (v := 24) (by decide) ?_
    exact hR 42 _ _ _ (dg DX1_openFrom 25 rfl) hw
  · replace hw := hw.2 hbr
    refine j_iload_n 10 hC 0 (dg DX1_openFrom 7 rfl) rfl rfl ?_
    refine j_iload_n 11 hC 2 (dg DX1_openFrom 8 rfl) rfl rfl ?_
    refine j_SNi (As := [.int l0, .int v2]) 12 hC (m_X9_isIn  hw) kX1_30 (rmN_ok (by decide) (by decide)) rfl rfl (Nat.le_of_ble_eq_true rfl) (dg DX1_openFrom 9 rfl) (fun r2 σ1 hw => ?_)
    refine j_if_eq 15 20 hC (dg DX1_openFrom 10 rfl) (by decide) (fun hbr => ?_) (fun hbr => ?_)
    · replace hw := hw.1 hbr
      refine j_iload_n 20 hC 2 (dg DX1_openFrom 13 rfl) rfl rfl ?_
      refine j_bipush 21 hC (dg DX1_openFrom 14 rfl) (v := 23) (by decide) ?_
      refine j_icmp_ne 23 30 hC (dg DX1_openFrom 15 rfl) (by decide) (fun hbr => ?_) (fun hbr => ?_)
      · replace hw := hw.2 hbr
        refine j_iload_n 30 hC 2 (dg DX1_openFrom 18 rfl) rfl rfl ?_
        refine j_iconst 31 hC (dg DX1_openFrom 19 rfl) (v := 1) (by decide) ?_
        refine j_iadd 32 hC (dg DX1_openFrom 20 rfl) ?_
        refine j_istore_n 33 hC [(2, .int (v2 + 1)), (0, .int l0), (1, .int l1), (3, .int v3)] (dg DX1_openFrom 21 rfl) rfl (by decide) rfl ?_
        refine j_iinc 34 hC 3 (v3 + 1) [(3, .int (v3 + 1)), (2, .int (v2 + 1)), (0, .int l0), (1, .int l1)] (dg DX1_openFrom 22 rfl) rfl rfl (by decide) rfl ?_
        refine j_goto 37 4 hC (dg DX1_openFrom 23 rfl) (by decide) ?_
        refine j_lv [2, 3, 1, 0] (lv' := [(0, .int l0), (1, .int l1), (2, .int (v2 + 1)), (3, .int (v3 + 1))]) rfl ?_
        exact hrc _ _ _ hw
      · replace hw := hw.1 hbr
        refine j_iconst 26 hC (dg DX1_openFrom 16 rfl) (v := 0) (by decide) ?_
        refine j_goto 27 33 hC (dg DX1_openFrom 17 rfl) (by decide) ?_
        refine j_istore_n 33 hC [(2, .int 0), (0, .int l0), (1, .int l1), (3, .int v3)] (dg DX1_openFrom 21 rfl) rfl (by decide) rfl ?_
        refine j_iinc 34 hC 3 (v3 + 1) [(3, .int (v3 + 1)), (2, .int 0), (0, .int l0), (1, .int l1)] (dg DX1_openFrom 22 rfl) rfl rfl (by decide) rfl ?_
        refine j_goto 37 4 hC (dg DX1_openFrom 23 rfl) (by decide) ?_
        refine j_lv [2, 3, 1, 0] (lv' := [(0, .int l0), (1, .int l1), (2, .int 0), (3, .int (v3 + 1))]) rfl ?_
        exact hrc _ _ _ hw
    · replace hw := hw.2 hbr
      refine j_iload_n 18 hC 3 (dg DX1_openFrom 11 rfl) rfl rfl ?_
      exact hR 19 _ _ _ (dg DX1_openFrom 12 rfl) hw
set_option maxRecDepth 100000 in
set_option maxHeartbeats 4000000 in
theorem t_X1_openFrom {X : XT} {B : Nat} (hC : Cx X 4 cX1_openFrom RX1 (rmN 1 21)) {Q : Int32 → SS → Prop} (hR : RtI X 4 B 95 RS cX1_openFrom Q) {σ : SS} {p0 : Int32} {p1 : Int32} (hw : wp_X1_openFrom  σ p0 p1 Q) : J X 4 B 95 RS 0 0 σ [(0, .int p0), (1, .int p1)] 0 [] := by
  unfold wp_X1_openFrom at hw
  refine j_iload_n 0 hC 1 (dg DX1_openFrom 0 rfl) rfl rfl ?_
  refine j_istore_n 1 hC [(2, .int p1), (0, .int p0), (1, .int p1)] (dg DX1_openFrom 1 rfl) rfl (by decide) rfl ?_
  refine j_iconst 2 hC (dg DX1_openFrom 2 rfl) (v := 0) (by decide) ?_
  refine j_istore_n 3 hC [(3, .int 0), (2, .int p1), (0, .int p0), (1, .int p1)] (dg DX1_openFrom 3 rfl) rfl (by decide) rfl ?_
  obtain ⟨k3, hw⟩ := hw
  refine j_lv [2, 3, 1, 0] (lv' := [(0, .int p0), (1, .int p1), (2, .int p1), (3, .int 0)]) rfl ?_
  exact Lii.snd (P := fun τ w2 w3 => J X 4 B 95 RS 0 0 τ [(0, .int p0), (1, .int p1), (2, .int w2), (3, .int w3)] 4 []) (fun rcc hrcc => tb_X1_openFrom_4 hC  hR  hrcc) k3 _ _ _ hw
theorem m_X1_openFrom {B : Nat} {σ : SS} {p0 : Int32} {p1 : Int32} {Q : Int32 → SS → Prop} (hw : wp_X1_openFrom  σ p0 p1 Q) : MI yX1_openFrom cX1_openFrom 4 (some .int) 1 21 B 95 RS [.int p0, .int p1] σ Q := MI.mk (plainFor_of_name (by decide)) (Nat.le_of_ble_eq_true rfl) (fun X hC hR => t_X1_openFrom hC  hR hw)
-- FortressWatch$Gaps.add
def wp_X1_add  (σ : SS) (p1 : Int32) (p2 : Int32) (Q : SS → Prop) : Prop :=
  (((σ 85 2) < 0 →
      Q σ) ∧
    (¬ (σ 85 2) < 0 →
      ((12 ≤ (σ 85 2) →
          Q σ) ∧
        (¬ 12 ≤ (σ 85 2) →
          vp_in (σ 85 2) 12 ∧
          vp_in ((u2 σ 86 (σ 85 2).toNatClampNeg p1) 85 2) 12 ∧
          ∀ σ1 : SS, σ1 = u2 (u2 σ 86 (σ 85 2).toNatClampNeg p1) 87 ((u2 σ 86 (σ 85 2).toNatClampNeg p1) 85 2).toNatClampNeg p2 →
          Q (u2 σ1 85 2 ((σ1 85 2) + 1))))))
set_option maxRecDepth 100000 in
set_option maxHeartbeats 4000000 in
theorem t_X1_add {X : XT} {B : Nat} (hC : Cx X 3 cX1_add RX1 (rmN 0 0)) {Q : SS → Prop} (hR : RtV X 3 B 95 RS cX1_add Q) {σ : SS} {p1 : Int32} {p2 : Int32} (hw : wp_X1_add  σ p1 p2 Q) : J X 3 B 95 RS 0 0 σ [(0, .ref (B + 85)), (1, .int p1), (2, .int p2)] 0 [] := by
  unfold wp_X1_add at hw
  refine j_aload_n 0 hC 0 (dg DX1_add 0 rfl) rfl rfl ?_
  refine j_getI 1 hC fX1_18 (k_85) (by decide) (by decide) rfl (dg DX1_add 1 rfl) ?_
  refine j_if_lt 4 46 hC (dg DX1_add 2 rfl) (by decide) (fun hbr => ?_) (fun hbr => ?_)
  · replace hw := hw.1 hbr
    exact hR 46 _ _ (dg DX1_add 25 rfl) hw
  · replace hw := hw.2 hbr
    refine j_aload_n 7 hC 0 (dg DX1_add 3 rfl) rfl rfl ?_
    refine j_getI 8 hC fX1_18 (k_85) (by decide) (by decide) rfl (dg DX1_add 4 rfl) ?_
    refine j_bipush 11 hC (dg DX1_add 5 rfl) (v := 12) (by decide) ?_
    refine j_icmp_ge 13 46 hC (dg DX1_add 6 rfl) (by decide) (fun hbr => ?_) (fun hbr => ?_)
    · replace hw := hw.1 hbr
      exact hR 46 _ _ (dg DX1_add 25 rfl) hw
    · replace hw := hw.2 hbr
      refine j_aload_n 16 hC 0 (dg DX1_add 7 rfl) rfl rfl ?_
      refine j_getR 17 hC fX1_9 (k_85) (by decide) (by decide) rfl (dg DX1_add 8 rfl) ?_
      refine j_aload_n 20 hC 0 (dg DX1_add 9 rfl) rfl rfl ?_
      refine j_getI 21 hC fX1_18 (k_85) (by decide) (by decide) rfl (dg DX1_add 10 rfl) ?_
      refine j_iload_n 24 hC 1 (dg DX1_add 11 rfl) rfl rfl ?_
      refine j_iast0 25 _ hC (k_86) (by decide) hw.1 rfl (dg DX1_add 12 rfl) ?_
      replace hw := hw.2
      refine j_aload_n 26 hC 0 (dg DX1_add 13 rfl) rfl rfl ?_
      refine j_getR 27 hC fX1_15 (k_85) (by decide) (by decide) rfl (dg DX1_add 14 rfl) ?_
      refine j_aload_n 30 hC 0 (dg DX1_add 15 rfl) rfl rfl ?_
      refine j_getI 31 hC fX1_18 (k_85) (by decide) (by decide) rfl (dg DX1_add 16 rfl) ?_
      refine j_iload_n 34 hC 2 (dg DX1_add 17 rfl) rfl rfl ?_
      refine j_iast0 35 _ hC (k_87) (by decide) hw.1 rfl (dg DX1_add 18 rfl) ?_
      replace hw := hw.2
      refine j_sg (fun σ1 es => ?_)
      replace hw := hw _ es
      refine j_aload_n 36 hC 0 (dg DX1_add 19 rfl) rfl rfl ?_
      refine j_dup 37 hC (dg DX1_add 20 rfl) rfl ?_
      refine j_getI 38 hC fX1_18 (k_85) (by decide) (by decide) rfl (dg DX1_add 21 rfl) ?_
      refine j_iconst 41 hC (dg DX1_add 22 rfl) (v := 1) (by decide) ?_
      refine j_iadd 42 hC (dg DX1_add 23 rfl) ?_
      refine j_putI 43 hC fX1_18 (k_85) (by decide) (by decide) rfl fp1_2 rfl (dg DX1_add 24 rfl) ?_
      exact hR 46 _ _ (dg DX1_add 25 rfl) hw
theorem m_X1_add {B : Nat} {σ : SS} {p1 : Int32} {p2 : Int32} {Q : SS → Prop} (hw : wp_X1_add  σ p1 p2 Q) : MV yX1_add cX1_add 3 0 0 B 95 RS [.ref (B + 85), .int p1, .int p2] σ Q := MV.mk (plainFor_of_name (by decide)) (Nat.le_of_ble_eq_true rfl) (fun X hC hR => t_X1_add hC  hR hw)
-- FortressWatch$Gaps.find
def bd_X1_find_25    (Q : SS → Prop) (l1 : Int32) (l2 : Int32) (rc : SS → Int32 → Prop) (σ : SS) (v3 : Int32) : Prop :=
  ((24 ≤ v3 →
      Q σ) ∧
    (¬ 24 ≤ v3 →
      wp_X9_isIn σ l1 v3 (fun r4 σ3 =>
        ((r4 = 0 →
            wp_X9_isIn σ3 l2 v3 (fun r6 σ5 =>
              ((r6 = 0 →
                  rc σ5 (v3 + 1)) ∧
                (¬ r6 = 0 →
                  wp_X1_openFrom σ5 l1 v3 (fun r8 σ7 =>
                    wp_X1_add σ7 v3 r8 (fun σ9 =>
                      rc σ9 (v3 + 1))))))) ∧
          (¬ r4 = 0 →
            rc σ3 (v3 + 1))))))
def wp_X1_find  (σ : SS) (p1 : Int32) (Q : SS → Prop) : Prop :=
  ((p1 = 0 →
      wp_X1_add (u2 σ 85 2 0) 0 24 (fun σ11 =>
        Q σ11)) ∧
    (¬ p1 = 0 →
      wp_X9_turned (u2 σ 85 2 0) p1 1 (fun r2 σ1 =>
        ∃ k10, Li (bd_X1_find_25 Q p1 r2) k10 σ1 0)))
set_option maxRecDepth 100000 in
set_option maxHeartbeats 4000000 in
theorem tb_X1_find_25 {X : XT} {B : Nat} (hC : Cx X 4 cX1_find RX1 (rmN 2 44)) {Q : SS → Prop} {l1 : Int32} {l2 : Int32} (hR : RtV X 4 B 95 RS cX1_find Q) {rc : SS → Int32 → Prop} (hrc : ∀ (σ : SS) (v3 : Int32), rc σ v3 → J X 4 B 95 RS 0 0 σ [(0, .ref (B + 85)), (1, .int l1), (2, .int l2), (3, .int v3)] 25 []) : ∀ (σ : SS) (v3 : Int32), bd_X1_find_25 Q l1 l2 rc σ v3 → J X 4 B 95 RS 0 0 σ [(0, .ref (B + 85)), (1, .int l1), (2, .int l2), (3, .int v3)] 25 [] := by
  intro σ v3 hw
  unfold bd_X1_find_25 at hw
  refine j_iload_n 25 hC 3 (dg DX1_find 16 rfl) rfl rfl ?_
  refine j_bipush 26 hC (dg DX1_find 17 rfl) (v := 24) (by decide) ?_
  refine j_icmp_ge 28 63 hC (dg DX1_find 18 rfl) (by decide) (fun hbr => ?_) (fun hbr => ?_)
  · replace hw := hw.1 hbr
    exact hR 63 _ _ (dg DX1_find 35 rfl) hw
  · replace hw := hw.2 hbr
    refine j_iload_n 31 hC 1 (dg DX1_find 19 rfl) rfl rfl ?_
    refine j_iload_n 32 hC 3 (dg DX1_find 20 rfl) rfl rfl ?_
    refine j_SNi (As := [.int l1, .int v3]) 33 hC (m_X9_isIn  hw) kX1_30 (rmN_ok (by decide) (by decide)) rfl rfl (Nat.le_of_ble_eq_true rfl) (dg DX1_find 21 rfl) (fun r4 σ3 hw => ?_)
    refine j_if_ne 36 57 hC (dg DX1_find 22 rfl) (by decide) (fun hbr => ?_) (fun hbr => ?_)
    · replace hw := hw.2 hbr
      refine j_iinc 57 hC 3 (v3 + 1) [(3, .int (v3 + 1)), (0, .ref (B + 85)), (1, .int l1), (2, .int l2)] (dg DX1_find 33 rfl) rfl rfl (by decide) rfl ?_
      refine j_goto 60 25 hC (dg DX1_find 34 rfl) (by decide) ?_
      refine j_lv [1, 2, 3, 0] (lv' := [(0, .ref (B + 85)), (1, .int l1), (2, .int l2), (3, .int (v3 + 1))]) rfl ?_
      exact hrc _ _ hw
    · replace hw := hw.1 hbr
      refine j_iload_n 39 hC 2 (dg DX1_find 23 rfl) rfl rfl ?_
      refine j_iload_n 40 hC 3 (dg DX1_find 24 rfl) rfl rfl ?_
      refine j_SNi (As := [.int l2, .int v3]) 41 hC (m_X9_isIn  hw) kX1_30 (rmN_ok (by decide) (by decide)) rfl rfl (Nat.le_of_ble_eq_true rfl) (dg DX1_find 25 rfl) (fun r6 σ5 hw => ?_)
      refine j_if_eq 44 57 hC (dg DX1_find 26 rfl) (by decide) (fun hbr => ?_) (fun hbr => ?_)
      · replace hw := hw.1 hbr
        refine j_iinc 57 hC 3 (v3 + 1) [(3, .int (v3 + 1)), (0, .ref (B + 85)), (1, .int l1), (2, .int l2)] (dg DX1_find 33 rfl) rfl rfl (by decide) rfl ?_
        refine j_goto 60 25 hC (dg DX1_find 34 rfl) (by decide) ?_
        refine j_lv [1, 2, 3, 0] (lv' := [(0, .ref (B + 85)), (1, .int l1), (2, .int l2), (3, .int (v3 + 1))]) rfl ?_
        exact hrc _ _ hw
      · replace hw := hw.2 hbr
        refine j_aload_n 47 hC 0 (dg DX1_find 27 rfl) rfl rfl ?_
        refine j_iload_n 48 hC 3 (dg DX1_find 28 rfl) rfl rfl ?_
        refine j_iload_n 49 hC 1 (dg DX1_find 29 rfl) rfl rfl ?_
        refine j_iload_n 50 hC 3 (dg DX1_find 30 rfl) rfl rfl ?_
        refine j_Si (As := [.int l1, .int v3]) 51 hC (m_X1_openFrom  hw) kX1_34 (rmN_ok (by decide) (by decide)) rfl rfl (Nat.le_of_ble_eq_true rfl) (dg DX1_find 31 rfl) (fun r8 σ7 hw => ?_)
        refine j_Vv (As := [.int v3, .int r8]) 54 hC (m_X1_add  hw) kX1_22 (k_85) (by decide) ⟨_, _, rfl⟩ (rmN_ok (by decide) (by decide)) rfl rfl (Nat.le_of_ble_eq_true rfl) (dg DX1_find 32 rfl) (fun σ9 hw => ?_)
        refine j_iinc 57 hC 3 (v3 + 1) [(3, .int (v3 + 1)), (0, .ref (B + 85)), (1, .int l1), (2, .int l2)] (dg DX1_find 33 rfl) rfl rfl (by decide) rfl ?_
        refine j_goto 60 25 hC (dg DX1_find 34 rfl) (by decide) ?_
        refine j_lv [1, 2, 3, 0] (lv' := [(0, .ref (B + 85)), (1, .int l1), (2, .int l2), (3, .int (v3 + 1))]) rfl ?_
        exact hrc _ _ hw
set_option maxRecDepth 100000 in
set_option maxHeartbeats 4000000 in
theorem t_X1_find {X : XT} {B : Nat} (hC : Cx X 4 cX1_find RX1 (rmN 2 44)) {Q : SS → Prop} (hR : RtV X 4 B 95 RS cX1_find Q) {σ : SS} {p1 : Int32} (hw : wp_X1_find  σ p1 Q) : J X 4 B 95 RS 0 0 σ [(0, .ref (B + 85)), (1, .int p1)] 0 [] := by
  unfold wp_X1_find at hw
  refine j_aload_n 0 hC 0 (dg DX1_find 0 rfl) rfl rfl ?_
  refine j_iconst 1 hC (dg DX1_find 1 rfl) (v := 0) (by decide) ?_
  refine j_putI 2 hC fX1_18 (k_85) (by decide) (by decide) rfl fp1_2 rfl (dg DX1_find 2 rfl) ?_
  refine j_iload_n 5 hC 1 (dg DX1_find 3 rfl) rfl rfl ?_
  refine j_if_ne 6 17 hC (dg DX1_find 4 rfl) (by decide) (fun hbr => ?_) (fun hbr => ?_)
  · replace hw := hw.2 hbr
    refine j_iload_n 17 hC 1 (dg DX1_find 10 rfl) rfl rfl ?_
    refine j_iconst 18 hC (dg DX1_find 11 rfl) (v := 1) (by decide) ?_
    refine j_SNi (As := [.int p1, .int 1]) 19 hC (m_X9_turned  hw) kX1_26 (rmN_ok (by decide) (by decide)) rfl rfl (Nat.le_of_ble_eq_true rfl) (dg DX1_find 12 rfl) (fun r2 σ1 hw => ?_)
    refine j_istore_n 22 hC [(2, .int r2), (0, .ref (B + 85)), (1, .int p1)] (dg DX1_find 13 rfl) rfl (by decide) rfl ?_
    refine j_iconst 23 hC (dg DX1_find 14 rfl) (v := 0) (by decide) ?_
    refine j_istore_n 24 hC [(3, .int 0), (2, .int r2), (0, .ref (B + 85)), (1, .int p1)] (dg DX1_find 15 rfl) rfl (by decide) rfl ?_
    obtain ⟨k10, hw⟩ := hw
    refine j_lv [2, 3, 1, 0] (lv' := [(0, .ref (B + 85)), (1, .int p1), (2, .int r2), (3, .int 0)]) rfl ?_
    exact Li.snd (P := fun τ w3 => J X 4 B 95 RS 0 0 τ [(0, .ref (B + 85)), (1, .int p1), (2, .int r2), (3, .int w3)] 25 []) (fun rcc hrcc => tb_X1_find_25 hC  hR  hrcc) k10 _ _ hw
  · replace hw := hw.1 hbr
    refine j_aload_n 9 hC 0 (dg DX1_find 5 rfl) rfl rfl ?_
    refine j_iconst 10 hC (dg DX1_find 6 rfl) (v := 0) (by decide) ?_
    refine j_bipush 11 hC (dg DX1_find 7 rfl) (v := 24) (by decide) ?_
    refine j_Vv (As := [.int 0, .int 24]) 13 hC (m_X1_add  hw) kX1_22 (k_85) (by decide) ⟨_, _, rfl⟩ (rmN_ok (by decide) (by decide)) rfl rfl (Nat.le_of_ble_eq_true rfl) (dg DX1_find 8 rfl) (fun σ11 hw => ?_)
    exact hR 16 _ _ (dg DX1_find 9 rfl) hw
theorem m_X1_find {B : Nat} {σ : SS} {p1 : Int32} {Q : SS → Prop} (hw : wp_X1_find  σ p1 Q) : MV yX1_find cX1_find 4 2 44 B 95 RS [.ref (B + 85), .int p1] σ Q := MV.mk (plainFor_of_name (by decide)) (Nat.le_of_ble_eq_true rfl) (fun X hC hR => t_X1_find hC  hR hw)
-- FortressWatch$Gaps.isGap
def wp_X1_isGap  (σ : SS) (p1 : Int32) (Q : Int32 → SS → Prop) : Prop :=
  ((p1 < 0 →
      Q 0 σ) ∧
    (¬ p1 < 0 →
      (((σ 85 2) ≤ p1 →
          Q 0 σ) ∧
        (¬ (σ 85 2) ≤ p1 →
          ((12 ≤ p1 →
              Q 0 σ) ∧
            (¬ 12 ≤ p1 →
              Q 1 σ))))))
set_option maxRecDepth 100000 in
set_option maxHeartbeats 4000000 in
theorem t_X1_isGap {X : XT} {B : Nat} (hC : Cx X 2 cX1_isGap RX1 (rmN 0 0)) {Q : Int32 → SS → Prop} (hR : RtZ X 2 B 95 RS cX1_isGap Q) {σ : SS} {p1 : Int32} (hw : wp_X1_isGap  σ p1 Q) : J X 2 B 95 RS 0 0 σ [(0, .ref (B + 85)), (1, .int p1)] 0 [] := by
  unfold wp_X1_isGap at hw
  refine j_iload_n 0 hC 1 (dg DX1_isGap 0 rfl) rfl rfl ?_
  refine j_if_lt 1 22 hC (dg DX1_isGap 1 rfl) (by decide) (fun hbr => ?_) (fun hbr => ?_)
  · replace hw := hw.1 hbr
    refine j_iconst 22 hC (dg DX1_isGap 11 rfl) (v := 0) (by decide) ?_
    exact hR 23 _ _ _ (dg DX1_isGap 12 rfl) ⟨by decide, hw⟩
  · replace hw := hw.2 hbr
    refine j_iload_n 4 hC 1 (dg DX1_isGap 2 rfl) rfl rfl ?_
    refine j_aload_n 5 hC 0 (dg DX1_isGap 3 rfl) rfl rfl ?_
    refine j_getI 6 hC fX1_18 (k_85) (by decide) (by decide) rfl (dg DX1_isGap 4 rfl) ?_
    refine j_icmp_ge 9 22 hC (dg DX1_isGap 5 rfl) (by decide) (fun hbr => ?_) (fun hbr => ?_)
    · replace hw := hw.1 hbr
      refine j_iconst 22 hC (dg DX1_isGap 11 rfl) (v := 0) (by decide) ?_
      exact hR 23 _ _ _ (dg DX1_isGap 12 rfl) ⟨by decide, hw⟩
    · replace hw := hw.2 hbr
      refine j_iload_n 12 hC 1 (dg DX1_isGap 6 rfl) rfl rfl ?_
      refine j_bipush 13 hC (dg DX1_isGap 7 rfl) (v := 12) (by decide) ?_
      refine j_icmp_ge 15 22 hC (dg DX1_isGap 8 rfl) (by decide) (fun hbr => ?_) (fun hbr => ?_)
      · replace hw := hw.1 hbr
        refine j_iconst 22 hC (dg DX1_isGap 11 rfl) (v := 0) (by decide) ?_
        exact hR 23 _ _ _ (dg DX1_isGap 12 rfl) ⟨by decide, hw⟩
      · replace hw := hw.2 hbr
        refine j_iconst 18 hC (dg DX1_isGap 9 rfl) (v := 1) (by decide) ?_
        refine j_goto 19 23 hC (dg DX1_isGap 10 rfl) (by decide) ?_
        exact hR 23 _ _ _ (dg DX1_isGap 12 rfl) ⟨by decide, hw⟩
theorem m_X1_isGap {B : Nat} {σ : SS} {p1 : Int32} {Q : Int32 → SS → Prop} (hw : wp_X1_isGap  σ p1 Q) : MI yX1_isGap cX1_isGap 2 (some .boolean) 0 0 B 95 RS [.ref (B + 85), .int p1] σ Q := MI.mkZ (plainFor_of_name (by decide)) (Nat.le_of_ble_eq_true rfl) (fun X hC hR => t_X1_isGap hC  hR hw)
-- FortressWatch$Gaps.firstOf
def wp_X1_firstOf  (σ : SS) (p1 : Int32) (Q : Int32 → SS → Prop) : Prop :=
  wp_X1_isGap σ p1 (fun r2 σ1 =>
    ((r2 = 0 →
        Q 0 σ1) ∧
      (¬ r2 = 0 →
        vp_in p1 12 ∧
        Q (σ1 86 p1.toNatClampNeg) σ1)))
set_option maxRecDepth 100000 in
set_option maxHeartbeats 4000000 in
theorem t_X1_firstOf {X : XT} {B : Nat} (hC : Cx X 2 cX1_firstOf RX1 (rmN 1 21)) {Q : Int32 → SS → Prop} (hR : RtI X 2 B 95 RS cX1_firstOf Q) {σ : SS} {p1 : Int32} (hw : wp_X1_firstOf  σ p1 Q) : J X 2 B 95 RS 0 0 σ [(0, .ref (B + 85)), (1, .int p1)] 0 [] := by
  unfold wp_X1_firstOf at hw
  refine j_aload_n 0 hC 0 (dg DX1_firstOf 0 rfl) rfl rfl ?_
  refine j_iload_n 1 hC 1 (dg DX1_firstOf 1 rfl) rfl rfl ?_
  refine j_Vi (As := [.int p1]) 2 hC (m_X1_isGap  hw) kX1_37 (k_85) (by decide) ⟨_, _, rfl⟩ (rmN_ok (by decide) (by decide)) rfl rfl (Nat.le_of_ble_eq_true rfl) (dg DX1_firstOf 2 rfl) (fun r2 σ1 hw => ?_)
  refine j_if_eq 5 17 hC (dg DX1_firstOf 3 rfl) (by decide) (fun hbr => ?_) (fun hbr => ?_)
  · replace hw := hw.1 hbr
    refine j_iconst 17 hC (dg DX1_firstOf 9 rfl) (v := 0) (by decide) ?_
    exact hR 18 _ _ _ (dg DX1_firstOf 10 rfl) hw
  · replace hw := hw.2 hbr
    refine j_aload_n 8 hC 0 (dg DX1_firstOf 4 rfl) rfl rfl ?_
    refine j_getR 9 hC fX1_9 (k_85) (by decide) (by decide) rfl (dg DX1_firstOf 5 rfl) ?_
    refine j_iload_n 12 hC 1 (dg DX1_firstOf 6 rfl) rfl rfl ?_
    refine j_iald0 13 _ hC (k_86) (by decide) hw.1 rfl (dg DX1_firstOf 7 rfl) ?_
    replace hw := hw.2
    refine j_goto 14 18 hC (dg DX1_firstOf 8 rfl) (by decide) ?_
    exact hR 18 _ _ _ (dg DX1_firstOf 10 rfl) hw
theorem m_X1_firstOf {B : Nat} {σ : SS} {p1 : Int32} {Q : Int32 → SS → Prop} (hw : wp_X1_firstOf  σ p1 Q) : MI yX1_firstOf cX1_firstOf 2 (some .int) 1 21 B 95 RS [.ref (B + 85), .int p1] σ Q := MI.mk (plainFor_of_name (by decide)) (Nat.le_of_ble_eq_true rfl) (fun X hC hR => t_X1_firstOf hC  hR hw)
-- FortressWatch$Gaps.lengthOf
def wp_X1_lengthOf  (σ : SS) (p1 : Int32) (Q : Int32 → SS → Prop) : Prop :=
  wp_X1_isGap σ p1 (fun r2 σ1 =>
    ((r2 = 0 →
        Q 0 σ1) ∧
      (¬ r2 = 0 →
        vp_in p1 12 ∧
        Q (σ1 87 p1.toNatClampNeg) σ1)))
set_option maxRecDepth 100000 in
set_option maxHeartbeats 4000000 in
theorem t_X1_lengthOf {X : XT} {B : Nat} (hC : Cx X 2 cX1_lengthOf RX1 (rmN 1 21)) {Q : Int32 → SS → Prop} (hR : RtI X 2 B 95 RS cX1_lengthOf Q) {σ : SS} {p1 : Int32} (hw : wp_X1_lengthOf  σ p1 Q) : J X 2 B 95 RS 0 0 σ [(0, .ref (B + 85)), (1, .int p1)] 0 [] := by
  unfold wp_X1_lengthOf at hw
  refine j_aload_n 0 hC 0 (dg DX1_lengthOf 0 rfl) rfl rfl ?_
  refine j_iload_n 1 hC 1 (dg DX1_lengthOf 1 rfl) rfl rfl ?_
  refine j_Vi (As := [.int p1]) 2 hC (m_X1_isGap  hw) kX1_37 (k_85) (by decide) ⟨_, _, rfl⟩ (rmN_ok (by decide) (by decide)) rfl rfl (Nat.le_of_ble_eq_true rfl) (dg DX1_lengthOf 2 rfl) (fun r2 σ1 hw => ?_)
  refine j_if_eq 5 17 hC (dg DX1_lengthOf 3 rfl) (by decide) (fun hbr => ?_) (fun hbr => ?_)
  · replace hw := hw.1 hbr
    refine j_iconst 17 hC (dg DX1_lengthOf 9 rfl) (v := 0) (by decide) ?_
    exact hR 18 _ _ _ (dg DX1_lengthOf 10 rfl) hw
  · replace hw := hw.2 hbr
    refine j_aload_n 8 hC 0 (dg DX1_lengthOf 4 rfl) rfl rfl ?_
    refine j_getR 9 hC fX1_15 (k_85) (by decide) (by decide) rfl (dg DX1_lengthOf 5 rfl) ?_
    refine j_iload_n 12 hC 1 (dg DX1_lengthOf 6 rfl) rfl rfl ?_
    refine j_iald0 13 _ hC (k_87) (by decide) hw.1 rfl (dg DX1_lengthOf 7 rfl) ?_
    replace hw := hw.2
    refine j_goto 14 18 hC (dg DX1_lengthOf 8 rfl) (by decide) ?_
    exact hR 18 _ _ _ (dg DX1_lengthOf 10 rfl) hw
theorem m_X1_lengthOf {B : Nat} {σ : SS} {p1 : Int32} {Q : Int32 → SS → Prop} (hw : wp_X1_lengthOf  σ p1 Q) : MI yX1_lengthOf cX1_lengthOf 2 (some .int) 1 21 B 95 RS [.ref (B + 85), .int p1] σ Q := MI.mk (plainFor_of_name (by decide)) (Nat.le_of_ble_eq_true rfl) (fun X hC hR => t_X1_lengthOf hC  hR hw)
-- FortressWatch$Gaps.lengthOfAll
def bd_X1_lengthOfAll_4    (Q : Int32 → SS → Prop)  (rc : SS → Int32 → Int32 → Prop) (σ : SS) (v1 : Int32) (v2 : Int32) : Prop :=
  ((12 ≤ v2 →
      Q v1 σ) ∧
    (¬ 12 ≤ v2 →
      wp_X1_lengthOf σ v2 (fun r2 σ1 =>
        rc σ1 (v1 + r2) (v2 + 1))))
def wp_X1_lengthOfAll  (σ : SS)  (Q : Int32 → SS → Prop) : Prop :=
  ∃ k3, Lii (bd_X1_lengthOfAll_4 Q) k3 σ 0 0
set_option maxRecDepth 100000 in
set_option maxHeartbeats 4000000 in
theorem tb_X1_lengthOfAll_4 {X : XT} {B : Nat} (hC : Cx X 3 cX1_lengthOfAll RX1 (rmN 2 42)) {Q : Int32 → SS → Prop} (hR : RtI X 3 B 95 RS cX1_lengthOfAll Q) {rc : SS → Int32 → Int32 → Prop} (hrc : ∀ (σ : SS) (v1 : Int32) (v2 : Int32), rc σ v1 v2 → J X 3 B 95 RS 0 0 σ [(0, .ref (B + 85)), (1, .int v1), (2, .int v2)] 4 []) : ∀ (σ : SS) (v1 : Int32) (v2 : Int32), bd_X1_lengthOfAll_4 Q rc σ v1 v2 → J X 3 B 95 RS 0 0 σ [(0, .ref (B + 85)), (1, .int v1), (2, .int v2)] 4 [] := by
  intro σ v1 v2 hw
  unfold bd_X1_lengthOfAll_4 at hw
  refine j_iload_n 4 hC 2 (dg DX1_lengthOfAll 4 rfl) rfl rfl ?_
  refine j_bipush 5 hC (dg DX1_lengthOfAll 5 rfl) (v := 12) (by decide) ?_
  refine j_icmp_ge 7 24 hC (dg DX1_lengthOfAll 6 rfl) (by decide) (fun hbr => ?_) (fun hbr => ?_)
  · replace hw := hw.1 hbr
    refine j_iload_n 24 hC 1 (dg DX1_lengthOfAll 15 rfl) rfl rfl ?_
    exact hR 25 _ _ _ (dg DX1_lengthOfAll 16 rfl) hw
  · replace hw := hw.2 hbr
    refine j_iload_n 10 hC 1 (dg DX1_lengthOfAll 7 rfl) rfl rfl ?_
    refine j_aload_n 11 hC 0 (dg DX1_lengthOfAll 8 rfl) rfl rfl ?_
    refine j_iload_n 12 hC 2 (dg DX1_lengthOfAll 9 rfl) rfl rfl ?_
    refine j_Vi (As := [.int v2]) 13 hC (m_X1_lengthOf  hw) kX1_41 (k_85) (by decide) ⟨_, _, rfl⟩ (rmN_ok (by decide) (by decide)) rfl rfl (Nat.le_of_ble_eq_true rfl) (dg DX1_lengthOfAll 10 rfl) (fun r2 σ1 hw => ?_)
    refine j_iadd 16 hC (dg DX1_lengthOfAll 11 rfl) ?_
    refine j_istore_n 17 hC [(1, .int (v1 + r2)), (0, .ref (B + 85)), (2, .int v2)] (dg DX1_lengthOfAll 12 rfl) rfl (by decide) rfl ?_
    refine j_iinc 18 hC 2 (v2 + 1) [(2, .int (v2 + 1)), (1, .int (v1 + r2)), (0, .ref (B + 85))] (dg DX1_lengthOfAll 13 rfl) rfl rfl (by decide) rfl ?_
    refine j_goto 21 4 hC (dg DX1_lengthOfAll 14 rfl) (by decide) ?_
    refine j_lv [2, 1, 0] (lv' := [(0, .ref (B + 85)), (1, .int (v1 + r2)), (2, .int (v2 + 1))]) rfl ?_
    exact hrc _ _ _ hw
set_option maxRecDepth 100000 in
set_option maxHeartbeats 4000000 in
theorem t_X1_lengthOfAll {X : XT} {B : Nat} (hC : Cx X 3 cX1_lengthOfAll RX1 (rmN 2 42)) {Q : Int32 → SS → Prop} (hR : RtI X 3 B 95 RS cX1_lengthOfAll Q) {σ : SS} (hw : wp_X1_lengthOfAll  σ  Q) : J X 3 B 95 RS 0 0 σ [(0, .ref (B + 85))] 0 [] := by
  unfold wp_X1_lengthOfAll at hw
  refine j_iconst 0 hC (dg DX1_lengthOfAll 0 rfl) (v := 0) (by decide) ?_
  refine j_istore_n 1 hC [(1, .int 0), (0, .ref (B + 85))] (dg DX1_lengthOfAll 1 rfl) rfl (by decide) rfl ?_
  refine j_iconst 2 hC (dg DX1_lengthOfAll 2 rfl) (v := 0) (by decide) ?_
  refine j_istore_n 3 hC [(2, .int 0), (1, .int 0), (0, .ref (B + 85))] (dg DX1_lengthOfAll 3 rfl) rfl (by decide) rfl ?_
  obtain ⟨k3, hw⟩ := hw
  refine j_lv [2, 1, 0] (lv' := [(0, .ref (B + 85)), (1, .int 0), (2, .int 0)]) rfl ?_
  exact Lii.snd (P := fun τ w1 w2 => J X 3 B 95 RS 0 0 τ [(0, .ref (B + 85)), (1, .int w1), (2, .int w2)] 4 []) (fun rcc hrcc => tb_X1_lengthOfAll_4 hC  hR  hrcc) k3 _ _ _ hw
theorem m_X1_lengthOfAll {B : Nat} {σ : SS} {Q : Int32 → SS → Prop} (hw : wp_X1_lengthOfAll  σ  Q) : MI yX1_lengthOfAll cX1_lengthOfAll 3 (some .int) 2 42 B 95 RS [.ref (B + 85)] σ Q := MI.mk (plainFor_of_name (by decide)) (Nat.le_of_ble_eq_true rfl) (fun X hC hR => t_X1_lengthOfAll hC  hR hw)
-- FortressWatch$Gaps.longest
def bd_X1_longest_4    (Q : Int32 → SS → Prop)  (rc : SS → Int32 → Int32 → Prop) (σ : SS) (v1 : Int32) (v2 : Int32) : Prop :=
  ((12 ≤ v2 →
      Q v1 σ) ∧
    (¬ 12 ≤ v2 →
      wp_X1_lengthOf σ v2 (fun r2 σ1 =>
        rc σ1 (if v1 < r2 then r2 else v1) (v2 + 1))))
def wp_X1_longest  (σ : SS)  (Q : Int32 → SS → Prop) : Prop :=
  ∃ k3, Lii (bd_X1_longest_4 Q) k3 σ 0 0
set_option maxRecDepth 100000 in
set_option maxHeartbeats 4000000 in
theorem tb_X1_longest_4 {X : XT} {B : Nat} (hC : Cx X 3 cX1_longest RX1 (rmN 2 42)) {Q : Int32 → SS → Prop} (hR : RtI X 3 B 95 RS cX1_longest Q) {rc : SS → Int32 → Int32 → Prop} (hrc : ∀ (σ : SS) (v1 : Int32) (v2 : Int32), rc σ v1 v2 → J X 3 B 95 RS 0 0 σ [(0, .ref (B + 85)), (1, .int v1), (2, .int v2)] 4 []) : ∀ (σ : SS) (v1 : Int32) (v2 : Int32), bd_X1_longest_4 Q rc σ v1 v2 → J X 3 B 95 RS 0 0 σ [(0, .ref (B + 85)), (1, .int v1), (2, .int v2)] 4 [] := by
  intro σ v1 v2 hw
  unfold bd_X1_longest_4 at hw
  refine j_iload_n 4 hC 2 (dg DX1_longest 4 rfl) rfl rfl ?_
  refine j_bipush 5 hC (dg DX1_longest 5 rfl) (v := 12) (by decide) ?_
  refine j_icmp_ge 7 26 hC (dg DX1_longest 6 rfl) (by decide) (fun hbr => ?_) (fun hbr => ?_)
  · replace hw := hw.1 hbr
    refine j_iload_n 26 hC 1 (dg DX1_longest 15 rfl) rfl rfl ?_
    exact hR 27 _ _ _ (dg DX1_longest 16 rfl) hw
  · replace hw := hw.2 hbr
    refine j_iload_n 10 hC 1 (dg DX1_longest 7 rfl) rfl rfl ?_
    refine j_aload_n 11 hC 0 (dg DX1_longest 8 rfl) rfl rfl ?_
    refine j_iload_n 12 hC 2 (dg DX1_longest 9 rfl) rfl rfl ?_
    refine j_Vi (As := [.int v2]) 13 hC (m_X1_lengthOf  hw) kX1_41 (k_85) (by decide) ⟨_, _, rfl⟩ (rmN_ok (by decide) (by decide)) rfl rfl (Nat.le_of_ble_eq_true rfl) (dg DX1_longest 10 rfl) (fun r2 σ1 hw => ?_)
    refine j_mmax 16 hC w_308 w_156 w_39 w_157 (by decide) (Nat.le_of_ble_eq_true rfl) (Nat.zero_le _) (Nat.zero_le _) (dg DX1_longest 11 rfl) ?_
    refine j_istore_n 19 hC [(1, .int (if v1 < r2 then r2 else v1)), (0, .ref (B + 85)), (2, .int v2)] (dg DX1_longest 12 rfl) rfl (by decide) rfl ?_
    refine j_iinc 20 hC 2 (v2 + 1) [(2, .int (v2 + 1)), (1, .int (if v1 < r2 then r2 else v1)), (0, .ref (B + 85))] (dg DX1_longest 13 rfl) rfl rfl (by decide) rfl ?_
    refine j_goto 23 4 hC (dg DX1_longest 14 rfl) (by decide) ?_
    refine j_lv [2, 1, 0] (lv' := [(0, .ref (B + 85)), (1, .int (if v1 < r2 then r2 else v1)), (2, .int (v2 + 1))]) rfl ?_
    exact hrc _ _ _ hw
set_option maxRecDepth 100000 in
set_option maxHeartbeats 4000000 in
theorem t_X1_longest {X : XT} {B : Nat} (hC : Cx X 3 cX1_longest RX1 (rmN 2 42)) {Q : Int32 → SS → Prop} (hR : RtI X 3 B 95 RS cX1_longest Q) {σ : SS} (hw : wp_X1_longest  σ  Q) : J X 3 B 95 RS 0 0 σ [(0, .ref (B + 85))] 0 [] := by
  unfold wp_X1_longest at hw
  refine j_iconst 0 hC (dg DX1_longest 0 rfl) (v := 0) (by decide) ?_
  refine j_istore_n 1 hC [(1, .int 0), (0, .ref (B + 85))] (dg DX1_longest 1 rfl) rfl (by decide) rfl ?_
  refine j_iconst 2 hC (dg DX1_longest 2 rfl) (v := 0) (by decide) ?_
  refine j_istore_n 3 hC [(2, .int 0), (1, .int 0), (0, .ref (B + 85))] (dg DX1_longest 3 rfl) rfl (by decide) rfl ?_
  obtain ⟨k3, hw⟩ := hw
  refine j_lv [2, 1, 0] (lv' := [(0, .ref (B + 85)), (1, .int 0), (2, .int 0)]) rfl ?_
  exact Lii.snd (P := fun τ w1 w2 => J X 3 B 95 RS 0 0 τ [(0, .ref (B + 85)), (1, .int w1), (2, .int w2)] 4 []) (fun rcc hrcc => tb_X1_longest_4 hC  hR  hrcc) k3 _ _ _ hw
theorem m_X1_longest {B : Nat} {σ : SS} {Q : Int32 → SS → Prop} (hw : wp_X1_longest  σ  Q) : MI yX1_longest cX1_longest 3 (some .int) 2 42 B 95 RS [.ref (B + 85)] σ Q := MI.mk (plainFor_of_name (by decide)) (Nat.le_of_ble_eq_true rfl) (fun X hC hR => t_X1_longest hC  hR hw)
-- FortressWatch$Order.giveKey
def wp_X3_giveKey  (σ : SS) (p1 : Int32) (p2 : Int32) (Q : SS → Prop) : Prop :=
  ((p1 < 0 →
      Q σ) ∧
    (¬ p1 < 0 →
      ((9 ≤ p1 →
          Q σ) ∧
        (¬ 9 ≤ p1 →
          vp_in p1 9 ∧
          Q (u2 σ 89 p1.toNatClampNeg p2)))))
set_option maxRecDepth 100000 in
set_option maxHeartbeats 4000000 in
theorem t_X3_giveKey {X : XT} {B : Nat} (hC : Cx X 3 cX3_giveKey RX3 (rmN 0 0)) {Q : SS → Prop} (hR : RtV X 3 B 95 RS cX3_giveKey Q) {σ : SS} {p1 : Int32} {p2 : Int32} (hw : wp_X3_giveKey  σ p1 p2 Q) : J X 3 B 95 RS 0 0 σ [(0, .ref (B + 88)), (1, .int p1), (2, .int p2)] 0 [] := by
  unfold wp_X3_giveKey at hw
  refine j_iload_n 0 hC 1 (dg DX3_giveKey 0 rfl) rfl rfl ?_
  refine j_if_lt 1 17 hC (dg DX3_giveKey 1 rfl) (by decide) (fun hbr => ?_) (fun hbr => ?_)
  · replace hw := hw.1 hbr
    exact hR 17 _ _ (dg DX3_giveKey 10 rfl) hw
  · replace hw := hw.2 hbr
    refine j_iload_n 4 hC 1 (dg DX3_giveKey 2 rfl) rfl rfl ?_
    refine j_bipush 5 hC (dg DX3_giveKey 3 rfl) (v := 9) (by decide) ?_
    refine j_icmp_ge 7 17 hC (dg DX3_giveKey 4 rfl) (by decide) (fun hbr => ?_) (fun hbr => ?_)
    · replace hw := hw.1 hbr
      exact hR 17 _ _ (dg DX3_giveKey 10 rfl) hw
    · replace hw := hw.2 hbr
      refine j_aload_n 10 hC 0 (dg DX3_giveKey 5 rfl) rfl rfl ?_
      refine j_getR 11 hC fX3_9 (k_88) (by decide) (by decide) rfl (dg DX3_giveKey 6 rfl) ?_
      refine j_iload_n 14 hC 1 (dg DX3_giveKey 7 rfl) rfl rfl ?_
      refine j_iload_n 15 hC 2 (dg DX3_giveKey 8 rfl) rfl rfl ?_
      refine j_iast0 16 _ hC (k_89) (by decide) hw.1 rfl (dg DX3_giveKey 9 rfl) ?_
      replace hw := hw.2
      exact hR 17 _ _ (dg DX3_giveKey 10 rfl) hw
theorem m_X3_giveKey {B : Nat} {σ : SS} {p1 : Int32} {p2 : Int32} {Q : SS → Prop} (hw : wp_X3_giveKey  σ p1 p2 Q) : MV yX3_giveKey cX3_giveKey 3 0 0 B 95 RS [.ref (B + 88), .int p1, .int p2] σ Q := MV.mk (plainFor_of_name (by decide)) (Nat.le_of_ble_eq_true rfl) (fun X hC hR => t_X3_giveKey hC  hR hw)
-- FortressWatch$Order.placeOf
def bd_X3_placeOf_5    (Q : Int32 → SS → Prop) (l1 : Int32) (l2 : Int32) (rc : SS → Int32 → Int32 → Prop) (σ : SS) (v3 : Int32) (v4 : Int32) : Prop :=
  ((9 ≤ v4 →
      Q v3 σ) ∧
    (¬ 9 ≤ v4 →
      ((l2 ≤ v4 →
          Q v3 σ) ∧
        (¬ l2 ≤ v4 →
          vp_in v4 9 ∧
          vp_in l1 9 ∧
          (((σ 89 l1.toNatClampNeg) < (σ 89 v4.toNatClampNeg) →
              rc σ (v3 + 1) (v4 + 1)) ∧
            (¬ (σ 89 l1.toNatClampNeg) < (σ 89 v4.toNatClampNeg) →
              vp_in v4 9 ∧
              vp_in l1 9 ∧
              (((σ 89 v4.toNatClampNeg) = (σ 89 l1.toNatClampNeg) →
                  ((l1 ≤ v4 →
                      rc σ v3 (v4 + 1)) ∧
                    (¬ l1 ≤ v4 →
                      rc σ (v3 + 1) (v4 + 1)))) ∧
                (¬ (σ 89 v4.toNatClampNeg) = (σ 89 l1.toNatClampNeg) →
                  rc σ v3 (v4 + 1)))))))))
def wp_X3_placeOf  (σ : SS) (p1 : Int32) (p2 : Int32) (Q : Int32 → SS → Prop) : Prop :=
  ∃ k1, Lii (bd_X3_placeOf_5 Q p1 p2) k1 σ 0 0
set_option maxRecDepth 100000 in
set_option maxHeartbeats 4000000 in
theorem tb_X3_placeOf_5 {X : XT} {B : Nat} (hC : Cx X 5 cX3_placeOf RX3 (rmN 0 0)) {Q : Int32 → SS → Prop} {l1 : Int32} {l2 : Int32} (hR : RtI X 5 B 95 RS cX3_placeOf Q) {rc : SS → Int32 → Int32 → Prop} (hrc : ∀ (σ : SS) (v3 : Int32) (v4 : Int32), rc σ v3 v4 → J X 5 B 95 RS 0 0 σ [(0, .ref (B + 88)), (1, .int l1), (2, .int l2), (3, .int v3), (4, .int v4)] 5 []) : ∀ (σ : SS) (v3 : Int32) (v4 : Int32), bd_X3_placeOf_5 Q l1 l2 rc σ v3 v4 → J X 5 B 95 RS 0 0 σ [(0, .ref (B + 88)), (1, .int l1), (2, .int l2), (3, .int v3), (4, .int v4)] 5 [] := by
  intro σ v3 v4 hw
  unfold bd_X3_placeOf_5 at hw
  refine j_iload 5 hC 4 (dg DX3_placeOf 4 rfl) rfl ?_
  refine j_bipush 7 hC (dg DX3_placeOf 5 rfl) (v := 9) (by decide) ?_
  refine j_icmp_ge 9 65 hC (dg DX3_placeOf 6 rfl) (by decide) (fun hbr => ?_) (fun hbr => ?_)
  · replace hw := hw.1 hbr
    refine j_iload_n 65 hC 3 (dg DX3_placeOf 34 rfl) rfl rfl ?_
    exact hR 66 _ _ _ (dg DX3_placeOf 35 rfl) hw
  · replace hw := hw.2 hbr
    refine j_iload 12 hC 4 (dg DX3_placeOf 7 rfl) rfl ?_
    refine j_iload_n 14 hC 2 (dg DX3_placeOf 8 rfl) rfl rfl ?_
    refine j_icmp_ge 15 65 hC (dg DX3_placeOf 9 rfl) (by decide) (fun hbr => ?_) (fun hbr => ?_)
    · replace hw := hw.1 hbr
      refine j_iload_n 65 hC 3 (dg DX3_placeOf 34 rfl) rfl rfl ?_
      exact hR 66 _ _ _ (dg DX3_placeOf 35 rfl) hw
    · replace hw := hw.2 hbr
      refine j_aload_n 18 hC 0 (dg DX3_placeOf 10 rfl) rfl rfl ?_
      refine j_getR 19 hC fX3_9 (k_88) (by decide) (by decide) rfl (dg DX3_placeOf 11 rfl) ?_
      refine j_iload 22 hC 4 (dg DX3_placeOf 12 rfl) rfl ?_
      refine j_iald0 24 _ hC (k_89) (by decide) hw.1 rfl (dg DX3_placeOf 13 rfl) ?_
      replace hw := hw.2
      refine j_aload_n 25 hC 0 (dg DX3_placeOf 14 rfl) rfl rfl ?_
      refine j_getR 26 hC fX3_9 (k_88) (by decide) (by decide) rfl (dg DX3_placeOf 15 rfl) ?_
      refine j_iload_n 29 hC 1 (dg DX3_placeOf 16 rfl) rfl rfl ?_
      refine j_iald0 30 _ hC (k_89) (by decide) hw.1 rfl (dg DX3_placeOf 17 rfl) ?_
      replace hw := hw.2
      refine j_icmp_gt 31 56 hC (dg DX3_placeOf 18 rfl) (by decide) (fun hbr => ?_) (fun hbr => ?_)
      · replace hw := hw.1 hbr
        refine j_iinc 56 hC 3 (v3 + 1) [(3, .int (v3 + 1)), (0, .ref (B + 88)), (1, .int l1), (2, .int l2), (4, .int v4)] (dg DX3_placeOf 31 rfl) rfl rfl (by decide) rfl ?_
        refine j_iinc 59 hC 4 (v4 + 1) [(4, .int (v4 + 1)), (3, .int (v3 + 1)), (0, .ref (B + 88)), (1, .int l1), (2, .int l2)] (dg DX3_placeOf 32 rfl) rfl rfl (by decide) rfl ?_
        refine j_goto 62 5 hC (dg DX3_placeOf 33 rfl) (by decide) ?_
        refine j_lv [2, 3, 4, 1, 0] (lv' := [(0, .ref (B + 88)), (1, .int l1), (2, .int l2), (3, .int (v3 + 1)), (4, .int (v4 + 1))]) rfl ?_
        exact hrc _ _ _ hw
      · replace hw := hw.2 hbr
        refine j_aload_n 34 hC 0 (dg DX3_placeOf 19 rfl) rfl rfl ?_
        refine j_getR 35 hC fX3_9 (k_88) (by decide) (by decide) rfl (dg DX3_placeOf 20 rfl) ?_
        refine j_iload 38 hC 4 (dg DX3_placeOf 21 rfl) rfl ?_
        refine j_iald0 40 _ hC (k_89) (by decide) hw.1 rfl (dg DX3_placeOf 22 rfl) ?_
        replace hw := hw.2
        refine j_aload_n 41 hC 0 (dg DX3_placeOf 23 rfl) rfl rfl ?_
        refine j_getR 42 hC fX3_9 (k_88) (by decide) (by decide) rfl (dg DX3_placeOf 24 rfl) ?_
        refine j_iload_n 45 hC 1 (dg DX3_placeOf 25 rfl) rfl rfl ?_
        refine j_iald0 46 _ hC (k_89) (by decide) hw.1 rfl (dg DX3_placeOf 26 rfl) ?_
        replace hw := hw.2
        refine j_icmp_ne 47 59 hC (dg DX3_placeOf 27 rfl) (by decide) (fun hbr => ?_) (fun hbr => ?_)
        · replace hw := hw.2 hbr
          refine j_iinc 59 hC 4 (v4 + 1) [(4, .int (v4 + 1)), (0, .ref (B + 88)), (1, .int l1), (2, .int l2), (3, .int v3)] (dg DX3_placeOf 32 rfl) rfl rfl (by decide) rfl ?_
          refine j_goto 62 5 hC (dg DX3_placeOf 33 rfl) (by decide) ?_
          refine j_lv [1, 2, 3, 4, 0] (lv' := [(0, .ref (B + 88)), (1, .int l1), (2, .int l2), (3, .int v3), (4, .int (v4 + 1))]) rfl ?_
          exact hrc _ _ _ hw
        · replace hw := hw.1 hbr
          refine j_iload 50 hC 4 (dg DX3_placeOf 28 rfl) rfl ?_
          refine j_iload_n 52 hC 1 (dg DX3_placeOf 29 rfl) rfl rfl ?_
          refine j_icmp_ge 53 59 hC (dg DX3_placeOf 30 rfl) (by decide) (fun hbr => ?_) (fun hbr => ?_)
          · replace hw := hw.1 hbr
            refine j_iinc 59 hC 4 (v4 + 1) [(4, .int (v4 + 1)), (0, .ref (B + 88)), (1, .int l1), (2, .int l2), (3, .int v3)] (dg DX3_placeOf 32 rfl) rfl rfl (by decide) rfl ?_
            refine j_goto 62 5 hC (dg DX3_placeOf 33 rfl) (by decide) ?_
            refine j_lv [1, 2, 3, 4, 0] (lv' := [(0, .ref (B + 88)), (1, .int l1), (2, .int l2), (3, .int v3), (4, .int (v4 + 1))]) rfl ?_
            exact hrc _ _ _ hw
          · replace hw := hw.2 hbr
            refine j_iinc 56 hC 3 (v3 + 1) [(3, .int (v3 + 1)), (0, .ref (B + 88)), (1, .int l1), (2, .int l2), (4, .int v4)] (dg DX3_placeOf 31 rfl) rfl rfl (by decide) rfl ?_
            refine j_iinc 59 hC 4 (v4 + 1) [(4, .int (v4 + 1)), (3, .int (v3 + 1)), (0, .ref (B + 88)), (1, .int l1), (2, .int l2)] (dg DX3_placeOf 32 rfl) rfl rfl (by decide) rfl ?_
            refine j_goto 62 5 hC (dg DX3_placeOf 33 rfl) (by decide) ?_
            refine j_lv [2, 3, 4, 1, 0] (lv' := [(0, .ref (B + 88)), (1, .int l1), (2, .int l2), (3, .int (v3 + 1)), (4, .int (v4 + 1))]) rfl ?_
            exact hrc _ _ _ hw
set_option maxRecDepth 100000 in
set_option maxHeartbeats 4000000 in
theorem t_X3_placeOf {X : XT} {B : Nat} (hC : Cx X 5 cX3_placeOf RX3 (rmN 0 0)) {Q : Int32 → SS → Prop} (hR : RtI X 5 B 95 RS cX3_placeOf Q) {σ : SS} {p1 : Int32} {p2 : Int32} (hw : wp_X3_placeOf  σ p1 p2 Q) : J X 5 B 95 RS 0 0 σ [(0, .ref (B + 88)), (1, .int p1), (2, .int p2)] 0 [] := by
  unfold wp_X3_placeOf at hw
  refine j_iconst 0 hC (dg DX3_placeOf 0 rfl) (v := 0) (by decide) ?_
  refine j_istore_n 1 hC [(3, .int 0), (0, .ref (B + 88)), (1, .int p1), (2, .int p2)] (dg DX3_placeOf 1 rfl) rfl (by decide) rfl ?_
  refine j_iconst 2 hC (dg DX3_placeOf 2 rfl) (v := 0) (by decide) ?_
  refine j_istore 3 hC [(4, .int 0), (3, .int 0), (0, .ref (B + 88)), (1, .int p1), (2, .int p2)] (dg DX3_placeOf 3 rfl) (by decide) rfl ?_
  obtain ⟨k1, hw⟩ := hw
  refine j_lv [2, 3, 4, 1, 0] (lv' := [(0, .ref (B + 88)), (1, .int p1), (2, .int p2), (3, .int 0), (4, .int 0)]) rfl ?_
  exact Lii.snd (P := fun τ w3 w4 => J X 5 B 95 RS 0 0 τ [(0, .ref (B + 88)), (1, .int p1), (2, .int p2), (3, .int w3), (4, .int w4)] 5 []) (fun rcc hrcc => tb_X3_placeOf_5 hC  hR  hrcc) k1 _ _ _ hw
theorem m_X3_placeOf {B : Nat} {σ : SS} {p1 : Int32} {p2 : Int32} {Q : Int32 → SS → Prop} (hw : wp_X3_placeOf  σ p1 p2 Q) : MI yX3_placeOf cX3_placeOf 5 (some .int) 0 0 B 95 RS [.ref (B + 88), .int p1, .int p2] σ Q := MI.mk (plainFor_of_name (by decide)) (Nat.le_of_ble_eq_true rfl) (fun X hC hR => t_X3_placeOf hC  hR hw)
-- FortressWatch$Order.at
def bd_X3_at_2    (Q : Int32 → SS → Prop) (l1 : Int32) (l2 : Int32) (rc : SS → Int32 → Prop) (σ : SS) (v3 : Int32) : Prop :=
  ((9 ≤ v3 →
      Q (-1) σ) ∧
    (¬ 9 ≤ v3 →
      ((l2 ≤ v3 →
          rc σ (v3 + 1)) ∧
        (¬ l2 ≤ v3 →
          wp_X3_placeOf σ v3 l2 (fun r2 σ1 =>
            ((r2 = l1 →
                Q v3 σ1) ∧
              (¬ r2 = l1 →
                rc σ1 (v3 + 1))))))))
def wp_X3_at  (σ : SS) (p1 : Int32) (p2 : Int32) (Q : Int32 → SS → Prop) : Prop :=
  ∃ k3, Li (bd_X3_at_2 Q p1 p2) k3 σ 0
set_option maxRecDepth 100000 in
set_option maxHeartbeats 4000000 in
theorem tb_X3_at_2 {X : XT} {B : Nat} (hC : Cx X 4 cX3_at RX3 (rmN 1 24)) {Q : Int32 → SS → Prop} {l1 : Int32} {l2 : Int32} (hR : RtI X 4 B 95 RS cX3_at Q) {rc : SS → Int32 → Prop} (hrc : ∀ (σ : SS) (v3 : Int32), rc σ v3 → J X 4 B 95 RS 0 0 σ [(0, .ref (B + 88)), (1, .int l1), (2, .int l2), (3, .int v3)] 2 []) : ∀ (σ : SS) (v3 : Int32), bd_X3_at_2 Q l1 l2 rc σ v3 → J X 4 B 95 RS 0 0 σ [(0, .ref (B + 88)), (1, .int l1), (2, .int l2), (3, .int v3)] 2 [] := by
  intro σ v3 hw
  unfold bd_X3_at_2 at hw
  refine j_iload_n 2 hC 3 (dg DX3_at 2 rfl) rfl rfl ?_
  refine j_bipush 3 hC (dg DX3_at 3 rfl) (v := 9) (by decide) ?_
  refine j_icmp_ge 5 31 hC (dg DX3_at 4 rfl) (by decide) (fun hbr => ?_) (fun hbr => ?_)
  · replace hw := hw.1 hbr
    refine j_iconst 31 hC (dg DX3_at 18 rfl) (v := (-1)) (by decide) ?_
    exact hR 32 _ _ _ (dg DX3_at 19 rfl) hw
  · replace hw := hw.2 hbr
    refine j_iload_n 8 hC 3 (dg DX3_at 5 rfl) rfl rfl ?_
    refine j_iload_n 9 hC 2 (dg DX3_at 6 rfl) rfl rfl ?_
    refine j_icmp_ge 10 25 hC (dg DX3_at 7 rfl) (by decide) (fun hbr => ?_) (fun hbr => ?_)
    · replace hw := hw.1 hbr
      refine j_iinc 25 hC 3 (v3 + 1) [(3, .int (v3 + 1)), (0, .ref (B + 88)), (1, .int l1), (2, .int l2)] (dg DX3_at 16 rfl) rfl rfl (by decide) rfl ?_
      refine j_goto 28 2 hC (dg DX3_at 17 rfl) (by decide) ?_
      refine j_lv [1, 2, 3, 0] (lv' := [(0, .ref (B + 88)), (1, .int l1), (2, .int l2), (3, .int (v3 + 1))]) rfl ?_
      exact hrc _ _ hw
    · replace hw := hw.2 hbr
      refine j_aload_n 13 hC 0 (dg DX3_at 8 rfl) rfl rfl ?_
      refine j_iload_n 14 hC 3 (dg DX3_at 9 rfl) rfl rfl ?_
      refine j_iload_n 15 hC 2 (dg DX3_at 10 rfl) rfl rfl ?_
      refine j_Vi (As := [.int v3, .int l2]) 16 hC (m_X3_placeOf  hw) kX3_15 (k_88) (by decide) ⟨_, _, rfl⟩ (rmN_ok (by decide) (by decide)) rfl rfl (Nat.le_of_ble_eq_true rfl) (dg DX3_at 11 rfl) (fun r2 σ1 hw => ?_)
      refine j_iload_n 19 hC 1 (dg DX3_at 12 rfl) rfl rfl ?_
      refine j_icmp_ne 20 25 hC (dg DX3_at 13 rfl) (by decide) (fun hbr => ?_) (fun hbr => ?_)
      · replace hw := hw.2 hbr
        refine j_iinc 25 hC 3 (v3 + 1) [(3, .int (v3 + 1)), (0, .ref (B + 88)), (1, .int l1), (2, .int l2)] (dg DX3_at 16 rfl) rfl rfl (by decide) rfl ?_
        refine j_goto 28 2 hC (dg DX3_at 17 rfl) (by decide) ?_
        refine j_lv [1, 2, 3, 0] (lv' := [(0, .ref (B + 88)), (1, .int l1), (2, .int l2), (3, .int (v3 + 1))]) rfl ?_
        exact hrc _ _ hw
      · replace hw := hw.1 hbr
        refine j_iload_n 23 hC 3 (dg DX3_at 14 rfl) rfl rfl ?_
        exact hR 24 _ _ _ (dg DX3_at 15 rfl) hw
set_option maxRecDepth 100000 in
set_option maxHeartbeats 4000000 in
theorem t_X3_at {X : XT} {B : Nat} (hC : Cx X 4 cX3_at RX3 (rmN 1 24)) {Q : Int32 → SS → Prop} (hR : RtI X 4 B 95 RS cX3_at Q) {σ : SS} {p1 : Int32} {p2 : Int32} (hw : wp_X3_at  σ p1 p2 Q) : J X 4 B 95 RS 0 0 σ [(0, .ref (B + 88)), (1, .int p1), (2, .int p2)] 0 [] := by
  unfold wp_X3_at at hw
  refine j_iconst 0 hC (dg DX3_at 0 rfl) (v := 0) (by decide) ?_
  refine j_istore_n 1 hC [(3, .int 0), (0, .ref (B + 88)), (1, .int p1), (2, .int p2)] (dg DX3_at 1 rfl) rfl (by decide) rfl ?_
  obtain ⟨k3, hw⟩ := hw
  refine j_lv [1, 2, 3, 0] (lv' := [(0, .ref (B + 88)), (1, .int p1), (2, .int p2), (3, .int 0)]) rfl ?_
  exact Li.snd (P := fun τ w3 => J X 4 B 95 RS 0 0 τ [(0, .ref (B + 88)), (1, .int p1), (2, .int p2), (3, .int w3)] 2 []) (fun rcc hrcc => tb_X3_at_2 hC  hR  hrcc) k3 _ _ hw
theorem m_X3_at {B : Nat} {σ : SS} {p1 : Int32} {p2 : Int32} {Q : Int32 → SS → Prop} (hw : wp_X3_at  σ p1 p2 Q) : MI yX3_at cX3_at 4 (some .int) 1 24 B 95 RS [.ref (B + 88), .int p1, .int p2] σ Q := MI.mk (plainFor_of_name (by decide)) (Nat.le_of_ble_eq_true rfl) (fun X hC hR => t_X3_at hC  hR hw)
-- FortressWatch$Wall.copyPlace
def wp_X8_copyPlace (a : Nat) (b : Nat) (σ : SS) (p2 : Int32) (p3 : Int32) (Q : SS → Prop) : Prop :=
  vp_in p2 9 ∧
  vp_in p3 9 ∧
  ∀ σ1 : SS, σ1 = u2 σ (a + 1) p3.toNatClampNeg (σ (b + 1) p2.toNatClampNeg) →
  vp_in p2 9 ∧
  vp_in p3 9 ∧
  ∀ σ2 : SS, σ2 = u2 σ1 (a + 2) p3.toNatClampNeg (σ1 (b + 2) p2.toNatClampNeg) →
  vp_in p2 9 ∧
  vp_in p3 9 ∧
  ∀ σ3 : SS, σ3 = u2 σ2 (a + 3) p3.toNatClampNeg (σ2 (b + 3) p2.toNatClampNeg) →
  vp_in p2 9 ∧
  vp_in p3 9 ∧
  ∀ σ4 : SS, σ4 = u2 σ3 (a + 4) p3.toNatClampNeg (σ3 (b + 4) p2.toNatClampNeg) →
  vp_in p2 9 ∧
  vp_in p3 9 ∧
  ∀ σ5 : SS, σ5 = u2 σ4 (a + 5) p3.toNatClampNeg (σ4 (b + 5) p2.toNatClampNeg) →
  vp_in p2 9 ∧
  vp_in p3 9 ∧
  ∀ σ6 : SS, σ6 = u2 σ5 (a + 6) p3.toNatClampNeg (σ5 (b + 6) p2.toNatClampNeg) →
  Q σ6
set_option maxRecDepth 100000 in
set_option maxHeartbeats 4000000 in
theorem t_X8_copyPlace {X : XT} {B : Nat} (hC : Cx X 4 cX8_copyPlace RX8 (rmN 0 0)) {a : Nat} {b : Nat} (ha : isW a) (hb : isW b) {Q : SS → Prop} (hR : RtV X 4 B 95 RS cX8_copyPlace Q) {σ : SS} {p2 : Int32} {p3 : Int32} (hw : wp_X8_copyPlace a b σ p2 p3 Q) : J X 4 B 95 RS 0 0 σ [(0, .ref (B + a)), (1, .ref (B + b)), (2, .int p2), (3, .int p3)] 0 [] := by
  unfold wp_X8_copyPlace at hw
  refine j_aload_n 0 hC 0 (dg DX8_copyPlace 0 rfl) rfl rfl ?_
  refine j_getR 1 hC fX8_9 (kW ha) (lW ha) (by decide) rfl (dg DX8_copyPlace 1 rfl) ?_
  refine j_iload_n 4 hC 3 (dg DX8_copyPlace 2 rfl) rfl rfl ?_
  refine j_aload_n 5 hC 1 (dg DX8_copyPlace 3 rfl) rfl rfl ?_
  refine j_getR 6 hC fX8_9 (kW hb) (lW hb) (by decide) rfl (dg DX8_copyPlace 4 rfl) ?_
  refine j_iload_n 9 hC 2 (dg DX8_copyPlace 5 rfl) rfl rfl ?_
  refine j_iald0 10 _ hC (kW1 hb) (lW1 hb) hw.1 rfl (dg DX8_copyPlace 6 rfl) ?_
  replace hw := hw.2
  refine j_iast0 11 _ hC (kW1 ha) (lW1 ha) hw.1 rfl (dg DX8_copyPlace 7 rfl) ?_
  replace hw := hw.2
  refine j_sg (fun σ1 es => ?_)
  replace hw := hw _ es
  refine j_aload_n 12 hC 0 (dg DX8_copyPlace 8 rfl) rfl rfl ?_
  refine j_getR 13 hC fX8_15 (kW ha) (lW ha) (by decide) rfl (dg DX8_copyPlace 9 rfl) ?_
  refine j_iload_n 16 hC 3 (dg DX8_copyPlace 10 rfl) rfl rfl ?_
  refine j_aload_n 17 hC 1 (dg DX8_copyPlace 11 rfl) rfl rfl ?_
  refine j_getR 18 hC fX8_15 (kW hb) (lW hb) (by decide) rfl (dg DX8_copyPlace 12 rfl) ?_
  refine j_iload_n 21 hC 2 (dg DX8_copyPlace 13 rfl) rfl rfl ?_
  refine j_iald0 22 _ hC (kW2 hb) (lW2 hb) hw.1 rfl (dg DX8_copyPlace 14 rfl) ?_
  replace hw := hw.2
  refine j_iast0 23 _ hC (kW2 ha) (lW2 ha) hw.1 rfl (dg DX8_copyPlace 15 rfl) ?_
  replace hw := hw.2
  refine j_sg (fun σ2 es => ?_)
  replace hw := hw _ es
  refine j_aload_n 24 hC 0 (dg DX8_copyPlace 16 rfl) rfl rfl ?_
  refine j_getR 25 hC fX8_18 (kW ha) (lW ha) (by decide) rfl (dg DX8_copyPlace 17 rfl) ?_
  refine j_iload_n 28 hC 3 (dg DX8_copyPlace 18 rfl) rfl rfl ?_
  refine j_aload_n 29 hC 1 (dg DX8_copyPlace 19 rfl) rfl rfl ?_
  refine j_getR 30 hC fX8_18 (kW hb) (lW hb) (by decide) rfl (dg DX8_copyPlace 20 rfl) ?_
  refine j_iload_n 33 hC 2 (dg DX8_copyPlace 21 rfl) rfl rfl ?_
  refine j_iald0 34 _ hC (kW3 hb) (lW3 hb) hw.1 rfl (dg DX8_copyPlace 22 rfl) ?_
  replace hw := hw.2
  refine j_iast0 35 _ hC (kW3 ha) (lW3 ha) hw.1 rfl (dg DX8_copyPlace 23 rfl) ?_
  replace hw := hw.2
  refine j_sg (fun σ3 es => ?_)
  replace hw := hw _ es
  refine j_aload_n 36 hC 0 (dg DX8_copyPlace 24 rfl) rfl rfl ?_
  refine j_getR 37 hC fX8_21 (kW ha) (lW ha) (by decide) rfl (dg DX8_copyPlace 25 rfl) ?_
  refine j_iload_n 40 hC 3 (dg DX8_copyPlace 26 rfl) rfl rfl ?_
  refine j_aload_n 41 hC 1 (dg DX8_copyPlace 27 rfl) rfl rfl ?_
  refine j_getR 42 hC fX8_21 (kW hb) (lW hb) (by decide) rfl (dg DX8_copyPlace 28 rfl) ?_
  refine j_iload_n 45 hC 2 (dg DX8_copyPlace 29 rfl) rfl rfl ?_
  refine j_iald0 46 _ hC (kW4 hb) (lW4 hb) hw.1 rfl (dg DX8_copyPlace 30 rfl) ?_
  replace hw := hw.2
  refine j_iast0 47 _ hC (kW4 ha) (lW4 ha) hw.1 rfl (dg DX8_copyPlace 31 rfl) ?_
  replace hw := hw.2
  refine j_sg (fun σ4 es => ?_)
  replace hw := hw _ es
  refine j_aload_n 48 hC 0 (dg DX8_copyPlace 32 rfl) rfl rfl ?_
  refine j_getR 49 hC fX8_24 (kW ha) (lW ha) (by decide) rfl (dg DX8_copyPlace 33 rfl) ?_
  refine j_iload_n 52 hC 3 (dg DX8_copyPlace 34 rfl) rfl rfl ?_
  refine j_aload_n 53 hC 1 (dg DX8_copyPlace 35 rfl) rfl rfl ?_
  refine j_getR 54 hC fX8_24 (kW hb) (lW hb) (by decide) rfl (dg DX8_copyPlace 36 rfl) ?_
  refine j_iload_n 57 hC 2 (dg DX8_copyPlace 37 rfl) rfl rfl ?_
  refine j_iald0 58 _ hC (kW5 hb) (lW5 hb) hw.1 rfl (dg DX8_copyPlace 38 rfl) ?_
  replace hw := hw.2
  refine j_iast0 59 _ hC (kW5 ha) (lW5 ha) hw.1 rfl (dg DX8_copyPlace 39 rfl) ?_
  replace hw := hw.2
  refine j_sg (fun σ5 es => ?_)
  replace hw := hw _ es
  refine j_aload_n 60 hC 0 (dg DX8_copyPlace 40 rfl) rfl rfl ?_
  refine j_getR 61 hC fX8_27 (kW ha) (lW ha) (by decide) rfl (dg DX8_copyPlace 41 rfl) ?_
  refine j_iload_n 64 hC 3 (dg DX8_copyPlace 42 rfl) rfl rfl ?_
  refine j_aload_n 65 hC 1 (dg DX8_copyPlace 43 rfl) rfl rfl ?_
  refine j_getR 66 hC fX8_27 (kW hb) (lW hb) (by decide) rfl (dg DX8_copyPlace 44 rfl) ?_
  refine j_iload_n 69 hC 2 (dg DX8_copyPlace 45 rfl) rfl rfl ?_
  refine j_iald0 70 _ hC (kW6 hb) (lW6 hb) hw.1 rfl (dg DX8_copyPlace 46 rfl) ?_
  replace hw := hw.2
  refine j_iast0 71 _ hC (kW6 ha) (lW6 ha) hw.1 rfl (dg DX8_copyPlace 47 rfl) ?_
  replace hw := hw.2
  refine j_sg (fun σ6 es => ?_)
  replace hw := hw _ es
  exact hR 72 _ _ (dg DX8_copyPlace 48 rfl) hw
theorem m_X8_copyPlace {B : Nat} {a : Nat} {b : Nat} (ha : isW a) (hb : isW b) {σ : SS} {p2 : Int32} {p3 : Int32} {Q : SS → Prop} (hw : wp_X8_copyPlace a b σ p2 p3 Q) : MV yX8_copyPlace cX8_copyPlace 4 0 0 B 95 RS [.ref (B + a), .ref (B + b), .int p2, .int p3] σ Q := MV.mk (plainFor_of_name (by decide)) (Nat.le_of_ble_eq_true rfl) (fun X hC hR => t_X8_copyPlace hC ha hb hR hw)
