-- FortressWatch.spare
def bd_X9_spare_44    (Q : Int32 → SS → Prop) (l1 : Int32) (rc : SS → Int32 → Int32 → Prop) (σ : SS) (v2 : Int32) (v3 : Int32) : Prop :=
  ((v3 < 0 →
      wp_J6_bitCount_0f7a4 σ (σ 80 2) (fun r5 σ4 =>
        wp_J6_bitCount_0f7a4 σ4 v2 (fun r7 σ6 =>
          Q (r5 - r7) σ6))) ∧
    (¬ v3 < 0 →
      ∀ x8 : Int32, x8 = v2 &&& (((1 : Int32) <<< (v3 &&& 31)) ^^^ (-1)) →
      wp_X6_seenBySet σ x8 (fun r10 σ9 =>
        ((r10 = l1 →
            rc σ9 x8 (v3 + (-1))) ∧
          (¬ r10 = l1 →
            rc σ9 v2 (v3 + (-1)))))))
def wp_X9_spare  (σ : SS)  (Q : Int32 → SS → Prop) : Prop :=
  wp_X6_lookAt 1 σ (σ 1 7) (fun σ1 =>
    wp_X6_seenBySet σ1 (σ1 80 2) (fun r3 σ2 =>
      ∃ k11, Lii (bd_X9_spare_44 Q r3) k11 σ2 (σ2 80 2) 8))
set_option maxRecDepth 100000 in
set_option maxHeartbeats 4000000 in
theorem tb_X9_spare_44 {X : XT} {B : Nat} (hC : Cx X 5 cX9_spare RX9 (rmN 3 90)) {Q : Int32 → SS → Prop} {l1 : Int32} (hR : RtI X 5 B 95 RS cX9_spare Q) {rc : SS → Int32 → Int32 → Prop} (hrc : ∀ (σ : SS) (v2 : Int32) (v3 : Int32), rc σ v2 v3 → J X 5 B 95 RS 0 0 σ [(0, .ref (B + 0)), (1, .int l1), (2, .int v2), (3, .int v3)] 44 []) : ∀ (σ : SS) (v2 : Int32) (v3 : Int32), bd_X9_spare_44 Q l1 rc σ v2 v3 → J X 5 B 95 RS 0 0 σ [(0, .ref (B + 0)), (1, .int l1), (2, .int v2), (3, .int v3)] 44 [] := by
  intro σ v2 v3 hw
  unfold bd_X9_spare_44 at hw
  refine j_iload_n 44 hC 3 (dg DX9_spare 21 rfl) rfl rfl ?_
  refine j_if_lt 45 79 hC (dg DX9_spare 22 rfl) (by decide) (fun hbr => ?_) (fun hbr => ?_)
  · replace hw := hw.1 hbr
    refine j_aload_n 79 hC 0 (dg DX9_spare 41 rfl) rfl rfl ?_
    refine j_getR 80 hC fX9_32 (k_0) (by decide) (by decide) rfl (dg DX9_spare 42 rfl) ?_
    refine j_getI 83 hC fX9_163 (k_80) (by decide) (by decide) rfl (dg DX9_spare 43 rfl) ?_
    refine j_Si (As := [.int (σ 80 2)]) 86 hC (m_J6_bitCount_0f7a4  hw) kX9_166 (rmN_ok (by decide) (by decide)) rfl rfl (Nat.le_of_ble_eq_true rfl) (dg DX9_spare 44 rfl) (fun r5 σ4 hw => ?_)
    refine j_iload_n 89 hC 2 (dg DX9_spare 45 rfl) rfl rfl ?_
    refine j_Si (As := [.int v2]) 90 hC (m_J6_bitCount_0f7a4  hw) kX9_166 (rmN_ok (by decide) (by decide)) rfl rfl (Nat.le_of_ble_eq_true rfl) (dg DX9_spare 46 rfl) (fun r7 σ6 hw => ?_)
    refine j_isub 93 hC (dg DX9_spare 47 rfl) ?_
    exact hR 94 _ _ _ (dg DX9_spare 48 rfl) hw
  · replace hw := hw.2 hbr
    refine j_iload_n 48 hC 2 (dg DX9_spare 23 rfl) rfl rfl ?_
    refine j_iconst 49 hC (dg DX9_spare 24 rfl) (v := 1) (by decide) ?_
    refine j_iload_n 50 hC 3 (dg DX9_spare 25 rfl) rfl rfl ?_
    refine j_ishl 51 hC (dg DX9_spare 26 rfl) ?_
    refine j_iconst 52 hC (dg DX9_spare 27 rfl) (v := (-1)) (by decide) ?_
    refine j_ixor 53 hC (dg DX9_spare 28 rfl) ?_
    refine j_iand 54 hC (dg DX9_spare 29 rfl) ?_
    refine j_top (fun x8 ex => ?_)
    replace hw := hw _ ex
    refine j_istore 55 hC [(4, .int x8), (0, .ref (B + 0)), (1, .int l1), (2, .int v2), (3, .int v3)] (dg DX9_spare 30 rfl) (by decide) rfl ?_
    refine j_aload_n 57 hC 1 (dg DX9_spare 31 rfl) rfl rfl ?_
    refine j_getR 58 hC fX9_32 (k_0) (by decide) (by decide) rfl (dg DX9_spare 32 rfl) ?_
    refine j_iload 61 hC 0 (dg DX9_spare 33 rfl) rfl ?_
    refine j_Vi (As := [.int x8]) 63 hC (m_X6_seenBySet  hw) kX9_171 (k_80) (by decide) ⟨_, _, rfl⟩ (rmN_ok (by decide) (by decide)) rfl rfl (Nat.le_of_ble_eq_true rfl) (dg DX9_spare 34 rfl) (fun r10 σ9 hw => ?_)
    refine j_iload_n 66 hC 2 (dg DX9_spare 35 rfl) rfl rfl ?_
    refine j_icmp_ne 67 73 hC (dg DX9_spare 36 rfl) (by decide) (fun hbr => ?_) (fun hbr => ?_)
    · replace hw := hw.2 hbr
      refine j_iinc 73 hC 4 (v3 + (-1)) [(3, .int (v3 + (-1))), (4, .int x8), (0, .ref (B + 0)), (1, .int l1), (2, .int v2)] (dg DX9_spare 39 rfl) rfl rfl (by decide) rfl ?_
      refine j_goto 76 44 hC (dg DX9_spare 40 rfl) (by decide) ?_
      refine j_lv [2, 3, 4, 0] (lv' := [(0, .ref (B + 0)), (1, .int l1), (2, .int v2), (3, .int (v3 + (-1)))]) rfl ?_
      exact hrc _ _ _ hw
    · replace hw := hw.1 hbr
      refine j_iload 70 hC 0 (dg DX9_spare 37 rfl) rfl ?_
      refine j_istore_n 72 hC [(2, .int x8), (4, .int x8), (0, .ref (B + 0)), (1, .int l1), (3, .int v3)] (dg DX9_spare 38 rfl) rfl (by decide) rfl ?_
      refine j_iinc 73 hC 4 (v3 + (-1)) [(3, .int (v3 + (-1))), (2, .int x8), (4, .int x8), (0, .ref (B + 0)), (1, .int l1)] (dg DX9_spare 39 rfl) rfl rfl (by decide) rfl ?_
      refine j_goto 76 44 hC (dg DX9_spare 40 rfl) (by decide) ?_
      refine j_lv [3, 4, 1, 0] (lv' := [(0, .ref (B + 0)), (1, .int l1), (2, .int x8), (3, .int (v3 + (-1)))]) rfl ?_
      exact hrc _ _ _ hw
set_option maxRecDepth 100000 in
set_option maxHeartbeats 4000000 in
theorem t_X9_spare {X : XT} {B : Nat} (hC : Cx X 5 cX9_spare RX9 (rmN 3 90)) {Q : Int32 → SS → Prop} (hR : RtI X 5 B 95 RS cX9_spare Q) {σ : SS} (hw : wp_X9_spare  σ  Q) : J X 5 B 95 RS 0 0 σ [(0, .ref (B + 0))] 0 [] := by
  unfold wp_X9_spare at hw
  refine j_aload_n 0 hC 0 (dg DX9_spare 0 rfl) rfl rfl ?_
  refine j_getR 1 hC fX9_32 (k_0) (by decide) (by decide) rfl (dg DX9_spare 1 rfl) ?_
  refine j_aload_n 4 hC 0 (dg DX9_spare 2 rfl) rfl rfl ?_
  refine j_getR 5 hC fX9_10 (k_0) (by decide) (by decide) rfl (dg DX9_spare 3 rfl) ?_
  refine j_aload_n 8 hC 0 (dg DX9_spare 4 rfl) rfl rfl ?_
  refine j_getR 9 hC fX9_10 (k_0) (by decide) (by decide) rfl (dg DX9_spare 5 rfl) ?_
  refine j_getI 12 hC fX9_134 (k_1) (by decide) (by decide) rfl (dg DX9_spare 6 rfl) ?_
  refine j_Vv (As := [.ref (B + 1), .int (σ 1 7)]) 15 hC (m_X6_lookAt isW_1 hw) kX9_137 (k_80) (by decide) ⟨_, _, rfl⟩ (rmN_ok (by decide) (by decide)) rfl rfl (Nat.le_of_ble_eq_true rfl) (dg DX9_spare 7 rfl) (fun σ1 hw => ?_)
  refine j_aload_n 18 hC 0 (dg DX9_spare 8 rfl) rfl rfl ?_
  refine j_getR 19 hC fX9_32 (k_0) (by decide) (by decide) rfl (dg DX9_spare 9 rfl) ?_
  refine j_aload_n 22 hC 0 (dg DX9_spare 10 rfl) rfl rfl ?_
  refine j_getR 23 hC fX9_32 (k_0) (by decide) (by decide) rfl (dg DX9_spare 11 rfl) ?_
  refine j_getI 26 hC fX9_163 (k_80) (by decide) (by decide) rfl (dg DX9_spare 12 rfl) ?_
  refine j_Vi (As := [.int (σ1 80 2)]) 29 hC (m_X6_seenBySet  hw) kX9_171 (k_80) (by decide) ⟨_, _, rfl⟩ (rmN_ok (by decide) (by decide)) rfl rfl (Nat.le_of_ble_eq_true rfl) (dg DX9_spare 13 rfl) (fun r3 σ2 hw => ?_)
  refine j_istore_n 32 hC [(1, .int r3), (0, .ref (B + 0))] (dg DX9_spare 14 rfl) rfl (by decide) rfl ?_
  refine j_aload_n 33 hC 1 (dg DX9_spare 15 rfl) rfl rfl ?_
  refine j_getR 34 hC fX9_32 (k_0) (by decide) (by decide) rfl (dg DX9_spare 16 rfl) ?_
  refine j_getI 37 hC fX9_163 (k_80) (by decide) (by decide) rfl (dg DX9_spare 17 rfl) ?_
  refine j_istore_n 40 hC [(2, .int (σ2 80 2)), (1, .int r3), (0, .ref (B + 0))] (dg DX9_spare 18 rfl) rfl (by decide) rfl ?_
  refine j_bipush 41 hC (dg DX9_spare 19 rfl) (v := 8) (by decide) ?_
  refine j_istore_n 43 hC [(3, .int 8), (2, .int (σ2 80 2)), (1, .int r3), (0, .ref (B + 0))] (dg DX9_spare 20 rfl) rfl (by decide) rfl ?_
  obtain ⟨k11, hw⟩ := hw
  refine j_lv [3, 2, 1, 0] (lv' := [(0, .ref (B + 0)), (1, .int r3), (2, .int (σ2 80 2)), (3, .int 8)]) rfl ?_
  exact Lii.snd (P := fun τ w2 w3 => J X 5 B 95 RS 0 0 τ [(0, .ref (B + 0)), (1, .int r3), (2, .int w2), (3, .int w3)] 44 []) (fun rcc hrcc => tb_X9_spare_44 hC  hR  hrcc) k11 _ _ _ hw
theorem m_X9_spare {B : Nat} {σ : SS} {Q : Int32 → SS → Prop} (hw : wp_X9_spare  σ  Q) : MI yX9_spare cX9_spare 5 (some .int) 3 90 B 95 RS [.ref (B + 0)] σ Q := MI.mk (plainFor_of_name (by decide)) (Nat.le_of_ble_eq_true rfl) (fun X hC hR => t_X9_spare hC  hR hw)
-- FortressWatch.closingMost
def wp_X9_closingMost  (σ : SS) (p1 : Int32) (Q : Int32 → SS → Prop) : Prop :=
  wp_X6_seenBySet σ p1 (fun r2 σ1 =>
    wp_X6_bestAmong σ1 (511 &&& (p1 ^^^ (-1))) (16777215 &&& (r2 ^^^ (-1))) (fun r4 σ3 =>
      Q r4 σ3))
set_option maxRecDepth 100000 in
set_option maxHeartbeats 4000000 in
theorem t_X9_closingMost {X : XT} {B : Nat} (hC : Cx X 3 cX9_closingMost RX9 (rmN 2 47)) {Q : Int32 → SS → Prop} (hR : RtI X 3 B 95 RS cX9_closingMost Q) {σ : SS} {p1 : Int32} (hw : wp_X9_closingMost  σ p1 Q) : J X 3 B 95 RS 0 0 σ [(0, .ref (B + 0)), (1, .int p1)] 0 [] := by
  unfold wp_X9_closingMost at hw
  refine j_ldc 0 hC (dg DX9_closingMost 0 rfl) w_210 ?_
  refine j_aload_n 2 hC 0 (dg DX9_closingMost 1 rfl) rfl rfl ?_
  refine j_getR 3 hC fX9_32 (k_0) (by decide) (by decide) rfl (dg DX9_closingMost 2 rfl) ?_
  refine j_iload_n 6 hC 1 (dg DX9_closingMost 3 rfl) rfl rfl ?_
  refine j_Vi (As := [.int p1]) 7 hC (m_X6_seenBySet  hw) kX9_171 (k_80) (by decide) ⟨_, _, rfl⟩ (rmN_ok (by decide) (by decide)) rfl rfl (Nat.le_of_ble_eq_true rfl) (dg DX9_closingMost 4 rfl) (fun r2 σ1 hw => ?_)
  refine j_iconst 10 hC (dg DX9_closingMost 5 rfl) (v := (-1)) (by decide) ?_
  refine j_ixor 11 hC (dg DX9_closingMost 6 rfl) ?_
  refine j_iand 12 hC (dg DX9_closingMost 7 rfl) ?_
  refine j_istore_n 13 hC [(2, .int (16777215 &&& (r2 ^^^ (-1)))), (0, .ref (B + 0)), (1, .int p1)] (dg DX9_closingMost 8 rfl) rfl (by decide) rfl ?_
  refine j_aload_n 14 hC 1 (dg DX9_closingMost 9 rfl) rfl rfl ?_
  refine j_getR 15 hC fX9_32 (k_0) (by decide) (by decide) rfl (dg DX9_closingMost 10 rfl) ?_
  refine j_sipush 18 hC (dg DX9_closingMost 11 rfl) (v := 511) (by decide) ?_
  refine j_iload_n 21 hC 2 (dg DX9_closingMost 12 rfl) rfl rfl ?_
  refine j_iconst 22 hC (dg DX9_closingMost 13 rfl) (v := (-1)) (by decide) ?_
  refine j_ixor 23 hC (dg DX9_closingMost 14 rfl) ?_
  refine j_iand 24 hC (dg DX9_closingMost 15 rfl) ?_
  refine j_iload_n 25 hC 0 (dg DX9_closingMost 16 rfl) rfl rfl ?_
  refine j_Vi (As := [.int (511 &&& (p1 ^^^ (-1))), .int (16777215 &&& (r2 ^^^ (-1)))]) 26 hC (m_X6_bestAmong  hw) kX9_190 (k_80) (by decide) ⟨_, _, rfl⟩ (rmN_ok (by decide) (by decide)) rfl rfl (Nat.le_of_ble_eq_true rfl) (dg DX9_closingMost 17 rfl) (fun r4 σ3 hw => ?_)
  exact hR 29 _ _ _ (dg DX9_closingMost 18 rfl) hw
theorem m_X9_closingMost {B : Nat} {σ : SS} {p1 : Int32} {Q : Int32 → SS → Prop} (hw : wp_X9_closingMost  σ p1 Q) : MI yX9_closingMost cX9_closingMost 3 (some .int) 2 47 B 95 RS [.ref (B + 0), .int p1] σ Q := MI.mk (plainFor_of_name (by decide)) (Nat.le_of_ble_eq_true rfl) (fun X hC hR => t_X9_closingMost hC  hR hw)
-- FortressWatch.next
def wp_X9_next  (σ : SS)  (Q : Int32 → SS → Prop) : Prop :=
  wp_X6_lookAt 1 σ (σ 1 7) (fun σ1 =>
    wp_X9_closingMost σ1 (σ1 80 2) (fun r3 σ2 =>
      Q r3 σ2))
set_option maxRecDepth 100000 in
set_option maxHeartbeats 4000000 in
theorem t_X9_next {X : XT} {B : Nat} (hC : Cx X 1 cX9_next RX9 (rmN 3 90)) {Q : Int32 → SS → Prop} (hR : RtI X 1 B 95 RS cX9_next Q) {σ : SS} (hw : wp_X9_next  σ  Q) : J X 1 B 95 RS 0 0 σ [(0, .ref (B + 0))] 0 [] := by
  unfold wp_X9_next at hw
  refine j_aload_n 0 hC 0 (dg DX9_next 0 rfl) rfl rfl ?_
  refine j_getR 1 hC fX9_32 (k_0) (by decide) (by decide) rfl (dg DX9_next 1 rfl) ?_
  refine j_aload_n 4 hC 0 (dg DX9_next 2 rfl) rfl rfl ?_
  refine j_getR 5 hC fX9_10 (k_0) (by decide) (by decide) rfl (dg DX9_next 3 rfl) ?_
  refine j_aload_n 8 hC 0 (dg DX9_next 4 rfl) rfl rfl ?_
  refine j_getR 9 hC fX9_10 (k_0) (by decide) (by decide) rfl (dg DX9_next 5 rfl) ?_
  refine j_getI 12 hC fX9_134 (k_1) (by decide) (by decide) rfl (dg DX9_next 6 rfl) ?_
  refine j_Vv (As := [.ref (B + 1), .int (σ 1 7)]) 15 hC (m_X6_lookAt isW_1 hw) kX9_137 (k_80) (by decide) ⟨_, _, rfl⟩ (rmN_ok (by decide) (by decide)) rfl rfl (Nat.le_of_ble_eq_true rfl) (dg DX9_next 7 rfl) (fun σ1 hw => ?_)
  refine j_aload_n 18 hC 0 (dg DX9_next 8 rfl) rfl rfl ?_
  refine j_aload_n 19 hC 0 (dg DX9_next 9 rfl) rfl rfl ?_
  refine j_getR 20 hC fX9_32 (k_0) (by decide) (by decide) rfl (dg DX9_next 10 rfl) ?_
  refine j_getI 23 hC fX9_163 (k_80) (by decide) (by decide) rfl (dg DX9_next 11 rfl) ?_
  refine j_Vi (As := [.int (σ1 80 2)]) 26 hC (m_X9_closingMost  hw) kX9_207 (k_0) (by decide) ⟨_, _, rfl⟩ (rmN_ok (by decide) (by decide)) rfl rfl (Nat.le_of_ble_eq_true rfl) (dg DX9_next 12 rfl) (fun r3 σ2 hw => ?_)
  exact hR 29 _ _ _ (dg DX9_next 13 rfl) hw
theorem m_X9_next {B : Nat} {σ : SS} {Q : Int32 → SS → Prop} (hw : wp_X9_next  σ  Q) : MI yX9_next cX9_next 1 (some .int) 3 90 B 95 RS [.ref (B + 0)] σ Q := MI.mk (plainFor_of_name (by decide)) (Nat.le_of_ble_eq_true rfl) (fun X hC hR => t_X9_next hC  hR hw)
-- FortressWatch.greedy
def bd_X9_greedy_28    (Q : Int32 → SS → Prop)  (rc : SS → Int32 → Int32 → Prop) (σ : SS) (v1 : Int32) (v2 : Int32) : Prop :=
  ((9 ≤ v2 →
      wp_J6_bitCount_0f7a4 σ v1 (fun r3 σ2 =>
        Q r3 σ2)) ∧
    (¬ 9 ≤ v2 →
      wp_X9_closingMost σ v1 (fun r5 σ4 =>
        ((r5 = (-4) →
            wp_J6_bitCount_0f7a4 σ4 v1 (fun r7 σ6 =>
              Q r7 σ6)) ∧
          (¬ r5 = (-4) →
            rc σ4 (v1 ||| ((1 : Int32) <<< (r5 &&& 31))) (v2 + 1))))))
def wp_X9_greedy  (σ : SS)  (Q : Int32 → SS → Prop) : Prop :=
  wp_X6_lookAt 1 σ (σ 1 7) (fun σ1 =>
    ∃ k8, Lii (bd_X9_greedy_28 Q) k8 σ1 (σ1 80 2) 0)
set_option maxRecDepth 100000 in
set_option maxHeartbeats 4000000 in
theorem tb_X9_greedy_28 {X : XT} {B : Nat} (hC : Cx X 4 cX9_greedy RX9 (rmN 3 90)) {Q : Int32 → SS → Prop} (hR : RtI X 4 B 95 RS cX9_greedy Q) {rc : SS → Int32 → Int32 → Prop} (hrc : ∀ (σ : SS) (v1 : Int32) (v2 : Int32), rc σ v1 v2 → J X 4 B 95 RS 0 0 σ [(0, .ref (B + 0)), (1, .int v1), (2, .int v2)] 28 []) : ∀ (σ : SS) (v1 : Int32) (v2 : Int32), bd_X9_greedy_28 Q rc σ v1 v2 → J X 4 B 95 RS 0 0 σ [(0, .ref (B + 0)), (1, .int v1), (2, .int v2)] 28 [] := by
  intro σ v1 v2 hw
  unfold bd_X9_greedy_28 at hw
  refine j_iload_n 28 hC 2 (dg DX9_greedy 14 rfl) rfl rfl ?_
  refine j_bipush 29 hC (dg DX9_greedy 15 rfl) (v := 9) (by decide) ?_
  refine j_icmp_ge 31 61 hC (dg DX9_greedy 16 rfl) (by decide) (fun hbr => ?_) (fun hbr => ?_)
  · replace hw := hw.1 hbr
    refine j_iload_n 61 hC 1 (dg DX9_greedy 33 rfl) rfl rfl ?_
    refine j_Si (As := [.int v1]) 62 hC (m_J6_bitCount_0f7a4  hw) kX9_166 (rmN_ok (by decide) (by decide)) rfl rfl (Nat.le_of_ble_eq_true rfl) (dg DX9_greedy 34 rfl) (fun r3 σ2 hw => ?_)
    exact hR 65 _ _ _ (dg DX9_greedy 35 rfl) hw
  · replace hw := hw.2 hbr
    refine j_aload_n 34 hC 0 (dg DX9_greedy 17 rfl) rfl rfl ?_
    refine j_iload_n 35 hC 1 (dg DX9_greedy 18 rfl) rfl rfl ?_
    refine j_Vi (As := [.int v1]) 36 hC (m_X9_closingMost  hw) kX9_207 (k_0) (by decide) ⟨_, _, rfl⟩ (rmN_ok (by decide) (by decide)) rfl rfl (Nat.le_of_ble_eq_true rfl) (dg DX9_greedy 19 rfl) (fun r5 σ4 hw => ?_)
    refine j_istore_n 39 hC [(3, .int r5), (0, .ref (B + 0)), (1, .int v1), (2, .int v2)] (dg DX9_greedy 20 rfl) rfl (by decide) rfl ?_
    refine j_iload_n 40 hC 0 (dg DX9_greedy 21 rfl) rfl rfl ?_
    refine j_bipush 41 hC (dg DX9_greedy 22 rfl) (v := (-4)) (by decide) ?_
    refine j_icmp_ne 43 49 hC (dg DX9_greedy 23 rfl) (by decide) (fun hbr => ?_) (fun hbr => ?_)
    · replace hw := hw.2 hbr
      refine j_iload_n 49 hC 2 (dg DX9_greedy 25 rfl) rfl rfl ?_
      refine j_iconst 50 hC (dg DX9_greedy 26 rfl) (v := 1) (by decide) ?_
      refine j_iload_n 51 hC 0 (dg DX9_greedy 27 rfl) rfl rfl ?_
      refine j_ishl 52 hC (dg DX9_greedy 28 rfl) ?_
      refine j_ior 53 hC (dg DX9_greedy 29 rfl) ?_
      refine j_istore_n 54 hC [(1, .int (v1 ||| ((1 : Int32) <<< (r5 &&& 31)))), (3, .int r5), (0, .ref (B + 0)), (2, .int v2)] (dg DX9_greedy 30 rfl) rfl (by decide) rfl ?_
      refine j_iinc 55 hC 3 (v2 + 1) [(2, .int (v2 + 1)), (1, .int (v1 ||| ((1 : Int32) <<< (r5 &&& 31)))), (3, .int r5), (0, .ref (B + 0))] (dg DX9_greedy 31 rfl) rfl rfl (by decide) rfl ?_
      refine j_goto 58 28 hC (dg DX9_greedy 32 rfl) (by decide) ?_
      refine j_lv [3, 1, 0] (lv' := [(0, .ref (B + 0)), (1, .int (v1 ||| ((1 : Int32) <<< (r5 &&& 31)))), (2, .int (v2 + 1))]) rfl ?_
      exact hrc _ _ _ hw
    · replace hw := hw.1 hbr
      refine j_goto 46 61 hC (dg DX9_greedy 24 rfl) (by decide) ?_
      refine j_iload_n 61 hC 2 (dg DX9_greedy 33 rfl) rfl rfl ?_
      refine j_Si (As := [.int v1]) 62 hC (m_J6_bitCount_0f7a4  hw) kX9_166 (rmN_ok (by decide) (by decide)) rfl rfl (Nat.le_of_ble_eq_true rfl) (dg DX9_greedy 34 rfl) (fun r7 σ6 hw => ?_)
      exact hR 65 _ _ _ (dg DX9_greedy 35 rfl) hw
set_option maxRecDepth 100000 in
set_option maxHeartbeats 4000000 in
theorem t_X9_greedy {X : XT} {B : Nat} (hC : Cx X 4 cX9_greedy RX9 (rmN 3 90)) {Q : Int32 → SS → Prop} (hR : RtI X 4 B 95 RS cX9_greedy Q) {σ : SS} (hw : wp_X9_greedy  σ  Q) : J X 4 B 95 RS 0 0 σ [(0, .ref (B + 0))] 0 [] := by
  unfold wp_X9_greedy at hw
  refine j_aload_n 0 hC 0 (dg DX9_greedy 0 rfl) rfl rfl ?_
  refine j_getR 1 hC fX9_32 (k_0) (by decide) (by decide) rfl (dg DX9_greedy 1 rfl) ?_
  refine j_aload_n 4 hC 0 (dg DX9_greedy 2 rfl) rfl rfl ?_
  refine j_getR 5 hC fX9_10 (k_0) (by decide) (by decide) rfl (dg DX9_greedy 3 rfl) ?_
  refine j_aload_n 8 hC 0 (dg DX9_greedy 4 rfl) rfl rfl ?_
  refine j_getR 9 hC fX9_10 (k_0) (by decide) (by decide) rfl (dg DX9_greedy 5 rfl) ?_
  refine j_getI 12 hC fX9_134 (k_1) (by decide) (by decide) rfl (dg DX9_greedy 6 rfl) ?_
  refine j_Vv (As := [.ref (B + 1), .int (σ 1 7)]) 15 hC (m_X6_lookAt isW_1 hw) kX9_137 (k_80) (by decide) ⟨_, _, rfl⟩ (rmN_ok (by decide) (by decide)) rfl rfl (Nat.le_of_ble_eq_true rfl) (dg DX9_greedy 7 rfl) (fun σ1 hw => ?_)
  refine j_aload_n 18 hC 0 (dg DX9_greedy 8 rfl) rfl rfl ?_
  refine j_getR 19 hC fX9_32 (k_0) (by decide) (by decide) rfl (dg DX9_greedy 9 rfl) ?_
  refine j_getI 22 hC fX9_163 (k_80) (by decide) (by decide) rfl (dg DX9_greedy 10 rfl) ?_
  refine j_istore_n 25 hC [(1, .int (σ1 80 2)), (0, .ref (B + 0))] (dg DX9_greedy 11 rfl) rfl (by decide) rfl ?_
  refine j_iconst 26 hC (dg DX9_greedy 12 rfl) (v := 0) (by decide) ?_
  refine j_istore_n 27 hC [(2, .int 0), (1, .int (σ1 80 2)), (0, .ref (B + 0))] (dg DX9_greedy 13 rfl) rfl (by decide) rfl ?_
  obtain ⟨k8, hw⟩ := hw
  refine j_lv [2, 1, 0] (lv' := [(0, .ref (B + 0)), (1, .int (σ1 80 2)), (2, .int 0)]) rfl ?_
  exact Lii.snd (P := fun τ w1 w2 => J X 4 B 95 RS 0 0 τ [(0, .ref (B + 0)), (1, .int w1), (2, .int w2)] 28 []) (fun rcc hrcc => tb_X9_greedy_28 hC  hR  hrcc) k8 _ _ _ hw
theorem m_X9_greedy {B : Nat} {σ : SS} {Q : Int32 → SS → Prop} (hw : wp_X9_greedy  σ  Q) : MI yX9_greedy cX9_greedy 4 (some .int) 3 90 B 95 RS [.ref (B + 0)] σ Q := MI.mk (plainFor_of_name (by decide)) (Nat.le_of_ble_eq_true rfl) (fun X hC hR => t_X9_greedy hC  hR hw)
-- FortressWatch.wouldNeed
def wp_X9_wouldNeed  (σ : SS) (p1 : Int32) (Q : Int32 → SS → Prop) : Prop :=
  wp_X9_isHour σ p1 (fun r2 σ1 =>
    ((r2 = 0 →
        Q (-2) σ1) ∧
      (¬ r2 = 0 →
        wp_X6_lookAt 1 σ1 p1 (fun σ3 =>
          wp_X0_trySets σ3 (fun σ4 =>
            (((σ4 82 2) = (-4) →
                Q (-4) σ4) ∧
              (¬ (σ4 82 2) = (-4) →
                wp_J6_bitCount_0f7a4 σ4 (σ4 82 2) (fun r6 σ5 =>
                  Q r6 σ5))))))))
set_option maxRecDepth 100000 in
set_option maxHeartbeats 4000000 in
theorem t_X9_wouldNeed {X : XT} {B : Nat} (hC : Cx X 2 cX9_wouldNeed RX9 (rmN 3 90)) {Q : Int32 → SS → Prop} (hR : RtI X 2 B 95 RS cX9_wouldNeed Q) {σ : SS} {p1 : Int32} (hw : wp_X9_wouldNeed  σ p1 Q) : J X 2 B 95 RS 0 0 σ [(0, .ref (B + 0)), (1, .int p1)] 0 [] := by
  unfold wp_X9_wouldNeed at hw
  refine j_iload_n 0 hC 1 (dg DX9_wouldNeed 0 rfl) rfl rfl ?_
  refine j_Si (As := [.int p1]) 1 hC (m_X9_isHour  hw) kX9_210 (rmN_ok (by decide) (by decide)) rfl rfl (Nat.le_of_ble_eq_true rfl) (dg DX9_wouldNeed 1 rfl) (fun r2 σ1 hw => ?_)
  refine j_if_ne 4 10 hC (dg DX9_wouldNeed 2 rfl) (by decide) (fun hbr => ?_) (fun hbr => ?_)
  · replace hw := hw.2 hbr
    refine j_aload_n 10 hC 0 (dg DX9_wouldNeed 5 rfl) rfl rfl ?_
    refine j_getR 11 hC fX9_32 (k_0) (by decide) (by decide) rfl (dg DX9_wouldNeed 6 rfl) ?_
    refine j_aload_n 14 hC 0 (dg DX9_wouldNeed 7 rfl) rfl rfl ?_
    refine j_getR 15 hC fX9_10 (k_0) (by decide) (by decide) rfl (dg DX9_wouldNeed 8 rfl) ?_
    refine j_iload_n 18 hC 1 (dg DX9_wouldNeed 9 rfl) rfl rfl ?_
    refine j_Vv (As := [.ref (B + 1), .int p1]) 19 hC (m_X6_lookAt isW_1 hw) kX9_137 (k_80) (by decide) ⟨_, _, rfl⟩ (rmN_ok (by decide) (by decide)) rfl rfl (Nat.le_of_ble_eq_true rfl) (dg DX9_wouldNeed 10 rfl) (fun σ3 hw => ?_)
    refine j_aload_n 22 hC 0 (dg DX9_wouldNeed 11 rfl) rfl rfl ?_
    refine j_getR 23 hC fX9_39 (k_0) (by decide) (by decide) rfl (dg DX9_wouldNeed 12 rfl) ?_
    refine j_aload_n 26 hC 0 (dg DX9_wouldNeed 13 rfl) rfl rfl ?_
    refine j_getR 27 hC fX9_32 (k_0) (by decide) (by decide) rfl (dg DX9_wouldNeed 14 rfl) ?_
    refine j_Vv (As := [.ref (B + 80)]) 30 hC (m_X0_trySets  hw) kX9_147 (k_82) (by decide) ⟨_, _, rfl⟩ (rmN_ok (by decide) (by decide)) rfl rfl (Nat.le_of_ble_eq_true rfl) (dg DX9_wouldNeed 15 rfl) (fun σ4 hw => ?_)
    refine j_aload_n 33 hC 0 (dg DX9_wouldNeed 16 rfl) rfl rfl ?_
    refine j_getR 34 hC fX9_39 (k_0) (by decide) (by decide) rfl (dg DX9_wouldNeed 17 rfl) ?_
    refine j_getI 37 hC fX9_193 (k_82) (by decide) (by decide) rfl (dg DX9_wouldNeed 18 rfl) ?_
    refine j_bipush 40 hC (dg DX9_wouldNeed 19 rfl) (v := (-4)) (by decide) ?_
    refine j_icmp_ne 42 50 hC (dg DX9_wouldNeed 20 rfl) (by decide) (fun hbr => ?_) (fun hbr => ?_)
    · replace hw := hw.2 hbr
      refine j_aload_n 50 hC 0 (dg DX9_wouldNeed 23 rfl) rfl rfl ?_
      refine j_getR 51 hC fX9_39 (k_0) (by decide) (by decide) rfl (dg DX9_wouldNeed 24 rfl) ?_
      refine j_getI 54 hC fX9_193 (k_82) (by decide) (by decide) rfl (dg DX9_wouldNeed 25 rfl) ?_
      refine j_Si (As := [.int (σ4 82 2)]) 57 hC (m_J6_bitCount_0f7a4  hw) kX9_166 (rmN_ok (by decide) (by decide)) rfl rfl (Nat.le_of_ble_eq_true rfl) (dg DX9_wouldNeed 26 rfl) (fun r6 σ5 hw => ?_)
      exact hR 60 _ _ _ (dg DX9_wouldNeed 27 rfl) hw
    · replace hw := hw.1 hbr
      refine j_bipush 45 hC (dg DX9_wouldNeed 21 rfl) (v := (-4)) (by decide) ?_
      refine j_goto 47 60 hC (dg DX9_wouldNeed 22 rfl) (by decide) ?_
      exact hR 60 _ _ _ (dg DX9_wouldNeed 27 rfl) hw
  · replace hw := hw.1 hbr
    refine j_bipush 7 hC (dg DX9_wouldNeed 3 rfl) (v := (-2)) (by decide) ?_
    exact hR 9 _ _ _ (dg DX9_wouldNeed 4 rfl) hw
theorem m_X9_wouldNeed {B : Nat} {σ : SS} {p1 : Int32} {Q : Int32 → SS → Prop} (hw : wp_X9_wouldNeed  σ p1 Q) : MI yX9_wouldNeed cX9_wouldNeed 2 (some .int) 3 90 B 95 RS [.ref (B + 0), .int p1] σ Q := MI.mk (plainFor_of_name (by decide)) (Nat.le_of_ble_eq_true rfl) (fun X hC hR => t_X9_wouldNeed hC  hR hw)
-- FortressWatch.wouldTurn
def wp_X9_wouldTurn  (σ : SS) (p1 : Int32) (Q : Int32 → SS → Prop) : Prop :=
  ((p1 < 0 →
      Q (-2) σ) ∧
    (¬ p1 < 0 →
      ((p1 < 24 →
          wp_X6_lookAt 1 σ (σ 1 7) (fun σ1 =>
            wp_X6_seenBySet σ1 (σ1 80 2) (fun r3 σ2 =>
              wp_X9_turned σ2 r3 p1 (fun r5 σ4 =>
                wp_J6_bitCount_0f7a4 σ4 r5 (fun r7 σ6 =>
                  Q r7 σ6))))) ∧
        (¬ p1 < 24 →
          Q (-2) σ))))
set_option maxRecDepth 100000 in
set_option maxHeartbeats 4000000 in
theorem t_X9_wouldTurn {X : XT} {B : Nat} (hC : Cx X 2 cX9_wouldTurn RX9 (rmN 3 90)) {Q : Int32 → SS → Prop} (hR : RtI X 2 B 95 RS cX9_wouldTurn Q) {σ : SS} {p1 : Int32} (hw : wp_X9_wouldTurn  σ p1 Q) : J X 2 B 95 RS 0 0 σ [(0, .ref (B + 0)), (1, .int p1)] 0 [] := by
  unfold wp_X9_wouldTurn at hw
  refine j_iload_n 0 hC 1 (dg DX9_wouldTurn 0 rfl) rfl rfl ?_
  refine j_if_lt 1 10 hC (dg DX9_wouldTurn 1 rfl) (by decide) (fun hbr => ?_) (fun hbr => ?_)
  · replace hw := hw.1 hbr
    refine j_bipush 10 hC (dg DX9_wouldTurn 5 rfl) (v := (-2)) (by decide) ?_
    exact hR 12 _ _ _ (dg DX9_wouldTurn 6 rfl) hw
  · replace hw := hw.2 hbr
    refine j_iload_n 4 hC 1 (dg DX9_wouldTurn 2 rfl) rfl rfl ?_
    refine j_bipush 5 hC (dg DX9_wouldTurn 3 rfl) (v := 24) (by decide) ?_
    refine j_icmp_lt 7 13 hC (dg DX9_wouldTurn 4 rfl) (by decide) (fun hbr => ?_) (fun hbr => ?_)
    · replace hw := hw.1 hbr
      refine j_aload_n 13 hC 0 (dg DX9_wouldTurn 7 rfl) rfl rfl ?_
      refine j_getR 14 hC fX9_32 (k_0) (by decide) (by decide) rfl (dg DX9_wouldTurn 8 rfl) ?_
      refine j_aload_n 17 hC 0 (dg DX9_wouldTurn 9 rfl) rfl rfl ?_
      refine j_getR 18 hC fX9_10 (k_0) (by decide) (by decide) rfl (dg DX9_wouldTurn 10 rfl) ?_
      refine j_aload_n 21 hC 0 (dg DX9_wouldTurn 11 rfl) rfl rfl ?_
      refine j_getR 22 hC fX9_10 (k_0) (by decide) (by decide) rfl (dg DX9_wouldTurn 12 rfl) ?_
      refine j_getI 25 hC fX9_134 (k_1) (by decide) (by decide) rfl (dg DX9_wouldTurn 13 rfl) ?_
      refine j_Vv (As := [.ref (B + 1), .int (σ 1 7)]) 28 hC (m_X6_lookAt isW_1 hw) kX9_137 (k_80) (by decide) ⟨_, _, rfl⟩ (rmN_ok (by decide) (by decide)) rfl rfl (Nat.le_of_ble_eq_true rfl) (dg DX9_wouldTurn 14 rfl) (fun σ1 hw => ?_)
      refine j_aload_n 31 hC 0 (dg DX9_wouldTurn 15 rfl) rfl rfl ?_
      refine j_getR 32 hC fX9_32 (k_0) (by decide) (by decide) rfl (dg DX9_wouldTurn 16 rfl) ?_
      refine j_aload_n 35 hC 0 (dg DX9_wouldTurn 17 rfl) rfl rfl ?_
      refine j_getR 36 hC fX9_32 (k_0) (by decide) (by decide) rfl (dg DX9_wouldTurn 18 rfl) ?_
      refine j_getI 39 hC fX9_163 (k_80) (by decide) (by decide) rfl (dg DX9_wouldTurn 19 rfl) ?_
      refine j_Vi (As := [.int (σ1 80 2)]) 42 hC (m_X6_seenBySet  hw) kX9_171 (k_80) (by decide) ⟨_, _, rfl⟩ (rmN_ok (by decide) (by decide)) rfl rfl (Nat.le_of_ble_eq_true rfl) (dg DX9_wouldTurn 20 rfl) (fun r3 σ2 hw => ?_)
      refine j_iload_n 45 hC 1 (dg DX9_wouldTurn 21 rfl) rfl rfl ?_
      refine j_Si (As := [.int r3, .int p1]) 46 hC (m_X9_turned  hw) kX9_213 (rmN_ok (by decide) (by decide)) rfl rfl (Nat.le_of_ble_eq_true rfl) (dg DX9_wouldTurn 22 rfl) (fun r5 σ4 hw => ?_)
      refine j_Si (As := [.int r5]) 49 hC (m_J6_bitCount_0f7a4  hw) kX9_166 (rmN_ok (by decide) (by decide)) rfl rfl (Nat.le_of_ble_eq_true rfl) (dg DX9_wouldTurn 23 rfl) (fun r7 σ6 hw => ?_)
      exact hR 52 _ _ _ (dg DX9_wouldTurn 24 rfl) hw
    · replace hw := hw.2 hbr
      refine j_bipush 10 hC (dg DX9_wouldTurn 5 rfl) (v := (-2)) (by decide) ?_
      exact hR 12 _ _ _ (dg DX9_wouldTurn 6 rfl) hw
theorem m_X9_wouldTurn {B : Nat} {σ : SS} {p1 : Int32} {Q : Int32 → SS → Prop} (hw : wp_X9_wouldTurn  σ p1 Q) : MI yX9_wouldTurn cX9_wouldTurn 2 (some .int) 3 90 B 95 RS [.ref (B + 0), .int p1] σ Q := MI.mk (plainFor_of_name (by decide)) (Nat.le_of_ble_eq_true rfl) (fun X hC hR => t_X9_wouldTurn hC  hR hw)
-- FortressWatch.keyOf
def wp_X9_keyOf  (σ : SS) (p1 : Int32) (p2 : Int32) (Q : Int32 → SS → Prop) : Prop :=
  ((p1 = 0 →
      wp_X6_manySeen σ p2 (fun r6 σ5 =>
        Q r6 σ5)) ∧
    (¬ p1 = 0 →
      ((p1 = 1 →
          wp_X8_numberOf 1 σ p2 0 (fun r4 σ3 =>
            Q (-r4) σ3)) ∧
        (¬ p1 = 1 →
          wp_X6_manySeenAlone σ p2 (fun r2 σ1 =>
            Q r2 σ1)))))
set_option maxRecDepth 100000 in
set_option maxHeartbeats 4000000 in
theorem t_X9_keyOf {X : XT} {B : Nat} (hC : Cx X 3 cX9_keyOf RX9 (rmN 3 65)) {Q : Int32 → SS → Prop} (hR : RtI X 3 B 95 RS cX9_keyOf Q) {σ : SS} {p1 : Int32} {p2 : Int32} (hw : wp_X9_keyOf  σ p1 p2 Q) : J X 3 B 95 RS 0 0 σ [(0, .ref (B + 0)), (1, .int p1), (2, .int p2)] 0 [] := by
  unfold wp_X9_keyOf at hw
  refine j_iload_n 0 hC 1 (dg DX9_keyOf 0 rfl) rfl rfl ?_
  refine j_if_ne 1 13 hC (dg DX9_keyOf 1 rfl) (by decide) (fun hbr => ?_) (fun hbr => ?_)
  · replace hw := hw.2 hbr
    refine j_iload_n 13 hC 1 (dg DX9_keyOf 7 rfl) rfl rfl ?_
    refine j_iconst 14 hC (dg DX9_keyOf 8 rfl) (v := 1) (by decide) ?_
    refine j_icmp_ne 15 31 hC (dg DX9_keyOf 9 rfl) (by decide) (fun hbr => ?_) (fun hbr => ?_)
    · replace hw := hw.2 hbr
      refine j_aload_n 31 hC 0 (dg DX9_keyOf 17 rfl) rfl rfl ?_
      refine j_getR 32 hC fX9_32 (k_0) (by decide) (by decide) rfl (dg DX9_keyOf 18 rfl) ?_
      refine j_iload_n 35 hC 2 (dg DX9_keyOf 19 rfl) rfl rfl ?_
      refine j_Vi (As := [.int p2]) 36 hC (m_X6_manySeenAlone  hw) kX9_144 (k_80) (by decide) ⟨_, _, rfl⟩ (rmN_ok (by decide) (by decide)) rfl rfl (Nat.le_of_ble_eq_true rfl) (dg DX9_keyOf 20 rfl) (fun r2 σ1 hw => ?_)
      exact hR 39 _ _ _ (dg DX9_keyOf 21 rfl) hw
    · replace hw := hw.1 hbr
      refine j_aload_n 18 hC 0 (dg DX9_keyOf 10 rfl) rfl rfl ?_
      refine j_getR 19 hC fX9_10 (k_0) (by decide) (by decide) rfl (dg DX9_keyOf 11 rfl) ?_
      refine j_iload_n 22 hC 2 (dg DX9_keyOf 12 rfl) rfl rfl ?_
      refine j_iconst 23 hC (dg DX9_keyOf 13 rfl) (v := 0) (by decide) ?_
      refine j_Vi (As := [.int p2, .int 0]) 24 hC (m_X8_numberOf isW_1 hw) kX9_131 (k_1) (by decide) ⟨_, _, rfl⟩ (rmN_ok (by decide) (by decide)) rfl rfl (Nat.le_of_ble_eq_true rfl) (dg DX9_keyOf 14 rfl) (fun r4 σ3 hw => ?_)
      refine j_ineg 27 hC (dg DX9_keyOf 15 rfl) ?_
      refine j_goto 28 39 hC (dg DX9_keyOf 16 rfl) (by decide) ?_
      exact hR 39 _ _ _ (dg DX9_keyOf 21 rfl) hw
  · replace hw := hw.1 hbr
    refine j_aload_n 4 hC 0 (dg DX9_keyOf 2 rfl) rfl rfl ?_
    refine j_getR 5 hC fX9_32 (k_0) (by decide) (by decide) rfl (dg DX9_keyOf 3 rfl) ?_
    refine j_iload_n 8 hC 2 (dg DX9_keyOf 4 rfl) rfl rfl ?_
    refine j_Vi (As := [.int p2]) 9 hC (m_X6_manySeen  hw) kX9_141 (k_80) (by decide) ⟨_, _, rfl⟩ (rmN_ok (by decide) (by decide)) rfl rfl (Nat.le_of_ble_eq_true rfl) (dg DX9_keyOf 5 rfl) (fun r6 σ5 hw => ?_)
    exact hR 12 _ _ _ (dg DX9_keyOf 6 rfl) hw
theorem m_X9_keyOf {B : Nat} {σ : SS} {p1 : Int32} {p2 : Int32} {Q : Int32 → SS → Prop} (hw : wp_X9_keyOf  σ p1 p2 Q) : MI yX9_keyOf cX9_keyOf 3 (some .int) 3 65 B 95 RS [.ref (B + 0), .int p1, .int p2] σ Q := MI.mk (plainFor_of_name (by decide)) (Nat.le_of_ble_eq_true rfl) (fun X hC hR => t_X9_keyOf hC  hR hw)
-- FortressWatch.ranked
def bd_X9_ranked_49    (Q : Int32 → SS → Prop) (l1 : Int32) (l2 : Int32) (rc : SS → Int32 → Prop) (σ : SS) (v3 : Int32) : Prop :=
  ((9 ≤ v3 →
      wp_X3_at σ l2 (σ 1 6) (fun r3 σ2 =>
        Q r3 σ2)) ∧
    (¬ 9 ≤ v3 →
      wp_X9_keyOf σ l1 v3 (fun r5 σ4 =>
        wp_X3_giveKey σ4 v3 r5 (fun σ6 =>
          rc σ6 (v3 + 1)))))
def wp_X9_ranked  (σ : SS) (p1 : Int32) (p2 : Int32) (Q : Int32 → SS → Prop) : Prop :=
  ((p1 < 0 →
      Q (-2) σ) ∧
    (¬ p1 < 0 →
      ((p1 ≤ 2 →
          ((p2 < 0 →
              Q (-1) σ) ∧
            (¬ p2 < 0 →
              ((p2 < (σ 1 6) →
                  wp_X6_lookAt 1 σ (σ 1 7) (fun σ1 =>
                    ∃ k7, Li (bd_X9_ranked_49 Q p1 p2) k7 σ1 0)) ∧
                (¬ p2 < (σ 1 6) →
                  Q (-1) σ))))) ∧
        (¬ p1 ≤ 2 →
          Q (-2) σ))))
set_option maxRecDepth 100000 in
set_option maxHeartbeats 4000000 in
theorem tb_X9_ranked_49 {X : XT} {B : Nat} (hC : Cx X 4 cX9_ranked RX9 (rmN 4 90)) {Q : Int32 → SS → Prop} {l1 : Int32} {l2 : Int32} (hR : RtI X 4 B 95 RS cX9_ranked Q) {rc : SS → Int32 → Prop} (hrc : ∀ (σ : SS) (v3 : Int32), rc σ v3 → J X 4 B 95 RS 0 0 σ [(0, .ref (B + 0)), (1, .int l1), (2, .int l2), (3, .int v3)] 49 []) : ∀ (σ : SS) (v3 : Int32), bd_X9_ranked_49 Q l1 l2 rc σ v3 → J X 4 B 95 RS 0 0 σ [(0, .ref (B + 0)), (1, .int l1), (2, .int l2), (3, .int v3)] 49 [] := by
  intro σ v3 hw
  unfold bd_X9_ranked_49 at hw
  refine j_iload_n 49 hC 3 (dg DX9_ranked 26 rfl) rfl rfl ?_
  refine j_bipush 50 hC (dg DX9_ranked 27 rfl) (v := 9) (by decide) ?_
  refine j_icmp_ge 52 75 hC (dg DX9_ranked 28 rfl) (by decide) (fun hbr => ?_) (fun hbr => ?_)
  · replace hw := hw.1 hbr
    refine j_aload_n 75 hC 0 (dg DX9_ranked 39 rfl) rfl rfl ?_
    refine j_getR 76 hC fX9_53 (k_0) (by decide) (by decide) rfl (dg DX9_ranked 40 rfl) ?_
    refine j_iload_n 79 hC 2 (dg DX9_ranked 41 rfl) rfl rfl ?_
    refine j_aload_n 80 hC 0 (dg DX9_ranked 42 rfl) rfl rfl ?_
    refine j_getR 81 hC fX9_10 (k_0) (by decide) (by decide) rfl (dg DX9_ranked 43 rfl) ?_
    refine j_getI 84 hC fX9_203 (k_1) (by decide) (by decide) rfl (dg DX9_ranked 44 rfl) ?_
    refine j_Vi (As := [.int l2, .int (σ 1 6)]) 87 hC (m_X3_at  hw) kX9_223 (k_88) (by decide) ⟨_, _, rfl⟩ (rmN_ok (by decide) (by decide)) rfl rfl (Nat.le_of_ble_eq_true rfl) (dg DX9_ranked 45 rfl) (fun r3 σ2 hw => ?_)
    exact hR 90 _ _ _ (dg DX9_ranked 46 rfl) hw
  · replace hw := hw.2 hbr
    refine j_aload_n 55 hC 0 (dg DX9_ranked 29 rfl) rfl rfl ?_
    refine j_getR 56 hC fX9_53 (k_0) (by decide) (by decide) rfl (dg DX9_ranked 30 rfl) ?_
    refine j_iload_n 59 hC 3 (dg DX9_ranked 31 rfl) rfl rfl ?_
    refine j_aload_n 60 hC 0 (dg DX9_ranked 32 rfl) rfl rfl ?_
    refine j_iload_n 61 hC 1 (dg DX9_ranked 33 rfl) rfl rfl ?_
    refine j_iload_n 62 hC 3 (dg DX9_ranked 34 rfl) rfl rfl ?_
    refine j_Vi (As := [.int l1, .int v3]) 63 hC (m_X9_keyOf  hw) kX9_216 (k_0) (by decide) ⟨_, _, rfl⟩ (rmN_ok (by decide) (by decide)) rfl rfl (Nat.le_of_ble_eq_true rfl) (dg DX9_ranked 35 rfl) (fun r5 σ4 hw => ?_)
    refine j_Vv (As := [.int v3, .int r5]) 66 hC (m_X3_giveKey  hw) kX9_219 (k_88) (by decide) ⟨_, _, rfl⟩ (rmN_ok (by decide) (by decide)) rfl rfl (Nat.le_of_ble_eq_true rfl) (dg DX9_ranked 36 rfl) (fun σ6 hw => ?_)
    refine j_iinc 69 hC 3 (v3 + 1) [(3, .int (v3 + 1)), (0, .ref (B + 0)), (1, .int l1), (2, .int l2)] (dg DX9_ranked 37 rfl) rfl rfl (by decide) rfl ?_
    refine j_goto 72 49 hC (dg DX9_ranked 38 rfl) (by decide) ?_
    refine j_lv [1, 2, 3, 0] (lv' := [(0, .ref (B + 0)), (1, .int l1), (2, .int l2), (3, .int (v3 + 1))]) rfl ?_
    exact hrc _ _ hw
set_option maxRecDepth 100000 in
set_option maxHeartbeats 4000000 in
theorem t_X9_ranked {X : XT} {B : Nat} (hC : Cx X 4 cX9_ranked RX9 (rmN 4 90)) {Q : Int32 → SS → Prop} (hR : RtI X 4 B 95 RS cX9_ranked Q) {σ : SS} {p1 : Int32} {p2 : Int32} (hw : wp_X9_ranked  σ p1 p2 Q) : J X 4 B 95 RS 0 0 σ [(0, .ref (B + 0)), (1, .int p1), (2, .int p2)] 0 [] := by
  unfold wp_X9_ranked at hw
  refine j_iload_n 0 hC 1 (dg DX9_ranked 0 rfl) rfl rfl ?_
  refine j_if_lt 1 9 hC (dg DX9_ranked 1 rfl) (by decide) (fun hbr => ?_) (fun hbr => ?_)
  · replace hw := hw.1 hbr
    refine j_bipush 9 hC (dg DX9_ranked 5 rfl) (v := (-2)) (by decide) ?_
    exact hR 11 _ _ _ (dg DX9_ranked 6 rfl) hw
  · replace hw := hw.2 hbr
    refine j_iload_n 4 hC 1 (dg DX9_ranked 2 rfl) rfl rfl ?_
    refine j_iconst 5 hC (dg DX9_ranked 3 rfl) (v := 2) (by decide) ?_
    refine j_icmp_le 6 12 hC (dg DX9_ranked 4 rfl) (by decide) (fun hbr => ?_) (fun hbr => ?_)
    · replace hw := hw.1 hbr
      refine j_iload_n 12 hC 2 (dg DX9_ranked 7 rfl) rfl rfl ?_
      refine j_if_lt 13 27 hC (dg DX9_ranked 8 rfl) (by decide) (fun hbr => ?_) (fun hbr => ?_)
      · replace hw := hw.1 hbr
        refine j_iconst 27 hC (dg DX9_ranked 14 rfl) (v := (-1)) (by decide) ?_
        exact hR 28 _ _ _ (dg DX9_ranked 15 rfl) hw
      · replace hw := hw.2 hbr
        refine j_iload_n 16 hC 2 (dg DX9_ranked 9 rfl) rfl rfl ?_
        refine j_aload_n 17 hC 0 (dg DX9_ranked 10 rfl) rfl rfl ?_
        refine j_getR 18 hC fX9_10 (k_0) (by decide) (by decide) rfl (dg DX9_ranked 11 rfl) ?_
        refine j_getI 21 hC fX9_203 (k_1) (by decide) (by decide) rfl (dg DX9_ranked 12 rfl) ?_
        refine j_icmp_lt 24 29 hC (dg DX9_ranked 13 rfl) (by decide) (fun hbr => ?_) (fun hbr => ?_)
        · replace hw := hw.1 hbr
          refine j_aload_n 29 hC 0 (dg DX9_ranked 16 rfl) rfl rfl ?_
          refine j_getR 30 hC fX9_32 (k_0) (by decide) (by decide) rfl (dg DX9_ranked 17 rfl) ?_
          refine j_aload_n 33 hC 0 (dg DX9_ranked 18 rfl) rfl rfl ?_
          refine j_getR 34 hC fX9_10 (k_0) (by decide) (by decide) rfl (dg DX9_ranked 19 rfl) ?_
          refine j_aload_n 37 hC 0 (dg DX9_ranked 20 rfl) rfl rfl ?_
          refine j_getR 38 hC fX9_10 (k_0) (by decide) (by decide) rfl (dg DX9_ranked 21 rfl) ?_
          refine j_getI 41 hC fX9_134 (k_1) (by decide) (by decide) rfl (dg DX9_ranked 22 rfl) ?_
          refine j_Vv (As := [.ref (B + 1), .int (σ 1 7)]) 44 hC (m_X6_lookAt isW_1 hw) kX9_137 (k_80) (by decide) ⟨_, _, rfl⟩ (rmN_ok (by decide) (by decide)) rfl rfl (Nat.le_of_ble_eq_true rfl) (dg DX9_ranked 23 rfl) (fun σ1 hw => ?_)
          refine j_iconst 47 hC (dg DX9_ranked 24 rfl) (v := 0) (by decide) ?_
          refine j_istore_n 48 hC [(3, .int 0), (0, .ref (B + 0)), (1, .int p1), (2, .int p2)] (dg DX9_ranked 25 rfl) rfl (by decide) rfl ?_
          obtain ⟨k7, hw⟩ := hw
          refine j_lv [1, 2, 3, 0] (lv' := [(0, .ref (B + 0)), (1, .int p1), (2, .int p2), (3, .int 0)]) rfl ?_
          exact Li.snd (P := fun τ w3 => J X 4 B 95 RS 0 0 τ [(0, .ref (B + 0)), (1, .int p1), (2, .int p2), (3, .int w3)] 49 []) (fun rcc hrcc => tb_X9_ranked_49 hC  hR  hrcc) k7 _ _ hw
        · replace hw := hw.2 hbr
          refine j_iconst 27 hC (dg DX9_ranked 14 rfl) (v := (-1)) (by decide) ?_
          exact hR 28 _ _ _ (dg DX9_ranked 15 rfl) hw
    · replace hw := hw.2 hbr
      refine j_bipush 9 hC (dg DX9_ranked 5 rfl) (v := (-2)) (by decide) ?_
      exact hR 11 _ _ _ (dg DX9_ranked 6 rfl) hw
theorem m_X9_ranked {B : Nat} {σ : SS} {p1 : Int32} {p2 : Int32} {Q : Int32 → SS → Prop} (hw : wp_X9_ranked  σ p1 p2 Q) : MI yX9_ranked cX9_ranked 4 (some .int) 4 90 B 95 RS [.ref (B + 0), .int p1, .int p2] σ Q := MI.mk (plainFor_of_name (by decide)) (Nat.le_of_ble_eq_true rfl) (fun X hC hR => t_X9_ranked hC  hR hw)
-- FortressWatch.append
def wp_X9_append  (σ : SS) (p1 : Int32) (Q : Int32 → SS → Prop) : Prop :=
  ((p1 < 32 →
      Q (-2) σ) ∧
    (¬ p1 < 32 →
      ((p1 ≤ 126 →
          wp_X7_put σ p1 (fun r2 σ1 =>
            Q r2 σ1)) ∧
        (¬ p1 ≤ 126 →
          Q (-2) σ))))
set_option maxRecDepth 100000 in
set_option maxHeartbeats 4000000 in
theorem t_X9_append {X : XT} {B : Nat} (hC : Cx X 2 cX9_append RX9 (rmN 1 21)) {Q : Int32 → SS → Prop} (hR : RtI X 2 B 95 RS cX9_append Q) {σ : SS} {p1 : Int32} (hw : wp_X9_append  σ p1 Q) : J X 2 B 95 RS 0 0 σ [(0, .ref (B + 0)), (1, .int p1)] 0 [] := by
  unfold wp_X9_append at hw
  refine j_iload_n 0 hC 1 (dg DX9_append 0 rfl) rfl rfl ?_
  refine j_bipush 1 hC (dg DX9_append 1 rfl) (v := 32) (by decide) ?_
  refine j_icmp_lt 3 12 hC (dg DX9_append 2 rfl) (by decide) (fun hbr => ?_) (fun hbr => ?_)
  · replace hw := hw.1 hbr
    refine j_bipush 12 hC (dg DX9_append 6 rfl) (v := (-2)) (by decide) ?_
    exact hR 14 _ _ _ (dg DX9_append 7 rfl) hw
  · replace hw := hw.2 hbr
    refine j_iload_n 6 hC 1 (dg DX9_append 3 rfl) rfl rfl ?_
    refine j_bipush 7 hC (dg DX9_append 4 rfl) (v := 126) (by decide) ?_
    refine j_icmp_le 9 15 hC (dg DX9_append 5 rfl) (by decide) (fun hbr => ?_) (fun hbr => ?_)
    · replace hw := hw.1 hbr
      refine j_aload_n 15 hC 0 (dg DX9_append 8 rfl) rfl rfl ?_
      refine j_getR 16 hC fX9_60 (k_0) (by decide) (by decide) rfl (dg DX9_append 9 rfl) ?_
      refine j_iload_n 19 hC 1 (dg DX9_append 10 rfl) rfl rfl ?_
      refine j_Vi (As := [.int p1]) 20 hC (m_X7_put  hw) kX9_247 (k_90) (by decide) ⟨_, _, rfl⟩ (rmN_ok (by decide) (by decide)) rfl rfl (Nat.le_of_ble_eq_true rfl) (dg DX9_append 11 rfl) (fun r2 σ1 hw => ?_)
      exact hR 23 _ _ _ (dg DX9_append 12 rfl) hw
    · replace hw := hw.2 hbr
      refine j_bipush 12 hC (dg DX9_append 6 rfl) (v := (-2)) (by decide) ?_
      exact hR 14 _ _ _ (dg DX9_append 7 rfl) hw
theorem m_X9_append {B : Nat} {σ : SS} {p1 : Int32} {Q : Int32 → SS → Prop} (hw : wp_X9_append  σ p1 Q) : MI yX9_append cX9_append 2 (some .int) 1 21 B 95 RS [.ref (B + 0), .int p1] σ Q := MI.mk (plainFor_of_name (by decide)) (Nat.le_of_ble_eq_true rfl) (fun X hC hR => t_X9_append hC  hR hw)
-- FortressWatch.carryOut
def wp_X9_carryOut  (σ : SS)  (Q : Int32 → SS → Prop) : Prop :=
  (((σ 90 3) = 45 →
      wp_X9_tearDown σ (σ 90 4) (fun r2 σ1 =>
        Q r2 σ1)) ∧
    (¬ (σ 90 3) = 45 →
      (((σ 90 3) = 98 →
          wp_X9_tellBlindAngle σ (σ 90 4) (σ 90 5) (σ 90 6) (fun r4 σ3 =>
            Q r4 σ3)) ∧
        (¬ (σ 90 3) = 98 →
          (((σ 90 3) = 104 →
              wp_X9_tellHour σ (σ 90 4) (fun r6 σ5 =>
                Q r6 σ5)) ∧
            (¬ (σ 90 3) = 104 →
              (((σ 90 3) = 108 →
                  wp_X9_letBeManned σ (σ 90 4) 0 (fun r8 σ7 =>
                    Q r8 σ7)) ∧
                (¬ (σ 90 3) = 108 →
                  (((σ 90 3) = 109 →
                      wp_X9_letBeManned σ (σ 90 4) 1 (fun r10 σ9 =>
                        Q r10 σ9)) ∧
                    (¬ (σ 90 3) = 109 →
                      (((σ 90 3) = 110 →
                          wp_X9_dropBlindAngle σ (σ 90 4) (fun r12 σ11 =>
                            Q r12 σ11)) ∧
                        (¬ (σ 90 3) = 110 →
                          (((σ 90 3) = 112 →
                              wp_X9_buildPost σ (σ 90 4) (σ 90 5) (σ 90 6) (fun r14 σ13 =>
                                Q r14 σ13)) ∧
                            (¬ (σ 90 3) = 112 →
                              (((σ 90 3) = 114 →
                                  wp_X9_tellReaches σ (σ 90 4) (σ 90 5) (σ 90 6) (fun r16 σ15 =>
                                    Q r16 σ15)) ∧
                                (¬ (σ 90 3) = 114 →
                                  (((σ 90 3) = 119 →
                                      wp_X9_manFewest σ (fun r18 σ17 =>
                                        Q r18 σ17)) ∧
                                    (¬ (σ 90 3) = 119 →
                                      Q (-2) σ))))))))))))))))))
set_option maxRecDepth 100000 in
set_option maxHeartbeats 4000000 in
theorem t_X9_carryOut {X : XT} {B : Nat} (hC : Cx X 1 cX9_carryOut RX9 (rmN 4 110)) {Q : Int32 → SS → Prop} (hR : RtI X 1 B 95 RS cX9_carryOut Q) {σ : SS} (hw : wp_X9_carryOut  σ  Q) : J X 1 B 95 RS 0 0 σ [(0, .ref (B + 0))] 0 [] := by
  unfold wp_X9_carryOut at hw
  refine j_aload_n 0 hC 0 (dg DX9_carryOut 0 rfl) rfl rfl ?_
  refine j_getR 1 hC fX9_60 (k_0) (by decide) (by decide) rfl (dg DX9_carryOut 1 rfl) ?_
  refine j_getI 4 hC fX9_342 (k_90) (by decide) (by decide) rfl (dg DX9_carryOut 2 rfl) ?_
  by_cases n45 : (σ 90 3) = 45
  · replace hw := hw.1 n45
    refine j_lookup 7 114 (off := 107) hC (dg DX9_carryOut 3 rfl) (by decide) (by rw [n45]; rfl) (by decide) ?_
    refine j_aload_n 114 hC 0 (dg DX9_carryOut 16 rfl) rfl rfl ?_
    refine j_aload_n 115 hC 0 (dg DX9_carryOut 17 rfl) rfl rfl ?_
    refine j_getR 116 hC fX9_60 (k_0) (by decide) (by decide) rfl (dg DX9_carryOut 18 rfl) ?_
    refine j_getI 119 hC fX9_345 (k_90) (by decide) (by decide) rfl (dg DX9_carryOut 19 rfl) ?_
    refine j_Vi (As := [.int (σ 90 4)]) 122 hC (m_X9_tearDown  hw) kX9_98 (k_0) (by decide) ⟨_, _, rfl⟩ (rmN_ok (by decide) (by decide)) rfl rfl (Nat.le_of_ble_eq_true rfl) (dg DX9_carryOut 20 rfl) (fun r2 σ1 hw => ?_)
    exact hR 125 _ _ _ (dg DX9_carryOut 21 rfl) hw
  replace hw := hw.2 n45
  by_cases n98 : (σ 90 3) = 98
  · replace hw := hw.1 n98
    refine j_lookup 7 152 (off := 145) hC (dg DX9_carryOut 3 rfl) (by decide) (by rw [n98]; rfl) (by decide) ?_
    refine j_aload_n 152 hC 0 (dg DX9_carryOut 34 rfl) rfl rfl ?_
    refine j_aload_n 153 hC 0 (dg DX9_carryOut 35 rfl) rfl rfl ?_
    refine j_getR 154 hC fX9_60 (k_0) (by decide) (by decide) rfl (dg DX9_carryOut 36 rfl) ?_
    refine j_getI 157 hC fX9_345 (k_90) (by decide) (by decide) rfl (dg DX9_carryOut 37 rfl) ?_
    refine j_aload_n 160 hC 0 (dg DX9_carryOut 38 rfl) rfl rfl ?_
    refine j_getR 161 hC fX9_60 (k_0) (by decide) (by decide) rfl (dg DX9_carryOut 39 rfl) ?_
    refine j_getI 164 hC fX9_348 (k_90) (by decide) (by decide) rfl (dg DX9_carryOut 40 rfl) ?_
    refine j_aload_n 167 hC 0 (dg DX9_carryOut 41 rfl) rfl rfl ?_
    refine j_getR 168 hC fX9_60 (k_0) (by decide) (by decide) rfl (dg DX9_carryOut 42 rfl) ?_
    refine j_getI 171 hC fX9_351 (k_90) (by decide) (by decide) rfl (dg DX9_carryOut 43 rfl) ?_
    refine j_Vi (As := [.int (σ 90 4), .int (σ 90 5), .int (σ 90 6)]) 174 hC (m_X9_tellBlindAngle  hw) kX9_104 (k_0) (by decide) ⟨_, _, rfl⟩ (rmN_ok (by decide) (by decide)) rfl rfl (Nat.le_of_ble_eq_true rfl) (dg DX9_carryOut 44 rfl) (fun r4 σ3 hw => ?_)
    exact hR 177 _ _ _ (dg DX9_carryOut 45 rfl) hw
  replace hw := hw.2 n98
  by_cases n104 : (σ 90 3) = 104
  · replace hw := hw.1 n104
    refine j_lookup 7 216 (off := 209) hC (dg DX9_carryOut 3 rfl) (by decide) (by rw [n104]; rfl) (by decide) ?_
    refine j_aload_n 216 hC 0 (dg DX9_carryOut 66 rfl) rfl rfl ?_
    refine j_aload_n 217 hC 0 (dg DX9_carryOut 67 rfl) rfl rfl ?_
    refine j_getR 218 hC fX9_60 (k_0) (by decide) (by decide) rfl (dg DX9_carryOut 68 rfl) ?_
    refine j_getI 221 hC fX9_345 (k_90) (by decide) (by decide) rfl (dg DX9_carryOut 69 rfl) ?_
    refine j_Vi (As := [.int (σ 90 4)]) 224 hC (m_X9_tellHour  hw) kX9_121 (k_0) (by decide) ⟨_, _, rfl⟩ (rmN_ok (by decide) (by decide)) rfl rfl (Nat.le_of_ble_eq_true rfl) (dg DX9_carryOut 70 rfl) (fun r6 σ5 hw => ?_)
    exact hR 227 _ _ _ (dg DX9_carryOut 71 rfl) hw
  replace hw := hw.2 n104
  by_cases n108 : (σ 90 3) = 108
  · replace hw := hw.1 n108
    refine j_lookup 7 203 (off := 196) hC (dg DX9_carryOut 3 rfl) (by decide) (by rw [n108]; rfl) (by decide) ?_
    refine j_aload_n 203 hC 0 (dg DX9_carryOut 59 rfl) rfl rfl ?_
    refine j_aload_n 204 hC 0 (dg DX9_carryOut 60 rfl) rfl rfl ?_
    refine j_getR 205 hC fX9_60 (k_0) (by decide) (by decide) rfl (dg DX9_carryOut 61 rfl) ?_
    refine j_getI 208 hC fX9_345 (k_90) (by decide) (by decide) rfl (dg DX9_carryOut 62 rfl) ?_
    refine j_iconst 211 hC (dg DX9_carryOut 63 rfl) (v := 0) (by decide) ?_
    refine j_Vi (As := [.int (σ 90 4), .int 0]) 212 hC (m_X9_letBeManned  hw) kX9_113 (k_0) (by decide) ⟨_, _, rfl⟩ (rmN_ok (by decide) (by decide)) rfl rfl (Nat.le_of_ble_eq_true rfl) (dg DX9_carryOut 64 rfl) (fun r8 σ7 hw => ?_)
    exact hR 215 _ _ _ (dg DX9_carryOut 65 rfl) hw
  replace hw := hw.2 n108
  by_cases n109 : (σ 90 3) = 109
  · replace hw := hw.1 n109
    refine j_lookup 7 190 (off := 183) hC (dg DX9_carryOut 3 rfl) (by decide) (by rw [n109]; rfl) (by decide) ?_
    refine j_aload_n 190 hC 0 (dg DX9_carryOut 52 rfl) rfl rfl ?_
    refine j_aload_n 191 hC 0 (dg DX9_carryOut 53 rfl) rfl rfl ?_
    refine j_getR 192 hC fX9_60 (k_0) (by decide) (by decide) rfl (dg DX9_carryOut 54 rfl) ?_
    refine j_getI 195 hC fX9_345 (k_90) (by decide) (by decide) rfl (dg DX9_carryOut 55 rfl) ?_
    refine j_iconst 198 hC (dg DX9_carryOut 56 rfl) (v := 1) (by decide) ?_
    refine j_Vi (As := [.int (σ 90 4), .int 1]) 199 hC (m_X9_letBeManned  hw) kX9_113 (k_0) (by decide) ⟨_, _, rfl⟩ (rmN_ok (by decide) (by decide)) rfl rfl (Nat.le_of_ble_eq_true rfl) (dg DX9_carryOut 57 rfl) (fun r10 σ9 hw => ?_)
    exact hR 202 _ _ _ (dg DX9_carryOut 58 rfl) hw
  replace hw := hw.2 n109
  by_cases n110 : (σ 90 3) = 110
  · replace hw := hw.1 n110
    refine j_lookup 7 178 (off := 171) hC (dg DX9_carryOut 3 rfl) (by decide) (by rw [n110]; rfl) (by decide) ?_
    refine j_aload_n 178 hC 0 (dg DX9_carryOut 46 rfl) rfl rfl ?_
    refine j_aload_n 179 hC 0 (dg DX9_carryOut 47 rfl) rfl rfl ?_
    refine j_getR 180 hC fX9_60 (k_0) (by decide) (by decide) rfl (dg DX9_carryOut 48 rfl) ?_
    refine j_getI 183 hC fX9_345 (k_90) (by decide) (by decide) rfl (dg DX9_carryOut 49 rfl) ?_
    refine j_Vi (As := [.int (σ 90 4)]) 186 hC (m_X9_dropBlindAngle  hw) kX9_110 (k_0) (by decide) ⟨_, _, rfl⟩ (rmN_ok (by decide) (by decide)) rfl rfl (Nat.le_of_ble_eq_true rfl) (dg DX9_carryOut 50 rfl) (fun r12 σ11 hw => ?_)
    exact hR 189 _ _ _ (dg DX9_carryOut 51 rfl) hw
  replace hw := hw.2 n110
  by_cases n112 : (σ 90 3) = 112
  · replace hw := hw.1 n112
    refine j_lookup 7 88 (off := 81) hC (dg DX9_carryOut 3 rfl) (by decide) (by rw [n112]; rfl) (by decide) ?_
    refine j_aload_n 88 hC 0 (dg DX9_carryOut 4 rfl) rfl rfl ?_
    refine j_aload_n 89 hC 0 (dg DX9_carryOut 5 rfl) rfl rfl ?_
    refine j_getR 90 hC fX9_60 (k_0) (by decide) (by decide) rfl (dg DX9_carryOut 6 rfl) ?_
    refine j_getI 93 hC fX9_345 (k_90) (by decide) (by decide) rfl (dg DX9_carryOut 7 rfl) ?_
    refine j_aload_n 96 hC 0 (dg DX9_carryOut 8 rfl) rfl rfl ?_
    refine j_getR 97 hC fX9_60 (k_0) (by decide) (by decide) rfl (dg DX9_carryOut 9 rfl) ?_
    refine j_getI 100 hC fX9_348 (k_90) (by decide) (by decide) rfl (dg DX9_carryOut 10 rfl) ?_
    refine j_aload_n 103 hC 0 (dg DX9_carryOut 11 rfl) rfl rfl ?_
    refine j_getR 104 hC fX9_60 (k_0) (by decide) (by decide) rfl (dg DX9_carryOut 12 rfl) ?_
    refine j_getI 107 hC fX9_351 (k_90) (by decide) (by decide) rfl (dg DX9_carryOut 13 rfl) ?_
    refine j_Vi (As := [.int (σ 90 4), .int (σ 90 5), .int (σ 90 6)]) 110 hC (m_X9_buildPost  hw) kX9_90 (k_0) (by decide) ⟨_, _, rfl⟩ (rmN_ok (by decide) (by decide)) rfl rfl (Nat.le_of_ble_eq_true rfl) (dg DX9_carryOut 14 rfl) (fun r14 σ13 hw => ?_)
    exact hR 113 _ _ _ (dg DX9_carryOut 15 rfl) hw
  replace hw := hw.2 n112
  by_cases n114 : (σ 90 3) = 114
  · replace hw := hw.1 n114
    refine j_lookup 7 126 (off := 119) hC (dg DX9_carryOut 3 rfl) (by decide) (by rw [n114]; rfl) (by decide) ?_
    refine j_aload_n 126 hC 0 (dg DX9_carryOut 22 rfl) rfl rfl ?_
    refine j_aload_n 127 hC 0 (dg DX9_carryOut 23 rfl) rfl rfl ?_
    refine j_getR 128 hC fX9_60 (k_0) (by decide) (by decide) rfl (dg DX9_carryOut 24 rfl) ?_
    refine j_getI 131 hC fX9_345 (k_90) (by decide) (by decide) rfl (dg DX9_carryOut 25 rfl) ?_
    refine j_aload_n 134 hC 0 (dg DX9_carryOut 26 rfl) rfl rfl ?_
    refine j_getR 135 hC fX9_60 (k_0) (by decide) (by decide) rfl (dg DX9_carryOut 27 rfl) ?_
    refine j_getI 138 hC fX9_348 (k_90) (by decide) (by decide) rfl (dg DX9_carryOut 28 rfl) ?_
    refine j_aload_n 141 hC 0 (dg DX9_carryOut 29 rfl) rfl rfl ?_
    refine j_getR 142 hC fX9_60 (k_0) (by decide) (by decide) rfl (dg DX9_carryOut 30 rfl) ?_
    refine j_getI 145 hC fX9_351 (k_90) (by decide) (by decide) rfl (dg DX9_carryOut 31 rfl) ?_
    refine j_Vi (As := [.int (σ 90 4), .int (σ 90 5), .int (σ 90 6)]) 148 hC (m_X9_tellReaches  hw) kX9_101 (k_0) (by decide) ⟨_, _, rfl⟩ (rmN_ok (by decide) (by decide)) rfl rfl (Nat.le_of_ble_eq_true rfl) (dg DX9_carryOut 32 rfl) (fun r16 σ15 hw => ?_)
    exact hR 151 _ _ _ (dg DX9_carryOut 33 rfl) hw
  replace hw := hw.2 n114
  by_cases n119 : (σ 90 3) = 119
  · replace hw := hw.1 n119
    refine j_lookup 7 228 (off := 221) hC (dg DX9_carryOut 3 rfl) (by decide) (by rw [n119]; rfl) (by decide) ?_
    refine j_aload_n 228 hC 0 (dg DX9_carryOut 72 rfl) rfl rfl ?_
    refine j_Vi (As := []) 229 hC (m_X9_manFewest  hw) kX9_124 (k_0) (by decide) ⟨_, _, rfl⟩ (rmN_ok (by decide) (by decide)) rfl rfl (Nat.le_of_ble_eq_true rfl) (dg DX9_carryOut 73 rfl) (fun r18 σ17 hw => ?_)
    exact hR 232 _ _ _ (dg DX9_carryOut 74 rfl) hw
  replace hw := hw.2 n119
  have q45 : ((σ 90 3)).toInt ≠ 45 := i32_ne n45
  have q98 : ((σ 90 3)).toInt ≠ 98 := i32_ne n98
  have q104 : ((σ 90 3)).toInt ≠ 104 := i32_ne n104
  have q108 : ((σ 90 3)).toInt ≠ 108 := i32_ne n108
  have q109 : ((σ 90 3)).toInt ≠ 109 := i32_ne n109
  have q110 : ((σ 90 3)).toInt ≠ 110 := i32_ne n110
  have q112 : ((σ 90 3)).toInt ≠ 112 := i32_ne n112
  have q114 : ((σ 90 3)).toInt ≠ 114 := i32_ne n114
  have q119 : ((σ 90 3)).toInt ≠ 119 := i32_ne n119
  refine j_lookup 7 233 (off := 226) hC (dg DX9_carryOut 3 rfl) (by decide) (by simp only [Op.lookupswitch.offset, List.find?]; simp [q45, Ne.symm q45, q98, Ne.symm q98, q104, Ne.symm q104, q108, Ne.symm q108, q109, Ne.symm q109, q110, Ne.symm q110, q112, Ne.symm q112, q114, Ne.symm q114, q119, Ne.symm q119]) (by decide) ?_
  refine j_bipush 233 hC (dg DX9_carryOut 75 rfl) (v := (-2)) (by decide) ?_
  exact hR 235 _ _ _ (dg DX9_carryOut 76 rfl) hw
theorem m_X9_carryOut {B : Nat} {σ : SS} {Q : Int32 → SS → Prop} (hw : wp_X9_carryOut  σ  Q) : MI yX9_carryOut cX9_carryOut 1 (some .int) 4 110 B 95 RS [.ref (B + 0)] σ Q := MI.mk (plainFor_of_name (by decide)) (Nat.le_of_ble_eq_true rfl) (fun X hC hR => t_X9_carryOut hC  hR hw)
