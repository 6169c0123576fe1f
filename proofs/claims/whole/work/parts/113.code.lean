-- FortressWatchModel.next
def wp_X10_next  (σ : SS)  (Q : Int32 → SS → Prop) : Prop :=
  wp_X10_mannedSet σ (fun r2 σ1 =>
    wp_X10_nextTo σ1 r2 (fun r4 σ3 =>
      Q r4 σ3))
set_option maxRecDepth 100000 in
set_option maxHeartbeats 4000000 in
theorem t_X10_next {X : XT} {B : Nat} (hC : Cx X 1 cX10_next RX10 (rmN 5 119)) {Q : Int32 → SS → Prop} (hR : RtI X 1 B 103 RS cX10_next Q) {σ : SS} (hw : wp_X10_next  σ  Q) : J X 1 B 103 RS 0 0 σ [(0, .ref (B + 95))] 0 [] := by
  unfold wp_X10_next at hw
  refine j_aload_n 0 hC 0 (dg DX10_next 0 rfl) rfl rfl ?_
  refine j_aload_n 1 hC 0 (dg DX10_next 1 rfl) rfl rfl ?_
  refine j_Vi (As := []) 2 hC (m_X10_mannedSet  hw) kX10_128 (k_95) (by decide) ⟨_, _, rfl⟩ (rmN_ok (by decide) (by decide)) rfl rfl (Nat.le_of_ble_eq_true rfl) (dg DX10_next 2 rfl) (fun r2 σ1 hw => ?_)
  refine j_Vi (As := [.int r2]) 5 hC (m_X10_nextTo  hw) kX10_157 (k_95) (by decide) ⟨_, _, rfl⟩ (rmN_ok (by decide) (by decide)) rfl rfl (Nat.le_of_ble_eq_true rfl) (dg DX10_next 3 rfl) (fun r4 σ3 hw => ?_)
  exact hR 8 _ _ _ (dg DX10_next 4 rfl) hw
theorem m_X10_next {B : Nat} {σ : SS} {Q : Int32 → SS → Prop} (hw : wp_X10_next  σ  Q) : MI yX10_next cX10_next 1 (some .int) 5 119 B 103 RS [.ref (B + 95)] σ Q := MI.mk (plainFor_of_name (by decide)) (Nat.le_of_ble_eq_true rfl) (fun X hC hR => t_X10_next hC  hR hw)
-- FortressWatchModel.greedy
def bd_X10_greedy_11    (Q : Int32 → SS → Prop)  (rc : SS → Int32 → Int32 → Prop) (σ : SS) (v1 : Int32) (v2 : Int32) : Prop :=
  ((v2 = (-4) →
      wp_X10_bits σ v1 (fun r6 σ5 =>
        Q r6 σ5)) ∧
    (¬ v2 = (-4) →
      wp_X10_nextTo σ (v1 ||| ((1 : Int32) <<< (v2 &&& 31))) (fun r8 σ7 =>
        rc σ7 (v1 ||| ((1 : Int32) <<< (v2 &&& 31))) r8)))
def wp_X10_greedy  (σ : SS)  (Q : Int32 → SS → Prop) : Prop :=
  wp_X10_mannedSet σ (fun r2 σ1 =>
    wp_X10_nextTo σ1 r2 (fun r4 σ3 =>
      ∃ k9, Lii (bd_X10_greedy_11 Q) k9 σ3 r2 r4))
set_option maxRecDepth 100000 in
set_option maxHeartbeats 4000000 in
theorem tb_X10_greedy_11 {X : XT} {B : Nat} (hC : Cx X 3 cX10_greedy RX10 (rmN 5 119)) {Q : Int32 → SS → Prop} (hR : RtI X 3 B 103 RS cX10_greedy Q) {rc : SS → Int32 → Int32 → Prop} (hrc : ∀ (σ : SS) (v1 : Int32) (v2 : Int32), rc σ v1 v2 → J X 3 B 103 RS 0 0 σ [(0, .ref (B + 95)), (1, .int v1), (2, .int v2)] 11 []) : ∀ (σ : SS) (v1 : Int32) (v2 : Int32), bd_X10_greedy_11 Q rc σ v1 v2 → J X 3 B 103 RS 0 0 σ [(0, .ref (B + 95)), (1, .int v1), (2, .int v2)] 11 [] := by
  intro σ v1 v2 hw
  unfold bd_X10_greedy_11 at hw
  refine j_iload_n 11 hC 2 (dg DX10_greedy 7 rfl) rfl rfl ?_
  refine j_bipush 12 hC (dg DX10_greedy 8 rfl) (v := (-4)) (by decide) ?_
  refine j_icmp_eq 14 32 hC (dg DX10_greedy 9 rfl) (by decide) (fun hbr => ?_) (fun hbr => ?_)
  · replace hw := hw.1 hbr
    refine j_iload_n 32 hC 1 (dg DX10_greedy 21 rfl) rfl rfl ?_
    refine j_Si (As := [.int v1]) 33 hC (m_X10_bits  hw) kX10_119 (rmN_ok (by decide) (by decide)) rfl rfl (Nat.le_of_ble_eq_true rfl) (dg DX10_greedy 22 rfl) (fun r6 σ5 hw => ?_)
    exact hR 36 _ _ _ (dg DX10_greedy 23 rfl) hw
  · replace hw := hw.2 hbr
    refine j_iload_n 17 hC 1 (dg DX10_greedy 10 rfl) rfl rfl ?_
    refine j_iconst 18 hC (dg DX10_greedy 11 rfl) (v := 1) (by decide) ?_
    refine j_iload_n 19 hC 2 (dg DX10_greedy 12 rfl) rfl rfl ?_
    refine j_ishl 20 hC (dg DX10_greedy 13 rfl) ?_
    refine j_ior 21 hC (dg DX10_greedy 14 rfl) ?_
    refine j_istore_n 22 hC [(1, .int (v1 ||| ((1 : Int32) <<< (v2 &&& 31)))), (0, .ref (B + 95)), (2, .int v2)] (dg DX10_greedy 15 rfl) rfl (by decide) rfl ?_
    refine j_aload_n 23 hC 1 (dg DX10_greedy 16 rfl) rfl rfl ?_
    refine j_iload_n 24 hC 0 (dg DX10_greedy 17 rfl) rfl rfl ?_
    refine j_Vi (As := [.int (v1 ||| ((1 : Int32) <<< (v2 &&& 31)))]) 25 hC (m_X10_nextTo  hw) kX10_157 (k_95) (by decide) ⟨_, _, rfl⟩ (rmN_ok (by decide) (by decide)) rfl rfl (Nat.le_of_ble_eq_true rfl) (dg DX10_greedy 18 rfl) (fun r8 σ7 hw => ?_)
    refine j_istore_n 28 hC [(2, .int r8), (1, .int (v1 ||| ((1 : Int32) <<< (v2 &&& 31)))), (0, .ref (B + 95))] (dg DX10_greedy 19 rfl) rfl (by decide) rfl ?_
    refine j_goto 29 11 hC (dg DX10_greedy 20 rfl) (by decide) ?_
    refine j_lv [2, 1, 0] (lv' := [(0, .ref (B + 95)), (1, .int (v1 ||| ((1 : Int32) <<< (v2 &&& 31)))), (2, .int r8)]) rfl ?_
    exact hrc _ _ _ hw
set_option maxRecDepth 100000 in
set_option maxHeartbeats 4000000 in
theorem t_X10_greedy {X : XT} {B : Nat} (hC : Cx X 3 cX10_greedy RX10 (rmN 5 119)) {Q : Int32 → SS → Prop} (hR : RtI X 3 B 103 RS cX10_greedy Q) {σ : SS} (hw : wp_X10_greedy  σ  Q) : J X 3 B 103 RS 0 0 σ [(0, .ref (B + 95))] 0 [] := by
  unfold wp_X10_greedy at hw
  refine j_aload_n 0 hC 0 (dg DX10_greedy 0 rfl) rfl rfl ?_
  refine j_Vi (As := []) 1 hC (m_X10_mannedSet  hw) kX10_128 (k_95) (by decide) ⟨_, _, rfl⟩ (rmN_ok (by decide) (by decide)) rfl rfl (Nat.le_of_ble_eq_true rfl) (dg DX10_greedy 1 rfl) (fun r2 σ1 hw => ?_)
  refine j_istore_n 4 hC [(1, .int r2), (0, .ref (B + 95))] (dg DX10_greedy 2 rfl) rfl (by decide) rfl ?_
  refine j_aload_n 5 hC 1 (dg DX10_greedy 3 rfl) rfl rfl ?_
  refine j_iload_n 6 hC 0 (dg DX10_greedy 4 rfl) rfl rfl ?_
  refine j_Vi (As := [.int r2]) 7 hC (m_X10_nextTo  hw) kX10_157 (k_95) (by decide) ⟨_, _, rfl⟩ (rmN_ok (by decide) (by decide)) rfl rfl (Nat.le_of_ble_eq_true rfl) (dg DX10_greedy 5 rfl) (fun r4 σ3 hw => ?_)
  refine j_istore_n 10 hC [(2, .int r4), (1, .int r2), (0, .ref (B + 95))] (dg DX10_greedy 6 rfl) rfl (by decide) rfl ?_
  obtain ⟨k9, hw⟩ := hw
  refine j_lv [2, 1, 0] (lv' := [(0, .ref (B + 95)), (1, .int r2), (2, .int r4)]) rfl ?_
  exact Lii.snd (P := fun τ w1 w2 => J X 3 B 103 RS 0 0 τ [(0, .ref (B + 95)), (1, .int w1), (2, .int w2)] 11 []) (fun rcc hrcc => tb_X10_greedy_11 hC  hR  hrcc) k9 _ _ _ hw
theorem m_X10_greedy {B : Nat} {σ : SS} {Q : Int32 → SS → Prop} (hw : wp_X10_greedy  σ  Q) : MI yX10_greedy cX10_greedy 3 (some .int) 5 119 B 103 RS [.ref (B + 95)] σ Q := MI.mk (plainFor_of_name (by decide)) (Nat.le_of_ble_eq_true rfl) (fun X hC hR => t_X10_greedy hC  hR hw)
-- FortressWatchModel.wouldNeed
def wp_X10_wouldNeed  (σ : SS) (p1 : Int32) (Q : Int32 → SS → Prop) : Prop :=
  wp_X10_isHour σ p1 (fun r2 σ1 =>
    ((r2 = 0 →
        Q (-2) σ1) ∧
      (¬ r2 = 0 →
        wp_X10_fewestIn σ1 p1 (fun r4 σ3 =>
          ((r4 = (-4) →
              Q (-4) σ3) ∧
            (¬ r4 = (-4) →
              wp_X10_bits σ3 r4 (fun r6 σ5 =>
                Q r6 σ5)))))))
set_option maxRecDepth 100000 in
set_option maxHeartbeats 4000000 in
theorem t_X10_wouldNeed {X : XT} {B : Nat} (hC : Cx X 3 cX10_wouldNeed RX10 (rmN 4 96)) {Q : Int32 → SS → Prop} (hR : RtI X 3 B 103 RS cX10_wouldNeed Q) {σ : SS} {p1 : Int32} (hw : wp_X10_wouldNeed  σ p1 Q) : J X 3 B 103 RS 0 0 σ [(0, .ref (B + 95)), (1, .int p1)] 0 [] := by
  unfold wp_X10_wouldNeed at hw
  refine j_iload_n 0 hC 1 (dg DX10_wouldNeed 0 rfl) rfl rfl ?_
  refine j_Si (As := [.int p1]) 1 hC (m_X10_isHour  hw) kX10_138 (rmN_ok (by decide) (by decide)) rfl rfl (Nat.le_of_ble_eq_true rfl) (dg DX10_wouldNeed 1 rfl) (fun r2 σ1 hw => ?_)
  refine j_if_ne 4 10 hC (dg DX10_wouldNeed 2 rfl) (by decide) (fun hbr => ?_) (fun hbr => ?_)
  · replace hw := hw.2 hbr
    refine j_aload_n 10 hC 0 (dg DX10_wouldNeed 5 rfl) rfl rfl ?_
    refine j_iload_n 11 hC 1 (dg DX10_wouldNeed 6 rfl) rfl rfl ?_
    refine j_Vi (As := [.int p1]) 12 hC (m_X10_fewestIn  hw) kX10_148 (k_95) (by decide) ⟨_, _, rfl⟩ (rmN_ok (by decide) (by decide)) rfl rfl (Nat.le_of_ble_eq_true rfl) (dg DX10_wouldNeed 7 rfl) (fun r4 σ3 hw => ?_)
    refine j_istore_n 15 hC [(2, .int r4), (0, .ref (B + 95)), (1, .int p1)] (dg DX10_wouldNeed 8 rfl) rfl (by decide) rfl ?_
    refine j_iload_n 16 hC 0 (dg DX10_wouldNeed 9 rfl) rfl rfl ?_
    refine j_bipush 17 hC (dg DX10_wouldNeed 10 rfl) (v := (-4)) (by decide) ?_
    refine j_icmp_ne 19 27 hC (dg DX10_wouldNeed 11 rfl) (by decide) (fun hbr => ?_) (fun hbr => ?_)
    · replace hw := hw.2 hbr
      refine j_iload_n 27 hC 0 (dg DX10_wouldNeed 14 rfl) rfl rfl ?_
      refine j_Si (As := [.int r4]) 28 hC (m_X10_bits  hw) kX10_119 (rmN_ok (by decide) (by decide)) rfl rfl (Nat.le_of_ble_eq_true rfl) (dg DX10_wouldNeed 15 rfl) (fun r6 σ5 hw => ?_)
      exact hR 31 _ _ _ (dg DX10_wouldNeed 16 rfl) hw
    · replace hw := hw.1 hbr
      refine j_bipush 22 hC (dg DX10_wouldNeed 12 rfl) (v := (-4)) (by decide) ?_
      refine j_goto 24 31 hC (dg DX10_wouldNeed 13 rfl) (by decide) ?_
      exact hR 31 _ _ _ (dg DX10_wouldNeed 16 rfl) hw
  · replace hw := hw.1 hbr
    refine j_bipush 7 hC (dg DX10_wouldNeed 3 rfl) (v := (-2)) (by decide) ?_
    exact hR 9 _ _ _ (dg DX10_wouldNeed 4 rfl) hw
theorem m_X10_wouldNeed {B : Nat} {σ : SS} {p1 : Int32} {Q : Int32 → SS → Prop} (hw : wp_X10_wouldNeed  σ p1 Q) : MI yX10_wouldNeed cX10_wouldNeed 3 (some .int) 4 96 B 103 RS [.ref (B + 95), .int p1] σ Q := MI.mk (plainFor_of_name (by decide)) (Nat.le_of_ble_eq_true rfl) (fun X hC hR => t_X10_wouldNeed hC  hR hw)
-- FortressWatchModel.wouldTurn
def wp_X10_wouldTurn  (σ : SS) (p1 : Int32) (Q : Int32 → SS → Prop) : Prop :=
  wp_X10_isIn σ p1 0 23 (fun r2 σ1 =>
    ((r2 = 0 →
        Q (-2) σ1) ∧
      (¬ r2 = 0 →
        wp_X10_mannedSet σ1 (fun r4 σ3 =>
          wp_X10_seen σ3 r4 (fun r6 σ5 =>
            wp_X10_bits σ5 r6 (fun r8 σ7 =>
              Q r8 σ7))))))
set_option maxRecDepth 100000 in
set_option maxHeartbeats 4000000 in
theorem t_X10_wouldTurn {X : XT} {B : Nat} (hC : Cx X 2 cX10_wouldTurn RX10 (rmN 4 93)) {Q : Int32 → SS → Prop} (hR : RtI X 2 B 103 RS cX10_wouldTurn Q) {σ : SS} {p1 : Int32} (hw : wp_X10_wouldTurn  σ p1 Q) : J X 2 B 103 RS 0 0 σ [(0, .ref (B + 95)), (1, .int p1)] 0 [] := by
  unfold wp_X10_wouldTurn at hw
  refine j_iload_n 0 hC 1 (dg DX10_wouldTurn 0 rfl) rfl rfl ?_
  refine j_iconst 1 hC (dg DX10_wouldTurn 1 rfl) (v := 0) (by decide) ?_
  refine j_bipush 2 hC (dg DX10_wouldTurn 2 rfl) (v := 23) (by decide) ?_
  refine j_Si (As := [.int p1, .int 0, .int 23]) 4 hC (m_X10_isIn  hw) kX10_51 (rmN_ok (by decide) (by decide)) rfl rfl (Nat.le_of_ble_eq_true rfl) (dg DX10_wouldTurn 3 rfl) (fun r2 σ1 hw => ?_)
  refine j_if_eq 7 24 hC (dg DX10_wouldTurn 4 rfl) (by decide) (fun hbr => ?_) (fun hbr => ?_)
  · replace hw := hw.1 hbr
    refine j_bipush 24 hC (dg DX10_wouldTurn 11 rfl) (v := (-2)) (by decide) ?_
    exact hR 26 _ _ _ (dg DX10_wouldTurn 12 rfl) hw
  · replace hw := hw.2 hbr
    refine j_aload_n 10 hC 0 (dg DX10_wouldTurn 5 rfl) rfl rfl ?_
    refine j_aload_n 11 hC 0 (dg DX10_wouldTurn 6 rfl) rfl rfl ?_
    refine j_Vi (As := []) 12 hC (m_X10_mannedSet  hw) kX10_128 (k_95) (by decide) ⟨_, _, rfl⟩ (rmN_ok (by decide) (by decide)) rfl rfl (Nat.le_of_ble_eq_true rfl) (dg DX10_wouldTurn 7 rfl) (fun r4 σ3 hw => ?_)
    refine j_Vi (As := [.int r4]) 15 hC (m_X10_seen  hw) kX10_132 (k_95) (by decide) ⟨_, _, rfl⟩ (rmN_ok (by decide) (by decide)) rfl rfl (Nat.le_of_ble_eq_true rfl) (dg DX10_wouldTurn 8 rfl) (fun r6 σ5 hw => ?_)
    refine j_Si (As := [.int r6]) 18 hC (m_X10_bits  hw) kX10_119 (rmN_ok (by decide) (by decide)) rfl rfl (Nat.le_of_ble_eq_true rfl) (dg DX10_wouldTurn 9 rfl) (fun r8 σ7 hw => ?_)
    refine j_goto 21 26 hC (dg DX10_wouldTurn 10 rfl) (by decide) ?_
    exact hR 26 _ _ _ (dg DX10_wouldTurn 12 rfl) hw
theorem m_X10_wouldTurn {B : Nat} {σ : SS} {p1 : Int32} {Q : Int32 → SS → Prop} (hw : wp_X10_wouldTurn  σ p1 Q) : MI yX10_wouldTurn cX10_wouldTurn 2 (some .int) 4 93 B 103 RS [.ref (B + 95), .int p1] σ Q := MI.mk (plainFor_of_name (by decide)) (Nat.le_of_ble_eq_true rfl) (fun X hC hR => t_X10_wouldTurn hC  hR hw)
-- FortressWatchModel.alone
def wp_X10_alone  (σ : SS) (p1 : Int32) (Q : Int32 → SS → Prop) : Prop :=
  wp_X10_sight σ p1 (fun r2 σ1 =>
    wp_X10_all σ1 (fun r4 σ3 =>
      wp_X10_seen σ3 (r4 &&& (((1 : Int32) <<< (p1 &&& 31)) ^^^ (-1))) (fun r6 σ5 =>
        wp_X10_bits σ5 (r2 &&& (r6 ^^^ (-1))) (fun r8 σ7 =>
          Q r8 σ7))))
set_option maxRecDepth 100000 in
set_option maxHeartbeats 4000000 in
theorem t_X10_alone {X : XT} {B : Nat} (hC : Cx X 2 cX10_alone RX10 (rmN 4 93)) {Q : Int32 → SS → Prop} (hR : RtI X 2 B 103 RS cX10_alone Q) {σ : SS} {p1 : Int32} (hw : wp_X10_alone  σ p1 Q) : J X 2 B 103 RS 0 0 σ [(0, .ref (B + 95)), (1, .int p1)] 0 [] := by
  unfold wp_X10_alone at hw
  refine j_aload_n 0 hC 0 (dg DX10_alone 0 rfl) rfl rfl ?_
  refine j_iload_n 1 hC 1 (dg DX10_alone 1 rfl) rfl rfl ?_
  refine j_Vi (As := [.int p1]) 2 hC (m_X10_sight  hw) kX10_116 (k_95) (by decide) ⟨_, _, rfl⟩ (rmN_ok (by decide) (by decide)) rfl rfl (Nat.le_of_ble_eq_true rfl) (dg DX10_alone 2 rfl) (fun r2 σ1 hw => ?_)
  refine j_aload_n 5 hC 0 (dg DX10_alone 3 rfl) rfl rfl ?_
  refine j_aload_n 6 hC 0 (dg DX10_alone 4 rfl) rfl rfl ?_
  refine j_Vi (As := []) 7 hC (m_X10_all  hw) kX10_144 (k_95) (by decide) ⟨_, _, rfl⟩ (rmN_ok (by decide) (by decide)) rfl rfl (Nat.le_of_ble_eq_true rfl) (dg DX10_alone 5 rfl) (fun r4 σ3 hw => ?_)
  refine j_iconst 10 hC (dg DX10_alone 6 rfl) (v := 1) (by decide) ?_
  refine j_iload_n 11 hC 1 (dg DX10_alone 7 rfl) rfl rfl ?_
  refine j_ishl 12 hC (dg DX10_alone 8 rfl) ?_
  refine j_iconst 13 hC (dg DX10_alone 9 rfl) (v := (-1)) (by decide) ?_
  refine j_ixor 14 hC (dg DX10_alone 10 rfl) ?_
  refine j_iand 15 hC (dg DX10_alone 11 rfl) ?_
  refine j_Vi (As := [.int (r4 &&& (((1 : Int32) <<< (p1 &&& 31)) ^^^ (-1)))]) 16 hC (m_X10_seen  hw) kX10_132 (k_95) (by decide) ⟨_, _, rfl⟩ (rmN_ok (by decide) (by decide)) rfl rfl (Nat.le_of_ble_eq_true rfl) (dg DX10_alone 12 rfl) (fun r6 σ5 hw => ?_)
  refine j_iconst 19 hC (dg DX10_alone 13 rfl) (v := (-1)) (by decide) ?_
  refine j_ixor 20 hC (dg DX10_alone 14 rfl) ?_
  refine j_iand 21 hC (dg DX10_alone 15 rfl) ?_
  refine j_Si (As := [.int (r2 &&& (r6 ^^^ (-1)))]) 22 hC (m_X10_bits  hw) kX10_119 (rmN_ok (by decide) (by decide)) rfl rfl (Nat.le_of_ble_eq_true rfl) (dg DX10_alone 16 rfl) (fun r8 σ7 hw => ?_)
  exact hR 25 _ _ _ (dg DX10_alone 17 rfl) hw
theorem m_X10_alone {B : Nat} {σ : SS} {p1 : Int32} {Q : Int32 → SS → Prop} (hw : wp_X10_alone  σ p1 Q) : MI yX10_alone cX10_alone 2 (some .int) 4 93 B 103 RS [.ref (B + 95), .int p1] σ Q := MI.mk (plainFor_of_name (by decide)) (Nat.le_of_ble_eq_true rfl) (fun X hC hR => t_X10_alone hC  hR hw)
-- FortressWatchModel.postOf
def wp_X10_postOf  (σ : SS) (p1 : Int32) (p2 : Int32) (Q : Int32 → SS → Prop) : Prop :=
  wp_X10_isPost σ p1 (fun r2 σ1 =>
    ((r2 = 0 →
        Q (-1) σ1) ∧
      (¬ r2 = 0 →
        ((p2 = 0 →
            wp_X10_of σ1 p1 p2 (fun r4 σ3 =>
              Q r4 σ3)) ∧
          (¬ p2 = 0 →
            ((p2 = 1 →
                wp_X10_of σ1 p1 p2 (fun r6 σ5 =>
                  Q r6 σ5)) ∧
              (¬ p2 = 1 →
                ((p2 = 2 →
                    wp_X10_of σ1 p1 p2 (fun r8 σ7 =>
                      Q r8 σ7)) ∧
                  (¬ p2 = 2 →
                    ((p2 = 3 →
                        wp_X10_of σ1 p1 4 (fun r10 σ9 =>
                          ((r10 = 0 →
                              Q (-4) σ9) ∧
                            (¬ r10 = 0 →
                              wp_X10_of σ9 p1 3 (fun r12 σ11 =>
                                Q r12 σ11))))) ∧
                      (¬ p2 = 3 →
                        ((p2 = 4 →
                            wp_X10_of σ1 p1 p2 (fun r14 σ13 =>
                              Q r14 σ13)) ∧
                          (¬ p2 = 4 →
                            ((p2 = 5 →
                                wp_X10_of σ1 p1 p2 (fun r16 σ15 =>
                                  Q r16 σ15)) ∧
                              (¬ p2 = 5 →
                                ((p2 = 6 →
                                    wp_X10_sight σ1 p1 (fun r18 σ17 =>
                                      wp_X10_bits σ17 r18 (fun r20 σ19 =>
                                        Q r20 σ19))) ∧
                                  (¬ p2 = 6 →
                                    ((p2 = 7 →
                                        wp_X10_alone σ1 p1 (fun r22 σ21 =>
                                          Q r22 σ21)) ∧
                                      (¬ p2 = 7 →
                                        ((p2 = 8 →
                                            wp_X10_isNeeded σ1 p1 (fun r24 σ23 =>
                                              ((r24 = 0 →
                                                  Q 0 σ23) ∧
                                                (¬ r24 = 0 →
                                                  Q 1 σ23)))) ∧
                                          (¬ p2 = 8 →
                                            Q (-2) σ1)))))))))))))))))))))
set_option maxRecDepth 100000 in
set_option maxHeartbeats 4000000 in
theorem t_X10_postOf {X : XT} {B : Nat} (hC : Cx X 3 cX10_postOf RX10 (rmN 6 139)) {Q : Int32 → SS → Prop} (hR : RtI X 3 B 103 RS cX10_postOf Q) {σ : SS} {p1 : Int32} {p2 : Int32} (hw : wp_X10_postOf  σ p1 p2 Q) : J X 3 B 103 RS 0 0 σ [(0, .ref (B + 95)), (1, .int p1), (2, .int p2)] 0 [] := by
  unfold wp_X10_postOf at hw
  refine j_aload_n 0 hC 0 (dg DX10_postOf 0 rfl) rfl rfl ?_
  refine j_iload_n 1 hC 1 (dg DX10_postOf 1 rfl) rfl rfl ?_
  refine j_Vi (As := [.int p1]) 2 hC (m_X10_isPost  hw) kX10_107 (k_95) (by decide) ⟨_, _, rfl⟩ (rmN_ok (by decide) (by decide)) rfl rfl (Nat.le_of_ble_eq_true rfl) (dg DX10_postOf 2 rfl) (fun r2 σ1 hw => ?_)
  refine j_if_ne 5 10 hC (dg DX10_postOf 3 rfl) (by decide) (fun hbr => ?_) (fun hbr => ?_)
  · replace hw := hw.2 hbr
    refine j_iload_n 10 hC 2 (dg DX10_postOf 6 rfl) rfl rfl ?_
    by_cases n0 : p2 = 0
    · replace hw := hw.1 n0
      refine j_tableIn 11 60 hC (dg DX10_postOf 7 rfl) (by rw [n0]; decide) (by rw [n0]; decide) (off := 49) (by rw [n0]; rfl) (by decide) ?_
      refine j_aload_n 60 hC 0 (dg DX10_postOf 8 rfl) rfl rfl ?_
      refine j_iload_n 61 hC 1 (dg DX10_postOf 9 rfl) rfl rfl ?_
      refine j_iload_n 62 hC 2 (dg DX10_postOf 10 rfl) rfl rfl ?_
      refine j_Vi (As := [.int p1, .int p2]) 63 hC (m_X10_of  hw) kX10_55 (k_95) (by decide) ⟨_, _, rfl⟩ (rmN_ok (by decide) (by decide)) rfl rfl (Nat.le_of_ble_eq_true rfl) (dg DX10_postOf 11 rfl) (fun r4 σ3 hw => ?_)
      exact hR 66 _ _ _ (dg DX10_postOf 12 rfl) hw
    replace hw := hw.2 n0
    by_cases n1 : p2 = 1
    · replace hw := hw.1 n1
      refine j_tableIn 11 60 hC (dg DX10_postOf 7 rfl) (by rw [n1]; decide) (by rw [n1]; decide) (off := 49) (by rw [n1]; rfl) (by decide) ?_
      refine j_aload_n 60 hC 0 (dg DX10_postOf 8 rfl) rfl rfl ?_
      refine j_iload_n 61 hC 1 (dg DX10_postOf 9 rfl) rfl rfl ?_
      refine j_iload_n 62 hC 2 (dg DX10_postOf 10 rfl) rfl rfl ?_
      refine j_Vi (As := [.int p1, .int p2]) 63 hC (m_X10_of  hw) kX10_55 (k_95) (by decide) ⟨_, _, rfl⟩ (rmN_ok (by decide) (by decide)) rfl rfl (Nat.le_of_ble_eq_true rfl) (dg DX10_postOf 11 rfl) (fun r6 σ5 hw => ?_)
      exact hR 66 _ _ _ (dg DX10_postOf 12 rfl) hw
    replace hw := hw.2 n1
    by_cases n2 : p2 = 2
    · replace hw := hw.1 n2
      refine j_tableIn 11 60 hC (dg DX10_postOf 7 rfl) (by rw [n2]; decide) (by rw [n2]; decide) (off := 49) (by rw [n2]; rfl) (by decide) ?_
      refine j_aload_n 60 hC 0 (dg DX10_postOf 8 rfl) rfl rfl ?_
      refine j_iload_n 61 hC 1 (dg DX10_postOf 9 rfl) rfl rfl ?_
      refine j_iload_n 62 hC 2 (dg DX10_postOf 10 rfl) rfl rfl ?_
      refine j_Vi (As := [.int p1, .int p2]) 63 hC (m_X10_of  hw) kX10_55 (k_95) (by decide) ⟨_, _, rfl⟩ (rmN_ok (by decide) (by decide)) rfl rfl (Nat.le_of_ble_eq_true rfl) (dg DX10_postOf 11 rfl) (fun r8 σ7 hw => ?_)
      exact hR 66 _ _ _ (dg DX10_postOf 12 rfl) hw
    replace hw := hw.2 n2
    by_cases n3 : p2 = 3
    · replace hw := hw.1 n3
      refine j_tableIn 11 67 hC (dg DX10_postOf 7 rfl) (by rw [n3]; decide) (by rw [n3]; decide) (off := 56) (by rw [n3]; rfl) (by decide) ?_
      refine j_aload_n 67 hC 0 (dg DX10_postOf 13 rfl) rfl rfl ?_
      refine j_iload_n 68 hC 1 (dg DX10_postOf 14 rfl) rfl rfl ?_
      refine j_iconst 69 hC (dg DX10_postOf 15 rfl) (v := 4) (by decide) ?_
      refine j_Vi (As := [.int p1, .int 4]) 70 hC (m_X10_of  hw) kX10_55 (k_95) (by decide) ⟨_, _, rfl⟩ (rmN_ok (by decide) (by decide)) rfl rfl (Nat.le_of_ble_eq_true rfl) (dg DX10_postOf 16 rfl) (fun r10 σ9 hw => ?_)
      refine j_if_ne 73 81 hC (dg DX10_postOf 17 rfl) (by decide) (fun hbr => ?_) (fun hbr => ?_)
      · replace hw := hw.2 hbr
        refine j_aload_n 81 hC 0 (dg DX10_postOf 20 rfl) rfl rfl ?_
        refine j_iload_n 82 hC 1 (dg DX10_postOf 21 rfl) rfl rfl ?_
        refine j_iconst 83 hC (dg DX10_postOf 22 rfl) (v := 3) (by decide) ?_
        refine j_Vi (As := [.int p1, .int 3]) 84 hC (m_X10_of  hw) kX10_55 (k_95) (by decide) ⟨_, _, rfl⟩ (rmN_ok (by decide) (by decide)) rfl rfl (Nat.le_of_ble_eq_true rfl) (dg DX10_postOf 23 rfl) (fun r12 σ11 hw => ?_)
        exact hR 87 _ _ _ (dg DX10_postOf 24 rfl) hw
      · replace hw := hw.1 hbr
        refine j_bipush 76 hC (dg DX10_postOf 18 rfl) (v := (-4)) (by decide) ?_
        refine j_goto 78 87 hC (dg DX10_postOf 19 rfl) (by decide) ?_
        exact hR 87 _ _ _ (dg DX10_postOf 24 rfl) hw
    replace hw := hw.2 n3
    by_cases n4 : p2 = 4
    · replace hw := hw.1 n4
      refine j_tableIn 11 60 hC (dg DX10_postOf 7 rfl) (by rw [n4]; decide) (by rw [n4]; decide) (off := 49) (by rw [n4]; rfl) (by decide) ?_
      refine j_aload_n 60 hC 0 (dg DX10_postOf 8 rfl) rfl rfl ?_
      refine j_iload_n 61 hC 1 (dg DX10_postOf 9 rfl) rfl rfl ?_
      refine j_iload_n 62 hC 2 (dg DX10_postOf 10 rfl) rfl rfl ?_
      refine j_Vi (As := [.int p1, .int p2]) 63 hC (m_X10_of  hw) kX10_55 (k_95) (by decide) ⟨_, _, rfl⟩ (rmN_ok (by decide) (by decide)) rfl rfl (Nat.le_of_ble_eq_true rfl) (dg DX10_postOf 11 rfl) (fun r14 σ13 hw => ?_)
      exact hR 66 _ _ _ (dg DX10_postOf 12 rfl) hw
    replace hw := hw.2 n4
    by_cases n5 : p2 = 5
    · replace hw := hw.1 n5
      refine j_tableIn 11 60 hC (dg DX10_postOf 7 rfl) (by rw [n5]; decide) (by rw [n5]; decide) (off := 49) (by rw [n5]; rfl) (by decide) ?_
      refine j_aload_n 60 hC 0 (dg DX10_postOf 8 rfl) rfl rfl ?_
      refine j_iload_n 61 hC 1 (dg DX10_postOf 9 rfl) rfl rfl ?_
      refine j_iload_n 62 hC 2 (dg DX10_postOf 10 rfl) rfl rfl ?_
      refine j_Vi (As := [.int p1, .int p2]) 63 hC (m_X10_of  hw) kX10_55 (k_95) (by decide) ⟨_, _, rfl⟩ (rmN_ok (by decide) (by decide)) rfl rfl (Nat.le_of_ble_eq_true rfl) (dg DX10_postOf 11 rfl) (fun r16 σ15 hw => ?_)
      exact hR 66 _ _ _ (dg DX10_postOf 12 rfl) hw
    replace hw := hw.2 n5
    by_cases n6 : p2 = 6
    · replace hw := hw.1 n6
      refine j_tableIn 11 88 hC (dg DX10_postOf 7 rfl) (by rw [n6]; decide) (by rw [n6]; decide) (off := 77) (by rw [n6]; rfl) (by decide) ?_
      refine j_aload_n 88 hC 0 (dg DX10_postOf 25 rfl) rfl rfl ?_
      refine j_iload_n 89 hC 1 (dg DX10_postOf 26 rfl) rfl rfl ?_
      refine j_Vi (As := [.int p1]) 90 hC (m_X10_sight  hw) kX10_116 (k_95) (by decide) ⟨_, _, rfl⟩ (rmN_ok (by decide) (by decide)) rfl rfl (Nat.le_of_ble_eq_true rfl) (dg DX10_postOf 27 rfl) (fun r18 σ17 hw => ?_)
      refine j_Si (As := [.int r18]) 93 hC (m_X10_bits  hw) kX10_119 (rmN_ok (by decide) (by decide)) rfl rfl (Nat.le_of_ble_eq_true rfl) (dg DX10_postOf 28 rfl) (fun r20 σ19 hw => ?_)
      exact hR 96 _ _ _ (dg DX10_postOf 29 rfl) hw
    replace hw := hw.2 n6
    by_cases n7 : p2 = 7
    · replace hw := hw.1 n7
      refine j_tableIn 11 97 hC (dg DX10_postOf 7 rfl) (by rw [n7]; decide) (by rw [n7]; decide) (off := 86) (by rw [n7]; rfl) (by decide) ?_
      refine j_aload_n 97 hC 0 (dg DX10_postOf 30 rfl) rfl rfl ?_
      refine j_iload_n 98 hC 1 (dg DX10_postOf 31 rfl) rfl rfl ?_
      refine j_Vi (As := [.int p1]) 99 hC (m_X10_alone  hw) kX10_160 (k_95) (by decide) ⟨_, _, rfl⟩ (rmN_ok (by decide) (by decide)) rfl rfl (Nat.le_of_ble_eq_true rfl) (dg DX10_postOf 32 rfl) (fun r22 σ21 hw => ?_)
      exact hR 102 _ _ _ (dg DX10_postOf 33 rfl) hw
    replace hw := hw.2 n7
    by_cases n8 : p2 = 8
    · replace hw := hw.1 n8
      refine j_tableIn 11 103 hC (dg DX10_postOf 7 rfl) (by rw [n8]; decide) (by rw [n8]; decide) (off := 92) (by rw [n8]; rfl) (by decide) ?_
      refine j_aload_n 103 hC 0 (dg DX10_postOf 34 rfl) rfl rfl ?_
      refine j_iload_n 104 hC 1 (dg DX10_postOf 35 rfl) rfl rfl ?_
      refine j_Vi (As := [.int p1]) 105 hC (m_X10_isNeeded  hw) kX10_163 (k_95) (by decide) ⟨_, _, rfl⟩ (rmN_ok (by decide) (by decide)) rfl rfl (Nat.le_of_ble_eq_true rfl) (dg DX10_postOf 36 rfl) (fun r24 σ23 hw => ?_)
      refine j_if_eq 108 115 hC (dg DX10_postOf 37 rfl) (by decide) (fun hbr => ?_) (fun hbr => ?_)
      · replace hw := hw.1 hbr
        refine j_iconst 115 hC (dg DX10_postOf 40 rfl) (v := 0) (by decide) ?_
        exact hR 116 _ _ _ (dg DX10_postOf 41 rfl) hw
      · replace hw := hw.2 hbr
        refine j_iconst 111 hC (dg DX10_postOf 38 rfl) (v := 1) (by decide) ?_
        refine j_goto 112 116 hC (dg DX10_postOf 39 rfl) (by decide) ?_
        exact hR 116 _ _ _ (dg DX10_postOf 41 rfl) hw
    replace hw := hw.2 n8
    have hout : (p2).toInt < 0 ∨ 8 < (p2).toInt := by
      have q0 : (p2).toInt ≠ 0 := i32_ne n0
      have q1 : (p2).toInt ≠ 1 := i32_ne n1
      have q2 : (p2).toInt ≠ 2 := i32_ne n2
      have q3 : (p2).toInt ≠ 3 := i32_ne n3
      have q4 : (p2).toInt ≠ 4 := i32_ne n4
      have q5 : (p2).toInt ≠ 5 := i32_ne n5
      have q6 : (p2).toInt ≠ 6 := i32_ne n6
      have q7 : (p2).toInt ≠ 7 := i32_ne n7
      have q8 : (p2).toInt ≠ 8 := i32_ne n8
      omega
    refine j_tableOut 11 117 hC (dg DX10_postOf 7 rfl) hout (by decide) ?_
    refine j_bipush 117 hC (dg DX10_postOf 42 rfl) (v := (-2)) (by decide) ?_
    exact hR 119 _ _ _ (dg DX10_postOf 43 rfl) hw
  · replace hw := hw.1 hbr
    refine j_iconst 8 hC (dg DX10_postOf 4 rfl) (v := (-1)) (by decide) ?_
    exact hR 9 _ _ _ (dg DX10_postOf 5 rfl) hw
theorem m_X10_postOf {B : Nat} {σ : SS} {p1 : Int32} {p2 : Int32} {Q : Int32 → SS → Prop} (hw : wp_X10_postOf  σ p1 p2 Q) : MI yX10_postOf cX10_postOf 3 (some .int) 6 139 B 103 RS [.ref (B + 95), .int p1, .int p2] σ Q := MI.mk (plainFor_of_name (by decide)) (Nat.le_of_ble_eq_true rfl) (fun X hC hR => t_X10_postOf hC  hR hw)
-- FortressWatchModel.sees
def wp_X10_sees  (σ : SS) (p1 : Int32) (p2 : Int32) (Q : Int32 → SS → Prop) : Prop :=
  wp_X10_isPost σ p1 (fun r2 σ1 =>
    ((r2 = 0 →
        Q (-1) σ1) ∧
      (¬ r2 = 0 →
        wp_X10_isStone σ1 p2 (fun r4 σ3 =>
          ((r4 = 0 →
              Q (-1) σ3) ∧
            (¬ r4 = 0 →
              wp_X10_sight σ3 p1 (fun r6 σ5 =>
                wp_X10_has σ5 r6 p2 (fun r8 σ7 =>
                  ((r8 = 0 →
                      Q 0 σ7) ∧
                    (¬ r8 = 0 →
                      Q 1 σ7))))))))))
set_option maxRecDepth 100000 in
set_option maxHeartbeats 4000000 in
theorem t_X10_sees {X : XT} {B : Nat} (hC : Cx X 3 cX10_sees RX10 (rmN 3 69)) {Q : Int32 → SS → Prop} (hR : RtI X 3 B 103 RS cX10_sees Q) {σ : SS} {p1 : Int32} {p2 : Int32} (hw : wp_X10_sees  σ p1 p2 Q) : J X 3 B 103 RS 0 0 σ [(0, .ref (B + 95)), (1, .int p1), (2, .int p2)] 0 [] := by
  unfold wp_X10_sees at hw
  refine j_aload_n 0 hC 0 (dg DX10_sees 0 rfl) rfl rfl ?_
  refine j_iload_n 1 hC 1 (dg DX10_sees 1 rfl) rfl rfl ?_
  refine j_Vi (As := [.int p1]) 2 hC (m_X10_isPost  hw) kX10_107 (k_95) (by decide) ⟨_, _, rfl⟩ (rmN_ok (by decide) (by decide)) rfl rfl (Nat.le_of_ble_eq_true rfl) (dg DX10_sees 2 rfl) (fun r2 σ1 hw => ?_)
  refine j_if_eq 5 15 hC (dg DX10_sees 3 rfl) (by decide) (fun hbr => ?_) (fun hbr => ?_)
  · replace hw := hw.1 hbr
    refine j_iconst 15 hC (dg DX10_sees 7 rfl) (v := (-1)) (by decide) ?_
    refine j_goto 16 36 hC (dg DX10_sees 8 rfl) (by decide) ?_
    exact hR 36 _ _ _ (dg DX10_sees 18 rfl) hw
  · replace hw := hw.2 hbr
    refine j_iload_n 8 hC 2 (dg DX10_sees 4 rfl) rfl rfl ?_
    refine j_Si (As := [.int p2]) 9 hC (m_X10_isStone  hw) kX10_80 (rmN_ok (by decide) (by decide)) rfl rfl (Nat.le_of_ble_eq_true rfl) (dg DX10_sees 5 rfl) (fun r4 σ3 hw => ?_)
    refine j_if_ne 12 19 hC (dg DX10_sees 6 rfl) (by decide) (fun hbr => ?_) (fun hbr => ?_)
    · replace hw := hw.2 hbr
      refine j_aload_n 19 hC 0 (dg DX10_sees 9 rfl) rfl rfl ?_
      refine j_iload_n 20 hC 1 (dg DX10_sees 10 rfl) rfl rfl ?_
      refine j_Vi (As := [.int p1]) 21 hC (m_X10_sight  hw) kX10_116 (k_95) (by decide) ⟨_, _, rfl⟩ (rmN_ok (by decide) (by decide)) rfl rfl (Nat.le_of_ble_eq_true rfl) (dg DX10_sees 11 rfl) (fun r6 σ5 hw => ?_)
      refine j_iload_n 24 hC 2 (dg DX10_sees 12 rfl) rfl rfl ?_
      refine j_Si (As := [.int r6, .int p2]) 25 hC (m_X10_has  hw) kX10_73 (rmN_ok (by decide) (by decide)) rfl rfl (Nat.le_of_ble_eq_true rfl) (dg DX10_sees 13 rfl) (fun r8 σ7 hw => ?_)
      refine j_if_eq 28 35 hC (dg DX10_sees 14 rfl) (by decide) (fun hbr => ?_) (fun hbr => ?_)
      · replace hw := hw.1 hbr
        refine j_iconst 35 hC (dg DX10_sees 17 rfl) (v := 0) (by decide) ?_
        exact hR 36 _ _ _ (dg DX10_sees 18 rfl) hw
      · replace hw := hw.2 hbr
        refine j_iconst 31 hC (dg DX10_sees 15 rfl) (v := 1) (by decide) ?_
        refine j_goto 32 36 hC (dg DX10_sees 16 rfl) (by decide) ?_
        exact hR 36 _ _ _ (dg DX10_sees 18 rfl) hw
    · replace hw := hw.1 hbr
      refine j_iconst 15 hC (dg DX10_sees 7 rfl) (v := (-1)) (by decide) ?_
      refine j_goto 16 36 hC (dg DX10_sees 8 rfl) (by decide) ?_
      exact hR 36 _ _ _ (dg DX10_sees 18 rfl) hw
theorem m_X10_sees {B : Nat} {σ : SS} {p1 : Int32} {p2 : Int32} {Q : Int32 → SS → Prop} (hw : wp_X10_sees  σ p1 p2 Q) : MI yX10_sees cX10_sees 3 (some .int) 3 69 B 103 RS [.ref (B + 95), .int p1, .int p2] σ Q := MI.mk (plainFor_of_name (by decide)) (Nat.le_of_ble_eq_true rfl) (fun X hC hR => t_X10_sees hC  hR hw)
-- FortressWatchModel.watchers
def bd_X10_watchers_4    (Q : Int32 → SS → Prop) (l1 : Int32) (rc : SS → Int32 → Int32 → Prop) (σ : SS) (v2 : Int32) (v3 : Int32) : Prop :=
  (((σ 96 0) ≤ v3 →
      Q v2 σ) ∧
    (¬ (σ 96 0) ≤ v3 →
      wp_X10_isManned σ v3 (fun r2 σ1 =>
        ((r2 = 0 →
            rc σ1 (v2 + 0) (v3 + 1)) ∧
          (¬ r2 = 0 →
            wp_X10_sight σ1 v3 (fun r4 σ3 =>
              wp_X10_has σ3 r4 l1 (fun r6 σ5 =>
                ((r6 = 0 →
                    rc σ5 (v2 + 0) (v3 + 1)) ∧
                  (¬ r6 = 0 →
                    rc σ5 (v2 + 1) (v3 + 1))))))))))
def wp_X10_watchers  (σ : SS) (p1 : Int32) (Q : Int32 → SS → Prop) : Prop :=
  ∃ k7, Lii (bd_X10_watchers_4 Q p1) k7 σ 0 0
set_option maxRecDepth 100000 in
set_option maxHeartbeats 4000000 in
theorem tb_X10_watchers_4 {X : XT} {B : Nat} (hC : Cx X 4 cX10_watchers RX10 (rmN 3 69)) {Q : Int32 → SS → Prop} {l1 : Int32} (hR : RtI X 4 B 103 RS cX10_watchers Q) {rc : SS → Int32 → Int32 → Prop} (hrc : ∀ (σ : SS) (v2 : Int32) (v3 : Int32), rc σ v2 v3 → J X 4 B 103 RS 0 0 σ [(0, .ref (B + 95)), (1, .int l1), (2, .int v2), (3, .int v3)] 4 []) : ∀ (σ : SS) (v2 : Int32) (v3 : Int32), bd_X10_watchers_4 Q l1 rc σ v2 v3 → J X 4 B 103 RS 0 0 σ [(0, .ref (B + 95)), (1, .int l1), (2, .int v2), (3, .int v3)] 4 [] := by
  intro σ v2 v3 hw
  unfold bd_X10_watchers_4 at hw
  refine j_iload_n 4 hC 3 (dg DX10_watchers 4 rfl) rfl rfl ?_
  refine j_aload_n 5 hC 0 (dg DX10_watchers 5 rfl) rfl rfl ?_
  refine j_getR 6 hC fX10_9 (k_95) (by decide) (by decide) rfl (dg DX10_watchers 6 rfl) ?_
  refine j_iconst 9 hC (dg DX10_watchers 7 rfl) (v := 0) (by decide) ?_
  refine j_iald0 10 0 hC (k_96) (by decide) (by unfold vp_in; decide) rfl (dg DX10_watchers 8 rfl) ?_
  refine j_icmp_ge 11 48 hC (dg DX10_watchers 9 rfl) (by decide) (fun hbr => ?_) (fun hbr => ?_)
  · replace hw := hw.1 hbr
    refine j_iload_n 48 hC 2 (dg DX10_watchers 28 rfl) rfl rfl ?_
    exact hR 49 _ _ _ (dg DX10_watchers 29 rfl) hw
  · replace hw := hw.2 hbr
    refine j_iload_n 14 hC 2 (dg DX10_watchers 10 rfl) rfl rfl ?_
    refine j_aload_n 15 hC 0 (dg DX10_watchers 11 rfl) rfl rfl ?_
    refine j_iload_n 16 hC 3 (dg DX10_watchers 12 rfl) rfl rfl ?_
    refine j_Vi (As := [.int v3]) 17 hC (m_X10_isManned  hw) kX10_69 (k_95) (by decide) ⟨_, _, rfl⟩ (rmN_ok (by decide) (by decide)) rfl rfl (Nat.le_of_ble_eq_true rfl) (dg DX10_watchers 13 rfl) (fun r2 σ1 hw => ?_)
    refine j_if_eq 20 39 hC (dg DX10_watchers 14 rfl) (by decide) (fun hbr => ?_) (fun hbr => ?_)
    · replace hw := hw.1 hbr
      refine j_iconst 39 hC (dg DX10_watchers 23 rfl) (v := 0) (by decide) ?_
      refine j_iadd 40 hC (dg DX10_watchers 24 rfl) ?_
      refine j_istore_n 41 hC [(2, .int (v2 + 0)), (0, .ref (B + 95)), (1, .int l1), (3, .int v3)] (dg DX10_watchers 25 rfl) rfl (by decide) rfl ?_
      refine j_iinc 42 hC 3 (v3 + 1) [(3, .int (v3 + 1)), (2, .int (v2 + 0)), (0, .ref (B + 95)), (1, .int l1)] (dg DX10_watchers 26 rfl) rfl rfl (by decide) rfl ?_
      refine j_goto 45 4 hC (dg DX10_watchers 27 rfl) (by decide) ?_
      refine j_lv [2, 3, 1, 0] (lv' := [(0, .ref (B + 95)), (1, .int l1), (2, .int (v2 + 0)), (3, .int (v3 + 1))]) rfl ?_
      exact hrc _ _ _ hw
    · replace hw := hw.2 hbr
      refine j_aload_n 23 hC 0 (dg DX10_watchers 15 rfl) rfl rfl ?_
      refine j_iload_n 24 hC 3 (dg DX10_watchers 16 rfl) rfl rfl ?_
      refine j_Vi (As := [.int v3]) 25 hC (m_X10_sight  hw) kX10_116 (k_95) (by decide) ⟨_, _, rfl⟩ (rmN_ok (by decide) (by decide)) rfl rfl (Nat.le_of_ble_eq_true rfl) (dg DX10_watchers 17 rfl) (fun r4 σ3 hw => ?_)
      refine j_iload_n 28 hC 1 (dg DX10_watchers 18 rfl) rfl rfl ?_
      refine j_Si (As := [.int r4, .int l1]) 29 hC (m_X10_has  hw) kX10_73 (rmN_ok (by decide) (by decide)) rfl rfl (Nat.le_of_ble_eq_true rfl) (dg DX10_watchers 19 rfl) (fun r6 σ5 hw => ?_)
      refine j_if_eq 32 39 hC (dg DX10_watchers 20 rfl) (by decide) (fun hbr => ?_) (fun hbr => ?_)
      · replace hw := hw.1 hbr
        refine j_iconst 39 hC (dg DX10_watchers 23 rfl) (v := 0) (by decide) ?_
        refine j_iadd 40 hC (dg DX10_watchers 24 rfl) ?_
        refine j_istore_n 41 hC [(2, .int (v2 + 0)), (0, .ref (B + 95)), (1, .int l1), (3, .int v3)] (dg DX10_watchers 25 rfl) rfl (by decide) rfl ?_
        refine j_iinc 42 hC 3 (v3 + 1) [(3, .int (v3 + 1)), (2, .int (v2 + 0)), (0, .ref (B + 95)), (1, .int l1)] (dg DX10_watchers 26 rfl) rfl rfl (by decide) rfl ?_
        refine j_goto 45 4 hC (dg DX10_watchers 27 rfl) (by decide) ?_
        refine j_lv [2, 3, 1, 0] (lv' := [(0, .ref (B + 95)), (1, .int l1), (2, .int (v2 + 0)), (3, .int (v3 + 1))]) rfl ?_
        exact hrc _ _ _ hw
      · replace hw := hw.2 hbr
        refine j_iconst 35 hC (dg DX10_watchers 21 rfl) (v := 1) (by decide) ?_
        refine j_goto 36 40 hC (dg DX10_watchers 22 rfl) (by decide) ?_
        refine j_iadd 40 hC (dg DX10_watchers 24 rfl) ?_
        refine j_istore_n 41 hC [(2, .int (v2 + 1)), (0, .ref (B + 95)), (1, .int l1), (3, .int v3)] (dg DX10_watchers 25 rfl) rfl (by decide) rfl ?_
        refine j_iinc 42 hC 3 (v3 + 1) [(3, .int (v3 + 1)), (2, .int (v2 + 1)), (0, .ref (B + 95)), (1, .int l1)] (dg DX10_watchers 26 rfl) rfl rfl (by decide) rfl ?_
        refine j_goto 45 4 hC (dg DX10_watchers 27 rfl) (by decide) ?_
        refine j_lv [2, 3, 1, 0] (lv' := [(0, .ref (B + 95)), (1, .int l1), (2, .int (v2 + 1)), (3, .int (v3 + 1))]) rfl ?_
        exact hrc _ _ _ hw
set_option maxRecDepth 100000 in
set_option maxHeartbeats 4000000 in
theorem t_X10_watchers {X : XT} {B : Nat} (hC : Cx X 4 cX10_watchers RX10 (rmN 3 69)) {Q : Int32 → SS → Prop} (hR : RtI X 4 B 103 RS cX10_watchers Q) {σ : SS} {p1 : Int32} (hw : wp_X10_watchers  σ p1 Q) : J X 4 B 103 RS 0 0 σ [(0, .ref (B + 95)), (1, .int p1)] 0 [] := by
  unfold wp_X10_watchers at hw
  refine j_iconst 0 hC (dg DX10_watchers 0 rfl) (v := 0) (by decide) ?_
  refine j_istore_n 1 hC [(2, .int 0), (0, .ref (B + 95)), (1, .int p1)] (dg DX10_watchers 1 rfl) rfl (by decide) rfl ?_
  refine j_iconst 2 hC (dg DX10_watchers 2 rfl) (v := 0) (by decide) ?_
  refine j_istore_n 3 hC [(3, .int 0), (2, .int 0), (0, .ref (B + 95)), (1, .int p1)] (dg DX10_watchers 3 rfl) rfl (by decide) rfl ?_
  obtain ⟨k7, hw⟩ := hw
  refine j_lv [2, 3, 1, 0] (lv' := [(0, .ref (B + 95)), (1, .int p1), (2, .int 0), (3, .int 0)]) rfl ?_
  exact Lii.snd (P := fun τ w2 w3 => J X 4 B 103 RS 0 0 τ [(0, .ref (B + 95)), (1, .int p1), (2, .int w2), (3, .int w3)] 4 []) (fun rcc hrcc => tb_X10_watchers_4 hC  hR  hrcc) k7 _ _ _ hw
theorem m_X10_watchers {B : Nat} {σ : SS} {p1 : Int32} {Q : Int32 → SS → Prop} (hw : wp_X10_watchers  σ p1 Q) : MI yX10_watchers cX10_watchers 4 (some .int) 3 69 B 103 RS [.ref (B + 95), .int p1] σ Q := MI.mk (plainFor_of_name (by decide)) (Nat.le_of_ble_eq_true rfl) (fun X hC hR => t_X10_watchers hC  hR hw)
-- FortressWatchModel.watched
def wp_X10_watched  (σ : SS) (p1 : Int32) (Q : Int32 → SS → Prop) : Prop :=
  wp_X10_isStone σ p1 (fun r2 σ1 =>
    ((r2 = 0 →
        Q (-1) σ1) ∧
      (¬ r2 = 0 →
        wp_X10_watchers σ1 p1 (fun r4 σ3 =>
          Q r4 σ3))))
set_option maxRecDepth 100000 in
set_option maxHeartbeats 4000000 in
theorem t_X10_watched {X : XT} {B : Nat} (hC : Cx X 2 cX10_watched RX10 (rmN 4 92)) {Q : Int32 → SS → Prop} (hR : RtI X 2 B 103 RS cX10_watched Q) {σ : SS} {p1 : Int32} (hw : wp_X10_watched  σ p1 Q) : J X 2 B 103 RS 0 0 σ [(0, .ref (B + 95)), (1, .int p1)] 0 [] := by
  unfold wp_X10_watched at hw
  refine j_iload_n 0 hC 1 (dg DX10_watched 0 rfl) rfl rfl ?_
  refine j_Si (As := [.int p1]) 1 hC (m_X10_isStone  hw) kX10_80 (rmN_ok (by decide) (by decide)) rfl rfl (Nat.le_of_ble_eq_true rfl) (dg DX10_watched 1 rfl) (fun r2 σ1 hw => ?_)
  refine j_if_eq 4 15 hC (dg DX10_watched 2 rfl) (by decide) (fun hbr => ?_) (fun hbr => ?_)
  · replace hw := hw.1 hbr
    refine j_iconst 15 hC (dg DX10_watched 7 rfl) (v := (-1)) (by decide) ?_
    exact hR 16 _ _ _ (dg DX10_watched 8 rfl) hw
  · replace hw := hw.2 hbr
    refine j_aload_n 7 hC 0 (dg DX10_watched 3 rfl) rfl rfl ?_
    refine j_iload_n 8 hC 1 (dg DX10_watched 4 rfl) rfl rfl ?_
    refine j_Vi (As := [.int p1]) 9 hC (m_X10_watchers  hw) kX10_166 (k_95) (by decide) ⟨_, _, rfl⟩ (rmN_ok (by decide) (by decide)) rfl rfl (Nat.le_of_ble_eq_true rfl) (dg DX10_watched 5 rfl) (fun r4 σ3 hw => ?_)
    refine j_goto 12 16 hC (dg DX10_watched 6 rfl) (by decide) ?_
    exact hR 16 _ _ _ (dg DX10_watched 8 rfl) hw
theorem m_X10_watched {B : Nat} {σ : SS} {p1 : Int32} {Q : Int32 → SS → Prop} (hw : wp_X10_watched  σ p1 Q) : MI yX10_watched cX10_watched 2 (some .int) 4 92 B 103 RS [.ref (B + 95), .int p1] σ Q := MI.mk (plainFor_of_name (by decide)) (Nat.le_of_ble_eq_true rfl) (fun X hC hR => t_X10_watched hC  hR hw)
-- FortressWatchModel.seenBy
def bd_X10_seenBy_13    (Q : Int32 → SS → Prop) (l1 : Int32) (rc : SS → Int32 → Int32 → Prop) (σ : SS) (v2 : Int32) (v3 : Int32) : Prop :=
  (((σ 96 0) ≤ v3 →
      Q v2 σ) ∧
    (¬ (σ 96 0) ≤ v3 →
      wp_X10_sight σ v3 (fun r4 σ3 =>
        wp_X10_has σ3 r4 l1 (fun r6 σ5 =>
          ((r6 = 0 →
              rc σ5 (v2 ||| 0) (v3 + 1)) ∧
            (¬ r6 = 0 →
              rc σ5 (v2 ||| ((1 : Int32) <<< (v3 &&& 31))) (v3 + 1)))))))
def wp_X10_seenBy  (σ : SS) (p1 : Int32) (Q : Int32 → SS → Prop) : Prop :=
  wp_X10_isStone σ p1 (fun r2 σ1 =>
    ((r2 = 0 →
        Q (-1) σ1) ∧
      (¬ r2 = 0 →
        ∃ k7, Lii (bd_X10_seenBy_13 Q p1) k7 σ1 0 0)))
set_option maxRecDepth 100000 in
set_option maxHeartbeats 4000000 in
theorem tb_X10_seenBy_13 {X : XT} {B : Nat} (hC : Cx X 4 cX10_seenBy RX10 (rmN 3 69)) {Q : Int32 → SS → Prop} {l1 : Int32} (hR : RtI X 4 B 103 RS cX10_seenBy Q) {rc : SS → Int32 → Int32 → Prop} (hrc : ∀ (σ : SS) (v2 : Int32) (v3 : Int32), rc σ v2 v3 → J X 4 B 103 RS 0 0 σ [(0, .ref (B + 95)), (1, .int l1), (2, .int v2), (3, .int v3)] 13 []) : ∀ (σ : SS) (v2 : Int32) (v3 : Int32), bd_X10_seenBy_13 Q l1 rc σ v2 v3 → J X 4 B 103 RS 0 0 σ [(0, .ref (B + 95)), (1, .int l1), (2, .int v2), (3, .int v3)] 13 [] := by
  intro σ v2 v3 hw
  unfold bd_X10_seenBy_13 at hw
  refine j_iload_n 13 hC 3 (dg DX10_seenBy 9 rfl) rfl rfl ?_
  refine j_aload_n 14 hC 0 (dg DX10_seenBy 10 rfl) rfl rfl ?_
  refine j_getR 15 hC fX10_9 (k_95) (by decide) (by decide) rfl (dg DX10_seenBy 11 rfl) ?_
  refine j_iconst 18 hC (dg DX10_seenBy 12 rfl) (v := 0) (by decide) ?_
  refine j_iald0 19 0 hC (k_96) (by decide) (by unfold vp_in; decide) rfl (dg DX10_seenBy 13 rfl) ?_
  refine j_icmp_ge 20 51 hC (dg DX10_seenBy 14 rfl) (by decide) (fun hbr => ?_) (fun hbr => ?_)
  · replace hw := hw.1 hbr
    refine j_iload_n 51 hC 2 (dg DX10_seenBy 31 rfl) rfl rfl ?_
    exact hR 52 _ _ _ (dg DX10_seenBy 32 rfl) hw
  · replace hw := hw.2 hbr
    refine j_iload_n 23 hC 2 (dg DX10_seenBy 15 rfl) rfl rfl ?_
    refine j_aload_n 24 hC 0 (dg DX10_seenBy 16 rfl) rfl rfl ?_
    refine j_iload_n 25 hC 3 (dg DX10_seenBy 17 rfl) rfl rfl ?_
    refine j_Vi (As := [.int v3]) 26 hC (m_X10_sight  hw) kX10_116 (k_95) (by decide) ⟨_, _, rfl⟩ (rmN_ok (by decide) (by decide)) rfl rfl (Nat.le_of_ble_eq_true rfl) (dg DX10_seenBy 18 rfl) (fun r4 σ3 hw => ?_)
    refine j_iload_n 29 hC 1 (dg DX10_seenBy 19 rfl) rfl rfl ?_
    refine j_Si (As := [.int r4, .int l1]) 30 hC (m_X10_has  hw) kX10_73 (rmN_ok (by decide) (by decide)) rfl rfl (Nat.le_of_ble_eq_true rfl) (dg DX10_seenBy 20 rfl) (fun r6 σ5 hw => ?_)
    refine j_if_eq 33 42 hC (dg DX10_seenBy 21 rfl) (by decide) (fun hbr => ?_) (fun hbr => ?_)
    · replace hw := hw.1 hbr
      refine j_iconst 42 hC (dg DX10_seenBy 26 rfl) (v := 0) (by decide) ?_
      refine j_ior 43 hC (dg DX10_seenBy 27 rfl) ?_
      refine j_istore_n 44 hC [(2, .int (v2 ||| 0)), (0, .ref (B + 95)), (1, .int l1), (3, .int v3)] (dg DX10_seenBy 28 rfl) rfl (by decide) rfl ?_
      refine j_iinc 45 hC 3 (v3 + 1) [(3, .int (v3 + 1)), (2, .int (v2 ||| 0)), (0, .ref (B + 95)), (1, .int l1)] (dg DX10_seenBy 29 rfl) rfl rfl (by decide) rfl ?_
      refine j_goto 48 13 hC (dg DX10_seenBy 30 rfl) (by decide) ?_
      refine j_lv [2, 3, 1, 0] (lv' := [(0, .ref (B + 95)), (1, .int l1), (2, .int (v2 ||| 0)), (3, .int (v3 + 1))]) rfl ?_
      exact hrc _ _ _ hw
    · replace hw := hw.2 hbr
      refine j_iconst 36 hC (dg DX10_seenBy 22 rfl) (v := 1) (by decide) ?_
      refine j_iload_n 37 hC 3 (dg DX10_seenBy 23 rfl) rfl rfl ?_
      refine j_ishl 38 hC (dg DX10_seenBy 24 rfl) ?_
      refine j_goto 39 43 hC (dg DX10_seenBy 25 rfl) (by decide) ?_
      refine j_ior 43 hC (dg DX10_seenBy 27 rfl) ?_
      refine j_istore_n 44 hC [(2, .int (v2 ||| ((1 : Int32) <<< (v3 &&& 31)))), (0, .ref (B + 95)), (1, .int l1), (3, .int v3)] (dg DX10_seenBy 28 rfl) rfl (by decide) rfl ?_
      refine j_iinc 45 hC 3 (v3 + 1) [(3, .int (v3 + 1)), (2, .int (v2 ||| ((1 : Int32) <<< (v3 &&& 31)))), (0, .ref (B + 95)), (1, .int l1)] (dg DX10_seenBy 29 rfl) rfl rfl (by decide) rfl ?_
      refine j_goto 48 13 hC (dg DX10_seenBy 30 rfl) (by decide) ?_
      refine j_lv [2, 3, 1, 0] (lv' := [(0, .ref (B + 95)), (1, .int l1), (2, .int (v2 ||| ((1 : Int32) <<< (v3 &&& 31)))), (3, .int (v3 + 1))]) rfl ?_
      exact hrc _ _ _ hw
set_option maxRecDepth 100000 in
set_option maxHeartbeats 4000000 in
theorem t_X10_seenBy {X : XT} {B : Nat} (hC : Cx X 4 cX10_seenBy RX10 (rmN 3 69)) {Q : Int32 → SS → Prop} (hR : RtI X 4 B 103 RS cX10_seenBy Q) {σ : SS} {p1 : Int32} (hw : wp_X10_seenBy  σ p1 Q) : J X 4 B 103 RS 0 0 σ [(0, .ref (B + 95)), (1, .int p1)] 0 [] := by
  unfold wp_X10_seenBy at hw
  refine j_iload_n 0 hC 1 (dg DX10_seenBy 0 rfl) rfl rfl ?_
  refine j_Si (As := [.int p1]) 1 hC (m_X10_isStone  hw) kX10_80 (rmN_ok (by decide) (by decide)) rfl rfl (Nat.le_of_ble_eq_true rfl) (dg DX10_seenBy 1 rfl) (fun r2 σ1 hw => ?_)
  refine j_if_ne 4 9 hC (dg DX10_seenBy 2 rfl) (by decide) (fun hbr => ?_) (fun hbr => ?_)
  · replace hw := hw.2 hbr
    refine j_iconst 9 hC (dg DX10_seenBy 5 rfl) (v := 0) (by decide) ?_
    refine j_istore_n 10 hC [(2, .int 0), (0, .ref (B + 95)), (1, .int p1)] (dg DX10_seenBy 6 rfl) rfl (by decide) rfl ?_
    refine j_iconst 11 hC (dg DX10_seenBy 7 rfl) (v := 0) (by decide) ?_
    refine j_istore_n 12 hC [(3, .int 0), (2, .int 0), (0, .ref (B + 95)), (1, .int p1)] (dg DX10_seenBy 8 rfl) rfl (by decide) rfl ?_
    obtain ⟨k7, hw⟩ := hw
    refine j_lv [2, 3, 1, 0] (lv' := [(0, .ref (B + 95)), (1, .int p1), (2, .int 0), (3, .int 0)]) rfl ?_
    exact Lii.snd (P := fun τ w2 w3 => J X 4 B 103 RS 0 0 τ [(0, .ref (B + 95)), (1, .int p1), (2, .int w2), (3, .int w3)] 13 []) (fun rcc hrcc => tb_X10_seenBy_13 hC  hR  hrcc) k7 _ _ _ hw
  · replace hw := hw.1 hbr
    refine j_iconst 7 hC (dg DX10_seenBy 3 rfl) (v := (-1)) (by decide) ?_
    exact hR 8 _ _ _ (dg DX10_seenBy 4 rfl) hw
theorem m_X10_seenBy {B : Nat} {σ : SS} {p1 : Int32} {Q : Int32 → SS → Prop} (hw : wp_X10_seenBy  σ p1 Q) : MI yX10_seenBy cX10_seenBy 4 (some .int) 3 69 B 103 RS [.ref (B + 95), .int p1] σ Q := MI.mk (plainFor_of_name (by decide)) (Nat.le_of_ble_eq_true rfl) (fun X hC hR => t_X10_seenBy hC  hR hw)
-- FortressWatchModel.beginsGap
def wp_X10_beginsGap  (σ : SS) (p0 : Int32) (p1 : Int32) (Q : Int32 → SS → Prop) : Prop :=
  ((p0 = 0 →
      ((p1 = 0 →
          Q 1 σ) ∧
        (¬ p1 = 0 →
          Q 0 σ))) ∧
    (¬ p0 = 0 →
      wp_X10_has σ p0 p1 (fun r2 σ1 =>
        ((r2 = 0 →
            wp_X10_has σ1 p0 (((p1 + 24) - 1) - ((p1 + 24) - 1) / 24 * 24) (fun r4 σ3 =>
              ((r4 = 0 →
                  Q 0 σ3) ∧
                (¬ r4 = 0 →
                  Q 1 σ3)))) ∧
          (¬ r2 = 0 →
            Q 0 σ1)))))
set_option maxRecDepth 100000 in
set_option maxHeartbeats 4000000 in
theorem t_X10_beginsGap {X : XT} {B : Nat} (hC : Cx X 2 cX10_beginsGap RX10 (rmN 1 21)) {Q : Int32 → SS → Prop} (hR : RtZ X 2 B 103 RS cX10_beginsGap Q) {σ : SS} {p0 : Int32} {p1 : Int32} (hw : wp_X10_beginsGap  σ p0 p1 Q) : J X 2 B 103 RS 0 0 σ [(0, .int p0), (1, .int p1)] 0 [] := by
  unfold wp_X10_beginsGap at hw
  refine j_iload_n 0 hC 0 (dg DX10_beginsGap 0 rfl) rfl rfl ?_
  refine j_if_ne 1 14 hC (dg DX10_beginsGap 1 rfl) (by decide) (fun hbr => ?_) (fun hbr => ?_)
  · replace hw := hw.2 hbr
    refine j_iload_n 14 hC 0 (dg DX10_beginsGap 8 rfl) rfl rfl ?_
    refine j_iload_n 15 hC 1 (dg DX10_beginsGap 9 rfl) rfl rfl ?_
    refine j_Si (As := [.int p0, .int p1]) 16 hC (m_X10_has  hw) kX10_73 (rmN_ok (by decide) (by decide)) rfl rfl (Nat.le_of_ble_eq_true rfl) (dg DX10_beginsGap 10 rfl) (fun r2 σ1 hw => ?_)
    refine j_if_ne 19 42 hC (dg DX10_beginsGap 11 rfl) (by decide) (fun hbr => ?_) (fun hbr => ?_)
    · replace hw := hw.2 hbr
      refine j_iconst 42 hC (dg DX10_beginsGap 24 rfl) (v := 0) (by decide) ?_
      exact hR 43 _ _ _ (dg DX10_beginsGap 25 rfl) ⟨by decide, hw⟩
    · replace hw := hw.1 hbr
      refine j_iload_n 22 hC 0 (dg DX10_beginsGap 12 rfl) rfl rfl ?_
      refine j_iload_n 23 hC 1 (dg DX10_beginsGap 13 rfl) rfl rfl ?_
      refine j_bipush 24 hC (dg DX10_beginsGap 14 rfl) (v := 24) (by decide) ?_
      refine j_iadd 26 hC (dg DX10_beginsGap 15 rfl) ?_
      refine j_iconst 27 hC (dg DX10_beginsGap 16 rfl) (v := 1) (by decide) ?_
      refine j_isub 28 hC (dg DX10_beginsGap 17 rfl) ?_
      refine j_bipush 29 hC (dg DX10_beginsGap 18 rfl) (v := 24) (by decide) ?_
      refine j_irem 31 hC (dg DX10_beginsGap 19 rfl) (by decide) ?_
      refine j_Si (As := [.int p0, .int (((p1 + 24) - 1) - ((p1 + 24) - 1) / 24 * 24)]) 32 hC (m_X10_has  hw) kX10_73 (rmN_ok (by decide) (by decide)) rfl rfl (Nat.le_of_ble_eq_true rfl) (dg DX10_beginsGap 20 rfl) (fun r4 σ3 hw => ?_)
      refine j_if_eq 35 42 hC (dg DX10_beginsGap 21 rfl) (by decide) (fun hbr => ?_) (fun hbr => ?_)
      · replace hw := hw.1 hbr
        refine j_iconst 42 hC (dg DX10_beginsGap 24 rfl) (v := 0) (by decide) ?_
        exact hR 43 _ _ _ (dg DX10_beginsGap 25 rfl) ⟨by decide, hw⟩
      · replace hw := hw.2 hbr
        refine j_iconst 38 hC (dg DX10_beginsGap 22 rfl) (v := 1) (by decide) ?_
        refine j_goto 39 43 hC (dg DX10_beginsGap 23 rfl) (by decide) ?_
        exact hR 43 _ _ _ (dg DX10_beginsGap 25 rfl) ⟨by decide, hw⟩
  · replace hw := hw.1 hbr
    refine j_iload_n 4 hC 1 (dg DX10_beginsGap 2 rfl) rfl rfl ?_
    refine j_if_ne 5 12 hC (dg DX10_beginsGap 3 rfl) (by decide) (fun hbr => ?_) (fun hbr => ?_)
    · replace hw := hw.2 hbr
      refine j_iconst 12 hC (dg DX10_beginsGap 6 rfl) (v := 0) (by decide) ?_
      exact hR 13 _ _ _ (dg DX10_beginsGap 7 rfl) ⟨by decide, hw⟩
    · replace hw := hw.1 hbr
      refine j_iconst 8 hC (dg DX10_beginsGap 4 rfl) (v := 1) (by decide) ?_
      refine j_goto 9 13 hC (dg DX10_beginsGap 5 rfl) (by decide) ?_
      exact hR 13 _ _ _ (dg DX10_beginsGap 7 rfl) ⟨by decide, hw⟩
theorem m_X10_beginsGap {B : Nat} {σ : SS} {p0 : Int32} {p1 : Int32} {Q : Int32 → SS → Prop} (hw : wp_X10_beginsGap  σ p0 p1 Q) : MI yX10_beginsGap cX10_beginsGap 2 (some .boolean) 1 21 B 103 RS [.int p0, .int p1] σ Q := MI.mkZ (plainFor_of_name (by decide)) (Nat.le_of_ble_eq_true rfl) (fun X hC hR => t_X10_beginsGap hC  hR hw)
-- FortressWatchModel.gapMany
def bd_X10_gapMany_13    (Q : Int32 → SS → Prop) (l1 : Int32) (rc : SS → Int32 → Int32 → Prop) (σ : SS) (v2 : Int32) (v3 : Int32) : Prop :=
  ((24 ≤ v3 →
      Q v2 σ) ∧
    (¬ 24 ≤ v3 →
      wp_X10_beginsGap σ l1 v3 (fun r6 σ5 =>
        ((r6 = 0 →
            rc σ5 (v2 + 0) (v3 + 1)) ∧
          (¬ r6 = 0 →
            rc σ5 (v2 + 1) (v3 + 1))))))
def wp_X10_gapMany  (σ : SS)  (Q : Int32 → SS → Prop) : Prop :=
  wp_X10_mannedSet σ (fun r2 σ1 =>
    wp_X10_seen σ1 r2 (fun r4 σ3 =>
      ∃ k7, Lii (bd_X10_gapMany_13 Q r4) k7 σ3 0 0))
set_option maxRecDepth 100000 in
set_option maxHeartbeats 4000000 in
theorem tb_X10_gapMany_13 {X : XT} {B : Nat} (hC : Cx X 4 cX10_gapMany RX10 (rmN 4 93)) {Q : Int32 → SS → Prop} {l1 : Int32} (hR : RtI X 4 B 103 RS cX10_gapMany Q) {rc : SS → Int32 → Int32 → Prop} (hrc : ∀ (σ : SS) (v2 : Int32) (v3 : Int32), rc σ v2 v3 → J X 4 B 103 RS 0 0 σ [(0, .ref (B + 95)), (1, .int l1), (2, .int v2), (3, .int v3)] 13 []) : ∀ (σ : SS) (v2 : Int32) (v3 : Int32), bd_X10_gapMany_13 Q l1 rc σ v2 v3 → J X 4 B 103 RS 0 0 σ [(0, .ref (B + 95)), (1, .int l1), (2, .int v2), (3, .int v3)] 13 [] := by
  intro σ v2 v3 hw
  unfold bd_X10_gapMany_13 at hw
  refine j_iload_n 13 hC 3 (dg DX10_gapMany 9 rfl) rfl rfl ?_
  refine j_bipush 14 hC (dg DX10_gapMany 10 rfl) (v := 24) (by decide) ?_
  refine j_icmp_ge 16 41 hC (dg DX10_gapMany 11 rfl) (by decide) (fun hbr => ?_) (fun hbr => ?_)
  · replace hw := hw.1 hbr
    refine j_iload_n 41 hC 2 (dg DX10_gapMany 24 rfl) rfl rfl ?_
    exact hR 42 _ _ _ (dg DX10_gapMany 25 rfl) hw
  · replace hw := hw.2 hbr
    refine j_iload_n 19 hC 2 (dg DX10_gapMany 12 rfl) rfl rfl ?_
    refine j_iload_n 20 hC 1 (dg DX10_gapMany 13 rfl) rfl rfl ?_
    refine j_iload_n 21 hC 3 (dg DX10_gapMany 14 rfl) rfl rfl ?_
    refine j_Si (As := [.int l1, .int v3]) 22 hC (m_X10_beginsGap  hw) kX10_169 (rmN_ok (by decide) (by decide)) rfl rfl (Nat.le_of_ble_eq_true rfl) (dg DX10_gapMany 15 rfl) (fun r6 σ5 hw => ?_)
    refine j_if_eq 25 32 hC (dg DX10_gapMany 16 rfl) (by decide) (fun hbr => ?_) (fun hbr => ?_)
    · replace hw := hw.1 hbr
      refine j_iconst 32 hC (dg DX10_gapMany 19 rfl) (v := 0) (by decide) ?_
      refine j_iadd 33 hC (dg DX10_gapMany 20 rfl) ?_
      refine j_istore_n 34 hC [(2, .int (v2 + 0)), (0, .ref (B + 95)), (1, .int l1), (3, .int v3)] (dg DX10_gapMany 21 rfl) rfl (by decide) rfl ?_
      refine j_iinc 35 hC 3 (v3 + 1) [(3, .int (v3 + 1)), (2, .int (v2 + 0)), (0, .ref (B + 95)), (1, .int l1)] (dg DX10_gapMany 22 rfl) rfl rfl (by decide) rfl ?_
      refine j_goto 38 13 hC (dg DX10_gapMany 23 rfl) (by decide) ?_
      refine j_lv [2, 3, 1, 0] (lv' := [(0, .ref (B + 95)), (1, .int l1), (2, .int (v2 + 0)), (3, .int (v3 + 1))]) rfl ?_
      exact hrc _ _ _ hw
    · replace hw := hw.2 hbr
      refine j_iconst 28 hC (dg DX10_gapMany 17 rfl) (v := 1) (by decide) ?_
      refine j_goto 29 33 hC (dg DX10_gapMany 18 rfl) (by decide) ?_
      refine j_iadd 33 hC (dg DX10_gapMany 20 rfl) ?_
      refine j_istore_n 34 hC [(2, .int (v2 + 1)), (0, .ref (B + 95)), (1, .int l1), (3, .int v3)] (dg DX10_gapMany 21 rfl) rfl (by decide) rfl ?_
      refine j_iinc 35 hC 3 (v3 + 1) [(3, .int (v3 + 1)), (2, .int (v2 + 1)), (0, .ref (B + 95)), (1, .int l1)] (dg DX10_gapMany 22 rfl) rfl rfl (by decide) rfl ?_
      refine j_goto 38 13 hC (dg DX10_gapMany 23 rfl) (by decide) ?_
      refine j_lv [2, 3, 1, 0] (lv' := [(0, .ref (B + 95)), (1, .int l1), (2, .int (v2 + 1)), (3, .int (v3 + 1))]) rfl ?_
      exact hrc _ _ _ hw
set_option maxRecDepth 100000 in
set_option maxHeartbeats 4000000 in
theorem t_X10_gapMany {X : XT} {B : Nat} (hC : Cx X 4 cX10_gapMany RX10 (rmN 4 93)) {Q : Int32 → SS → Prop} (hR : RtI X 4 B 103 RS cX10_gapMany Q) {σ : SS} (hw : wp_X10_gapMany  σ  Q) : J X 4 B 103 RS 0 0 σ [(0, .ref (B + 95))] 0 [] := by
  unfold wp_X10_gapMany at hw
  refine j_aload_n 0 hC 0 (dg DX10_gapMany 0 rfl) rfl rfl ?_
  refine j_aload_n 1 hC 0 (dg DX10_gapMany 1 rfl) rfl rfl ?_
  refine j_Vi (As := []) 2 hC (m_X10_mannedSet  hw) kX10_128 (k_95) (by decide) ⟨_, _, rfl⟩ (rmN_ok (by decide) (by decide)) rfl rfl (Nat.le_of_ble_eq_true rfl) (dg DX10_gapMany 2 rfl) (fun r2 σ1 hw => ?_)
  refine j_Vi (As := [.int r2]) 5 hC (m_X10_seen  hw) kX10_132 (k_95) (by decide) ⟨_, _, rfl⟩ (rmN_ok (by decide) (by decide)) rfl rfl (Nat.le_of_ble_eq_true rfl) (dg DX10_gapMany 3 rfl) (fun r4 σ3 hw => ?_)
  refine j_istore_n 8 hC [(1, .int r4), (0, .ref (B + 95))] (dg DX10_gapMany 4 rfl) rfl (by decide) rfl ?_
  refine j_iconst 9 hC (dg DX10_gapMany 5 rfl) (v := 0) (by decide) ?_
  refine j_istore_n 10 hC [(2, .int 0), (1, .int r4), (0, .ref (B + 95))] (dg DX10_gapMany 6 rfl) rfl (by decide) rfl ?_
  refine j_iconst 11 hC (dg DX10_gapMany 7 rfl) (v := 0) (by decide) ?_
  refine j_istore_n 12 hC [(3, .int 0), (2, .int 0), (1, .int r4), (0, .ref (B + 95))] (dg DX10_gapMany 8 rfl) rfl (by decide) rfl ?_
  obtain ⟨k7, hw⟩ := hw
  refine j_lv [3, 2, 1, 0] (lv' := [(0, .ref (B + 95)), (1, .int r4), (2, .int 0), (3, .int 0)]) rfl ?_
  exact Lii.snd (P := fun τ w2 w3 => J X 4 B 103 RS 0 0 τ [(0, .ref (B + 95)), (1, .int r4), (2, .int w2), (3, .int w3)] 13 []) (fun rcc hrcc => tb_X10_gapMany_13 hC  hR  hrcc) k7 _ _ _ hw
theorem m_X10_gapMany {B : Nat} {σ : SS} {Q : Int32 → SS → Prop} (hw : wp_X10_gapMany  σ  Q) : MI yX10_gapMany cX10_gapMany 4 (some .int) 4 93 B 103 RS [.ref (B + 95)] σ Q := MI.mk (plainFor_of_name (by decide)) (Nat.le_of_ble_eq_true rfl) (fun X hC hR => t_X10_gapMany hC  hR hw)
-- FortressWatchModel.gapAt
def bd_X10_gapAt_14    (Q : Int32 → SS → Prop) (l1 : Int32) (l2 : Int32) (rc : SS → Int32 → Int32 → Prop) (σ : SS) (v3 : Int32) (v4 : Int32) : Prop :=
  ((24 ≤ v4 →
      Q (-1) σ) ∧
    (¬ 24 ≤ v4 →
      wp_X10_beginsGap σ l2 v4 (fun r6 σ5 =>
        ((r6 = 0 →
            rc σ5 v3 (v4 + 1)) ∧
          (¬ r6 = 0 →
            ((v3 = l1 →
                Q v4 σ5) ∧
              (¬ v3 = l1 →
                rc σ5 (v3 + 1) (v4 + 1))))))))
def wp_X10_gapAt  (σ : SS) (p1 : Int32) (Q : Int32 → SS → Prop) : Prop :=
  wp_X10_mannedSet σ (fun r2 σ1 =>
    wp_X10_seen σ1 r2 (fun r4 σ3 =>
      ∃ k7, Lii (bd_X10_gapAt_14 Q p1 r4) k7 σ3 0 0))
set_option maxRecDepth 100000 in
set_option maxHeartbeats 4000000 in
theorem tb_X10_gapAt_14 {X : XT} {B : Nat} (hC : Cx X 5 cX10_gapAt RX10 (rmN 4 93)) {Q : Int32 → SS → Prop} {l1 : Int32} {l2 : Int32} (hR : RtI X 5 B 103 RS cX10_gapAt Q) {rc : SS → Int32 → Int32 → Prop} (hrc : ∀ (σ : SS) (v3 : Int32) (v4 : Int32), rc σ v3 v4 → J X 5 B 103 RS 0 0 σ [(0, .ref (B + 95)), (1, .int l1), (2, .int l2), (3, .int v3), (4, .int v4)] 14 []) : ∀ (σ : SS) (v3 : Int32) (v4 : Int32), bd_X10_gapAt_14 Q l1 l2 rc σ v3 v4 → J X 5 B 103 RS 0 0 σ [(0, .ref (B + 95)), (1, .int l1), (2, .int l2), (3, .int v3), (4, .int v4)] 14 [] := by
  intro σ v3 v4 hw
  unfold bd_X10_gapAt_14 at hw
  refine j_iload 14 hC 4 (dg DX10_gapAt 9 rfl) rfl ?_
  refine j_bipush 16 hC (dg DX10_gapAt 10 rfl) (v := 24) (by decide) ?_
  refine j_icmp_ge 18 47 hC (dg DX10_gapAt 11 rfl) (by decide) (fun hbr => ?_) (fun hbr => ?_)
  · replace hw := hw.1 hbr
    refine j_iconst 47 hC (dg DX10_gapAt 24 rfl) (v := (-1)) (by decide) ?_
    exact hR 48 _ _ _ (dg DX10_gapAt 25 rfl) hw
  · replace hw := hw.2 hbr
    refine j_iload_n 21 hC 2 (dg DX10_gapAt 12 rfl) rfl rfl ?_
    refine j_iload 22 hC 4 (dg DX10_gapAt 13 rfl) rfl ?_
    refine j_Si (As := [.int l2, .int v4]) 24 hC (m_X10_beginsGap  hw) kX10_169 (rmN_ok (by decide) (by decide)) rfl rfl (Nat.le_of_ble_eq_true rfl) (dg DX10_gapAt 14 rfl) (fun r6 σ5 hw => ?_)
    refine j_if_eq 27 41 hC (dg DX10_gapAt 15 rfl) (by decide) (fun hbr => ?_) (fun hbr => ?_)
    · replace hw := hw.1 hbr
      refine j_iinc 41 hC 4 (v4 + 1) [(4, .int (v4 + 1)), (0, .ref (B + 95)), (1, .int l1), (2, .int l2), (3, .int v3)] (dg DX10_gapAt 22 rfl) rfl rfl (by decide) rfl ?_
      refine j_goto 44 14 hC (dg DX10_gapAt 23 rfl) (by decide) ?_
      refine j_lv [1, 2, 3, 4, 0] (lv' := [(0, .ref (B + 95)), (1, .int l1), (2, .int l2), (3, .int v3), (4, .int (v4 + 1))]) rfl ?_
      exact hrc _ _ _ hw
    · replace hw := hw.2 hbr
      refine j_iload_n 30 hC 3 (dg DX10_gapAt 16 rfl) rfl rfl ?_
      refine j_iload_n 31 hC 1 (dg DX10_gapAt 17 rfl) rfl rfl ?_
      refine j_icmp_ne 32 38 hC (dg DX10_gapAt 18 rfl) (by decide) (fun hbr => ?_) (fun hbr => ?_)
      · replace hw := hw.2 hbr
        refine j_iinc 38 hC 3 (v3 + 1) [(3, .int (v3 + 1)), (0, .ref (B + 95)), (1, .int l1), (2, .int l2), (4, .int v4)] (dg DX10_gapAt 21 rfl) rfl rfl (by decide) rfl ?_
        refine j_iinc 41 hC 4 (v4 + 1) [(4, .int (v4 + 1)), (3, .int (v3 + 1)), (0, .ref (B + 95)), (1, .int l1), (2, .int l2)] (dg DX10_gapAt 22 rfl) rfl rfl (by decide) rfl ?_
        refine j_goto 44 14 hC (dg DX10_gapAt 23 rfl) (by decide) ?_
        refine j_lv [2, 3, 4, 1, 0] (lv' := [(0, .ref (B + 95)), (1, .int l1), (2, .int l2), (3, .int (v3 + 1)), (4, .int (v4 + 1))]) rfl ?_
        exact hrc _ _ _ hw
      · replace hw := hw.1 hbr
        refine j_iload 35 hC 4 (dg DX10_gapAt 19 rfl) rfl ?_
        exact hR 37 _ _ _ (dg DX10_gapAt 20 rfl) hw
set_option maxRecDepth 100000 in
set_option maxHeartbeats 4000000 in
theorem t_X10_gapAt {X : XT} {B : Nat} (hC : Cx X 5 cX10_gapAt RX10 (rmN 4 93)) {Q : Int32 → SS → Prop} (hR : RtI X 5 B 103 RS cX10_gapAt Q) {σ : SS} {p1 : Int32} (hw : wp_X10_gapAt  σ p1 Q) : J X 5 B 103 RS 0 0 σ [(0, .ref (B + 95)), (1, .int p1)] 0 [] := by
  unfold wp_X10_gapAt at hw
  refine j_aload_n 0 hC 0 (dg DX10_gapAt 0 rfl) rfl rfl ?_
  refine j_aload_n 1 hC 0 (dg DX10_gapAt 1 rfl) rfl rfl ?_
  refine j_Vi (As := []) 2 hC (m_X10_mannedSet  hw) kX10_128 (k_95) (by decide) ⟨_, _, rfl⟩ (rmN_ok (by decide) (by decide)) rfl rfl (Nat.le_of_ble_eq_true rfl) (dg DX10_gapAt 2 rfl) (fun r2 σ1 hw => ?_)
  refine j_Vi (As := [.int r2]) 5 hC (m_X10_seen  hw) kX10_132 (k_95) (by decide) ⟨_, _, rfl⟩ (rmN_ok (by decide) (by decide)) rfl rfl (Nat.le_of_ble_eq_true rfl) (dg DX10_gapAt 3 rfl) (fun r4 σ3 hw => ?_)
  refine j_istore_n 8 hC [(2, .int r4), (0, .ref (B + 95)), (1, .int p1)] (dg DX10_gapAt 4 rfl) rfl (by decide) rfl ?_
  refine j_iconst 9 hC (dg DX10_gapAt 5 rfl) (v := 0) (by decide) ?_
  refine j_istore_n 10 hC [(3, .int 0), (2, .int r4), (0, .ref (B + 95)), (1, .int p1)] (dg DX10_gapAt 6 rfl) rfl (by decide) rfl ?_
  refine j_iconst 11 hC (dg DX10_gapAt 7 rfl) (v := 0) (by decide) ?_
  refine j_istore 12 hC [(4, .int 0), (3, .int 0), (2, .int r4), (0, .ref (B + 95)), (1, .int p1)] (dg DX10_gapAt 8 rfl) (by decide) rfl ?_
  obtain ⟨k7, hw⟩ := hw
  refine j_lv [3, 4, 2, 1, 0] (lv' := [(0, .ref (B + 95)), (1, .int p1), (2, .int r4), (3, .int 0), (4, .int 0)]) rfl ?_
  exact Lii.snd (P := fun τ w3 w4 => J X 5 B 103 RS 0 0 τ [(0, .ref (B + 95)), (1, .int p1), (2, .int r4), (3, .int w3), (4, .int w4)] 14 []) (fun rcc hrcc => tb_X10_gapAt_14 hC  hR  hrcc) k7 _ _ _ hw
theorem m_X10_gapAt {B : Nat} {σ : SS} {p1 : Int32} {Q : Int32 → SS → Prop} (hw : wp_X10_gapAt  σ p1 Q) : MI yX10_gapAt cX10_gapAt 5 (some .int) 4 93 B 103 RS [.ref (B + 95), .int p1] σ Q := MI.mk (plainFor_of_name (by decide)) (Nat.le_of_ble_eq_true rfl) (fun X hC hR => t_X10_gapAt hC  hR hw)
-- FortressWatchModel.gapLength
def bd_X10_gapLength_11    (Q : Int32 → SS → Prop) (l1 : Int32) (l2 : Int32) (rc : SS → Int32 → Prop) (σ : SS) (v3 : Int32) : Prop :=
  ((24 ≤ v3 →
      Q v3 σ) ∧
    (¬ 24 ≤ v3 →
      wp_X10_has σ l2 ((l1 + v3) - (l1 + v3) / 24 * 24) (fun r6 σ5 =>
        ((r6 = 0 →
            rc σ5 (v3 + 1)) ∧
          (¬ r6 = 0 →
            Q v3 σ5)))))
def wp_X10_gapLength  (σ : SS) (p1 : Int32) (Q : Int32 → SS → Prop) : Prop :=
  wp_X10_mannedSet σ (fun r2 σ1 =>
    wp_X10_seen σ1 r2 (fun r4 σ3 =>
      ∃ k7, Li (bd_X10_gapLength_11 Q p1 r4) k7 σ3 0))
set_option maxRecDepth 100000 in
set_option maxHeartbeats 4000000 in
theorem tb_X10_gapLength_11 {X : XT} {B : Nat} (hC : Cx X 4 cX10_gapLength RX10 (rmN 4 93)) {Q : Int32 → SS → Prop} {l1 : Int32} {l2 : Int32} (hR : RtI X 4 B 103 RS cX10_gapLength Q) {rc : SS → Int32 → Prop} (hrc : ∀ (σ : SS) (v3 : Int32), rc σ v3 → J X 4 B 103 RS 0 0 σ [(0, .ref (B + 95)), (1, .int l1), (2, .int l2), (3, .int v3)] 11 []) : ∀ (σ : SS) (v3 : Int32), bd_X10_gapLength_11 Q l1 l2 rc σ v3 → J X 4 B 103 RS 0 0 σ [(0, .ref (B + 95)), (1, .int l1), (2, .int l2), (3, .int v3)] 11 [] := by
  intro σ v3 hw
  unfold bd_X10_gapLength_11 at hw
  refine j_iload_n 11 hC 3 (dg DX10_gapLength 7 rfl) rfl rfl ?_
  refine j_bipush 12 hC (dg DX10_gapLength 8 rfl) (v := 24) (by decide) ?_
  refine j_icmp_ge 14 36 hC (dg DX10_gapLength 9 rfl) (by decide) (fun hbr => ?_) (fun hbr => ?_)
  · replace hw := hw.1 hbr
    refine j_iload_n 36 hC 3 (dg DX10_gapLength 20 rfl) rfl rfl ?_
    exact hR 37 _ _ _ (dg DX10_gapLength 21 rfl) hw
  · replace hw := hw.2 hbr
    refine j_iload_n 17 hC 2 (dg DX10_gapLength 10 rfl) rfl rfl ?_
    refine j_iload_n 18 hC 1 (dg DX10_gapLength 11 rfl) rfl rfl ?_
    refine j_iload_n 19 hC 3 (dg DX10_gapLength 12 rfl) rfl rfl ?_
    refine j_iadd 20 hC (dg DX10_gapLength 13 rfl) ?_
    refine j_bipush 21 hC (dg DX10_gapLength 14 rfl) (v := 24) (by decide) ?_
    refine j_irem 23 hC (dg DX10_gapLength 15 rfl) (by decide) ?_
    refine j_Si (As := [.int l2, .int ((l1 + v3) - (l1 + v3) / 24 * 24)]) 24 hC (m_X10_has  hw) kX10_73 (rmN_ok (by decide) (by decide)) rfl rfl (Nat.le_of_ble_eq_true rfl) (dg DX10_gapLength 16 rfl) (fun r6 σ5 hw => ?_)
    refine j_if_ne 27 36 hC (dg DX10_gapLength 17 rfl) (by decide) (fun hbr => ?_) (fun hbr => ?_)
    · replace hw := hw.2 hbr
      refine j_iload_n 36 hC 3 (dg DX10_gapLength 20 rfl) rfl rfl ?_
      exact hR 37 _ _ _ (dg DX10_gapLength 21 rfl) hw
    · replace hw := hw.1 hbr
      refine j_iinc 30 hC 3 (v3 + 1) [(3, .int (v3 + 1)), (0, .ref (B + 95)), (1, .int l1), (2, .int l2)] (dg DX10_gapLength 18 rfl) rfl rfl (by decide) rfl ?_
      refine j_goto 33 11 hC (dg DX10_gapLength 19 rfl) (by decide) ?_
      refine j_lv [1, 2, 3, 0] (lv' := [(0, .ref (B + 95)), (1, .int l1), (2, .int l2), (3, .int (v3 + 1))]) rfl ?_
      exact hrc _ _ hw
set_option maxRecDepth 100000 in
set_option maxHeartbeats 4000000 in
theorem t_X10_gapLength {X : XT} {B : Nat} (hC : Cx X 4 cX10_gapLength RX10 (rmN 4 93)) {Q : Int32 → SS → Prop} (hR : RtI X 4 B 103 RS cX10_gapLength Q) {σ : SS} {p1 : Int32} (hw : wp_X10_gapLength  σ p1 Q) : J X 4 B 103 RS 0 0 σ [(0, .ref (B + 95)), (1, .int p1)] 0 [] := by
  unfold wp_X10_gapLength at hw
  refine j_aload_n 0 hC 0 (dg DX10_gapLength 0 rfl) rfl rfl ?_
  refine j_aload_n 1 hC 0 (dg DX10_gapLength 1 rfl) rfl rfl ?_
  refine j_Vi (As := []) 2 hC (m_X10_mannedSet  hw) kX10_128 (k_95) (by decide) ⟨_, _, rfl⟩ (rmN_ok (by decide) (by decide)) rfl rfl (Nat.le_of_ble_eq_true rfl) (dg DX10_gapLength 2 rfl) (fun r2 σ1 hw => ?_)
  refine j_Vi (As := [.int r2]) 5 hC (m_X10_seen  hw) kX10_132 (k_95) (by decide) ⟨_, _, rfl⟩ (rmN_ok (by decide) (by decide)) rfl rfl (Nat.le_of_ble_eq_true rfl) (dg DX10_gapLength 3 rfl) (fun r4 σ3 hw => ?_)
  refine j_istore_n 8 hC [(2, .int r4), (0, .ref (B + 95)), (1, .int p1)] (dg DX10_gapLength 4 rfl) rfl (by decide) rfl ?_
  refine j_iconst 9 hC (dg DX10_gapLength 5 rfl) (v := 0) (by decide) ?_
  refine j_istore_n 10 hC [(3, .int 0), (2, .int r4), (0, .ref (B + 95)), (1, .int p1)] (dg DX10_gapLength 6 rfl) rfl (by decide) rfl ?_
  obtain ⟨k7, hw⟩ := hw
  refine j_lv [2, 3, 1, 0] (lv' := [(0, .ref (B + 95)), (1, .int p1), (2, .int r4), (3, .int 0)]) rfl ?_
  exact Li.snd (P := fun τ w3 => J X 4 B 103 RS 0 0 τ [(0, .ref (B + 95)), (1, .int p1), (2, .int r4), (3, .int w3)] 11 []) (fun rcc hrcc => tb_X10_gapLength_11 hC  hR  hrcc) k7 _ _ hw
theorem m_X10_gapLength {B : Nat} {σ : SS} {p1 : Int32} {Q : Int32 → SS → Prop} (hw : wp_X10_gapLength  σ p1 Q) : MI yX10_gapLength cX10_gapLength 4 (some .int) 4 93 B 103 RS [.ref (B + 95), .int p1] σ Q := MI.mk (plainFor_of_name (by decide)) (Nat.le_of_ble_eq_true rfl) (fun X hC hR => t_X10_gapLength hC  hR hw)
