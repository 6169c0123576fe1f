-- FortressWatch$Sights.of
def wp_X6_of  (σ : SS) (p1 : Int32) (Q : Int32 → SS → Prop) : Prop :=
  ((p1 < 0 →
      Q 0 σ) ∧
    (¬ p1 < 0 →
      ((9 ≤ p1 →
          Q 0 σ) ∧
        (¬ 9 ≤ p1 →
          vp_in p1 9 ∧
          Q (σ 81 p1.toNatClampNeg) σ))))
set_option maxRecDepth 100000 in
set_option maxHeartbeats 4000000 in
theorem t_X6_of {X : XT} {B : Nat} (hC : Cx X 2 cX6_of RX6 (rmN 0 0)) {Q : Int32 → SS → Prop} (hR : RtI X 2 B 95 RS cX6_of Q) {σ : SS} {p1 : Int32} (hw : wp_X6_of  σ p1 Q) : J X 2 B 95 RS 0 0 σ [(0, .ref (B + 80)), (1, .int p1)] 0 [] := by
  unfold wp_X6_of at hw
  refine j_iload_n 0 hC 1 (dg DX6_of 0 rfl) rfl rfl ?_
  refine j_if_lt 1 19 hC (dg DX6_of 1 rfl) (by decide) (fun hbr => ?_) (fun hbr => ?_)
  · replace hw := hw.1 hbr
    refine j_iconst 19 hC (dg DX6_of 10 rfl) (v := 0) (by decide) ?_
    exact hR 20 _ _ _ (dg DX6_of 11 rfl) hw
  · replace hw := hw.2 hbr
    refine j_iload_n 4 hC 1 (dg DX6_of 2 rfl) rfl rfl ?_
    refine j_bipush 5 hC (dg DX6_of 3 rfl) (v := 9) (by decide) ?_
    refine j_icmp_ge 7 19 hC (dg DX6_of 4 rfl) (by decide) (fun hbr => ?_) (fun hbr => ?_)
    · replace hw := hw.1 hbr
      refine j_iconst 19 hC (dg DX6_of 10 rfl) (v := 0) (by decide) ?_
      exact hR 20 _ _ _ (dg DX6_of 11 rfl) hw
    · replace hw := hw.2 hbr
      refine j_aload_n 10 hC 0 (dg DX6_of 5 rfl) rfl rfl ?_
      refine j_getR 11 hC fX6_9 (k_80) (by decide) (by decide) rfl (dg DX6_of 6 rfl) ?_
      refine j_iload_n 14 hC 1 (dg DX6_of 7 rfl) rfl rfl ?_
      refine j_iald0 15 _ hC (k_81) (by decide) hw.1 rfl (dg DX6_of 8 rfl) ?_
      replace hw := hw.2
      refine j_goto 16 20 hC (dg DX6_of 9 rfl) (by decide) ?_
      exact hR 20 _ _ _ (dg DX6_of 11 rfl) hw
theorem m_X6_of {B : Nat} {σ : SS} {p1 : Int32} {Q : Int32 → SS → Prop} (hw : wp_X6_of  σ p1 Q) : MI yX6_of cX6_of 2 (some .int) 0 0 B 95 RS [.ref (B + 80), .int p1] σ Q := MI.mk (plainFor_of_name (by decide)) (Nat.le_of_ble_eq_true rfl) (fun X hC hR => t_X6_of hC  hR hw)
-- FortressWatch$Chooser.fillSets
def bd_X0_fillSets_37   (K9 : SS → Int32 → Prop) (Q : SS → Prop) (l2 : Int32) (l3 : Int32) (l4 : Int32) (rc : SS → Int32 → Prop) (σ : SS) (v5 : Int32) : Prop :=
  ((l4 ≤ v5 →
      K9 σ (l2 + 1)) ∧
    (¬ l4 ≤ v5 →
      ((512 ≤ (l4 + v5) →
          K9 σ (l2 + 1)) ∧
        (¬ 512 ≤ (l4 + v5) →
          vp_in v5 512 ∧
          vp_in (l4 + v5) 512 ∧
          ∀ σ3 : SS, σ3 = u2 σ 83 (l4 + v5).toNatClampNeg ((σ 83 v5.toNatClampNeg) ||| l3) →
          rc σ3 (v5 + 1)))))
def bd_X0_fillSets_9    (Q : SS → Prop)  (rc : SS → Int32 → Prop) (σ : SS) (v2 : Int32) : Prop :=
  ((9 ≤ v2 →
      Q σ) ∧
    (¬ 9 ≤ v2 →
      (((σ 80 1) ≤ v2 →
          Q σ) ∧
        (¬ (σ 80 1) ≤ v2 →
          wp_X6_of σ v2 (fun r2 σ1 =>
            ∃ k4, Li (bd_X0_fillSets_37 rc Q v2 r2 ((1 : Int32) <<< (v2 &&& 31))) k4 σ1 0)))))
def wp_X0_fillSets  (σ : SS)  (Q : SS → Prop) : Prop :=
  ∃ k5, Li (bd_X0_fillSets_9 Q) k5 (u2 σ 83 0 0) 0
set_option maxRecDepth 100000 in
set_option maxHeartbeats 4000000 in
theorem tb_X0_fillSets_37 {X : XT} {B : Nat} (hC : Cx X 6 cX0_fillSets RX0 (rmN 1 21)) {K9 : SS → Int32 → Prop} {Q : SS → Prop} {l2 : Int32} {l3 : Int32} {l4 : Int32} (hR : RtV X 6 B 95 RS cX0_fillSets Q) (hK9 : ∀ (σ : SS) (v2 : Int32), K9 σ v2 → J X 6 B 95 RS 0 0 σ [(0, .ref (B + 82)), (1, .ref (B + 80)), (2, .int v2)] 9 []) {rc : SS → Int32 → Prop} (hrc : ∀ (σ : SS) (v5 : Int32), rc σ v5 → J X 6 B 95 RS 0 0 σ [(0, .ref (B + 82)), (1, .ref (B + 80)), (2, .int l2), (3, .int l3), (4, .int l4), (5, .int v5)] 37 []) : ∀ (σ : SS) (v5 : Int32), bd_X0_fillSets_37 K9 Q l2 l3 l4 rc σ v5 → J X 6 B 95 RS 0 0 σ [(0, .ref (B + 82)), (1, .ref (B + 80)), (2, .int l2), (3, .int l3), (4, .int l4), (5, .int v5)] 37 [] := by
  intro σ v5 hw
  unfold bd_X0_fillSets_37 at hw
  refine j_iload 37 hC 5 (dg DX0_fillSets 24 rfl) rfl ?_
  refine j_iload 39 hC 4 (dg DX0_fillSets 25 rfl) rfl ?_
  refine j_icmp_ge 41 82 hC (dg DX0_fillSets 26 rfl) (by decide) (fun hbr => ?_) (fun hbr => ?_)
  · replace hw := hw.1 hbr
    refine j_iinc 82 hC 2 (l2 + 1) [(2, .int (l2 + 1)), (0, .ref (B + 82)), (1, .ref (B + 80)), (3, .int l3), (4, .int l4), (5, .int v5)] (dg DX0_fillSets 48 rfl) rfl rfl (by decide) rfl ?_
    refine j_goto 85 9 hC (dg DX0_fillSets 49 rfl) (by decide) ?_
    refine j_lv [1, 2, 0] (lv' := [(0, .ref (B + 82)), (1, .ref (B + 80)), (2, .int (l2 + 1))]) rfl ?_
    exact hK9 _ _ hw
  · replace hw := hw.2 hbr
    refine j_iload 44 hC 4 (dg DX0_fillSets 27 rfl) rfl ?_
    refine j_iload 46 hC 5 (dg DX0_fillSets 28 rfl) rfl ?_
    refine j_iadd 48 hC (dg DX0_fillSets 29 rfl) ?_
    refine j_aload_n 49 hC 0 (dg DX0_fillSets 30 rfl) rfl rfl ?_
    refine j_getR 50 hC fX0_9 (k_82) (by decide) (by decide) rfl (dg DX0_fillSets 31 rfl) ?_
    refine j_alen 53 hC (k_83) (by decide) (v := 512) (by decide) (dg DX0_fillSets 32 rfl) ?_
    refine j_icmp_ge 54 82 hC (dg DX0_fillSets 33 rfl) (by decide) (fun hbr => ?_) (fun hbr => ?_)
    · replace hw := hw.1 hbr
      refine j_iinc 82 hC 2 (l2 + 1) [(2, .int (l2 + 1)), (0, .ref (B + 82)), (1, .ref (B + 80)), (3, .int l3), (4, .int l4), (5, .int v5)] (dg DX0_fillSets 48 rfl) rfl rfl (by decide) rfl ?_
      refine j_goto 85 9 hC (dg DX0_fillSets 49 rfl) (by decide) ?_
      refine j_lv [1, 2, 0] (lv' := [(0, .ref (B + 82)), (1, .ref (B + 80)), (2, .int (l2 + 1))]) rfl ?_
      exact hK9 _ _ hw
    · replace hw := hw.2 hbr
      refine j_aload_n 57 hC 0 (dg DX0_fillSets 34 rfl) rfl rfl ?_
      refine j_getR 58 hC fX0_9 (k_82) (by decide) (by decide) rfl (dg DX0_fillSets 35 rfl) ?_
      refine j_iload 61 hC 4 (dg DX0_fillSets 36 rfl) rfl ?_
      refine j_iload 63 hC 5 (dg DX0_fillSets 37 rfl) rfl ?_
      refine j_iadd 65 hC (dg DX0_fillSets 38 rfl) ?_
      refine j_aload_n 66 hC 0 (dg DX0_fillSets 39 rfl) rfl rfl ?_
      refine j_getR 67 hC fX0_9 (k_82) (by decide) (by decide) rfl (dg DX0_fillSets 40 rfl) ?_
      refine j_iload 70 hC 5 (dg DX0_fillSets 41 rfl) rfl ?_
      refine j_iald0 72 _ hC (k_83) (by decide) hw.1 rfl (dg DX0_fillSets 42 rfl) ?_
      replace hw := hw.2
      refine j_iload_n 73 hC 3 (dg DX0_fillSets 43 rfl) rfl rfl ?_
      refine j_ior 74 hC (dg DX0_fillSets 44 rfl) ?_
      refine j_iast0 75 _ hC (k_83) (by decide) hw.1 rfl (dg DX0_fillSets 45 rfl) ?_
      replace hw := hw.2
      refine j_sg (fun σ3 es => ?_)
      replace hw := hw _ es
      refine j_iinc 76 hC 5 (v5 + 1) [(5, .int (v5 + 1)), (0, .ref (B + 82)), (1, .ref (B + 80)), (2, .int l2), (3, .int l3), (4, .int l4)] (dg DX0_fillSets 46 rfl) rfl rfl (by decide) rfl ?_
      refine j_goto 79 37 hC (dg DX0_fillSets 47 rfl) (by decide) ?_
      refine j_lv [1, 2, 3, 4, 5, 0] (lv' := [(0, .ref (B + 82)), (1, .ref (B + 80)), (2, .int l2), (3, .int l3), (4, .int l4), (5, .int (v5 + 1))]) rfl ?_
      exact hrc _ _ hw
set_option maxRecDepth 100000 in
set_option maxHeartbeats 4000000 in
theorem tb_X0_fillSets_9 {X : XT} {B : Nat} (hC : Cx X 6 cX0_fillSets RX0 (rmN 1 21)) {Q : SS → Prop} (hR : RtV X 6 B 95 RS cX0_fillSets Q) {rc : SS → Int32 → Prop} (hrc : ∀ (σ : SS) (v2 : Int32), rc σ v2 → J X 6 B 95 RS 0 0 σ [(0, .ref (B + 82)), (1, .ref (B + 80)), (2, .int v2)] 9 []) : ∀ (σ : SS) (v2 : Int32), bd_X0_fillSets_9 Q rc σ v2 → J X 6 B 95 RS 0 0 σ [(0, .ref (B + 82)), (1, .ref (B + 80)), (2, .int v2)] 9 [] := by
  intro σ v2 hw
  unfold bd_X0_fillSets_9 at hw
  refine j_iload_n 9 hC 2 (dg DX0_fillSets 7 rfl) rfl rfl ?_
  refine j_bipush 10 hC (dg DX0_fillSets 8 rfl) (v := 9) (by decide) ?_
  refine j_icmp_ge 12 88 hC (dg DX0_fillSets 9 rfl) (by decide) (fun hbr => ?_) (fun hbr => ?_)
  · replace hw := hw.1 hbr
    exact hR 88 _ _ (dg DX0_fillSets 50 rfl) hw
  · replace hw := hw.2 hbr
    refine j_iload_n 15 hC 2 (dg DX0_fillSets 10 rfl) rfl rfl ?_
    refine j_aload_n 16 hC 1 (dg DX0_fillSets 11 rfl) rfl rfl ?_
    refine j_getI 17 hC fX0_28 (k_80) (by decide) (by decide) rfl (dg DX0_fillSets 12 rfl) ?_
    refine j_icmp_ge 20 88 hC (dg DX0_fillSets 13 rfl) (by decide) (fun hbr => ?_) (fun hbr => ?_)
    · replace hw := hw.1 hbr
      exact hR 88 _ _ (dg DX0_fillSets 50 rfl) hw
    · replace hw := hw.2 hbr
      refine j_aload_n 23 hC 1 (dg DX0_fillSets 14 rfl) rfl rfl ?_
      refine j_iload_n 24 hC 2 (dg DX0_fillSets 15 rfl) rfl rfl ?_
      refine j_Vi (As := [.int v2]) 25 hC (m_X6_of  hw) kX0_44 (k_80) (by decide) ⟨_, _, rfl⟩ (rmN_ok (by decide) (by decide)) rfl rfl (Nat.le_of_ble_eq_true rfl) (dg DX0_fillSets 16 rfl) (fun r2 σ1 hw => ?_)
      refine j_istore_n 28 hC [(3, .int r2), (0, .ref (B + 82)), (1, .ref (B + 80)), (2, .int v2)] (dg DX0_fillSets 17 rfl) rfl (by decide) rfl ?_
      refine j_iconst 29 hC (dg DX0_fillSets 18 rfl) (v := 1) (by decide) ?_
      refine j_iload_n 30 hC 3 (dg DX0_fillSets 19 rfl) rfl rfl ?_
      refine j_ishl 31 hC (dg DX0_fillSets 20 rfl) ?_
      refine j_istore 32 hC [(4, .int ((1 : Int32) <<< (v2 &&& 31))), (3, .int r2), (0, .ref (B + 82)), (1, .ref (B + 80)), (2, .int v2)] (dg DX0_fillSets 21 rfl) (by decide) rfl ?_
      refine j_iconst 34 hC (dg DX0_fillSets 22 rfl) (v := 0) (by decide) ?_
      refine j_istore 35 hC [(5, .int 0), (4, .int ((1 : Int32) <<< (v2 &&& 31))), (3, .int r2), (0, .ref (B + 82)), (1, .ref (B + 80)), (2, .int v2)] (dg DX0_fillSets 23 rfl) (by decide) rfl ?_
      obtain ⟨k4, hw⟩ := hw
      refine j_lv [3, 4, 5, 2, 1, 0] (lv' := [(0, .ref (B + 82)), (1, .ref (B + 80)), (2, .int v2), (3, .int r2), (4, .int ((1 : Int32) <<< (v2 &&& 31))), (5, .int 0)]) rfl ?_
      exact Li.snd (P := fun τ w5 => J X 6 B 95 RS 0 0 τ [(0, .ref (B + 82)), (1, .ref (B + 80)), (2, .int v2), (3, .int r2), (4, .int ((1 : Int32) <<< (v2 &&& 31))), (5, .int w5)] 37 []) (fun rcc hrcc => tb_X0_fillSets_37 hC  hR hrc hrcc) k4 _ _ hw
set_option maxRecDepth 100000 in
set_option maxHeartbeats 4000000 in
theorem t_X0_fillSets {X : XT} {B : Nat} (hC : Cx X 6 cX0_fillSets RX0 (rmN 1 21)) {Q : SS → Prop} (hR : RtV X 6 B 95 RS cX0_fillSets Q) {σ : SS} (hw : wp_X0_fillSets  σ  Q) : J X 6 B 95 RS 0 0 σ [(0, .ref (B + 82)), (1, .ref (B + 80))] 0 [] := by
  unfold wp_X0_fillSets at hw
  refine j_aload_n 0 hC 0 (dg DX0_fillSets 0 rfl) rfl rfl ?_
  refine j_getR 1 hC fX0_9 (k_82) (by decide) (by decide) rfl (dg DX0_fillSets 1 rfl) ?_
  refine j_iconst 4 hC (dg DX0_fillSets 2 rfl) (v := 0) (by decide) ?_
  refine j_iconst 5 hC (dg DX0_fillSets 3 rfl) (v := 0) (by decide) ?_
  refine j_iast0 6 0 hC (k_83) (by decide) (by unfold vp_in; decide) rfl (dg DX0_fillSets 4 rfl) ?_
  refine j_iconst 7 hC (dg DX0_fillSets 5 rfl) (v := 0) (by decide) ?_
  refine j_istore_n 8 hC [(2, .int 0), (0, .ref (B + 82)), (1, .ref (B + 80))] (dg DX0_fillSets 6 rfl) rfl (by decide) rfl ?_
  obtain ⟨k5, hw⟩ := hw
  refine j_lv [1, 2, 0] (lv' := [(0, .ref (B + 82)), (1, .ref (B + 80)), (2, .int 0)]) rfl ?_
  exact Li.snd (P := fun τ w2 => J X 6 B 95 RS 0 0 τ [(0, .ref (B + 82)), (1, .ref (B + 80)), (2, .int w2)] 9 []) (fun rcc hrcc => tb_X0_fillSets_9 hC  hR  hrcc) k5 _ _ hw
theorem m_X0_fillSets {B : Nat} {σ : SS} {Q : SS → Prop} (hw : wp_X0_fillSets  σ  Q) : MV yX0_fillSets cX0_fillSets 6 1 21 B 95 RS [.ref (B + 82), .ref (B + 80)] σ Q := MV.mk (plainFor_of_name (by decide)) (Nat.le_of_ble_eq_true rfl) (fun X hC hR => t_X0_fillSets hC  hR hw)
-- java/lang/Integer.bitCount
def wp_J6_bitCount_0f7a4  (σ : SS) (p0 : Int32) (Q : Int32 → SS → Prop) : Prop :=
  ∀ x1 : Int32, x1 = p0 - (((p0.toUInt32 >>> ((1 : Int32).toUInt32 &&& Int32.toUInt32 31)).toInt32) &&& 1431655765) →
  ∀ x2 : Int32, x2 = (x1 &&& 858993459) + (((x1.toUInt32 >>> ((2 : Int32).toUInt32 &&& Int32.toUInt32 31)).toInt32) &&& 858993459) →
  ∀ x3 : Int32, x3 = (x2 + ((x2.toUInt32 >>> ((4 : Int32).toUInt32 &&& Int32.toUInt32 31)).toInt32)) &&& 252645135 →
  ∀ x4 : Int32, x4 = x3 + ((x3.toUInt32 >>> ((8 : Int32).toUInt32 &&& Int32.toUInt32 31)).toInt32) →
  ∀ x5 : Int32, x5 = x4 + ((x4.toUInt32 >>> ((16 : Int32).toUInt32 &&& Int32.toUInt32 31)).toInt32) →
  Q (x5 &&& 63) σ
set_option maxRecDepth 100000 in
set_option maxHeartbeats 4000000 in
theorem t_J6_bitCount_0f7a4 {X : XT} {B : Nat} (hC : Cx X 1 cJ6_bitCount_0f7a4 RJ6 (rmN 0 0)) {Q : Int32 → SS → Prop} (hR : RtI X 1 B 95 RS cJ6_bitCount_0f7a4 Q) {σ : SS} {p0 : Int32} (hw : wp_J6_bitCount_0f7a4  σ p0 Q) : J X 1 B 95 RS 0 0 σ [(0, .int p0)] 0 [] := by
  unfold wp_J6_bitCount_0f7a4 at hw
  refine j_iload_n 0 hC 0 (dg DJ6_bitCount_0f7a4 0 rfl) rfl rfl ?_
  refine j_iload_n 1 hC 0 (dg DJ6_bitCount_0f7a4 1 rfl) rfl rfl ?_
  refine j_iconst 2 hC (dg DJ6_bitCount_0f7a4 2 rfl) (v := 1) (by decide) ?_
  refine j_iushr 3 hC (dg DJ6_bitCount_0f7a4 3 rfl) ?_
  refine j_ldcw 4 hC (dg DJ6_bitCount_0f7a4 4 rfl) w_178 ?_
  refine j_iand 7 hC (dg DJ6_bitCount_0f7a4 5 rfl) ?_
  refine j_isub 8 hC (dg DJ6_bitCount_0f7a4 6 rfl) ?_
  refine j_top (fun x1 ex => ?_)
  replace hw := hw _ ex
  refine j_istore_n 9 hC [(0, .int x1)] (dg DJ6_bitCount_0f7a4 7 rfl) rfl (by decide) rfl ?_
  refine j_iload_n 10 hC 0 (dg DJ6_bitCount_0f7a4 8 rfl) rfl rfl ?_
  refine j_ldcw 11 hC (dg DJ6_bitCount_0f7a4 9 rfl) w_179 ?_
  refine j_iand 14 hC (dg DJ6_bitCount_0f7a4 10 rfl) ?_
  refine j_iload_n 15 hC 0 (dg DJ6_bitCount_0f7a4 11 rfl) rfl rfl ?_
  refine j_iconst 16 hC (dg DJ6_bitCount_0f7a4 12 rfl) (v := 2) (by decide) ?_
  refine j_iushr 17 hC (dg DJ6_bitCount_0f7a4 13 rfl) ?_
  refine j_ldcw 18 hC (dg DJ6_bitCount_0f7a4 14 rfl) w_179 ?_
  refine j_iand 21 hC (dg DJ6_bitCount_0f7a4 15 rfl) ?_
  refine j_iadd 22 hC (dg DJ6_bitCount_0f7a4 16 rfl) ?_
  refine j_top (fun x2 ex => ?_)
  replace hw := hw _ ex
  refine j_istore_n 23 hC [(0, .int x2)] (dg DJ6_bitCount_0f7a4 17 rfl) rfl (by decide) rfl ?_
  refine j_iload_n 24 hC 0 (dg DJ6_bitCount_0f7a4 18 rfl) rfl rfl ?_
  refine j_iload_n 25 hC 0 (dg DJ6_bitCount_0f7a4 19 rfl) rfl rfl ?_
  refine j_iconst 26 hC (dg DJ6_bitCount_0f7a4 20 rfl) (v := 4) (by decide) ?_
  refine j_iushr 27 hC (dg DJ6_bitCount_0f7a4 21 rfl) ?_
  refine j_iadd 28 hC (dg DJ6_bitCount_0f7a4 22 rfl) ?_
  refine j_ldcw 29 hC (dg DJ6_bitCount_0f7a4 23 rfl) w_180 ?_
  refine j_iand 32 hC (dg DJ6_bitCount_0f7a4 24 rfl) ?_
  refine j_top (fun x3 ex => ?_)
  replace hw := hw _ ex
  refine j_istore_n 33 hC [(0, .int x3)] (dg DJ6_bitCount_0f7a4 25 rfl) rfl (by decide) rfl ?_
  refine j_iload_n 34 hC 0 (dg DJ6_bitCount_0f7a4 26 rfl) rfl rfl ?_
  refine j_iload_n 35 hC 0 (dg DJ6_bitCount_0f7a4 27 rfl) rfl rfl ?_
  refine j_bipush 36 hC (dg DJ6_bitCount_0f7a4 28 rfl) (v := 8) (by decide) ?_
  refine j_iushr 38 hC (dg DJ6_bitCount_0f7a4 29 rfl) ?_
  refine j_iadd 39 hC (dg DJ6_bitCount_0f7a4 30 rfl) ?_
  refine j_top (fun x4 ex => ?_)
  replace hw := hw _ ex
  refine j_istore_n 40 hC [(0, .int x4)] (dg DJ6_bitCount_0f7a4 31 rfl) rfl (by decide) rfl ?_
  refine j_iload_n 41 hC 0 (dg DJ6_bitCount_0f7a4 32 rfl) rfl rfl ?_
  refine j_iload_n 42 hC 0 (dg DJ6_bitCount_0f7a4 33 rfl) rfl rfl ?_
  refine j_bipush 43 hC (dg DJ6_bitCount_0f7a4 34 rfl) (v := 16) (by decide) ?_
  refine j_iushr 45 hC (dg DJ6_bitCount_0f7a4 35 rfl) ?_
  refine j_iadd 46 hC (dg DJ6_bitCount_0f7a4 36 rfl) ?_
  refine j_top (fun x5 ex => ?_)
  replace hw := hw _ ex
  refine j_istore_n 47 hC [(0, .int x5)] (dg DJ6_bitCount_0f7a4 37 rfl) rfl (by decide) rfl ?_
  refine j_iload_n 48 hC 0 (dg DJ6_bitCount_0f7a4 38 rfl) rfl rfl ?_
  refine j_bipush 49 hC (dg DJ6_bitCount_0f7a4 39 rfl) (v := 63) (by decide) ?_
  refine j_iand 51 hC (dg DJ6_bitCount_0f7a4 40 rfl) ?_
  exact hR 52 _ _ _ (dg DJ6_bitCount_0f7a4 41 rfl) hw
theorem m_J6_bitCount_0f7a4 {B : Nat} {σ : SS} {p0 : Int32} {Q : Int32 → SS → Prop} (hw : wp_J6_bitCount_0f7a4  σ p0 Q) : MI yJ6_bitCount_0f7a4 cJ6_bitCount_0f7a4 1 (some .int) 0 0 B 95 RS [.int p0] σ Q := MI.mk (plainFor_of_name (by decide)) (Nat.le_of_ble_eq_true rfl) (fun X hC hR => t_J6_bitCount_0f7a4 hC  hR hw)
-- FortressWatch$Chooser.trySets
def bd_X0_trySets_34    (Q : SS → Prop) (l3 : Int32) (rc : SS → Int32 → Int32 → Prop) (σ : SS) (v2 : Int32) (v4 : Int32) : Prop :=
  ((l3 ≤ v4 →
      Q σ) ∧
    (¬ l3 ≤ v4 →
      ((512 ≤ v4 →
          Q σ) ∧
        (¬ 512 ≤ v4 →
          wp_J6_bitCount_0f7a4 σ v4 (fun r4 σ3 =>
            vp_in v4 512 ∧
            (((σ3 83 v4.toNatClampNeg) = 16777215 →
                ((r4 ≤ v2 →
                    ((v2 ≤ r4 →
                        ∀ σ5 : SS, σ5 = u2 (u2 σ3 82 3 ((σ3 82 3) + 1)) 82 4 (((u2 σ3 82 3 ((σ3 82 3) + 1)) 82 4) &&& v4) →
                        rc σ5 v2 (v4 + 1)) ∧
                      (¬ v2 ≤ r4 →
                        ∀ σ6 : SS, σ6 = u2 (u2 (u2 σ3 82 2 v4) 82 3 0) 82 4 v4 →
                        ∀ σ7 : SS, σ7 = u2 (u2 σ6 82 3 ((σ6 82 3) + 1)) 82 4 (((u2 σ6 82 3 ((σ6 82 3) + 1)) 82 4) &&& v4) →
                        rc σ7 r4 (v4 + 1)))) ∧
                  (¬ r4 ≤ v2 →
                    rc σ3 v2 (v4 + 1)))) ∧
              (¬ (σ3 83 v4.toNatClampNeg) = 16777215 →
                rc σ3 v2 (v4 + 1))))))))
def wp_X0_trySets  (σ : SS)  (Q : SS → Prop) : Prop :=
  ∀ σ1 : SS, σ1 = u2 (u2 (u2 σ 82 2 (-4)) 82 3 0) 82 4 0 →
  wp_X0_fillSets σ1 (fun σ2 =>
    ∃ k8, Lii (bd_X0_trySets_34 Q ((1 : Int32) <<< ((σ1 80 1) &&& 31))) k8 σ2 10 0)
set_option maxRecDepth 100000 in
set_option maxHeartbeats 4000000 in
theorem tb_X0_trySets_34 {X : XT} {B : Nat} (hC : Cx X 6 cX0_trySets RX0 (rmN 2 46)) {Q : SS → Prop} {l3 : Int32} (hR : RtV X 6 B 95 RS cX0_trySets Q) {rc : SS → Int32 → Int32 → Prop} (hrc : ∀ (σ : SS) (v2 : Int32) (v4 : Int32), rc σ v2 v4 → J X 6 B 95 RS 0 0 σ [(0, .ref (B + 82)), (1, .ref (B + 80)), (2, .int v2), (3, .int l3), (4, .int v4)] 34 []) : ∀ (σ : SS) (v2 : Int32) (v4 : Int32), bd_X0_trySets_34 Q l3 rc σ v2 v4 → J X 6 B 95 RS 0 0 σ [(0, .ref (B + 82)), (1, .ref (B + 80)), (2, .int v2), (3, .int l3), (4, .int v4)] 34 [] := by
  intro σ v2 v4 hw
  unfold bd_X0_trySets_34 at hw
  refine j_iload 34 hC 4 (dg DX0_trySets 21 rfl) rfl ?_
  refine j_iload_n 36 hC 3 (dg DX0_trySets 22 rfl) rfl rfl ?_
  refine j_icmp_ge 37 131 hC (dg DX0_trySets 23 rfl) (by decide) (fun hbr => ?_) (fun hbr => ?_)
  · replace hw := hw.1 hbr
    exact hR 131 _ _ (dg DX0_trySets 70 rfl) hw
  · replace hw := hw.2 hbr
    refine j_iload 40 hC 4 (dg DX0_trySets 24 rfl) rfl ?_
    refine j_aload_n 42 hC 0 (dg DX0_trySets 25 rfl) rfl rfl ?_
    refine j_getR 43 hC fX0_9 (k_82) (by decide) (by decide) rfl (dg DX0_trySets 26 rfl) ?_
    refine j_alen 46 hC (k_83) (by decide) (v := 512) (by decide) (dg DX0_trySets 27 rfl) ?_
    refine j_icmp_ge 47 131 hC (dg DX0_trySets 28 rfl) (by decide) (fun hbr => ?_) (fun hbr => ?_)
    · replace hw := hw.1 hbr
      exact hR 131 _ _ (dg DX0_trySets 70 rfl) hw
    · replace hw := hw.2 hbr
      refine j_iload 50 hC 4 (dg DX0_trySets 29 rfl) rfl ?_
      refine j_Si (As := [.int v4]) 52 hC (m_J6_bitCount_0f7a4  hw) kX0_37 (rmN_ok (by decide) (by decide)) rfl rfl (Nat.le_of_ble_eq_true rfl) (dg DX0_trySets 30 rfl) (fun r4 σ3 hw => ?_)
      refine j_istore 55 hC [(5, .int r4), (0, .ref (B + 82)), (1, .ref (B + 80)), (2, .int v2), (3, .int l3), (4, .int v4)] (dg DX0_trySets 31 rfl) (by decide) rfl ?_
      refine j_aload_n 57 hC 1 (dg DX0_trySets 32 rfl) rfl rfl ?_
      refine j_getR 58 hC fX0_9 (k_82) (by decide) (by decide) rfl (dg DX0_trySets 33 rfl) ?_
      refine j_iload 61 hC 5 (dg DX0_trySets 34 rfl) rfl ?_
      refine j_iald0 63 _ hC (k_83) (by decide) hw.1 rfl (dg DX0_trySets 35 rfl) ?_
      replace hw := hw.2
      refine j_ldc 64 hC (dg DX0_trySets 36 rfl) w_181 ?_
      refine j_icmp_ne 66 125 hC (dg DX0_trySets 37 rfl) (by decide) (fun hbr => ?_) (fun hbr => ?_)
      · replace hw := hw.2 hbr
        refine j_iinc 125 hC 5 (v4 + 1) [(4, .int (v4 + 1)), (5, .int r4), (0, .ref (B + 82)), (1, .ref (B + 80)), (2, .int v2), (3, .int l3)] (dg DX0_trySets 68 rfl) rfl rfl (by decide) rfl ?_
        refine j_goto 128 34 hC (dg DX0_trySets 69 rfl) (by decide) ?_
        refine j_lv [2, 3, 4, 5, 0] (lv' := [(0, .ref (B + 82)), (1, .ref (B + 80)), (2, .int v2), (3, .int l3), (4, .int (v4 + 1))]) rfl ?_
        exact hrc _ _ _ hw
      · replace hw := hw.1 hbr
        refine j_iload 69 hC 0 (dg DX0_trySets 38 rfl) rfl ?_
        refine j_iload_n 71 hC 3 (dg DX0_trySets 39 rfl) rfl rfl ?_
        refine j_icmp_le 72 78 hC (dg DX0_trySets 40 rfl) (by decide) (fun hbr => ?_) (fun hbr => ?_)
        · replace hw := hw.1 hbr
          refine j_iload 78 hC 0 (dg DX0_trySets 42 rfl) rfl ?_
          refine j_iload_n 80 hC 3 (dg DX0_trySets 43 rfl) rfl rfl ?_
          refine j_icmp_ge 81 104 hC (dg DX0_trySets 44 rfl) (by decide) (fun hbr => ?_) (fun hbr => ?_)
          · replace hw := hw.1 hbr
            refine j_aload_n 104 hC 1 (dg DX0_trySets 56 rfl) rfl rfl ?_
            refine j_dup 105 hC (dg DX0_trySets 57 rfl) rfl ?_
            refine j_getI 106 hC fX0_22 (k_82) (by decide) (by decide) rfl (dg DX0_trySets 58 rfl) ?_
            refine j_iconst 109 hC (dg DX0_trySets 59 rfl) (v := 1) (by decide) ?_
            refine j_iadd 110 hC (dg DX0_trySets 60 rfl) ?_
            refine j_putI 111 hC fX0_22 (k_82) (by decide) (by decide) rfl fp0_3 rfl (dg DX0_trySets 61 rfl) ?_
            refine j_aload_n 114 hC 1 (dg DX0_trySets 62 rfl) rfl rfl ?_
            refine j_dup 115 hC (dg DX0_trySets 63 rfl) rfl ?_
            refine j_getI 116 hC fX0_25 (k_82) (by decide) (by decide) rfl (dg DX0_trySets 64 rfl) ?_
            refine j_iload 119 hC 5 (dg DX0_trySets 65 rfl) rfl ?_
            refine j_iand 121 hC (dg DX0_trySets 66 rfl) ?_
            refine j_putI 122 hC fX0_25 (k_82) (by decide) (by decide) rfl fp0_4 rfl (dg DX0_trySets 67 rfl) ?_
            refine j_sg (fun σ5 es => ?_)
            replace hw := hw _ es
            refine j_iinc 125 hC 5 (v4 + 1) [(4, .int (v4 + 1)), (5, .int r4), (0, .ref (B + 82)), (1, .ref (B + 80)), (2, .int v2), (3, .int l3)] (dg DX0_trySets 68 rfl) rfl rfl (by decide) rfl ?_
            refine j_goto 128 34 hC (dg DX0_trySets 69 rfl) (by decide) ?_
            refine j_lv [2, 3, 4, 5, 0] (lv' := [(0, .ref (B + 82)), (1, .ref (B + 80)), (2, .int v2), (3, .int l3), (4, .int (v4 + 1))]) rfl ?_
            exact hrc _ _ _ hw
          · replace hw := hw.2 hbr
            refine j_iload 84 hC 0 (dg DX0_trySets 45 rfl) rfl ?_
            refine j_istore_n 86 hC [(2, .int r4), (5, .int r4), (0, .ref (B + 82)), (1, .ref (B + 80)), (3, .int l3), (4, .int v4)] (dg DX0_trySets 46 rfl) rfl (by decide) rfl ?_
            refine j_aload_n 87 hC 2 (dg DX0_trySets 47 rfl) rfl rfl ?_
            refine j_iload 88 hC 5 (dg DX0_trySets 48 rfl) rfl ?_
            refine j_putI 90 hC fX0_18 (k_82) (by decide) (by decide) rfl fp0_2 rfl (dg DX0_trySets 49 rfl) ?_
            refine j_aload_n 93 hC 2 (dg DX0_trySets 50 rfl) rfl rfl ?_
            refine j_iconst 94 hC (dg DX0_trySets 51 rfl) (v := 0) (by decide) ?_
            refine j_putI 95 hC fX0_22 (k_82) (by decide) (by decide) rfl fp0_3 rfl (dg DX0_trySets 52 rfl) ?_
            refine j_aload_n 98 hC 2 (dg DX0_trySets 53 rfl) rfl rfl ?_
            refine j_iload 99 hC 5 (dg DX0_trySets 54 rfl) rfl ?_
            refine j_putI 101 hC fX0_25 (k_82) (by decide) (by decide) rfl fp0_4 rfl (dg DX0_trySets 55 rfl) ?_
            refine j_sg (fun σ6 es => ?_)
            replace hw := hw _ es
            refine j_aload_n 104 hC 2 (dg DX0_trySets 56 rfl) rfl rfl ?_
            refine j_dup 105 hC (dg DX0_trySets 57 rfl) rfl ?_
            refine j_getI 106 hC fX0_22 (k_82) (by decide) (by decide) rfl (dg DX0_trySets 58 rfl) ?_
            refine j_iconst 109 hC (dg DX0_trySets 59 rfl) (v := 1) (by decide) ?_
            refine j_iadd 110 hC (dg DX0_trySets 60 rfl) ?_
            refine j_putI 111 hC fX0_22 (k_82) (by decide) (by decide) rfl fp0_3 rfl (dg DX0_trySets 61 rfl) ?_
            refine j_aload_n 114 hC 2 (dg DX0_trySets 62 rfl) rfl rfl ?_
            refine j_dup 115 hC (dg DX0_trySets 63 rfl) rfl ?_
            refine j_getI 116 hC fX0_25 (k_82) (by decide) (by decide) rfl (dg DX0_trySets 64 rfl) ?_
            refine j_iload 119 hC 5 (dg DX0_trySets 65 rfl) rfl ?_
            refine j_iand 121 hC (dg DX0_trySets 66 rfl) ?_
            refine j_putI 122 hC fX0_25 (k_82) (by decide) (by decide) rfl fp0_4 rfl (dg DX0_trySets 67 rfl) ?_
            refine j_sg (fun σ7 es => ?_)
            replace hw := hw _ es
            refine j_iinc 125 hC 5 (v4 + 1) [(4, .int (v4 + 1)), (2, .int r4), (5, .int r4), (0, .ref (B + 82)), (1, .ref (B + 80)), (3, .int l3)] (dg DX0_trySets 68 rfl) rfl rfl (by decide) rfl ?_
            refine j_goto 128 34 hC (dg DX0_trySets 69 rfl) (by decide) ?_
            refine j_lv [3, 4, 1, 5, 0] (lv' := [(0, .ref (B + 82)), (1, .ref (B + 80)), (2, .int r4), (3, .int l3), (4, .int (v4 + 1))]) rfl ?_
            exact hrc _ _ _ hw
        · replace hw := hw.2 hbr
          refine j_goto 75 125 hC (dg DX0_trySets 41 rfl) (by decide) ?_
          refine j_iinc 125 hC 5 (v4 + 1) [(4, .int (v4 + 1)), (5, .int r4), (0, .ref (B + 82)), (1, .ref (B + 80)), (2, .int v2), (3, .int l3)] (dg DX0_trySets 68 rfl) rfl rfl (by decide) rfl ?_
          refine j_goto 128 34 hC (dg DX0_trySets 69 rfl) (by decide) ?_
          refine j_lv [2, 3, 4, 5, 0] (lv' := [(0, .ref (B + 82)), (1, .ref (B + 80)), (2, .int v2), (3, .int l3), (4, .int (v4 + 1))]) rfl ?_
          exact hrc _ _ _ hw
set_option maxRecDepth 100000 in
set_option maxHeartbeats 4000000 in
theorem t_X0_trySets {X : XT} {B : Nat} (hC : Cx X 6 cX0_trySets RX0 (rmN 2 46)) {Q : SS → Prop} (hR : RtV X 6 B 95 RS cX0_trySets Q) {σ : SS} (hw : wp_X0_trySets  σ  Q) : J X 6 B 95 RS 0 0 σ [(0, .ref (B + 82)), (1, .ref (B + 80))] 0 [] := by
  unfold wp_X0_trySets at hw
  refine j_aload_n 0 hC 0 (dg DX0_trySets 0 rfl) rfl rfl ?_
  refine j_bipush 1 hC (dg DX0_trySets 1 rfl) (v := (-4)) (by decide) ?_
  refine j_putI 3 hC fX0_18 (k_82) (by decide) (by decide) rfl fp0_2 rfl (dg DX0_trySets 2 rfl) ?_
  refine j_aload_n 6 hC 0 (dg DX0_trySets 3 rfl) rfl rfl ?_
  refine j_iconst 7 hC (dg DX0_trySets 4 rfl) (v := 0) (by decide) ?_
  refine j_putI 8 hC fX0_22 (k_82) (by decide) (by decide) rfl fp0_3 rfl (dg DX0_trySets 5 rfl) ?_
  refine j_aload_n 11 hC 0 (dg DX0_trySets 6 rfl) rfl rfl ?_
  refine j_iconst 12 hC (dg DX0_trySets 7 rfl) (v := 0) (by decide) ?_
  refine j_putI 13 hC fX0_25 (k_82) (by decide) (by decide) rfl fp0_4 rfl (dg DX0_trySets 8 rfl) ?_
  refine j_sg (fun σ1 es => ?_)
  replace hw := hw _ es
  refine j_bipush 16 hC (dg DX0_trySets 9 rfl) (v := 10) (by decide) ?_
  refine j_istore_n 18 hC [(2, .int 10), (0, .ref (B + 82)), (1, .ref (B + 80))] (dg DX0_trySets 10 rfl) rfl (by decide) rfl ?_
  refine j_iconst 19 hC (dg DX0_trySets 11 rfl) (v := 1) (by decide) ?_
  refine j_aload_n 20 hC 2 (dg DX0_trySets 12 rfl) rfl rfl ?_
  refine j_getI 21 hC fX0_28 (k_80) (by decide) (by decide) rfl (dg DX0_trySets 13 rfl) ?_
  refine j_ishl 24 hC (dg DX0_trySets 14 rfl) ?_
  refine j_istore_n 25 hC [(3, .int ((1 : Int32) <<< ((σ1 80 1) &&& 31))), (2, .int 10), (0, .ref (B + 82)), (1, .ref (B + 80))] (dg DX0_trySets 15 rfl) rfl (by decide) rfl ?_
  refine j_aload_n 26 hC 2 (dg DX0_trySets 16 rfl) rfl rfl ?_
  refine j_aload_n 27 hC 3 (dg DX0_trySets 17 rfl) rfl rfl ?_
  refine j_Vv (As := [.ref (B + 80)]) 28 hC (m_X0_fillSets  hw) kX0_33 (k_82) (by decide) ⟨_, _, rfl⟩ (rmN_ok (by decide) (by decide)) rfl rfl (Nat.le_of_ble_eq_true rfl) (dg DX0_trySets 18 rfl) (fun σ2 hw => ?_)
  refine j_iconst 31 hC (dg DX0_trySets 19 rfl) (v := 0) (by decide) ?_
  refine j_istore 32 hC [(4, .int 0), (3, .int ((1 : Int32) <<< ((σ1 80 1) &&& 31))), (2, .int 10), (0, .ref (B + 82)), (1, .ref (B + 80))] (dg DX0_trySets 20 rfl) (by decide) rfl ?_
  obtain ⟨k8, hw⟩ := hw
  refine j_lv [3, 4, 2, 1, 0] (lv' := [(0, .ref (B + 82)), (1, .ref (B + 80)), (2, .int 10), (3, .int ((1 : Int32) <<< ((σ1 80 1) &&& 31))), (4, .int 0)]) rfl ?_
  exact Lii.snd (P := fun τ w2 w4 => J X 6 B 95 RS 0 0 τ [(0, .ref (B + 82)), (1, .ref (B + 80)), (2, .int w2), (3, .int ((1 : Int32) <<< ((σ1 80 1) &&& 31))), (4, .int w4)] 34 []) (fun rcc hrcc => tb_X0_trySets_34 hC  hR  hrcc) k8 _ _ _ hw
theorem m_X0_trySets {B : Nat} {σ : SS} {Q : SS → Prop} (hw : wp_X0_trySets  σ  Q) : MV yX0_trySets cX0_trySets 6 2 46 B 95 RS [.ref (B + 82), .ref (B + 80)] σ Q := MV.mk (plainFor_of_name (by decide)) (Nat.le_of_ble_eq_true rfl) (fun X hC hR => t_X0_trySets hC  hR hw)
-- FortressWatch.isIn
def wp_X9_isIn  (σ : SS) (p0 : Int32) (p1 : Int32) (Q : Int32 → SS → Prop) : Prop :=
  (((((p0.toUInt32 >>> (p1.toUInt32 &&& Int32.toUInt32 31)).toInt32) &&& 1) = 1 →
      Q 1 σ) ∧
    (¬ (((p0.toUInt32 >>> (p1.toUInt32 &&& Int32.toUInt32 31)).toInt32) &&& 1) = 1 →
      Q 0 σ))
set_option maxRecDepth 100000 in
set_option maxHeartbeats 4000000 in
theorem t_X9_isIn {X : XT} {B : Nat} (hC : Cx X 2 cX9_isIn RX9 (rmN 0 0)) {Q : Int32 → SS → Prop} (hR : RtZ X 2 B 95 RS cX9_isIn Q) {σ : SS} {p0 : Int32} {p1 : Int32} (hw : wp_X9_isIn  σ p0 p1 Q) : J X 2 B 95 RS 0 0 σ [(0, .int p0), (1, .int p1)] 0 [] := by
  unfold wp_X9_isIn at hw
  refine j_iload_n 0 hC 0 (dg DX9_isIn 0 rfl) rfl rfl ?_
  refine j_iload_n 1 hC 1 (dg DX9_isIn 1 rfl) rfl rfl ?_
  refine j_iushr 2 hC (dg DX9_isIn 2 rfl) ?_
  refine j_iconst 3 hC (dg DX9_isIn 3 rfl) (v := 1) (by decide) ?_
  refine j_iand 4 hC (dg DX9_isIn 4 rfl) ?_
  refine j_iconst 5 hC (dg DX9_isIn 5 rfl) (v := 1) (by decide) ?_
  refine j_icmp_ne 6 13 hC (dg DX9_isIn 6 rfl) (by decide) (fun hbr => ?_) (fun hbr => ?_)
  · replace hw := hw.2 hbr
    refine j_iconst 13 hC (dg DX9_isIn 9 rfl) (v := 0) (by decide) ?_
    exact hR 14 _ _ _ (dg DX9_isIn 10 rfl) ⟨by decide, hw⟩
  · replace hw := hw.1 hbr
    refine j_iconst 9 hC (dg DX9_isIn 7 rfl) (v := 1) (by decide) ?_
    refine j_goto 10 14 hC (dg DX9_isIn 8 rfl) (by decide) ?_
    exact hR 14 _ _ _ (dg DX9_isIn 10 rfl) ⟨by decide, hw⟩
theorem m_X9_isIn {B : Nat} {σ : SS} {p0 : Int32} {p1 : Int32} {Q : Int32 → SS → Prop} (hw : wp_X9_isIn  σ p0 p1 Q) : MI yX9_isIn cX9_isIn 2 (some .boolean) 0 0 B 95 RS [.int p0, .int p1] σ Q := MI.mkZ (plainFor_of_name (by decide)) (Nat.le_of_ble_eq_true rfl) (fun X hC hR => t_X9_isIn hC  hR hw)
-- FortressWatch$Chooser.fewestSeers
def bd_X0_fewestSeers_8    (Q : Int32 → SS → Prop) (l1 : Int32) (rc : SS → Int32 → Int32 → Int32 → Prop) (σ : SS) (v2 : Int32) (v3 : Int32) (v4 : Int32) : Prop :=
  ((24 ≤ v4 →
      Q v2 σ) ∧
    (¬ 24 ≤ v4 →
      ((24 ≤ v4 →
          Q v2 σ) ∧
        (¬ 24 ≤ v4 →
          vp_in v4 24 ∧
          wp_J6_bitCount_0f7a4 σ (σ 84 v4.toNatClampNeg) (fun r2 σ1 =>
            wp_X9_isIn σ1 l1 v4 (fun r4 σ3 =>
              ((r4 = 0 →
                  rc σ3 v2 v3 (v4 + 1)) ∧
                (¬ r4 = 0 →
                  ((v3 ≤ r2 →
                      rc σ3 v2 v3 (v4 + 1)) ∧
                    (¬ v3 ≤ r2 →
                      vp_in v4 24 ∧
                      rc σ3 (σ3 84 v4.toNatClampNeg) r2 (v4 + 1)))))))))))
def wp_X0_fewestSeers  (σ : SS) (p1 : Int32) (Q : Int32 → SS → Prop) : Prop :=
  ∃ k5, Liii (bd_X0_fewestSeers_8 Q p1) k5 σ 0 10 0
set_option maxRecDepth 100000 in
set_option maxHeartbeats 4000000 in
theorem tb_X0_fewestSeers_8 {X : XT} {B : Nat} (hC : Cx X 6 cX0_fewestSeers RX0 (rmN 1 21)) {Q : Int32 → SS → Prop} {l1 : Int32} (hR : RtI X 6 B 95 RS cX0_fewestSeers Q) {rc : SS → Int32 → Int32 → Int32 → Prop} (hrc : ∀ (σ : SS) (v2 : Int32) (v3 : Int32) (v4 : Int32), rc σ v2 v3 v4 → J X 6 B 95 RS 0 0 σ [(0, .ref (B + 84)), (1, .int l1), (2, .int v2), (3, .int v3), (4, .int v4)] 8 []) : ∀ (σ : SS) (v2 : Int32) (v3 : Int32) (v4 : Int32), bd_X0_fewestSeers_8 Q l1 rc σ v2 v3 v4 → J X 6 B 95 RS 0 0 σ [(0, .ref (B + 84)), (1, .int l1), (2, .int v2), (3, .int v3), (4, .int v4)] 8 [] := by
  intro σ v2 v3 v4 hw
  unfold bd_X0_fewestSeers_8 at hw
  refine j_iload 8 hC 4 (dg DX0_fewestSeers 6 rfl) rfl ?_
  refine j_bipush 10 hC (dg DX0_fewestSeers 7 rfl) (v := 24) (by decide) ?_
  refine j_icmp_ge 12 60 hC (dg DX0_fewestSeers 8 rfl) (by decide) (fun hbr => ?_) (fun hbr => ?_)
  · replace hw := hw.1 hbr
    refine j_iload_n 60 hC 2 (dg DX0_fewestSeers 33 rfl) rfl rfl ?_
    exact hR 61 _ _ _ (dg DX0_fewestSeers 34 rfl) hw
  · replace hw := hw.2 hbr
    refine j_iload 15 hC 4 (dg DX0_fewestSeers 9 rfl) rfl ?_
    refine j_aload_n 17 hC 0 (dg DX0_fewestSeers 10 rfl) rfl rfl ?_
    refine j_alen 18 hC (k_84) (by decide) (v := 24) (by decide) (dg DX0_fewestSeers 11 rfl) ?_
    refine j_icmp_ge 19 60 hC (dg DX0_fewestSeers 12 rfl) (by decide) (fun hbr => ?_) (fun hbr => ?_)
    · replace hw := hw.1 hbr
      refine j_iload_n 60 hC 2 (dg DX0_fewestSeers 33 rfl) rfl rfl ?_
      exact hR 61 _ _ _ (dg DX0_fewestSeers 34 rfl) hw
    · replace hw := hw.2 hbr
      refine j_aload_n 22 hC 0 (dg DX0_fewestSeers 13 rfl) rfl rfl ?_
      refine j_iload 23 hC 4 (dg DX0_fewestSeers 14 rfl) rfl ?_
      refine j_iald0 25 _ hC (k_84) (by decide) hw.1 rfl (dg DX0_fewestSeers 15 rfl) ?_
      replace hw := hw.2
      refine j_Si (As := [.int (σ 84 v4.toNatClampNeg)]) 26 hC (m_J6_bitCount_0f7a4  hw) kX0_37 (rmN_ok (by decide) (by decide)) rfl rfl (Nat.le_of_ble_eq_true rfl) (dg DX0_fewestSeers 16 rfl) (fun r2 σ1 hw => ?_)
      refine j_istore 29 hC [(5, .int r2), (0, .ref (B + 84)), (1, .int l1), (2, .int v2), (3, .int v3), (4, .int v4)] (dg DX0_fewestSeers 17 rfl) (by decide) rfl ?_
      refine j_iload_n 31 hC 2 (dg DX0_fewestSeers 18 rfl) rfl rfl ?_
      refine j_iload 32 hC 5 (dg DX0_fewestSeers 19 rfl) rfl ?_
      refine j_SNi (As := [.int l1, .int v4]) 34 hC (m_X9_isIn  hw) kX0_62 (rmN_ok (by decide) (by decide)) rfl rfl (Nat.le_of_ble_eq_true rfl) (dg DX0_fewestSeers 20 rfl) (fun r4 σ3 hw => ?_)
      refine j_if_eq 37 54 hC (dg DX0_fewestSeers 21 rfl) (by decide) (fun hbr => ?_) (fun hbr => ?_)
      · replace hw := hw.1 hbr
        refine j_iinc 54 hC 5 (v4 + 1) [(4, .int (v4 + 1)), (5, .int r2), (0, .ref (B + 84)), (1, .int l1), (2, .int v2), (3, .int v3)] (dg DX0_fewestSeers 31 rfl) rfl rfl (by decide) rfl ?_
        refine j_goto 57 8 hC (dg DX0_fewestSeers 32 rfl) (by decide) ?_
        refine j_lv [2, 3, 4, 5, 0] (lv' := [(0, .ref (B + 84)), (1, .int l1), (2, .int v2), (3, .int v3), (4, .int (v4 + 1))]) rfl ?_
        exact hrc _ _ _ _ hw
      · replace hw := hw.2 hbr
        refine j_iload 40 hC 0 (dg DX0_fewestSeers 22 rfl) rfl ?_
        refine j_iload_n 42 hC 4 (dg DX0_fewestSeers 23 rfl) rfl rfl ?_
        refine j_icmp_ge 43 54 hC (dg DX0_fewestSeers 24 rfl) (by decide) (fun hbr => ?_) (fun hbr => ?_)
        · replace hw := hw.1 hbr
          refine j_iinc 54 hC 5 (v4 + 1) [(4, .int (v4 + 1)), (5, .int r2), (0, .ref (B + 84)), (1, .int l1), (2, .int v2), (3, .int v3)] (dg DX0_fewestSeers 31 rfl) rfl rfl (by decide) rfl ?_
          refine j_goto 57 8 hC (dg DX0_fewestSeers 32 rfl) (by decide) ?_
          refine j_lv [2, 3, 4, 5, 0] (lv' := [(0, .ref (B + 84)), (1, .int l1), (2, .int v2), (3, .int v3), (4, .int (v4 + 1))]) rfl ?_
          exact hrc _ _ _ _ hw
        · replace hw := hw.2 hbr
          refine j_iload 46 hC 0 (dg DX0_fewestSeers 25 rfl) rfl ?_
          refine j_istore_n 48 hC [(3, .int r2), (5, .int r2), (0, .ref (B + 84)), (1, .int l1), (2, .int v2), (4, .int v4)] (dg DX0_fewestSeers 26 rfl) rfl (by decide) rfl ?_
          refine j_aload_n 49 hC 2 (dg DX0_fewestSeers 27 rfl) rfl rfl ?_
          refine j_iload 50 hC 5 (dg DX0_fewestSeers 28 rfl) rfl ?_
          refine j_iald0 52 _ hC (k_84) (by decide) hw.1 rfl (dg DX0_fewestSeers 29 rfl) ?_
          replace hw := hw.2
          refine j_istore_n 53 hC [(2, .int (σ3 84 v4.toNatClampNeg)), (3, .int r2), (5, .int r2), (0, .ref (B + 84)), (1, .int l1), (4, .int v4)] (dg DX0_fewestSeers 30 rfl) rfl (by decide) rfl ?_
          refine j_iinc 54 hC 5 (v4 + 1) [(4, .int (v4 + 1)), (2, .int (σ3 84 v4.toNatClampNeg)), (3, .int r2), (5, .int r2), (0, .ref (B + 84)), (1, .int l1)] (dg DX0_fewestSeers 31 rfl) rfl rfl (by decide) rfl ?_
          refine j_goto 57 8 hC (dg DX0_fewestSeers 32 rfl) (by decide) ?_
          refine j_lv [4, 5, 1, 2, 0] (lv' := [(0, .ref (B + 84)), (1, .int l1), (2, .int (σ3 84 v4.toNatClampNeg)), (3, .int r2), (4, .int (v4 + 1))]) rfl ?_
          exact hrc _ _ _ _ hw
set_option maxRecDepth 100000 in
set_option maxHeartbeats 4000000 in
theorem t_X0_fewestSeers {X : XT} {B : Nat} (hC : Cx X 6 cX0_fewestSeers RX0 (rmN 1 21)) {Q : Int32 → SS → Prop} (hR : RtI X 6 B 95 RS cX0_fewestSeers Q) {σ : SS} {p1 : Int32} (hw : wp_X0_fewestSeers  σ p1 Q) : J X 6 B 95 RS 0 0 σ [(0, .ref (B + 84)), (1, .int p1)] 0 [] := by
  unfold wp_X0_fewestSeers at hw
  refine j_iconst 0 hC (dg DX0_fewestSeers 0 rfl) (v := 0) (by decide) ?_
  refine j_istore_n 1 hC [(2, .int 0), (0, .ref (B + 84)), (1, .int p1)] (dg DX0_fewestSeers 1 rfl) rfl (by decide) rfl ?_
  refine j_bipush 2 hC (dg DX0_fewestSeers 2 rfl) (v := 10) (by decide) ?_
  refine j_istore_n 4 hC [(3, .int 10), (2, .int 0), (0, .ref (B + 84)), (1, .int p1)] (dg DX0_fewestSeers 3 rfl) rfl (by decide) rfl ?_
  refine j_iconst 5 hC (dg DX0_fewestSeers 4 rfl) (v := 0) (by decide) ?_
  refine j_istore 6 hC [(4, .int 0), (3, .int 10), (2, .int 0), (0, .ref (B + 84)), (1, .int p1)] (dg DX0_fewestSeers 5 rfl) (by decide) rfl ?_
  obtain ⟨k5, hw⟩ := hw
  refine j_lv [3, 4, 2, 1, 0] (lv' := [(0, .ref (B + 84)), (1, .int p1), (2, .int 0), (3, .int 10), (4, .int 0)]) rfl ?_
  exact Liii.snd (P := fun τ w2 w3 w4 => J X 6 B 95 RS 0 0 τ [(0, .ref (B + 84)), (1, .int p1), (2, .int w2), (3, .int w3), (4, .int w4)] 8 []) (fun rcc hrcc => tb_X0_fewestSeers_8 hC  hR  hrcc) k5 _ _ _ _ hw
theorem m_X0_fewestSeers {B : Nat} {σ : SS} {p1 : Int32} {Q : Int32 → SS → Prop} (hw : wp_X0_fewestSeers  σ p1 Q) : MI yX0_fewestSeers cX0_fewestSeers 6 (some .int) 1 21 B 95 RS [.ref (B + 84), .int p1] σ Q := MI.mk (plainFor_of_name (by decide)) (Nat.le_of_ble_eq_true rfl) (fun X hC hR => t_X0_fewestSeers hC  hR hw)
-- FortressWatch$Chooser.better
def wp_X0_better  (σ : SS) (p0 : Int32) (p1 : Int32) (Q : Int32 → SS → Prop) : Prop :=
  ((p1 = (-4) →
      Q p0 σ) ∧
    (¬ p1 = (-4) →
      wp_J6_bitCount_0f7a4 σ p0 (fun r2 σ1 =>
        wp_J6_bitCount_0f7a4 σ1 p1 (fun r4 σ3 =>
          (((r2 - r4) < 0 →
              Q p0 σ3) ∧
            (¬ (r2 - r4) < 0 →
              (((r2 - r4) = 0 →
                  ((p1 ≤ p0 →
                      Q p1 σ3) ∧
                    (¬ p1 ≤ p0 →
                      Q p0 σ3))) ∧
                (¬ (r2 - r4) = 0 →
                  Q p1 σ3))))))))
set_option maxRecDepth 100000 in
set_option maxHeartbeats 4000000 in
theorem t_X0_better {X : XT} {B : Nat} (hC : Cx X 3 cX0_better RX0 (rmN 1 20)) {Q : Int32 → SS → Prop} (hR : RtI X 3 B 95 RS cX0_better Q) {σ : SS} {p0 : Int32} {p1 : Int32} (hw : wp_X0_better  σ p0 p1 Q) : J X 3 B 95 RS 0 0 σ [(0, .int p0), (1, .int p1)] 0 [] := by
  unfold wp_X0_better at hw
  refine j_iload_n 0 hC 1 (dg DX0_better 0 rfl) rfl rfl ?_
  refine j_bipush 1 hC (dg DX0_better 1 rfl) (v := (-4)) (by decide) ?_
  refine j_icmp_ne 3 8 hC (dg DX0_better 2 rfl) (by decide) (fun hbr => ?_) (fun hbr => ?_)
  · replace hw := hw.2 hbr
    refine j_iload_n 8 hC 0 (dg DX0_better 5 rfl) rfl rfl ?_
    refine j_Si (As := [.int p0]) 9 hC (m_J6_bitCount_0f7a4  hw) kX0_37 (rmN_ok (by decide) (by decide)) rfl rfl (Nat.le_of_ble_eq_true rfl) (dg DX0_better 6 rfl) (fun r2 σ1 hw => ?_)
    refine j_iload_n 12 hC 1 (dg DX0_better 7 rfl) rfl rfl ?_
    refine j_Si (As := [.int p1]) 13 hC (m_J6_bitCount_0f7a4  hw) kX0_37 (rmN_ok (by decide) (by decide)) rfl rfl (Nat.le_of_ble_eq_true rfl) (dg DX0_better 8 rfl) (fun r4 σ3 hw => ?_)
    refine j_isub 16 hC (dg DX0_better 9 rfl) ?_
    refine j_istore_n 17 hC [(2, .int (r2 - r4)), (0, .int p0), (1, .int p1)] (dg DX0_better 10 rfl) rfl (by decide) rfl ?_
    refine j_iload_n 18 hC 0 (dg DX0_better 11 rfl) rfl rfl ?_
    refine j_if_lt 19 31 hC (dg DX0_better 12 rfl) (by decide) (fun hbr => ?_) (fun hbr => ?_)
    · replace hw := hw.1 hbr
      refine j_iload_n 31 hC 1 (dg DX0_better 18 rfl) rfl rfl ?_
      refine j_goto 32 36 hC (dg DX0_better 19 rfl) (by decide) ?_
      exact hR 36 _ _ _ (dg DX0_better 21 rfl) hw
    · replace hw := hw.2 hbr
      refine j_iload_n 22 hC 0 (dg DX0_better 13 rfl) rfl rfl ?_
      refine j_if_ne 23 35 hC (dg DX0_better 14 rfl) (by decide) (fun hbr => ?_) (fun hbr => ?_)
      · replace hw := hw.2 hbr
        refine j_iload_n 35 hC 2 (dg DX0_better 20 rfl) rfl rfl ?_
        exact hR 36 _ _ _ (dg DX0_better 21 rfl) hw
      · replace hw := hw.1 hbr
        refine j_iload_n 26 hC 1 (dg DX0_better 15 rfl) rfl rfl ?_
        refine j_iload_n 27 hC 2 (dg DX0_better 16 rfl) rfl rfl ?_
        refine j_icmp_ge 28 35 hC (dg DX0_better 17 rfl) (by decide) (fun hbr => ?_) (fun hbr => ?_)
        · replace hw := hw.1 hbr
          refine j_iload_n 35 hC 2 (dg DX0_better 20 rfl) rfl rfl ?_
          exact hR 36 _ _ _ (dg DX0_better 21 rfl) hw
        · replace hw := hw.2 hbr
          refine j_iload_n 31 hC 1 (dg DX0_better 18 rfl) rfl rfl ?_
          refine j_goto 32 36 hC (dg DX0_better 19 rfl) (by decide) ?_
          exact hR 36 _ _ _ (dg DX0_better 21 rfl) hw
  · replace hw := hw.1 hbr
    refine j_iload_n 6 hC 0 (dg DX0_better 3 rfl) rfl rfl ?_
    exact hR 7 _ _ _ (dg DX0_better 4 rfl) hw
theorem m_X0_better {B : Nat} {σ : SS} {p0 : Int32} {p1 : Int32} {Q : Int32 → SS → Prop} (hw : wp_X0_better  σ p0 p1 Q) : MI yX0_better cX0_better 3 (some .int) 1 20 B 95 RS [.int p0, .int p1] σ Q := MI.mk (plainFor_of_name (by decide)) (Nat.le_of_ble_eq_true rfl) (fun X hC hR => t_X0_better hC  hR hw)
-- FortressWatch$Chooser.search
def bd_X0_search_52  (self : SS → Int32 → Int32 → Int32 → Int32 → (Int32 → SS → Prop) → Prop)  (Q : Int32 → SS → Prop) (l2 : Int32) (l3 : Int32) (l4 : Int32) (l5 : Int32) (l6 : Int32) (rc : SS → Int32 → Int32 → Prop) (σ : SS) (v7 : Int32) (v8 : Int32) : Prop :=
  ((9 ≤ v8 →
      Q v7 σ) ∧
    (¬ 9 ≤ v8 →
      wp_X9_isIn σ l6 v8 (fun r4 σ3 =>
        ((r4 = 0 →
            rc σ3 v7 (v8 + 1)) ∧
          (¬ r4 = 0 →
            wp_X6_of σ3 v8 (fun r6 σ5 =>
              self σ5 (l2 &&& (r6 ^^^ (-1))) (l3 ||| ((1 : Int32) <<< (v8 &&& 31))) v7 (l5 + 1) (fun r8 σ7 =>
                rc σ7 r8 (v8 + 1))))))))
def bs_X0_search (self : SS → Int32 → Int32 → Int32 → Int32 → (Int32 → SS → Prop) → Prop) (σ : SS) (p2 : Int32) (p3 : Int32) (p4 : Int32) (p5 : Int32) (Q : Int32 → SS → Prop) : Prop :=
  ((p2 = 0 →
      wp_X0_better σ p3 p4 (fun r16 σ15 =>
        Q r16 σ15)) ∧
    (¬ p2 = 0 →
      ((9 ≤ p5 →
          Q p4 σ) ∧
        (¬ 9 ≤ p5 →
          ((p4 = (-4) →
              wp_X0_fewestSeers σ p2 (fun r2 σ1 =>
                ∃ k9, Lii (bd_X0_search_52 self Q p2 p3 p4 p5 r2) k9 σ1 p4 0)) ∧
            (¬ p4 = (-4) →
              wp_J6_bitCount_0f7a4 σ p4 (fun r11 σ10 =>
                ((p5 < r11 →
                    wp_X0_fewestSeers σ10 p2 (fun r13 σ12 =>
                      ∃ k14, Lii (bd_X0_search_52 self Q p2 p3 p4 p5 r13) k14 σ12 p4 0)) ∧
                  (¬ p5 < r11 →
                    Q p4 σ10)))))))))
def wp_X0_search : Nat → SS → Int32 → Int32 → Int32 → Int32 → (Int32 → SS → Prop) → Prop
    | 0 => fun _ _ _ _ _ _ => False
    | d + 1 => bs_X0_search (wp_X0_search d)
set_option maxRecDepth 100000 in
set_option maxHeartbeats 4000000 in
theorem tb_X0_search_52 {X : XT} {B : Nat} {fr lo : Nat} (hge : 2 ≤ fr ∧ 46 ≤ lo) (hRm : RmOk (rmN (fr + 1) (lo + 28)) fr lo 9 0 0) (hC : Cx X 9 cX0_search RX0 (rmN (fr + 1) (lo + 28))) {self : SS → Int32 → Int32 → Int32 → Int32 → (Int32 → SS → Prop) → Prop} {Q : Int32 → SS → Prop} {l2 : Int32} {l3 : Int32} {l4 : Int32} {l5 : Int32} {l6 : Int32} (hR : RtI X 9 B 95 RS cX0_search Q) (hself : ∀ {σ : SS} {p2 : Int32} {p3 : Int32} {p4 : Int32} {p5 : Int32} {Q : Int32 → SS → Prop}, self σ p2 p3 p4 p5 Q → MI yX0_search cX0_search 9 (some .int) fr lo B 95 RS [.ref (B + 80), .ref (B + 84), .int p2, .int p3, .int p4, .int p5] σ Q) {rc : SS → Int32 → Int32 → Prop} (hrc : ∀ (σ : SS) (v7 : Int32) (v8 : Int32), rc σ v7 v8 → J X 9 B 95 RS 0 0 σ [(0, .ref (B + 80)), (1, .ref (B + 84)), (2, .int l2), (3, .int l3), (4, .int l4), (5, .int l5), (6, .int l6), (7, .int v7), (8, .int v8)] 52 []) : ∀ (σ : SS) (v7 : Int32) (v8 : Int32), bd_X0_search_52 self Q l2 l3 l4 l5 l6 rc σ v7 v8 → J X 9 B 95 RS 0 0 σ [(0, .ref (B + 80)), (1, .ref (B + 84)), (2, .int l2), (3, .int l3), (4, .int l4), (5, .int l5), (6, .int l6), (7, .int v7), (8, .int v8)] 52 [] := by
  intro σ v7 v8 hw
  unfold bd_X0_search_52 at hw
  refine j_iload 52 hC 8 (dg DX0_search 26 rfl) rfl ?_
  refine j_bipush 54 hC (dg DX0_search 27 rfl) (v := 9) (by decide) ?_
  refine j_icmp_ge 56 104 hC (dg DX0_search 28 rfl) (by decide) (fun hbr => ?_) (fun hbr => ?_)
  · replace hw := hw.1 hbr
    refine j_iload 104 hC 7 (dg DX0_search 55 rfl) rfl ?_
    exact hR 106 _ _ _ (dg DX0_search 56 rfl) hw
  · replace hw := hw.2 hbr
    refine j_iload 59 hC 6 (dg DX0_search 29 rfl) rfl ?_
    refine j_iload 61 hC 8 (dg DX0_search 30 rfl) rfl ?_
    refine j_SNi (As := [.int l6, .int v8]) 63 hC (m_X9_isIn  hw) kX0_62 (rmN_ok (by omega) (by omega)) rfl rfl (Nat.le_of_ble_eq_true rfl) (dg DX0_search 31 rfl) (fun r4 σ3 hw => ?_)
    refine j_if_eq 66 98 hC (dg DX0_search 32 rfl) (by decide) (fun hbr => ?_) (fun hbr => ?_)
    · replace hw := hw.1 hbr
      refine j_iinc 98 hC 8 (v8 + 1) [(8, .int (v8 + 1)), (0, .ref (B + 80)), (1, .ref (B + 84)), (2, .int l2), (3, .int l3), (4, .int l4), (5, .int l5), (6, .int l6), (7, .int v7)] (dg DX0_search 53 rfl) rfl rfl (by decide) rfl ?_
      refine j_goto 101 52 hC (dg DX0_search 54 rfl) (by decide) ?_
      refine j_lv [1, 2, 3, 4, 5, 6, 7, 8, 0] (lv' := [(0, .ref (B + 80)), (1, .ref (B + 84)), (2, .int l2), (3, .int l3), (4, .int l4), (5, .int l5), (6, .int l6), (7, .int v7), (8, .int (v8 + 1))]) rfl ?_
      exact hrc _ _ _ hw
    · replace hw := hw.2 hbr
      refine j_aload_n 69 hC 0 (dg DX0_search 33 rfl) rfl rfl ?_
      refine j_aload_n 70 hC 1 (dg DX0_search 34 rfl) rfl rfl ?_
      refine j_iload_n 71 hC 2 (dg DX0_search 35 rfl) rfl rfl ?_
      refine j_aload_n 72 hC 0 (dg DX0_search 36 rfl) rfl rfl ?_
      refine j_iload 73 hC 8 (dg DX0_search 37 rfl) rfl ?_
      refine j_Vi (As := [.int v8]) 75 hC (m_X6_of  hw) kX0_44 (k_80) (by decide) ⟨_, _, rfl⟩ (rmN_ok (by omega) (by omega)) rfl rfl (Nat.le_of_ble_eq_true rfl) (dg DX0_search 38 rfl) (fun r6 σ5 hw => ?_)
      refine j_iconst 78 hC (dg DX0_search 39 rfl) (v := (-1)) (by decide) ?_
      refine j_ixor 79 hC (dg DX0_search 40 rfl) ?_
      refine j_iand 80 hC (dg DX0_search 41 rfl) ?_
      refine j_iload_n 81 hC 3 (dg DX0_search 42 rfl) rfl rfl ?_
      refine j_iconst 82 hC (dg DX0_search 43 rfl) (v := 1) (by decide) ?_
      refine j_iload 83 hC 8 (dg DX0_search 44 rfl) rfl ?_
      refine j_ishl 85 hC (dg DX0_search 45 rfl) ?_
      refine j_ior 86 hC (dg DX0_search 46 rfl) ?_
      refine j_iload 87 hC 7 (dg DX0_search 47 rfl) rfl ?_
      refine j_iload 89 hC 5 (dg DX0_search 48 rfl) rfl ?_
      refine j_iconst 91 hC (dg DX0_search 49 rfl) (v := 1) (by decide) ?_
      refine j_iadd 92 hC (dg DX0_search 50 rfl) ?_
      refine j_Si (As := [.ref (B + 80), .ref (B + 84), .int (l2 &&& (r6 ^^^ (-1))), .int (l3 ||| ((1 : Int32) <<< (v8 &&& 31))), .int v7, .int (l5 + 1)]) 93 hC (hself hw) kX0_50 hRm rfl rfl (Nat.le_of_ble_eq_true rfl) (dg DX0_search 51 rfl) (fun r8 σ7 hw => ?_)
      refine j_istore 96 hC [(7, .int r8), (0, .ref (B + 80)), (1, .ref (B + 84)), (2, .int l2), (3, .int l3), (4, .int l4), (5, .int l5), (6, .int l6), (8, .int v8)] (dg DX0_search 52 rfl) (by decide) rfl ?_
      refine j_iinc 98 hC 8 (v8 + 1) [(8, .int (v8 + 1)), (7, .int r8), (0, .ref (B + 80)), (1, .ref (B + 84)), (2, .int l2), (3, .int l3), (4, .int l4), (5, .int l5), (6, .int l6)] (dg DX0_search 53 rfl) rfl rfl (by decide) rfl ?_
      refine j_goto 101 52 hC (dg DX0_search 54 rfl) (by decide) ?_
      refine j_lv [2, 3, 4, 5, 6, 7, 8, 1, 0] (lv' := [(0, .ref (B + 80)), (1, .ref (B + 84)), (2, .int l2), (3, .int l3), (4, .int l4), (5, .int l5), (6, .int l6), (7, .int r8), (8, .int (v8 + 1))]) rfl ?_
      exact hrc _ _ _ hw
set_option maxRecDepth 100000 in
set_option maxHeartbeats 4000000 in
theorem t_X0_search {X : XT} {B : Nat} {fr lo : Nat} (hge : 2 ≤ fr ∧ 46 ≤ lo) (hRm : RmOk (rmN (fr + 1) (lo + 28)) fr lo 9 0 0) (hC : Cx X 9 cX0_search RX0 (rmN (fr + 1) (lo + 28))) {self : SS → Int32 → Int32 → Int32 → Int32 → (Int32 → SS → Prop) → Prop} {Q : Int32 → SS → Prop} (hR : RtI X 9 B 95 RS cX0_search Q) (hself : ∀ {σ : SS} {p2 : Int32} {p3 : Int32} {p4 : Int32} {p5 : Int32} {Q : Int32 → SS → Prop}, self σ p2 p3 p4 p5 Q → MI yX0_search cX0_search 9 (some .int) fr lo B 95 RS [.ref (B + 80), .ref (B + 84), .int p2, .int p3, .int p4, .int p5] σ Q) {σ : SS} {p2 : Int32} {p3 : Int32} {p4 : Int32} {p5 : Int32} (hw : bs_X0_search self σ p2 p3 p4 p5 Q) : J X 9 B 95 RS 0 0 σ [(0, .ref (B + 80)), (1, .ref (B + 84)), (2, .int p2), (3, .int p3), (4, .int p4), (5, .int p5)] 0 [] := by
  unfold bs_X0_search at hw
  refine j_iload_n 0 hC 2 (dg DX0_search 0 rfl) rfl rfl ?_
  refine j_if_ne 1 11 hC (dg DX0_search 1 rfl) (by decide) (fun hbr => ?_) (fun hbr => ?_)
  · replace hw := hw.2 hbr
    refine j_iload 11 hC 5 (dg DX0_search 6 rfl) rfl ?_
    refine j_bipush 13 hC (dg DX0_search 7 rfl) (v := 9) (by decide) ?_
    refine j_icmp_ge 15 35 hC (dg DX0_search 8 rfl) (by decide) (fun hbr => ?_) (fun hbr => ?_)
    · replace hw := hw.1 hbr
      refine j_iload 35 hC 4 (dg DX0_search 16 rfl) rfl ?_
      exact hR 37 _ _ _ (dg DX0_search 17 rfl) hw
    · replace hw := hw.2 hbr
      refine j_iload 18 hC 4 (dg DX0_search 9 rfl) rfl ?_
      refine j_bipush 20 hC (dg DX0_search 10 rfl) (v := (-4)) (by decide) ?_
      refine j_icmp_eq 22 38 hC (dg DX0_search 11 rfl) (by decide) (fun hbr => ?_) (fun hbr => ?_)
      · replace hw := hw.1 hbr
        refine j_aload_n 38 hC 1 (dg DX0_search 18 rfl) rfl rfl ?_
        refine j_iload_n 39 hC 2 (dg DX0_search 19 rfl) rfl rfl ?_
        refine j_Si (As := [.ref (B + 84), .int p2]) 40 hC (m_X0_fewestSeers  hw) kX0_58 (rmN_ok (by omega) (by omega)) rfl rfl (Nat.le_of_ble_eq_true rfl) (dg DX0_search 20 rfl) (fun r2 σ1 hw => ?_)
        refine j_istore 43 hC [(6, .int r2), (0, .ref (B + 80)), (1, .ref (B + 84)), (2, .int p2), (3, .int p3), (4, .int p4), (5, .int p5)] (dg DX0_search 21 rfl) (by decide) rfl ?_
        refine j_iload 45 hC 5 (dg DX0_search 22 rfl) rfl ?_
        refine j_istore 47 hC [(7, .int p4), (6, .int r2), (0, .ref (B + 80)), (1, .ref (B + 84)), (2, .int p2), (3, .int p3), (4, .int p4), (5, .int p5)] (dg DX0_search 23 rfl) (by decide) rfl ?_
        refine j_iconst 49 hC (dg DX0_search 24 rfl) (v := 0) (by decide) ?_
        refine j_istore 50 hC [(8, .int 0), (7, .int p4), (6, .int r2), (0, .ref (B + 80)), (1, .ref (B + 84)), (2, .int p2), (3, .int p3), (4, .int p4), (5, .int p5)] (dg DX0_search 25 rfl) (by decide) rfl ?_
        obtain ⟨k9, hw⟩ := hw
        refine j_lv [3, 4, 5, 6, 7, 8, 2, 1, 0] (lv' := [(0, .ref (B + 80)), (1, .ref (B + 84)), (2, .int p2), (3, .int p3), (4, .int p4), (5, .int p5), (6, .int r2), (7, .int p4), (8, .int 0)]) rfl ?_
        exact Lii.snd (P := fun τ w7 w8 => J X 9 B 95 RS 0 0 τ [(0, .ref (B + 80)), (1, .ref (B + 84)), (2, .int p2), (3, .int p3), (4, .int p4), (5, .int p5), (6, .int r2), (7, .int w7), (8, .int w8)] 52 []) (fun rcc hrcc => tb_X0_search_52 hge hRm hC  hR hself  hrcc) k9 _ _ _ hw
      · replace hw := hw.2 hbr
        refine j_iload 25 hC 5 (dg DX0_search 12 rfl) rfl ?_
        refine j_iload 27 hC 4 (dg DX0_search 13 rfl) rfl ?_
        refine j_Si (As := [.int p4]) 29 hC (m_J6_bitCount_0f7a4  hw) kX0_37 (rmN_ok (by omega) (by omega)) rfl rfl (Nat.le_of_ble_eq_true rfl) (dg DX0_search 14 rfl) (fun r11 σ10 hw => ?_)
        refine j_icmp_lt 32 38 hC (dg DX0_search 15 rfl) (by decide) (fun hbr => ?_) (fun hbr => ?_)
        · replace hw := hw.1 hbr
          refine j_aload_n 38 hC 1 (dg DX0_search 18 rfl) rfl rfl ?_
          refine j_iload_n 39 hC 2 (dg DX0_search 19 rfl) rfl rfl ?_
          refine j_Si (As := [.ref (B + 84), .int p2]) 40 hC (m_X0_fewestSeers  hw) kX0_58 (rmN_ok (by omega) (by omega)) rfl rfl (Nat.le_of_ble_eq_true rfl) (dg DX0_search 20 rfl) (fun r13 σ12 hw => ?_)
          refine j_istore 43 hC [(6, .int r13), (0, .ref (B + 80)), (1, .ref (B + 84)), (2, .int p2), (3, .int p3), (4, .int p4), (5, .int p5)] (dg DX0_search 21 rfl) (by decide) rfl ?_
          refine j_iload 45 hC 5 (dg DX0_search 22 rfl) rfl ?_
          refine j_istore 47 hC [(7, .int p4), (6, .int r13), (0, .ref (B + 80)), (1, .ref (B + 84)), (2, .int p2), (3, .int p3), (4, .int p4), (5, .int p5)] (dg DX0_search 23 rfl) (by decide) rfl ?_
          refine j_iconst 49 hC (dg DX0_search 24 rfl) (v := 0) (by decide) ?_
          refine j_istore 50 hC [(8, .int 0), (7, .int p4), (6, .int r13), (0, .ref (B + 80)), (1, .ref (B + 84)), (2, .int p2), (3, .int p3), (4, .int p4), (5, .int p5)] (dg DX0_search 25 rfl) (by decide) rfl ?_
          obtain ⟨k14, hw⟩ := hw
          refine j_lv [3, 4, 5, 6, 7, 8, 2, 1, 0] (lv' := [(0, .ref (B + 80)), (1, .ref (B + 84)), (2, .int p2), (3, .int p3), (4, .int p4), (5, .int p5), (6, .int r13), (7, .int p4), (8, .int 0)]) rfl ?_
          exact Lii.snd (P := fun τ w7 w8 => J X 9 B 95 RS 0 0 τ [(0, .ref (B + 80)), (1, .ref (B + 84)), (2, .int p2), (3, .int p3), (4, .int p4), (5, .int p5), (6, .int r13), (7, .int w7), (8, .int w8)] 52 []) (fun rcc hrcc => tb_X0_search_52 hge hRm hC  hR hself  hrcc) k14 _ _ _ hw
        · replace hw := hw.2 hbr
          refine j_iload 35 hC 4 (dg DX0_search 16 rfl) rfl ?_
          exact hR 37 _ _ _ (dg DX0_search 17 rfl) hw
  · replace hw := hw.1 hbr
    refine j_iload_n 4 hC 3 (dg DX0_search 2 rfl) rfl rfl ?_
    refine j_iload 5 hC 4 (dg DX0_search 3 rfl) rfl ?_
    refine j_Si (As := [.int p3, .int p4]) 7 hC (m_X0_better  hw) kX0_54 (rmN_ok (by omega) (by omega)) rfl rfl (Nat.le_of_ble_eq_true rfl) (dg DX0_search 4 rfl) (fun r16 σ15 hw => ?_)
    exact hR 10 _ _ _ (dg DX0_search 5 rfl) hw
theorem m_X0_search (d : Nat) : ∀ {B : Nat} {σ : SS} {p2 : Int32} {p3 : Int32} {p4 : Int32} {p5 : Int32} {Q : Int32 → SS → Prop}, wp_X0_search d σ p2 p3 p4 p5 Q → MI yX0_search cX0_search 9 (some .int) (2 + d) (46 + 28 * d) B 95 RS [.ref (B + 80), .ref (B + 84), .int p2, .int p3, .int p4, .int p5] σ Q := by
  induction d with
  | zero => exact fun h => h.elim
  | succ d ih =>
    intro B σ p2 p3 p4 p5 Q hw
    have e : 46 + 28 * (d + 1) = (46 + 28 * d) + 28 := by omega
    rw [e]
    exact MI.mk (fr := (2 + d) + 1) (plainFor_of_name (by decide)) (Nat.le_of_ble_eq_true rfl) (fun X hC hR => t_X0_search ⟨by omega, by omega⟩ (rmN_ok (Nat.le_refl _) (by omega)) hC hR (fun h => ih h) hw)
