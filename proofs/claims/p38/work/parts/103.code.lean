-- FortressWatch$Sights.bestAmong
def bd_X6_bestAmong_9    (Q : Int32 → SS → Prop) (l1 : Int32) (l2 : Int32) (rc : SS → Int32 → Int32 → Int32 → Prop) (σ : SS) (v3 : Int32) (v4 : Int32) (v5 : Int32) : Prop :=
  ((9 ≤ v5 →
      Q v3 σ) ∧
    (¬ 9 ≤ v5 →
      wp_X9_isIn σ l1 v5 (fun r2 σ1 =>
        ((r2 = 0 →
            ((0 ≤ v4 →
                rc σ1 v3 v4 (v5 + 1)) ∧
              (¬ 0 ≤ v4 →
                rc σ1 v5 0 (v5 + 1)))) ∧
          (¬ r2 = 0 →
            vp_in v5 9 ∧
            wp_J6_bitCount_0f7a4 σ1 ((σ1 81 v5.toNatClampNeg) &&& l2) (fun r4 σ3 =>
              ((r4 ≤ v4 →
                  rc σ3 v3 v4 (v5 + 1)) ∧
                (¬ r4 ≤ v4 →
                  rc σ3 v5 r4 (v5 + 1)))))))))
def wp_X6_bestAmong  (σ : SS) (p1 : Int32) (p2 : Int32) (Q : Int32 → SS → Prop) : Prop :=
  ∃ k5, Liii (bd_X6_bestAmong_9 Q p1 p2) k5 σ (-4) 0 0
set_option maxRecDepth 100000 in
set_option maxHeartbeats 4000000 in
theorem tb_X6_bestAmong_9 {X : XT} {B : Nat} (hC : Cx X 7 cX6_bestAmong RX6 (rmN 1 21)) {Q : Int32 → SS → Prop} {l1 : Int32} {l2 : Int32} (hR : RtI X 7 B 95 RS cX6_bestAmong Q) {rc : SS → Int32 → Int32 → Int32 → Prop} (hrc : ∀ (σ : SS) (v3 : Int32) (v4 : Int32) (v5 : Int32), rc σ v3 v4 v5 → J X 7 B 95 RS 0 0 σ [(0, .ref (B + 80)), (1, .int l1), (2, .int l2), (3, .int v3), (4, .int v4), (5, .int v5)] 9 []) : ∀ (σ : SS) (v3 : Int32) (v4 : Int32) (v5 : Int32), bd_X6_bestAmong_9 Q l1 l2 rc σ v3 v4 v5 → J X 7 B 95 RS 0 0 σ [(0, .ref (B + 80)), (1, .int l1), (2, .int l2), (3, .int v3), (4, .int v4), (5, .int v5)] 9 [] := by
  intro σ v3 v4 v5 hw
  unfold bd_X6_bestAmong_9 at hw
  refine j_iload 9 hC 5 (dg DX6_bestAmong 6 rfl) rfl ?_
  refine j_bipush 11 hC (dg DX6_bestAmong 7 rfl) (v := 9) (by decide) ?_
  refine j_icmp_ge 13 63 hC (dg DX6_bestAmong 8 rfl) (by decide) (fun hbr => ?_) (fun hbr => ?_)
  · replace hw := hw.1 hbr
    refine j_iload_n 63 hC 3 (dg DX6_bestAmong 32 rfl) rfl rfl ?_
    exact hR 64 _ _ _ (dg DX6_bestAmong 33 rfl) hw
  · replace hw := hw.2 hbr
    refine j_iload_n 16 hC 1 (dg DX6_bestAmong 9 rfl) rfl rfl ?_
    refine j_iload 17 hC 5 (dg DX6_bestAmong 10 rfl) rfl ?_
    refine j_SNi (As := [.int l1, .int v5]) 19 hC (m_X9_isIn  hw) kX6_43 (rmN_ok (by decide) (by decide)) rfl rfl (Nat.le_of_ble_eq_true rfl) (dg DX6_bestAmong 11 rfl) (fun r2 σ1 hw => ?_)
    refine j_if_eq 22 40 hC (dg DX6_bestAmong 12 rfl) (by decide) (fun hbr => ?_) (fun hbr => ?_)
    · replace hw := hw.1 hbr
      refine j_iconst 40 hC (dg DX6_bestAmong 21 rfl) (v := 0) (by decide) ?_
      refine j_istore 41 hC [(6, .int 0), (0, .ref (B + 80)), (1, .int l1), (2, .int l2), (3, .int v3), (4, .int v4), (5, .int v5)] (dg DX6_bestAmong 22 rfl) (by decide) rfl ?_
      refine j_iload 43 hC 0 (dg DX6_bestAmong 23 rfl) rfl ?_
      refine j_iload 45 hC 5 (dg DX6_bestAmong 24 rfl) rfl ?_
      refine j_icmp_le 47 57 hC (dg DX6_bestAmong 25 rfl) (by decide) (fun hbr => ?_) (fun hbr => ?_)
      · replace hw := hw.1 hbr
        refine j_iinc 57 hC 6 (v5 + 1) [(5, .int (v5 + 1)), (6, .int 0), (0, .ref (B + 80)), (1, .int l1), (2, .int l2), (3, .int v3), (4, .int v4)] (dg DX6_bestAmong 30 rfl) rfl rfl (by decide) rfl ?_
        refine j_goto 60 9 hC (dg DX6_bestAmong 31 rfl) (by decide) ?_
        refine j_lv [2, 3, 4, 5, 6, 0] (lv' := [(0, .ref (B + 80)), (1, .int l1), (2, .int l2), (3, .int v3), (4, .int v4), (5, .int (v5 + 1))]) rfl ?_
        exact hrc _ _ _ _ hw
      · replace hw := hw.2 hbr
        refine j_iload 50 hC 6 (dg DX6_bestAmong 26 rfl) rfl ?_
        refine j_istore_n 52 hC [(3, .int v5), (6, .int 0), (0, .ref (B + 80)), (1, .int l1), (2, .int l2), (4, .int v4), (5, .int v5)] (dg DX6_bestAmong 27 rfl) rfl (by decide) rfl ?_
        refine j_iload 53 hC 1 (dg DX6_bestAmong 28 rfl) rfl ?_
        refine j_istore 55 hC [(4, .int 0), (3, .int v5), (6, .int 0), (0, .ref (B + 80)), (1, .int l1), (2, .int l2), (5, .int v5)] (dg DX6_bestAmong 29 rfl) (by decide) rfl ?_
        refine j_iinc 57 hC 6 (v5 + 1) [(5, .int (v5 + 1)), (4, .int 0), (3, .int v5), (6, .int 0), (0, .ref (B + 80)), (1, .int l1), (2, .int l2)] (dg DX6_bestAmong 30 rfl) rfl rfl (by decide) rfl ?_
        refine j_goto 60 9 hC (dg DX6_bestAmong 31 rfl) (by decide) ?_
        refine j_lv [4, 5, 6, 2, 1, 0] (lv' := [(0, .ref (B + 80)), (1, .int l1), (2, .int l2), (3, .int v5), (4, .int 0), (5, .int (v5 + 1))]) rfl ?_
        exact hrc _ _ _ _ hw
    · replace hw := hw.2 hbr
      refine j_aload_n 25 hC 0 (dg DX6_bestAmong 13 rfl) rfl rfl ?_
      refine j_getR 26 hC fX6_9 (k_80) (by decide) (by decide) rfl (dg DX6_bestAmong 14 rfl) ?_
      refine j_iload 29 hC 5 (dg DX6_bestAmong 15 rfl) rfl ?_
      refine j_iald0 31 _ hC (k_81) (by decide) hw.1 rfl (dg DX6_bestAmong 16 rfl) ?_
      replace hw := hw.2
      refine j_iload_n 32 hC 2 (dg DX6_bestAmong 17 rfl) rfl rfl ?_
      refine j_iand 33 hC (dg DX6_bestAmong 18 rfl) ?_
      refine j_Si (As := [.int ((σ1 81 v5.toNatClampNeg) &&& l2)]) 34 hC (m_J6_bitCount_0f7a4  hw) kX6_35 (rmN_ok (by decide) (by decide)) rfl rfl (Nat.le_of_ble_eq_true rfl) (dg DX6_bestAmong 19 rfl) (fun r4 σ3 hw => ?_)
      refine j_goto 37 41 hC (dg DX6_bestAmong 20 rfl) (by decide) ?_
      refine j_istore 41 hC [(6, .int r4), (0, .ref (B + 80)), (1, .int l1), (2, .int l2), (3, .int v3), (4, .int v4), (5, .int v5)] (dg DX6_bestAmong 22 rfl) (by decide) rfl ?_
      refine j_iload 43 hC 0 (dg DX6_bestAmong 23 rfl) rfl ?_
      refine j_iload 45 hC 5 (dg DX6_bestAmong 24 rfl) rfl ?_
      refine j_icmp_le 47 57 hC (dg DX6_bestAmong 25 rfl) (by decide) (fun hbr => ?_) (fun hbr => ?_)
      · replace hw := hw.1 hbr
        refine j_iinc 57 hC 6 (v5 + 1) [(5, .int (v5 + 1)), (6, .int r4), (0, .ref (B + 80)), (1, .int l1), (2, .int l2), (3, .int v3), (4, .int v4)] (dg DX6_bestAmong 30 rfl) rfl rfl (by decide) rfl ?_
        refine j_goto 60 9 hC (dg DX6_bestAmong 31 rfl) (by decide) ?_
        refine j_lv [2, 3, 4, 5, 6, 0] (lv' := [(0, .ref (B + 80)), (1, .int l1), (2, .int l2), (3, .int v3), (4, .int v4), (5, .int (v5 + 1))]) rfl ?_
        exact hrc _ _ _ _ hw
      · replace hw := hw.2 hbr
        refine j_iload 50 hC 6 (dg DX6_bestAmong 26 rfl) rfl ?_
        refine j_istore_n 52 hC [(3, .int v5), (6, .int r4), (0, .ref (B + 80)), (1, .int l1), (2, .int l2), (4, .int v4), (5, .int v5)] (dg DX6_bestAmong 27 rfl) rfl (by decide) rfl ?_
        refine j_iload 53 hC 1 (dg DX6_bestAmong 28 rfl) rfl ?_
        refine j_istore 55 hC [(4, .int r4), (3, .int v5), (6, .int r4), (0, .ref (B + 80)), (1, .int l1), (2, .int l2), (5, .int v5)] (dg DX6_bestAmong 29 rfl) (by decide) rfl ?_
        refine j_iinc 57 hC 6 (v5 + 1) [(5, .int (v5 + 1)), (4, .int r4), (3, .int v5), (6, .int r4), (0, .ref (B + 80)), (1, .int l1), (2, .int l2)] (dg DX6_bestAmong 30 rfl) rfl rfl (by decide) rfl ?_
        refine j_goto 60 9 hC (dg DX6_bestAmong 31 rfl) (by decide) ?_
        refine j_lv [4, 5, 6, 2, 1, 0] (lv' := [(0, .ref (B + 80)), (1, .int l1), (2, .int l2), (3, .int v5), (4, .int r4), (5, .int (v5 + 1))]) rfl ?_
        exact hrc _ _ _ _ hw
set_option maxRecDepth 100000 in
set_option maxHeartbeats 4000000 in
theorem t_X6_bestAmong {X : XT} {B : Nat} (hC : Cx X 7 cX6_bestAmong RX6 (rmN 1 21)) {Q : Int32 → SS → Prop} (hR : RtI X 7 B 95 RS cX6_bestAmong Q) {σ : SS} {p1 : Int32} {p2 : Int32} (hw : wp_X6_bestAmong  σ p1 p2 Q) : J X 7 B 95 RS 0 0 σ [(0, .ref (B + 80)), (1, .int p1), (2, .int p2)] 0 [] := by
  unfold wp_X6_bestAmong at hw
  refine j_bipush 0 hC (dg DX6_bestAmong 0 rfl) (v := (-4)) (by decide) ?_
  refine j_istore_n 2 hC [(3, .int (-4)), (0, .ref (B + 80)), (1, .int p1), (2, .int p2)] (dg DX6_bestAmong 1 rfl) rfl (by decide) rfl ?_
  refine j_iconst 3 hC (dg DX6_bestAmong 2 rfl) (v := 0) (by decide) ?_
  refine j_istore 4 hC [(4, .int 0), (3, .int (-4)), (0, .ref (B + 80)), (1, .int p1), (2, .int p2)] (dg DX6_bestAmong 3 rfl) (by decide) rfl ?_
  refine j_iconst 6 hC (dg DX6_bestAmong 4 rfl) (v := 0) (by decide) ?_
  refine j_istore 7 hC [(5, .int 0), (4, .int 0), (3, .int (-4)), (0, .ref (B + 80)), (1, .int p1), (2, .int p2)] (dg DX6_bestAmong 5 rfl) (by decide) rfl ?_
  obtain ⟨k5, hw⟩ := hw
  refine j_lv [3, 4, 5, 2, 1, 0] (lv' := [(0, .ref (B + 80)), (1, .int p1), (2, .int p2), (3, .int (-4)), (4, .int 0), (5, .int 0)]) rfl ?_
  exact Liii.snd (P := fun τ w3 w4 w5 => J X 7 B 95 RS 0 0 τ [(0, .ref (B + 80)), (1, .int p1), (2, .int p2), (3, .int w3), (4, .int w4), (5, .int w5)] 9 []) (fun rcc hrcc => tb_X6_bestAmong_9 hC  hR  hrcc) k5 _ _ _ _ hw
theorem m_X6_bestAmong {B : Nat} {σ : SS} {p1 : Int32} {p2 : Int32} {Q : Int32 → SS → Prop} (hw : wp_X6_bestAmong  σ p1 p2 Q) : MI yX6_bestAmong cX6_bestAmong 7 (some .int) 1 21 B 95 RS [.ref (B + 80), .int p1, .int p2] σ Q := MI.mk (plainFor_of_name (by decide)) (Nat.le_of_ble_eq_true rfl) (fun X hC hR => t_X6_bestAmong hC  hR hw)
-- FortressWatch$Text.put
def wp_X7_put  (σ : SS) (p1 : Int32) (Q : Int32 → SS → Prop) : Prop :=
  (((σ 90 2) < 0 →
      Q (-2) σ) ∧
    (¬ (σ 90 2) < 0 →
      (((σ 90 2) < 70 →
          vp_in (σ 90 2) 70 ∧
          ∀ σ1 : SS, σ1 = u2 (u2 σ 91 (σ 90 2).toNatClampNeg p1) 90 2 (((u2 σ 91 (σ 90 2).toNatClampNeg p1) 90 2) + 1) →
          Q (σ1 90 2) σ1) ∧
        (¬ (σ 90 2) < 70 →
          Q (-2) σ))))
set_option maxRecDepth 100000 in
set_option maxHeartbeats 4000000 in
theorem t_X7_put {X : XT} {B : Nat} (hC : Cx X 2 cX7_put RX7 (rmN 0 0)) {Q : Int32 → SS → Prop} (hR : RtI X 2 B 95 RS cX7_put Q) {σ : SS} {p1 : Int32} (hw : wp_X7_put  σ p1 Q) : J X 2 B 95 RS 0 0 σ [(0, .ref (B + 90)), (1, .int p1)] 0 [] := by
  unfold wp_X7_put at hw
  refine j_aload_n 0 hC 0 (dg DX7_put 0 rfl) rfl rfl ?_
  refine j_getI 1 hC fX7_15 (k_90) (by decide) (by decide) rfl (dg DX7_put 1 rfl) ?_
  refine j_if_lt 4 16 hC (dg DX7_put 2 rfl) (by decide) (fun hbr => ?_) (fun hbr => ?_)
  · replace hw := hw.1 hbr
    refine j_bipush 16 hC (dg DX7_put 7 rfl) (v := (-2)) (by decide) ?_
    exact hR 18 _ _ _ (dg DX7_put 8 rfl) hw
  · replace hw := hw.2 hbr
    refine j_aload_n 7 hC 0 (dg DX7_put 3 rfl) rfl rfl ?_
    refine j_getI 8 hC fX7_15 (k_90) (by decide) (by decide) rfl (dg DX7_put 4 rfl) ?_
    refine j_bipush 11 hC (dg DX7_put 5 rfl) (v := 70) (by decide) ?_
    refine j_icmp_lt 13 19 hC (dg DX7_put 6 rfl) (by decide) (fun hbr => ?_) (fun hbr => ?_)
    · replace hw := hw.1 hbr
      refine j_aload_n 19 hC 0 (dg DX7_put 9 rfl) rfl rfl ?_
      refine j_getR 20 hC fX7_9 (k_90) (by decide) (by decide) rfl (dg DX7_put 10 rfl) ?_
      refine j_aload_n 23 hC 0 (dg DX7_put 11 rfl) rfl rfl ?_
      refine j_getI 24 hC fX7_15 (k_90) (by decide) (by decide) rfl (dg DX7_put 12 rfl) ?_
      refine j_iload_n 27 hC 1 (dg DX7_put 13 rfl) rfl rfl ?_
      refine j_iast0 28 _ hC (k_91) (by decide) hw.1 rfl (dg DX7_put 14 rfl) ?_
      replace hw := hw.2
      refine j_aload_n 29 hC 0 (dg DX7_put 15 rfl) rfl rfl ?_
      refine j_dup 30 hC (dg DX7_put 16 rfl) rfl ?_
      refine j_getI 31 hC fX7_15 (k_90) (by decide) (by decide) rfl (dg DX7_put 17 rfl) ?_
      refine j_iconst 34 hC (dg DX7_put 18 rfl) (v := 1) (by decide) ?_
      refine j_iadd 35 hC (dg DX7_put 19 rfl) ?_
      refine j_putI 36 hC fX7_15 (k_90) (by decide) (by decide) rfl fp7_2 rfl (dg DX7_put 20 rfl) ?_
      refine j_sg (fun σ1 es => ?_)
      replace hw := hw _ es
      refine j_aload_n 39 hC 0 (dg DX7_put 21 rfl) rfl rfl ?_
      refine j_getI 40 hC fX7_15 (k_90) (by decide) (by decide) rfl (dg DX7_put 22 rfl) ?_
      exact hR 43 _ _ _ (dg DX7_put 23 rfl) hw
    · replace hw := hw.2 hbr
      refine j_bipush 16 hC (dg DX7_put 7 rfl) (v := (-2)) (by decide) ?_
      exact hR 18 _ _ _ (dg DX7_put 8 rfl) hw
theorem m_X7_put {B : Nat} {σ : SS} {p1 : Int32} {Q : Int32 → SS → Prop} (hw : wp_X7_put  σ p1 Q) : MI yX7_put cX7_put 2 (some .int) 0 0 B 95 RS [.ref (B + 90), .int p1] σ Q := MI.mk (plainFor_of_name (by decide)) (Nat.le_of_ble_eq_true rfl) (fun X hC hR => t_X7_put hC  hR hw)
-- FortressWatch$Text.clear
def wp_X7_clear  (σ : SS)  (Q : SS → Prop) : Prop :=
  Q (u2 σ 90 2 0)
set_option maxRecDepth 100000 in
set_option maxHeartbeats 4000000 in
theorem t_X7_clear {X : XT} {B : Nat} (hC : Cx X 1 cX7_clear RX7 (rmN 0 0)) {Q : SS → Prop} (hR : RtV X 1 B 95 RS cX7_clear Q) {σ : SS} (hw : wp_X7_clear  σ  Q) : J X 1 B 95 RS 0 0 σ [(0, .ref (B + 90))] 0 [] := by
  unfold wp_X7_clear at hw
  refine j_aload_n 0 hC 0 (dg DX7_clear 0 rfl) rfl rfl ?_
  refine j_iconst 1 hC (dg DX7_clear 1 rfl) (v := 0) (by decide) ?_
  refine j_putI 2 hC fX7_15 (k_90) (by decide) (by decide) rfl fp7_2 rfl (dg DX7_clear 2 rfl) ?_
  exact hR 5 _ _ (dg DX7_clear 3 rfl) hw
theorem m_X7_clear {B : Nat} {σ : SS} {Q : SS → Prop} (hw : wp_X7_clear  σ  Q) : MV yX7_clear cX7_clear 1 0 0 B 95 RS [.ref (B + 90)] σ Q := MV.mk (plainFor_of_name (by decide)) (Nat.le_of_ble_eq_true rfl) (fun X hC hR => t_X7_clear hC  hR hw)
-- FortressWatch$Text.rewind
def wp_X7_rewind  (σ : SS)  (Q : SS → Prop) : Prop :=
  Q (u2 σ 90 1 0)
set_option maxRecDepth 100000 in
set_option maxHeartbeats 4000000 in
theorem t_X7_rewind {X : XT} {B : Nat} (hC : Cx X 1 cX7_rewind RX7 (rmN 0 0)) {Q : SS → Prop} (hR : RtV X 1 B 95 RS cX7_rewind Q) {σ : SS} (hw : wp_X7_rewind  σ  Q) : J X 1 B 95 RS 0 0 σ [(0, .ref (B + 90))] 0 [] := by
  unfold wp_X7_rewind at hw
  refine j_aload_n 0 hC 0 (dg DX7_rewind 0 rfl) rfl rfl ?_
  refine j_iconst 1 hC (dg DX7_rewind 1 rfl) (v := 0) (by decide) ?_
  refine j_putI 2 hC fX7_19 (k_90) (by decide) (by decide) rfl fp7_1 rfl (dg DX7_rewind 2 rfl) ?_
  exact hR 5 _ _ (dg DX7_rewind 3 rfl) hw
theorem m_X7_rewind {B : Nat} {σ : SS} {Q : SS → Prop} (hw : wp_X7_rewind  σ  Q) : MV yX7_rewind cX7_rewind 1 0 0 B 95 RS [.ref (B + 90)] σ Q := MV.mk (plainFor_of_name (by decide)) (Nat.le_of_ble_eq_true rfl) (fun X hC hR => t_X7_rewind hC  hR hw)
-- FortressWatch$Text.codeHere
def wp_X7_codeHere  (σ : SS)  (Q : Int32 → SS → Prop) : Prop :=
  (((σ 90 1) < 0 →
      Q (-1) σ) ∧
    (¬ (σ 90 1) < 0 →
      (((σ 90 2) ≤ (σ 90 1) →
          Q (-1) σ) ∧
        (¬ (σ 90 2) ≤ (σ 90 1) →
          ((70 ≤ (σ 90 1) →
              Q (-1) σ) ∧
            (¬ 70 ≤ (σ 90 1) →
              vp_in (σ 90 1) 70 ∧
              Q (σ 91 (σ 90 1).toNatClampNeg) σ))))))
set_option maxRecDepth 100000 in
set_option maxHeartbeats 4000000 in
theorem t_X7_codeHere {X : XT} {B : Nat} (hC : Cx X 1 cX7_codeHere RX7 (rmN 0 0)) {Q : Int32 → SS → Prop} (hR : RtI X 1 B 95 RS cX7_codeHere Q) {σ : SS} (hw : wp_X7_codeHere  σ  Q) : J X 1 B 95 RS 0 0 σ [(0, .ref (B + 90))] 0 [] := by
  unfold wp_X7_codeHere at hw
  refine j_aload_n 0 hC 0 (dg DX7_codeHere 0 rfl) rfl rfl ?_
  refine j_getI 1 hC fX7_19 (k_90) (by decide) (by decide) rfl (dg DX7_codeHere 1 rfl) ?_
  refine j_if_lt 4 39 hC (dg DX7_codeHere 2 rfl) (by decide) (fun hbr => ?_) (fun hbr => ?_)
  · replace hw := hw.1 hbr
    refine j_iconst 39 hC (dg DX7_codeHere 18 rfl) (v := (-1)) (by decide) ?_
    exact hR 40 _ _ _ (dg DX7_codeHere 19 rfl) hw
  · replace hw := hw.2 hbr
    refine j_aload_n 7 hC 0 (dg DX7_codeHere 3 rfl) rfl rfl ?_
    refine j_getI 8 hC fX7_19 (k_90) (by decide) (by decide) rfl (dg DX7_codeHere 4 rfl) ?_
    refine j_aload_n 11 hC 0 (dg DX7_codeHere 5 rfl) rfl rfl ?_
    refine j_getI 12 hC fX7_15 (k_90) (by decide) (by decide) rfl (dg DX7_codeHere 6 rfl) ?_
    refine j_icmp_ge 15 39 hC (dg DX7_codeHere 7 rfl) (by decide) (fun hbr => ?_) (fun hbr => ?_)
    · replace hw := hw.1 hbr
      refine j_iconst 39 hC (dg DX7_codeHere 18 rfl) (v := (-1)) (by decide) ?_
      exact hR 40 _ _ _ (dg DX7_codeHere 19 rfl) hw
    · replace hw := hw.2 hbr
      refine j_aload_n 18 hC 0 (dg DX7_codeHere 8 rfl) rfl rfl ?_
      refine j_getI 19 hC fX7_19 (k_90) (by decide) (by decide) rfl (dg DX7_codeHere 9 rfl) ?_
      refine j_bipush 22 hC (dg DX7_codeHere 10 rfl) (v := 70) (by decide) ?_
      refine j_icmp_ge 24 39 hC (dg DX7_codeHere 11 rfl) (by decide) (fun hbr => ?_) (fun hbr => ?_)
      · replace hw := hw.1 hbr
        refine j_iconst 39 hC (dg DX7_codeHere 18 rfl) (v := (-1)) (by decide) ?_
        exact hR 40 _ _ _ (dg DX7_codeHere 19 rfl) hw
      · replace hw := hw.2 hbr
        refine j_aload_n 27 hC 0 (dg DX7_codeHere 12 rfl) rfl rfl ?_
        refine j_getR 28 hC fX7_9 (k_90) (by decide) (by decide) rfl (dg DX7_codeHere 13 rfl) ?_
        refine j_aload_n 31 hC 0 (dg DX7_codeHere 14 rfl) rfl rfl ?_
        refine j_getI 32 hC fX7_19 (k_90) (by decide) (by decide) rfl (dg DX7_codeHere 15 rfl) ?_
        refine j_iald0 35 _ hC (k_91) (by decide) hw.1 rfl (dg DX7_codeHere 16 rfl) ?_
        replace hw := hw.2
        refine j_goto 36 40 hC (dg DX7_codeHere 17 rfl) (by decide) ?_
        exact hR 40 _ _ _ (dg DX7_codeHere 19 rfl) hw
theorem m_X7_codeHere {B : Nat} {σ : SS} {Q : Int32 → SS → Prop} (hw : wp_X7_codeHere  σ  Q) : MI yX7_codeHere cX7_codeHere 1 (some .int) 0 0 B 95 RS [.ref (B + 90)] σ Q := MI.mk (plainFor_of_name (by decide)) (Nat.le_of_ble_eq_true rfl) (fun X hC hR => t_X7_codeHere hC  hR hw)
-- FortressWatch$Text.skip
def wp_X7_skip  (σ : SS) (p1 : Int32) (Q : Int32 → SS → Prop) : Prop :=
  wp_X7_codeHere σ (fun r2 σ1 =>
    ((r2 = p1 →
        ((p1 = (-1) →
            Q 0 σ1) ∧
          (¬ p1 = (-1) →
            Q 1 (u2 σ1 90 1 ((σ1 90 1) + 1))))) ∧
      (¬ r2 = p1 →
        Q 0 σ1)))
set_option maxRecDepth 100000 in
set_option maxHeartbeats 4000000 in
theorem t_X7_skip {X : XT} {B : Nat} (hC : Cx X 2 cX7_skip RX7 (rmN 1 20)) {Q : Int32 → SS → Prop} (hR : RtZ X 2 B 95 RS cX7_skip Q) {σ : SS} {p1 : Int32} (hw : wp_X7_skip  σ p1 Q) : J X 2 B 95 RS 0 0 σ [(0, .ref (B + 90)), (1, .int p1)] 0 [] := by
  unfold wp_X7_skip at hw
  refine j_aload_n 0 hC 0 (dg DX7_skip 0 rfl) rfl rfl ?_
  refine j_Vi (As := []) 1 hC (m_X7_codeHere  hw) kX7_33 (k_90) (by decide) ⟨_, _, rfl⟩ (rmN_ok (by decide) (by decide)) rfl rfl (Nat.le_of_ble_eq_true rfl) (dg DX7_skip 1 rfl) (fun r2 σ1 hw => ?_)
  refine j_iload_n 4 hC 1 (dg DX7_skip 2 rfl) rfl rfl ?_
  refine j_icmp_ne 5 13 hC (dg DX7_skip 3 rfl) (by decide) (fun hbr => ?_) (fun hbr => ?_)
  · replace hw := hw.2 hbr
    refine j_iconst 13 hC (dg DX7_skip 7 rfl) (v := 0) (by decide) ?_
    exact hR 14 _ _ _ (dg DX7_skip 8 rfl) ⟨by decide, hw⟩
  · replace hw := hw.1 hbr
    refine j_iload_n 8 hC 1 (dg DX7_skip 4 rfl) rfl rfl ?_
    refine j_iconst 9 hC (dg DX7_skip 5 rfl) (v := (-1)) (by decide) ?_
    refine j_icmp_ne 10 15 hC (dg DX7_skip 6 rfl) (by decide) (fun hbr => ?_) (fun hbr => ?_)
    · replace hw := hw.2 hbr
      refine j_aload_n 15 hC 0 (dg DX7_skip 9 rfl) rfl rfl ?_
      refine j_dup 16 hC (dg DX7_skip 10 rfl) rfl ?_
      refine j_getI 17 hC fX7_19 (k_90) (by decide) (by decide) rfl (dg DX7_skip 11 rfl) ?_
      refine j_iconst 20 hC (dg DX7_skip 12 rfl) (v := 1) (by decide) ?_
      refine j_iadd 21 hC (dg DX7_skip 13 rfl) ?_
      refine j_putI 22 hC fX7_19 (k_90) (by decide) (by decide) rfl fp7_1 rfl (dg DX7_skip 14 rfl) ?_
      refine j_iconst 25 hC (dg DX7_skip 15 rfl) (v := 1) (by decide) ?_
      exact hR 26 _ _ _ (dg DX7_skip 16 rfl) ⟨by decide, hw⟩
    · replace hw := hw.1 hbr
      refine j_iconst 13 hC (dg DX7_skip 7 rfl) (v := 0) (by decide) ?_
      exact hR 14 _ _ _ (dg DX7_skip 8 rfl) ⟨by decide, hw⟩
theorem m_X7_skip {B : Nat} {σ : SS} {p1 : Int32} {Q : Int32 → SS → Prop} (hw : wp_X7_skip  σ p1 Q) : MI yX7_skip cX7_skip 2 (some .boolean) 1 20 B 95 RS [.ref (B + 90), .int p1] σ Q := MI.mkZ (plainFor_of_name (by decide)) (Nat.le_of_ble_eq_true rfl) (fun X hC hR => t_X7_skip hC  hR hw)
-- FortressWatch$Text.takeNumber
def bd_X7_takeNumber_4    (Q : Int32 → SS → Prop) (l1 : Int32) (rc : SS → Int32 → Int32 → Prop) (σ : SS) (v2 : Int32) (v3 : Int32) : Prop :=
  ((l1 ≤ v3 →
      Q v2 σ) ∧
    (¬ l1 ≤ v3 →
      wp_X7_codeHere σ (fun r2 σ1 =>
        ((r2 < 48 →
            Q v2 σ1) ∧
          (¬ r2 < 48 →
            ((r2 ≤ 57 →
                ((v3 = 0 →
                    rc (u2 σ1 90 1 ((σ1 90 1) + 1)) ((0 + r2) - 48) (v3 + 1)) ∧
                  (¬ v3 = 0 →
                    rc (u2 σ1 90 1 ((σ1 90 1) + 1)) (((10 * v2) + r2) - 48) (v3 + 1)))) ∧
              (¬ r2 ≤ 57 →
                Q v2 σ1)))))))
def wp_X7_takeNumber  (σ : SS) (p1 : Int32) (Q : Int32 → SS → Prop) : Prop :=
  ∃ k3, Lii (bd_X7_takeNumber_4 Q p1) k3 σ (-1) 0
set_option maxRecDepth 100000 in
set_option maxHeartbeats 4000000 in
theorem tb_X7_takeNumber_4 {X : XT} {B : Nat} (hC : Cx X 5 cX7_takeNumber RX7 (rmN 1 20)) {Q : Int32 → SS → Prop} {l1 : Int32} (hR : RtI X 5 B 95 RS cX7_takeNumber Q) {rc : SS → Int32 → Int32 → Prop} (hrc : ∀ (σ : SS) (v2 : Int32) (v3 : Int32), rc σ v2 v3 → J X 5 B 95 RS 0 0 σ [(0, .ref (B + 90)), (1, .int l1), (2, .int v2), (3, .int v3)] 4 []) : ∀ (σ : SS) (v2 : Int32) (v3 : Int32), bd_X7_takeNumber_4 Q l1 rc σ v2 v3 → J X 5 B 95 RS 0 0 σ [(0, .ref (B + 90)), (1, .int l1), (2, .int v2), (3, .int v3)] 4 [] := by
  intro σ v2 v3 hw
  unfold bd_X7_takeNumber_4 at hw
  refine j_iload_n 4 hC 3 (dg DX7_takeNumber 4 rfl) rfl rfl ?_
  refine j_iload_n 5 hC 1 (dg DX7_takeNumber 5 rfl) rfl rfl ?_
  refine j_icmp_ge 6 67 hC (dg DX7_takeNumber 6 rfl) (by decide) (fun hbr => ?_) (fun hbr => ?_)
  · replace hw := hw.1 hbr
    refine j_iload_n 67 hC 2 (dg DX7_takeNumber 37 rfl) rfl rfl ?_
    exact hR 68 _ _ _ (dg DX7_takeNumber 38 rfl) hw
  · replace hw := hw.2 hbr
    refine j_aload_n 9 hC 0 (dg DX7_takeNumber 7 rfl) rfl rfl ?_
    refine j_Vi (As := []) 10 hC (m_X7_codeHere  hw) kX7_33 (k_90) (by decide) ⟨_, _, rfl⟩ (rmN_ok (by decide) (by decide)) rfl rfl (Nat.le_of_ble_eq_true rfl) (dg DX7_takeNumber 8 rfl) (fun r2 σ1 hw => ?_)
    refine j_istore 13 hC [(4, .int r2), (0, .ref (B + 90)), (1, .int l1), (2, .int v2), (3, .int v3)] (dg DX7_takeNumber 9 rfl) (by decide) rfl ?_
    refine j_iload 15 hC 0 (dg DX7_takeNumber 10 rfl) rfl ?_
    refine j_bipush 17 hC (dg DX7_takeNumber 11 rfl) (v := 48) (by decide) ?_
    refine j_icmp_lt 19 67 hC (dg DX7_takeNumber 12 rfl) (by decide) (fun hbr => ?_) (fun hbr => ?_)
    · replace hw := hw.1 hbr
      refine j_iload_n 67 hC 3 (dg DX7_takeNumber 37 rfl) rfl rfl ?_
      exact hR 68 _ _ _ (dg DX7_takeNumber 38 rfl) hw
    · replace hw := hw.2 hbr
      refine j_iload 22 hC 0 (dg DX7_takeNumber 13 rfl) rfl ?_
      refine j_bipush 24 hC (dg DX7_takeNumber 14 rfl) (v := 57) (by decide) ?_
      refine j_icmp_le 26 32 hC (dg DX7_takeNumber 15 rfl) (by decide) (fun hbr => ?_) (fun hbr => ?_)
      · replace hw := hw.1 hbr
        refine j_iload_n 32 hC 4 (dg DX7_takeNumber 17 rfl) rfl rfl ?_
        refine j_if_ne 33 40 hC (dg DX7_takeNumber 18 rfl) (by decide) (fun hbr => ?_) (fun hbr => ?_)
        · replace hw := hw.2 hbr
          refine j_bipush 40 hC (dg DX7_takeNumber 21 rfl) (v := 10) (by decide) ?_
          refine j_iload_n 42 hC 3 (dg DX7_takeNumber 22 rfl) rfl rfl ?_
          refine j_imul 43 hC (dg DX7_takeNumber 23 rfl) ?_
          refine j_iload 44 hC 0 (dg DX7_takeNumber 24 rfl) rfl ?_
          refine j_iadd 46 hC (dg DX7_takeNumber 25 rfl) ?_
          refine j_bipush 47 hC (dg DX7_takeNumber 26 rfl) (v := 48) (by decide) ?_
          refine j_isub 49 hC (dg DX7_takeNumber 27 rfl) ?_
          refine j_istore_n 50 hC [(2, .int (((10 * v2) + r2) - 48)), (4, .int r2), (0, .ref (B + 90)), (1, .int l1), (3, .int v3)] (dg DX7_takeNumber 28 rfl) rfl (by decide) rfl ?_
          refine j_aload_n 51 hC 2 (dg DX7_takeNumber 29 rfl) rfl rfl ?_
          refine j_dup 52 hC (dg DX7_takeNumber 30 rfl) rfl ?_
          refine j_getI 53 hC fX7_19 (k_90) (by decide) (by decide) rfl (dg DX7_takeNumber 31 rfl) ?_
          refine j_iconst 56 hC (dg DX7_takeNumber 32 rfl) (v := 1) (by decide) ?_
          refine j_iadd 57 hC (dg DX7_takeNumber 33 rfl) ?_
          refine j_putI 58 hC fX7_19 (k_90) (by decide) (by decide) rfl fp7_1 rfl (dg DX7_takeNumber 34 rfl) ?_
          refine j_iinc 61 hC 4 (v3 + 1) [(3, .int (v3 + 1)), (2, .int (((10 * v2) + r2) - 48)), (4, .int r2), (0, .ref (B + 90)), (1, .int l1)] (dg DX7_takeNumber 35 rfl) rfl rfl (by decide) rfl ?_
          refine j_goto 64 4 hC (dg DX7_takeNumber 36 rfl) (by decide) ?_
          refine j_lv [3, 4, 1, 0] (lv' := [(0, .ref (B + 90)), (1, .int l1), (2, .int (((10 * v2) + r2) - 48)), (3, .int (v3 + 1))]) rfl ?_
          exact hrc _ _ _ hw
        · replace hw := hw.1 hbr
          refine j_iconst 36 hC (dg DX7_takeNumber 19 rfl) (v := 0) (by decide) ?_
          refine j_goto 37 44 hC (dg DX7_takeNumber 20 rfl) (by decide) ?_
          refine j_iload 44 hC 0 (dg DX7_takeNumber 24 rfl) rfl ?_
          refine j_iadd 46 hC (dg DX7_takeNumber 25 rfl) ?_
          refine j_bipush 47 hC (dg DX7_takeNumber 26 rfl) (v := 48) (by decide) ?_
          refine j_isub 49 hC (dg DX7_takeNumber 27 rfl) ?_
          refine j_istore_n 50 hC [(2, .int ((0 + r2) - 48)), (4, .int r2), (0, .ref (B + 90)), (1, .int l1), (3, .int v3)] (dg DX7_takeNumber 28 rfl) rfl (by decide) rfl ?_
          refine j_aload_n 51 hC 2 (dg DX7_takeNumber 29 rfl) rfl rfl ?_
          refine j_dup 52 hC (dg DX7_takeNumber 30 rfl) rfl ?_
          refine j_getI 53 hC fX7_19 (k_90) (by decide) (by decide) rfl (dg DX7_takeNumber 31 rfl) ?_
          refine j_iconst 56 hC (dg DX7_takeNumber 32 rfl) (v := 1) (by decide) ?_
          refine j_iadd 57 hC (dg DX7_takeNumber 33 rfl) ?_
          refine j_putI 58 hC fX7_19 (k_90) (by decide) (by decide) rfl fp7_1 rfl (dg DX7_takeNumber 34 rfl) ?_
          refine j_iinc 61 hC 4 (v3 + 1) [(3, .int (v3 + 1)), (2, .int ((0 + r2) - 48)), (4, .int r2), (0, .ref (B + 90)), (1, .int l1)] (dg DX7_takeNumber 35 rfl) rfl rfl (by decide) rfl ?_
          refine j_goto 64 4 hC (dg DX7_takeNumber 36 rfl) (by decide) ?_
          refine j_lv [3, 4, 1, 0] (lv' := [(0, .ref (B + 90)), (1, .int l1), (2, .int ((0 + r2) - 48)), (3, .int (v3 + 1))]) rfl ?_
          exact hrc _ _ _ hw
      · replace hw := hw.2 hbr
        refine j_goto 29 67 hC (dg DX7_takeNumber 16 rfl) (by decide) ?_
        refine j_iload_n 67 hC 3 (dg DX7_takeNumber 37 rfl) rfl rfl ?_
        exact hR 68 _ _ _ (dg DX7_takeNumber 38 rfl) hw
set_option maxRecDepth 100000 in
set_option maxHeartbeats 4000000 in
theorem t_X7_takeNumber {X : XT} {B : Nat} (hC : Cx X 5 cX7_takeNumber RX7 (rmN 1 20)) {Q : Int32 → SS → Prop} (hR : RtI X 5 B 95 RS cX7_takeNumber Q) {σ : SS} {p1 : Int32} (hw : wp_X7_takeNumber  σ p1 Q) : J X 5 B 95 RS 0 0 σ [(0, .ref (B + 90)), (1, .int p1)] 0 [] := by
  unfold wp_X7_takeNumber at hw
  refine j_iconst 0 hC (dg DX7_takeNumber 0 rfl) (v := (-1)) (by decide) ?_
  refine j_istore_n 1 hC [(2, .int (-1)), (0, .ref (B + 90)), (1, .int p1)] (dg DX7_takeNumber 1 rfl) rfl (by decide) rfl ?_
  refine j_iconst 2 hC (dg DX7_takeNumber 2 rfl) (v := 0) (by decide) ?_
  refine j_istore_n 3 hC [(3, .int 0), (2, .int (-1)), (0, .ref (B + 90)), (1, .int p1)] (dg DX7_takeNumber 3 rfl) rfl (by decide) rfl ?_
  obtain ⟨k3, hw⟩ := hw
  refine j_lv [2, 3, 1, 0] (lv' := [(0, .ref (B + 90)), (1, .int p1), (2, .int (-1)), (3, .int 0)]) rfl ?_
  exact Lii.snd (P := fun τ w2 w3 => J X 5 B 95 RS 0 0 τ [(0, .ref (B + 90)), (1, .int p1), (2, .int w2), (3, .int w3)] 4 []) (fun rcc hrcc => tb_X7_takeNumber_4 hC  hR  hrcc) k3 _ _ _ hw
theorem m_X7_takeNumber {B : Nat} {σ : SS} {p1 : Int32} {Q : Int32 → SS → Prop} (hw : wp_X7_takeNumber  σ p1 Q) : MI yX7_takeNumber cX7_takeNumber 5 (some .int) 1 20 B 95 RS [.ref (B + 90), .int p1] σ Q := MI.mk (plainFor_of_name (by decide)) (Nat.le_of_ble_eq_true rfl) (fun X hC hR => t_X7_takeNumber hC  hR hw)
-- FortressWatch$Text.takeFirst
def wp_X7_takeFirst  (σ : SS) (p1 : Int32) (Q : Int32 → SS → Prop) : Prop :=
  wp_X7_takeNumber σ p1 (fun r2 σ1 =>
    ((((u2 σ1 90 4 r2) 90 4) = (-1) →
        Q 0 (u2 σ1 90 4 r2)) ∧
      (¬ ((u2 σ1 90 4 r2) 90 4) = (-1) →
        Q 1 (u2 σ1 90 4 r2))))
set_option maxRecDepth 100000 in
set_option maxHeartbeats 4000000 in
theorem t_X7_takeFirst {X : XT} {B : Nat} (hC : Cx X 2 cX7_takeFirst RX7 (rmN 2 44)) {Q : Int32 → SS → Prop} (hR : RtZ X 2 B 95 RS cX7_takeFirst Q) {σ : SS} {p1 : Int32} (hw : wp_X7_takeFirst  σ p1 Q) : J X 2 B 95 RS 0 0 σ [(0, .ref (B + 90)), (1, .int p1)] 0 [] := by
  unfold wp_X7_takeFirst at hw
  refine j_aload_n 0 hC 0 (dg DX7_takeFirst 0 rfl) rfl rfl ?_
  refine j_aload_n 1 hC 0 (dg DX7_takeFirst 1 rfl) rfl rfl ?_
  refine j_iload_n 2 hC 1 (dg DX7_takeFirst 2 rfl) rfl rfl ?_
  refine j_Vi (As := [.int p1]) 3 hC (m_X7_takeNumber  hw) kX7_49 (k_90) (by decide) ⟨_, _, rfl⟩ (rmN_ok (by decide) (by decide)) rfl rfl (Nat.le_of_ble_eq_true rfl) (dg DX7_takeFirst 3 rfl) (fun r2 σ1 hw => ?_)
  refine j_putI 6 hC fX7_53 (k_90) (by decide) (by decide) rfl fp7_4 rfl (dg DX7_takeFirst 4 rfl) ?_
  refine j_aload_n 9 hC 0 (dg DX7_takeFirst 5 rfl) rfl rfl ?_
  refine j_getI 10 hC fX7_53 (k_90) (by decide) (by decide) rfl (dg DX7_takeFirst 6 rfl) ?_
  refine j_iconst 13 hC (dg DX7_takeFirst 7 rfl) (v := (-1)) (by decide) ?_
  refine j_icmp_eq 14 21 hC (dg DX7_takeFirst 8 rfl) (by decide) (fun hbr => ?_) (fun hbr => ?_)
  · replace hw := hw.1 hbr
    refine j_iconst 21 hC (dg DX7_takeFirst 11 rfl) (v := 0) (by decide) ?_
    exact hR 22 _ _ _ (dg DX7_takeFirst 12 rfl) ⟨by decide, hw⟩
  · replace hw := hw.2 hbr
    refine j_iconst 17 hC (dg DX7_takeFirst 9 rfl) (v := 1) (by decide) ?_
    refine j_goto 18 22 hC (dg DX7_takeFirst 10 rfl) (by decide) ?_
    exact hR 22 _ _ _ (dg DX7_takeFirst 12 rfl) ⟨by decide, hw⟩
theorem m_X7_takeFirst {B : Nat} {σ : SS} {p1 : Int32} {Q : Int32 → SS → Prop} (hw : wp_X7_takeFirst  σ p1 Q) : MI yX7_takeFirst cX7_takeFirst 2 (some .boolean) 2 44 B 95 RS [.ref (B + 90), .int p1] σ Q := MI.mkZ (plainFor_of_name (by decide)) (Nat.le_of_ble_eq_true rfl) (fun X hC hR => t_X7_takeFirst hC  hR hw)
-- FortressWatch$Text.takeSecond
def wp_X7_takeSecond  (σ : SS) (p1 : Int32) (Q : Int32 → SS → Prop) : Prop :=
  wp_X7_takeNumber σ p1 (fun r2 σ1 =>
    ((((u2 σ1 90 5 r2) 90 5) = (-1) →
        Q 0 (u2 σ1 90 5 r2)) ∧
      (¬ ((u2 σ1 90 5 r2) 90 5) = (-1) →
        Q 1 (u2 σ1 90 5 r2))))
set_option maxRecDepth 100000 in
set_option maxHeartbeats 4000000 in
theorem t_X7_takeSecond {X : XT} {B : Nat} (hC : Cx X 2 cX7_takeSecond RX7 (rmN 2 44)) {Q : Int32 → SS → Prop} (hR : RtZ X 2 B 95 RS cX7_takeSecond Q) {σ : SS} {p1 : Int32} (hw : wp_X7_takeSecond  σ p1 Q) : J X 2 B 95 RS 0 0 σ [(0, .ref (B + 90)), (1, .int p1)] 0 [] := by
  unfold wp_X7_takeSecond at hw
  refine j_aload_n 0 hC 0 (dg DX7_takeSecond 0 rfl) rfl rfl ?_
  refine j_aload_n 1 hC 0 (dg DX7_takeSecond 1 rfl) rfl rfl ?_
  refine j_iload_n 2 hC 1 (dg DX7_takeSecond 2 rfl) rfl rfl ?_
  refine j_Vi (As := [.int p1]) 3 hC (m_X7_takeNumber  hw) kX7_49 (k_90) (by decide) ⟨_, _, rfl⟩ (rmN_ok (by decide) (by decide)) rfl rfl (Nat.le_of_ble_eq_true rfl) (dg DX7_takeSecond 3 rfl) (fun r2 σ1 hw => ?_)
  refine j_putI 6 hC fX7_56 (k_90) (by decide) (by decide) rfl fp7_5 rfl (dg DX7_takeSecond 4 rfl) ?_
  refine j_aload_n 9 hC 0 (dg DX7_takeSecond 5 rfl) rfl rfl ?_
  refine j_getI 10 hC fX7_56 (k_90) (by decide) (by decide) rfl (dg DX7_takeSecond 6 rfl) ?_
  refine j_iconst 13 hC (dg DX7_takeSecond 7 rfl) (v := (-1)) (by decide) ?_
  refine j_icmp_eq 14 21 hC (dg DX7_takeSecond 8 rfl) (by decide) (fun hbr => ?_) (fun hbr => ?_)
  · replace hw := hw.1 hbr
    refine j_iconst 21 hC (dg DX7_takeSecond 11 rfl) (v := 0) (by decide) ?_
    exact hR 22 _ _ _ (dg DX7_takeSecond 12 rfl) ⟨by decide, hw⟩
  · replace hw := hw.2 hbr
    refine j_iconst 17 hC (dg DX7_takeSecond 9 rfl) (v := 1) (by decide) ?_
    refine j_goto 18 22 hC (dg DX7_takeSecond 10 rfl) (by decide) ?_
    exact hR 22 _ _ _ (dg DX7_takeSecond 12 rfl) ⟨by decide, hw⟩
theorem m_X7_takeSecond {B : Nat} {σ : SS} {p1 : Int32} {Q : Int32 → SS → Prop} (hw : wp_X7_takeSecond  σ p1 Q) : MI yX7_takeSecond cX7_takeSecond 2 (some .boolean) 2 44 B 95 RS [.ref (B + 90), .int p1] σ Q := MI.mkZ (plainFor_of_name (by decide)) (Nat.le_of_ble_eq_true rfl) (fun X hC hR => t_X7_takeSecond hC  hR hw)
-- FortressWatch$Text.takeThird
def wp_X7_takeThird  (σ : SS) (p1 : Int32) (Q : Int32 → SS → Prop) : Prop :=
  wp_X7_takeNumber σ p1 (fun r2 σ1 =>
    ((((u2 σ1 90 6 r2) 90 6) = (-1) →
        Q 0 (u2 σ1 90 6 r2)) ∧
      (¬ ((u2 σ1 90 6 r2) 90 6) = (-1) →
        Q 1 (u2 σ1 90 6 r2))))
set_option maxRecDepth 100000 in
set_option maxHeartbeats 4000000 in
theorem t_X7_takeThird {X : XT} {B : Nat} (hC : Cx X 2 cX7_takeThird RX7 (rmN 2 44)) {Q : Int32 → SS → Prop} (hR : RtZ X 2 B 95 RS cX7_takeThird Q) {σ : SS} {p1 : Int32} (hw : wp_X7_takeThird  σ p1 Q) : J X 2 B 95 RS 0 0 σ [(0, .ref (B + 90)), (1, .int p1)] 0 [] := by
  unfold wp_X7_takeThird at hw
  refine j_aload_n 0 hC 0 (dg DX7_takeThird 0 rfl) rfl rfl ?_
  refine j_aload_n 1 hC 0 (dg DX7_takeThird 1 rfl) rfl rfl ?_
  refine j_iload_n 2 hC 1 (dg DX7_takeThird 2 rfl) rfl rfl ?_
  refine j_Vi (As := [.int p1]) 3 hC (m_X7_takeNumber  hw) kX7_49 (k_90) (by decide) ⟨_, _, rfl⟩ (rmN_ok (by decide) (by decide)) rfl rfl (Nat.le_of_ble_eq_true rfl) (dg DX7_takeThird 3 rfl) (fun r2 σ1 hw => ?_)
  refine j_putI 6 hC fX7_59 (k_90) (by decide) (by decide) rfl fp7_6 rfl (dg DX7_takeThird 4 rfl) ?_
  refine j_aload_n 9 hC 0 (dg DX7_takeThird 5 rfl) rfl rfl ?_
  refine j_getI 10 hC fX7_59 (k_90) (by decide) (by decide) rfl (dg DX7_takeThird 6 rfl) ?_
  refine j_iconst 13 hC (dg DX7_takeThird 7 rfl) (v := (-1)) (by decide) ?_
  refine j_icmp_eq 14 21 hC (dg DX7_takeThird 8 rfl) (by decide) (fun hbr => ?_) (fun hbr => ?_)
  · replace hw := hw.1 hbr
    refine j_iconst 21 hC (dg DX7_takeThird 11 rfl) (v := 0) (by decide) ?_
    exact hR 22 _ _ _ (dg DX7_takeThird 12 rfl) ⟨by decide, hw⟩
  · replace hw := hw.2 hbr
    refine j_iconst 17 hC (dg DX7_takeThird 9 rfl) (v := 1) (by decide) ?_
    refine j_goto 18 22 hC (dg DX7_takeThird 10 rfl) (by decide) ?_
    exact hR 22 _ _ _ (dg DX7_takeThird 12 rfl) ⟨by decide, hw⟩
theorem m_X7_takeThird {B : Nat} {σ : SS} {p1 : Int32} {Q : Int32 → SS → Prop} (hw : wp_X7_takeThird  σ p1 Q) : MI yX7_takeThird cX7_takeThird 2 (some .boolean) 2 44 B 95 RS [.ref (B + 90), .int p1] σ Q := MI.mkZ (plainFor_of_name (by decide)) (Nat.le_of_ble_eq_true rfl) (fun X hC hR => t_X7_takeThird hC  hR hw)
-- FortressWatch$Text.takeCommand
def wp_X7_takeCommand  (σ : SS)  (Q : Int32 → SS → Prop) : Prop :=
  wp_X7_codeHere σ (fun r2 σ1 =>
    wp_X7_skip (u2 σ1 90 3 r2) ((u2 σ1 90 3 r2) 90 3) (fun r4 σ3 =>
      ((r4 = 0 →
          Q 0 σ3) ∧
        (¬ r4 = 0 →
          (((σ3 90 3) = 45 →
              wp_X7_takeFirst σ3 1 (fun r6 σ5 =>
                (r6 = 0 ∨ r6 = 1) ∧ Q r6 σ5)) ∧
            (¬ (σ3 90 3) = 45 →
              (((σ3 90 3) = 98 →
                  wp_X7_takeFirst σ3 1 (fun r8 σ7 =>
                    ((r8 = 0 →
                        Q 0 σ7) ∧
                      (¬ r8 = 0 →
                        wp_X7_skip σ7 33 (fun r10 σ9 =>
                          ((r10 = 0 →
                              Q 0 σ9) ∧
                            (¬ r10 = 0 →
                              wp_X7_takeSecond σ9 2 (fun r12 σ11 =>
                                ((r12 = 0 →
                                    Q 0 σ11) ∧
                                  (¬ r12 = 0 →
                                    wp_X7_skip σ11 43 (fun r14 σ13 =>
                                      ((r14 = 0 →
                                          Q 0 σ13) ∧
                                        (¬ r14 = 0 →
                                          wp_X7_takeThird σ13 1 (fun r16 σ15 =>
                                            ((r16 = 0 →
                                                Q 0 σ15) ∧
                                              (¬ r16 = 0 →
                                                Q 1 σ15)))))))))))))))) ∧
                (¬ (σ3 90 3) = 98 →
                  (((σ3 90 3) = 104 →
                      wp_X7_takeFirst σ3 2 (fun r18 σ17 =>
                        (r18 = 0 ∨ r18 = 1) ∧ Q r18 σ17)) ∧
                    (¬ (σ3 90 3) = 104 →
                      (((σ3 90 3) = 108 →
                          wp_X7_takeFirst σ3 1 (fun r20 σ19 =>
                            (r20 = 0 ∨ r20 = 1) ∧ Q r20 σ19)) ∧
                        (¬ (σ3 90 3) = 108 →
                          (((σ3 90 3) = 109 →
                              wp_X7_takeFirst σ3 1 (fun r22 σ21 =>
                                (r22 = 0 ∨ r22 = 1) ∧ Q r22 σ21)) ∧
                            (¬ (σ3 90 3) = 109 →
                              (((σ3 90 3) = 110 →
                                  wp_X7_takeFirst σ3 1 (fun r24 σ23 =>
                                    (r24 = 0 ∨ r24 = 1) ∧ Q r24 σ23)) ∧
                                (¬ (σ3 90 3) = 110 →
                                  (((σ3 90 3) = 112 →
                                      wp_X7_takeFirst σ3 2 (fun r26 σ25 =>
                                        ((r26 = 0 →
                                            Q 0 σ25) ∧
                                          (¬ r26 = 0 →
                                            wp_X7_skip σ25 60 (fun r28 σ27 =>
                                              ((r28 = 0 →
                                                  Q 0 σ27) ∧
                                                (¬ r28 = 0 →
                                                  wp_X7_takeSecond σ27 2 (fun r30 σ29 =>
                                                    ((r30 = 0 →
                                                        Q 0 σ29) ∧
                                                      (¬ r30 = 0 →
                                                        wp_X7_skip σ29 62 (fun r32 σ31 =>
                                                          ((r32 = 0 →
                                                              Q 0 σ31) ∧
                                                            (¬ r32 = 0 →
                                                              wp_X7_takeThird σ31 2 (fun r34 σ33 =>
                                                                ((r34 = 0 →
                                                                    Q 0 σ33) ∧
                                                                  (¬ r34 = 0 →
                                                                    Q 1 σ33)))))))))))))))) ∧
                                    (¬ (σ3 90 3) = 112 →
                                      (((σ3 90 3) = 114 →
                                          wp_X7_takeFirst σ3 1 (fun r36 σ35 =>
                                            ((r36 = 0 →
                                                Q 0 σ35) ∧
                                              (¬ r36 = 0 →
                                                wp_X7_skip σ35 60 (fun r38 σ37 =>
                                                  ((r38 = 0 →
                                                      Q 0 σ37) ∧
                                                    (¬ r38 = 0 →
                                                      wp_X7_takeSecond σ37 2 (fun r40 σ39 =>
                                                        ((r40 = 0 →
                                                            Q 0 σ39) ∧
                                                          (¬ r40 = 0 →
                                                            wp_X7_skip σ39 62 (fun r42 σ41 =>
                                                              ((r42 = 0 →
                                                                  Q 0 σ41) ∧
                                                                (¬ r42 = 0 →
                                                                  wp_X7_takeThird σ41 2 (fun r44 σ43 =>
                                                                    ((r44 = 0 →
                                                                        Q 0 σ43) ∧
                                                                      (¬ r44 = 0 →
                                                                        Q 1 σ43)))))))))))))))) ∧
                                        (¬ (σ3 90 3) = 114 →
                                          (((σ3 90 3) = 119 →
                                              Q 1 σ3) ∧
                                            (¬ (σ3 90 3) = 119 →
                                              Q 0 (u2 σ3 90 1 ((σ3 90 1) - 1))))))))))))))))))))))))
set_option maxRecDepth 100000 in
set_option maxHeartbeats 4000000 in
theorem t_X7_takeCommand {X : XT} {B : Nat} (hC : Cx X 1 cX7_takeCommand RX7 (rmN 3 65)) {Q : Int32 → SS → Prop} (hR : RtZ X 1 B 95 RS cX7_takeCommand Q) {σ : SS} (hw : wp_X7_takeCommand  σ  Q) : J X 1 B 95 RS 0 0 σ [(0, .ref (B + 90))] 0 [] := by
  unfold wp_X7_takeCommand at hw
  refine j_aload_n 0 hC 0 (dg DX7_takeCommand 0 rfl) rfl rfl ?_
  refine j_aload_n 1 hC 0 (dg DX7_takeCommand 1 rfl) rfl rfl ?_
  refine j_Vi (As := []) 2 hC (m_X7_codeHere  hw) kX7_33 (k_90) (by decide) ⟨_, _, rfl⟩ (rmN_ok (by decide) (by decide)) rfl rfl (Nat.le_of_ble_eq_true rfl) (dg DX7_takeCommand 2 rfl) (fun r2 σ1 hw => ?_)
  refine j_putI 5 hC fX7_37 (k_90) (by decide) (by decide) rfl fp7_3 rfl (dg DX7_takeCommand 3 rfl) ?_
  refine j_aload_n 8 hC 0 (dg DX7_takeCommand 4 rfl) rfl rfl ?_
  refine j_aload_n 9 hC 0 (dg DX7_takeCommand 5 rfl) rfl rfl ?_
  refine j_getI 10 hC fX7_37 (k_90) (by decide) (by decide) rfl (dg DX7_takeCommand 6 rfl) ?_
  refine j_Vi (As := [.int ((u2 σ1 90 3 r2) 90 3)]) 13 hC (m_X7_skip  hw) kX7_29 (k_90) (by decide) ⟨_, _, rfl⟩ (rmN_ok (by decide) (by decide)) rfl rfl (Nat.le_of_ble_eq_true rfl) (dg DX7_takeCommand 7 rfl) (fun r4 σ3 hw => ?_)
  refine j_if_ne 16 21 hC (dg DX7_takeCommand 8 rfl) (by decide) (fun hbr => ?_) (fun hbr => ?_)
  · replace hw := hw.2 hbr
    refine j_aload_n 21 hC 0 (dg DX7_takeCommand 11 rfl) rfl rfl ?_
    refine j_getI 22 hC fX7_37 (k_90) (by decide) (by decide) rfl (dg DX7_takeCommand 12 rfl) ?_
    by_cases n45 : (σ3 90 3) = 45
    · replace hw := hw.1 n45
      refine j_lookup 25 252 (off := 227) hC (dg DX7_takeCommand 13 rfl) (by decide) (by rw [n45]; rfl) (by decide) ?_
      refine j_aload_n 252 hC 0 (dg DX7_takeCommand 86 rfl) rfl rfl ?_
      refine j_iconst 253 hC (dg DX7_takeCommand 87 rfl) (v := 1) (by decide) ?_
      refine j_Vi (As := [.int 1]) 254 hC (m_X7_takeFirst  hw) kX7_40 (k_90) (by decide) ⟨_, _, rfl⟩ (rmN_ok (by decide) (by decide)) rfl rfl (Nat.le_of_ble_eq_true rfl) (dg DX7_takeCommand 88 rfl) (fun r6 σ5 hw => ?_)
      exact hR 257 _ _ _ (dg DX7_takeCommand 89 rfl) hw
    replace hw := hw.2 n45
    by_cases n98 : (σ3 90 3) = 98
    · replace hw := hw.1 n98
      refine j_lookup 25 204 (off := 179) hC (dg DX7_takeCommand 13 rfl) (by decide) (by rw [n98]; rfl) (by decide) ?_
      refine j_aload_n 204 hC 0 (dg DX7_takeCommand 62 rfl) rfl rfl ?_
      refine j_iconst 205 hC (dg DX7_takeCommand 63 rfl) (v := 1) (by decide) ?_
      refine j_Vi (As := [.int 1]) 206 hC (m_X7_takeFirst  hw) kX7_40 (k_90) (by decide) ⟨_, _, rfl⟩ (rmN_ok (by decide) (by decide)) rfl rfl (Nat.le_of_ble_eq_true rfl) (dg DX7_takeCommand 64 rfl) (fun r8 σ7 hw => ?_)
      refine j_if_eq 209 250 hC (dg DX7_takeCommand 65 rfl) (by decide) (fun hbr => ?_) (fun hbr => ?_)
      · replace hw := hw.1 hbr
        refine j_iconst 250 hC (dg DX7_takeCommand 84 rfl) (v := 0) (by decide) ?_
        exact hR 251 _ _ _ (dg DX7_takeCommand 85 rfl) ⟨by decide, hw⟩
      · replace hw := hw.2 hbr
        refine j_aload_n 212 hC 0 (dg DX7_takeCommand 66 rfl) rfl rfl ?_
        refine j_bipush 213 hC (dg DX7_takeCommand 67 rfl) (v := 33) (by decide) ?_
        refine j_Vi (As := [.int 33]) 215 hC (m_X7_skip  hw) kX7_29 (k_90) (by decide) ⟨_, _, rfl⟩ (rmN_ok (by decide) (by decide)) rfl rfl (Nat.le_of_ble_eq_true rfl) (dg DX7_takeCommand 68 rfl) (fun r10 σ9 hw => ?_)
        refine j_if_eq 218 250 hC (dg DX7_takeCommand 69 rfl) (by decide) (fun hbr => ?_) (fun hbr => ?_)
        · replace hw := hw.1 hbr
          refine j_iconst 250 hC (dg DX7_takeCommand 84 rfl) (v := 0) (by decide) ?_
          exact hR 251 _ _ _ (dg DX7_takeCommand 85 rfl) ⟨by decide, hw⟩
        · replace hw := hw.2 hbr
          refine j_aload_n 221 hC 0 (dg DX7_takeCommand 70 rfl) rfl rfl ?_
          refine j_iconst 222 hC (dg DX7_takeCommand 71 rfl) (v := 2) (by decide) ?_
          refine j_Vi (As := [.int 2]) 223 hC (m_X7_takeSecond  hw) kX7_43 (k_90) (by decide) ⟨_, _, rfl⟩ (rmN_ok (by decide) (by decide)) rfl rfl (Nat.le_of_ble_eq_true rfl) (dg DX7_takeCommand 72 rfl) (fun r12 σ11 hw => ?_)
          refine j_if_eq 226 250 hC (dg DX7_takeCommand 73 rfl) (by decide) (fun hbr => ?_) (fun hbr => ?_)
          · replace hw := hw.1 hbr
            refine j_iconst 250 hC (dg DX7_takeCommand 84 rfl) (v := 0) (by decide) ?_
            exact hR 251 _ _ _ (dg DX7_takeCommand 85 rfl) ⟨by decide, hw⟩
          · replace hw := hw.2 hbr
            refine j_aload_n 229 hC 0 (dg DX7_takeCommand 74 rfl) rfl rfl ?_
            refine j_bipush 230 hC (dg DX7_takeCommand 75 rfl) (v := 43) (by decide) ?_
            refine j_Vi (As := [.int 43]) 232 hC (m_X7_skip  hw) kX7_29 (k_90) (by decide) ⟨_, _, rfl⟩ (rmN_ok (by decide) (by decide)) rfl rfl (Nat.le_of_ble_eq_true rfl) (dg DX7_takeCommand 76 rfl) (fun r14 σ13 hw => ?_)
            refine j_if_eq 235 250 hC (dg DX7_takeCommand 77 rfl) (by decide) (fun hbr => ?_) (fun hbr => ?_)
            · replace hw := hw.1 hbr
              refine j_iconst 250 hC (dg DX7_takeCommand 84 rfl) (v := 0) (by decide) ?_
              exact hR 251 _ _ _ (dg DX7_takeCommand 85 rfl) ⟨by decide, hw⟩
            · replace hw := hw.2 hbr
              refine j_aload_n 238 hC 0 (dg DX7_takeCommand 78 rfl) rfl rfl ?_
              refine j_iconst 239 hC (dg DX7_takeCommand 79 rfl) (v := 1) (by decide) ?_
              refine j_Vi (As := [.int 1]) 240 hC (m_X7_takeThird  hw) kX7_46 (k_90) (by decide) ⟨_, _, rfl⟩ (rmN_ok (by decide) (by decide)) rfl rfl (Nat.le_of_ble_eq_true rfl) (dg DX7_takeCommand 80 rfl) (fun r16 σ15 hw => ?_)
              refine j_if_eq 243 250 hC (dg DX7_takeCommand 81 rfl) (by decide) (fun hbr => ?_) (fun hbr => ?_)
              · replace hw := hw.1 hbr
                refine j_iconst 250 hC (dg DX7_takeCommand 84 rfl) (v := 0) (by decide) ?_
                exact hR 251 _ _ _ (dg DX7_takeCommand 85 rfl) ⟨by decide, hw⟩
              · replace hw := hw.2 hbr
                refine j_iconst 246 hC (dg DX7_takeCommand 82 rfl) (v := 1) (by decide) ?_
                refine j_goto 247 251 hC (dg DX7_takeCommand 83 rfl) (by decide) ?_
                exact hR 251 _ _ _ (dg DX7_takeCommand 85 rfl) ⟨by decide, hw⟩
    replace hw := hw.2 n98
    by_cases n104 : (σ3 90 3) = 104
    · replace hw := hw.1 n104
      refine j_lookup 25 258 (off := 233) hC (dg DX7_takeCommand 13 rfl) (by decide) (by rw [n104]; rfl) (by decide) ?_
      refine j_aload_n 258 hC 0 (dg DX7_takeCommand 90 rfl) rfl rfl ?_
      refine j_iconst 259 hC (dg DX7_takeCommand 91 rfl) (v := 2) (by decide) ?_
      refine j_Vi (As := [.int 2]) 260 hC (m_X7_takeFirst  hw) kX7_40 (k_90) (by decide) ⟨_, _, rfl⟩ (rmN_ok (by decide) (by decide)) rfl rfl (Nat.le_of_ble_eq_true rfl) (dg DX7_takeCommand 92 rfl) (fun r18 σ17 hw => ?_)
      exact hR 263 _ _ _ (dg DX7_takeCommand 93 rfl) hw
    replace hw := hw.2 n104
    by_cases n108 : (σ3 90 3) = 108
    · replace hw := hw.1 n108
      refine j_lookup 25 252 (off := 227) hC (dg DX7_takeCommand 13 rfl) (by decide) (by rw [n108]; rfl) (by decide) ?_
      refine j_aload_n 252 hC 0 (dg DX7_takeCommand 86 rfl) rfl rfl ?_
      refine j_iconst 253 hC (dg DX7_takeCommand 87 rfl) (v := 1) (by decide) ?_
      refine j_Vi (As := [.int 1]) 254 hC (m_X7_takeFirst  hw) kX7_40 (k_90) (by decide) ⟨_, _, rfl⟩ (rmN_ok (by decide) (by decide)) rfl rfl (Nat.le_of_ble_eq_true rfl) (dg DX7_takeCommand 88 rfl) (fun r20 σ19 hw => ?_)
      exact hR 257 _ _ _ (dg DX7_takeCommand 89 rfl) hw
    replace hw := hw.2 n108
    by_cases n109 : (σ3 90 3) = 109
    · replace hw := hw.1 n109
      refine j_lookup 25 252 (off := 227) hC (dg DX7_takeCommand 13 rfl) (by decide) (by rw [n109]; rfl) (by decide) ?_
      refine j_aload_n 252 hC 0 (dg DX7_takeCommand 86 rfl) rfl rfl ?_
      refine j_iconst 253 hC (dg DX7_takeCommand 87 rfl) (v := 1) (by decide) ?_
      refine j_Vi (As := [.int 1]) 254 hC (m_X7_takeFirst  hw) kX7_40 (k_90) (by decide) ⟨_, _, rfl⟩ (rmN_ok (by decide) (by decide)) rfl rfl (Nat.le_of_ble_eq_true rfl) (dg DX7_takeCommand 88 rfl) (fun r22 σ21 hw => ?_)
      exact hR 257 _ _ _ (dg DX7_takeCommand 89 rfl) hw
    replace hw := hw.2 n109
    by_cases n110 : (σ3 90 3) = 110
    · replace hw := hw.1 n110
      refine j_lookup 25 252 (off := 227) hC (dg DX7_takeCommand 13 rfl) (by decide) (by rw [n110]; rfl) (by decide) ?_
      refine j_aload_n 252 hC 0 (dg DX7_takeCommand 86 rfl) rfl rfl ?_
      refine j_iconst 253 hC (dg DX7_takeCommand 87 rfl) (v := 1) (by decide) ?_
      refine j_Vi (As := [.int 1]) 254 hC (m_X7_takeFirst  hw) kX7_40 (k_90) (by decide) ⟨_, _, rfl⟩ (rmN_ok (by decide) (by decide)) rfl rfl (Nat.le_of_ble_eq_true rfl) (dg DX7_takeCommand 88 rfl) (fun r24 σ23 hw => ?_)
      exact hR 257 _ _ _ (dg DX7_takeCommand 89 rfl) hw
    replace hw := hw.2 n110
    by_cases n112 : (σ3 90 3) = 112
    · replace hw := hw.1 n112
      refine j_lookup 25 108 (off := 83) hC (dg DX7_takeCommand 13 rfl) (by decide) (by rw [n112]; rfl) (by decide) ?_
      refine j_aload_n 108 hC 0 (dg DX7_takeCommand 14 rfl) rfl rfl ?_
      refine j_iconst 109 hC (dg DX7_takeCommand 15 rfl) (v := 2) (by decide) ?_
      refine j_Vi (As := [.int 2]) 110 hC (m_X7_takeFirst  hw) kX7_40 (k_90) (by decide) ⟨_, _, rfl⟩ (rmN_ok (by decide) (by decide)) rfl rfl (Nat.le_of_ble_eq_true rfl) (dg DX7_takeCommand 16 rfl) (fun r26 σ25 hw => ?_)
      refine j_if_eq 113 154 hC (dg DX7_takeCommand 17 rfl) (by decide) (fun hbr => ?_) (fun hbr => ?_)
      · replace hw := hw.1 hbr
        refine j_iconst 154 hC (dg DX7_takeCommand 36 rfl) (v := 0) (by decide) ?_
        exact hR 155 _ _ _ (dg DX7_takeCommand 37 rfl) ⟨by decide, hw⟩
      · replace hw := hw.2 hbr
        refine j_aload_n 116 hC 0 (dg DX7_takeCommand 18 rfl) rfl rfl ?_
        refine j_bipush 117 hC (dg DX7_takeCommand 19 rfl) (v := 60) (by decide) ?_
        refine j_Vi (As := [.int 60]) 119 hC (m_X7_skip  hw) kX7_29 (k_90) (by decide) ⟨_, _, rfl⟩ (rmN_ok (by decide) (by decide)) rfl rfl (Nat.le_of_ble_eq_true rfl) (dg DX7_takeCommand 20 rfl) (fun r28 σ27 hw => ?_)
        refine j_if_eq 122 154 hC (dg DX7_takeCommand 21 rfl) (by decide) (fun hbr => ?_) (fun hbr => ?_)
        · replace hw := hw.1 hbr
          refine j_iconst 154 hC (dg DX7_takeCommand 36 rfl) (v := 0) (by decide) ?_
          exact hR 155 _ _ _ (dg DX7_takeCommand 37 rfl) ⟨by decide, hw⟩
        · replace hw := hw.2 hbr
          refine j_aload_n 125 hC 0 (dg DX7_takeCommand 22 rfl) rfl rfl ?_
          refine j_iconst 126 hC (dg DX7_takeCommand 23 rfl) (v := 2) (by decide) ?_
          refine j_Vi (As := [.int 2]) 127 hC (m_X7_takeSecond  hw) kX7_43 (k_90) (by decide) ⟨_, _, rfl⟩ (rmN_ok (by decide) (by decide)) rfl rfl (Nat.le_of_ble_eq_true rfl) (dg DX7_takeCommand 24 rfl) (fun r30 σ29 hw => ?_)
          refine j_if_eq 130 154 hC (dg DX7_takeCommand 25 rfl) (by decide) (fun hbr => ?_) (fun hbr => ?_)
          · replace hw := hw.1 hbr
            refine j_iconst 154 hC (dg DX7_takeCommand 36 rfl) (v := 0) (by decide) ?_
            exact hR 155 _ _ _ (dg DX7_takeCommand 37 rfl) ⟨by decide, hw⟩
          · replace hw := hw.2 hbr
            refine j_aload_n 133 hC 0 (dg DX7_takeCommand 26 rfl) rfl rfl ?_
            refine j_bipush 134 hC (dg DX7_takeCommand 27 rfl) (v := 62) (by decide) ?_
            refine j_Vi (As := [.int 62]) 136 hC (m_X7_skip  hw) kX7_29 (k_90) (by decide) ⟨_, _, rfl⟩ (rmN_ok (by decide) (by decide)) rfl rfl (Nat.le_of_ble_eq_true rfl) (dg DX7_takeCommand 28 rfl) (fun r32 σ31 hw => ?_)
            refine j_if_eq 139 154 hC (dg DX7_takeCommand 29 rfl) (by decide) (fun hbr => ?_) (fun hbr => ?_)
            · replace hw := hw.1 hbr
              refine j_iconst 154 hC (dg DX7_takeCommand 36 rfl) (v := 0) (by decide) ?_
              exact hR 155 _ _ _ (dg DX7_takeCommand 37 rfl) ⟨by decide, hw⟩
            · replace hw := hw.2 hbr
              refine j_aload_n 142 hC 0 (dg DX7_takeCommand 30 rfl) rfl rfl ?_
              refine j_iconst 143 hC (dg DX7_takeCommand 31 rfl) (v := 2) (by decide) ?_
              refine j_Vi (As := [.int 2]) 144 hC (m_X7_takeThird  hw) kX7_46 (k_90) (by decide) ⟨_, _, rfl⟩ (rmN_ok (by decide) (by decide)) rfl rfl (Nat.le_of_ble_eq_true rfl) (dg DX7_takeCommand 32 rfl) (fun r34 σ33 hw => ?_)
              refine j_if_eq 147 154 hC (dg DX7_takeCommand 33 rfl) (by decide) (fun hbr => ?_) (fun hbr => ?_)
              · replace hw := hw.1 hbr
                refine j_iconst 154 hC (dg DX7_takeCommand 36 rfl) (v := 0) (by decide) ?_
                exact hR 155 _ _ _ (dg DX7_takeCommand 37 rfl) ⟨by decide, hw⟩
              · replace hw := hw.2 hbr
                refine j_iconst 150 hC (dg DX7_takeCommand 34 rfl) (v := 1) (by decide) ?_
                refine j_goto 151 155 hC (dg DX7_takeCommand 35 rfl) (by decide) ?_
                exact hR 155 _ _ _ (dg DX7_takeCommand 37 rfl) ⟨by decide, hw⟩
    replace hw := hw.2 n112
    by_cases n114 : (σ3 90 3) = 114
    · replace hw := hw.1 n114
      refine j_lookup 25 156 (off := 131) hC (dg DX7_takeCommand 13 rfl) (by decide) (by rw [n114]; rfl) (by decide) ?_
      refine j_aload_n 156 hC 0 (dg DX7_takeCommand 38 rfl) rfl rfl ?_
      refine j_iconst 157 hC (dg DX7_takeCommand 39 rfl) (v := 1) (by decide) ?_
      refine j_Vi (As := [.int 1]) 158 hC (m_X7_takeFirst  hw) kX7_40 (k_90) (by decide) ⟨_, _, rfl⟩ (rmN_ok (by decide) (by decide)) rfl rfl (Nat.le_of_ble_eq_true rfl) (dg DX7_takeCommand 40 rfl) (fun r36 σ35 hw => ?_)
      refine j_if_eq 161 202 hC (dg DX7_takeCommand 41 rfl) (by decide) (fun hbr => ?_) (fun hbr => ?_)
      · replace hw := hw.1 hbr
        refine j_iconst 202 hC (dg DX7_takeCommand 60 rfl) (v := 0) (by decide) ?_
        exact hR 203 _ _ _ (dg DX7_takeCommand 61 rfl) ⟨by decide, hw⟩
      · replace hw := hw.2 hbr
        refine j_aload_n 164 hC 0 (dg DX7_takeCommand 42 rfl) rfl rfl ?_
        refine j_bipush 165 hC (dg DX7_takeCommand 43 rfl) (v := 60) (by decide) ?_
        refine j_Vi (As := [.int 60]) 167 hC (m_X7_skip  hw) kX7_29 (k_90) (by decide) ⟨_, _, rfl⟩ (rmN_ok (by decide) (by decide)) rfl rfl (Nat.le_of_ble_eq_true rfl) (dg DX7_takeCommand 44 rfl) (fun r38 σ37 hw => ?_)
        refine j_if_eq 170 202 hC (dg DX7_takeCommand 45 rfl) (by decide) (fun hbr => ?_) (fun hbr => ?_)
        · replace hw := hw.1 hbr
          refine j_iconst 202 hC (dg DX7_takeCommand 60 rfl) (v := 0) (by decide) ?_
          exact hR 203 _ _ _ (dg DX7_takeCommand 61 rfl) ⟨by decide, hw⟩
        · replace hw := hw.2 hbr
          refine j_aload_n 173 hC 0 (dg DX7_takeCommand 46 rfl) rfl rfl ?_
          refine j_iconst 174 hC (dg DX7_takeCommand 47 rfl) (v := 2) (by decide) ?_
          refine j_Vi (As := [.int 2]) 175 hC (m_X7_takeSecond  hw) kX7_43 (k_90) (by decide) ⟨_, _, rfl⟩ (rmN_ok (by decide) (by decide)) rfl rfl (Nat.le_of_ble_eq_true rfl) (dg DX7_takeCommand 48 rfl) (fun r40 σ39 hw => ?_)
          refine j_if_eq 178 202 hC (dg DX7_takeCommand 49 rfl) (by decide) (fun hbr => ?_) (fun hbr => ?_)
          · replace hw := hw.1 hbr
            refine j_iconst 202 hC (dg DX7_takeCommand 60 rfl) (v := 0) (by decide) ?_
            exact hR 203 _ _ _ (dg DX7_takeCommand 61 rfl) ⟨by decide, hw⟩
          · replace hw := hw.2 hbr
            refine j_aload_n 181 hC 0 (dg DX7_takeCommand 50 rfl) rfl rfl ?_
            refine j_bipush 182 hC (dg DX7_takeCommand 51 rfl) (v := 62) (by decide) ?_
            refine j_Vi (As := [.int 62]) 184 hC (m_X7_skip  hw) kX7_29 (k_90) (by decide) ⟨_, _, rfl⟩ (rmN_ok (by decide) (by decide)) rfl rfl (Nat.le_of_ble_eq_true rfl) (dg DX7_takeCommand 52 rfl) (fun r42 σ41 hw => ?_)
            refine j_if_eq 187 202 hC (dg DX7_takeCommand 53 rfl) (by decide) (fun hbr => ?_) (fun hbr => ?_)
            · replace hw := hw.1 hbr
              refine j_iconst 202 hC (dg DX7_takeCommand 60 rfl) (v := 0) (by decide) ?_
              exact hR 203 _ _ _ (dg DX7_takeCommand 61 rfl) ⟨by decide, hw⟩
            · replace hw := hw.2 hbr
              refine j_aload_n 190 hC 0 (dg DX7_takeCommand 54 rfl) rfl rfl ?_
              refine j_iconst 191 hC (dg DX7_takeCommand 55 rfl) (v := 2) (by decide) ?_
              refine j_Vi (As := [.int 2]) 192 hC (m_X7_takeThird  hw) kX7_46 (k_90) (by decide) ⟨_, _, rfl⟩ (rmN_ok (by decide) (by decide)) rfl rfl (Nat.le_of_ble_eq_true rfl) (dg DX7_takeCommand 56 rfl) (fun r44 σ43 hw => ?_)
              refine j_if_eq 195 202 hC (dg DX7_takeCommand 57 rfl) (by decide) (fun hbr => ?_) (fun hbr => ?_)
              · replace hw := hw.1 hbr
                refine j_iconst 202 hC (dg DX7_takeCommand 60 rfl) (v := 0) (by decide) ?_
                exact hR 203 _ _ _ (dg DX7_takeCommand 61 rfl) ⟨by decide, hw⟩
              · replace hw := hw.2 hbr
                refine j_iconst 198 hC (dg DX7_takeCommand 58 rfl) (v := 1) (by decide) ?_
                refine j_goto 199 203 hC (dg DX7_takeCommand 59 rfl) (by decide) ?_
                exact hR 203 _ _ _ (dg DX7_takeCommand 61 rfl) ⟨by decide, hw⟩
    replace hw := hw.2 n114
    by_cases n119 : (σ3 90 3) = 119
    · replace hw := hw.1 n119
      refine j_lookup 25 264 (off := 239) hC (dg DX7_takeCommand 13 rfl) (by decide) (by rw [n119]; rfl) (by decide) ?_
      refine j_iconst 264 hC (dg DX7_takeCommand 94 rfl) (v := 1) (by decide) ?_
      exact hR 265 _ _ _ (dg DX7_takeCommand 95 rfl) ⟨by decide, hw⟩
    replace hw := hw.2 n119
    have q45 : ((σ3 90 3)).toInt ≠ 45 := i32_ne n45
    have q98 : ((σ3 90 3)).toInt ≠ 98 := i32_ne n98
    have q104 : ((σ3 90 3)).toInt ≠ 104 := i32_ne n104
    have q108 : ((σ3 90 3)).toInt ≠ 108 := i32_ne n108
    have q109 : ((σ3 90 3)).toInt ≠ 109 := i32_ne n109
    have q110 : ((σ3 90 3)).toInt ≠ 110 := i32_ne n110
    have q112 : ((σ3 90 3)).toInt ≠ 112 := i32_ne n112
    have q114 : ((σ3 90 3)).toInt ≠ 114 := i32_ne n114
    have q119 : ((σ3 90 3)).toInt ≠ 119 := i32_ne n119
    refine j_lookup 25 266 (off := 241) hC (dg DX7_takeCommand 13 rfl) (by decide) (by simp only [Op.lookupswitch.offset, List.find?]; simp [q45, Ne.symm q45, q98, Ne.symm q98, q104, Ne.symm q104, q108, Ne.symm q108, q109, Ne.symm q109, q110, Ne.symm q110, q112, Ne.symm q112, q114, Ne.symm q114, q119, Ne.symm q119]) (by decide) ?_
    refine j_aload_n 266 hC 0 (dg DX7_takeCommand 96 rfl) rfl rfl ?_
    refine j_dup 267 hC (dg DX7_takeCommand 97 rfl) rfl ?_
    refine j_getI 268 hC fX7_19 (k_90) (by decide) (by decide) rfl (dg DX7_takeCommand 98 rfl) ?_
    refine j_iconst 271 hC (dg DX7_takeCommand 99 rfl) (v := 1) (by decide) ?_
    refine j_isub 272 hC (dg DX7_takeCommand 100 rfl) ?_
    refine j_putI 273 hC fX7_19 (k_90) (by decide) (by decide) rfl fp7_1 rfl (dg DX7_takeCommand 101 rfl) ?_
    refine j_iconst 276 hC (dg DX7_takeCommand 102 rfl) (v := 0) (by decide) ?_
    exact hR 277 _ _ _ (dg DX7_takeCommand 103 rfl) ⟨by decide, hw⟩
  · replace hw := hw.1 hbr
    refine j_iconst 19 hC (dg DX7_takeCommand 9 rfl) (v := 0) (by decide) ?_
    exact hR 20 _ _ _ (dg DX7_takeCommand 10 rfl) ⟨by decide, hw⟩
theorem m_X7_takeCommand {B : Nat} {σ : SS} {Q : Int32 → SS → Prop} (hw : wp_X7_takeCommand  σ  Q) : MI yX7_takeCommand cX7_takeCommand 1 (some .boolean) 3 65 B 95 RS [.ref (B + 90)] σ Q := MI.mkZ (plainFor_of_name (by decide)) (Nat.le_of_ble_eq_true rfl) (fun X hC hR => t_X7_takeCommand hC  hR hw)
-- FortressWatch$Text.findFault
def bd_X7_findFault_6    (Q : Int32 → SS → Prop)  (rc : SS → Int32 → Prop) (σ : SS) (v1 : Int32) : Prop :=
  ((70 ≤ v1 →
      Q (σ 90 1) σ) ∧
    (¬ 70 ≤ v1 →
      wp_X7_takeCommand σ (fun r3 σ2 =>
        ((r3 = 0 →
            Q (σ2 90 1) σ2) ∧
          (¬ r3 = 0 →
            (((σ2 90 1) < (σ2 90 2) →
                wp_X7_skip σ2 59 (fun r5 σ4 =>
                  ((r5 = 0 →
                      Q (σ4 90 1) σ4) ∧
                    (¬ r5 = 0 →
                      rc σ4 (v1 + 1))))) ∧
              (¬ (σ2 90 1) < (σ2 90 2) →
                Q (-1) σ2)))))))
def wp_X7_findFault  (σ : SS)  (Q : Int32 → SS → Prop) : Prop :=
  wp_X7_rewind σ (fun σ1 =>
    ∃ k6, Li (bd_X7_findFault_6 Q) k6 σ1 0)
set_option maxRecDepth 100000 in
set_option maxHeartbeats 4000000 in
theorem tb_X7_findFault_6 {X : XT} {B : Nat} (hC : Cx X 2 cX7_findFault RX7 (rmN 4 85)) {Q : Int32 → SS → Prop} (hR : RtI X 2 B 95 RS cX7_findFault Q) {rc : SS → Int32 → Prop} (hrc : ∀ (σ : SS) (v1 : Int32), rc σ v1 → J X 2 B 95 RS 0 0 σ [(0, .ref (B + 90)), (1, .int v1)] 6 []) : ∀ (σ : SS) (v1 : Int32), bd_X7_findFault_6 Q rc σ v1 → J X 2 B 95 RS 0 0 σ [(0, .ref (B + 90)), (1, .int v1)] 6 [] := by
  intro σ v1 hw
  unfold bd_X7_findFault_6 at hw
  refine j_iload_n 6 hC 1 (dg DX7_findFault 4 rfl) rfl rfl ?_
  refine j_bipush 7 hC (dg DX7_findFault 5 rfl) (v := 70) (by decide) ?_
  refine j_icmp_ge 9 52 hC (dg DX7_findFault 6 rfl) (by decide) (fun hbr => ?_) (fun hbr => ?_)
  · replace hw := hw.1 hbr
    refine j_aload_n 52 hC 0 (dg DX7_findFault 26 rfl) rfl rfl ?_
    refine j_getI 53 hC fX7_19 (k_90) (by decide) (by decide) rfl (dg DX7_findFault 27 rfl) ?_
    exact hR 56 _ _ _ (dg DX7_findFault 28 rfl) hw
  · replace hw := hw.2 hbr
    refine j_aload_n 12 hC 0 (dg DX7_findFault 7 rfl) rfl rfl ?_
    refine j_Vi (As := []) 13 hC (m_X7_takeCommand  hw) kX7_25 (k_90) (by decide) ⟨_, _, rfl⟩ (rmN_ok (by decide) (by decide)) rfl rfl (Nat.le_of_ble_eq_true rfl) (dg DX7_findFault 8 rfl) (fun r3 σ2 hw => ?_)
    refine j_if_eq 16 52 hC (dg DX7_findFault 9 rfl) (by decide) (fun hbr => ?_) (fun hbr => ?_)
    · replace hw := hw.1 hbr
      refine j_aload_n 52 hC 0 (dg DX7_findFault 26 rfl) rfl rfl ?_
      refine j_getI 53 hC fX7_19 (k_90) (by decide) (by decide) rfl (dg DX7_findFault 27 rfl) ?_
      exact hR 56 _ _ _ (dg DX7_findFault 28 rfl) hw
    · replace hw := hw.2 hbr
      refine j_aload_n 19 hC 0 (dg DX7_findFault 10 rfl) rfl rfl ?_
      refine j_getI 20 hC fX7_19 (k_90) (by decide) (by decide) rfl (dg DX7_findFault 11 rfl) ?_
      refine j_aload_n 23 hC 0 (dg DX7_findFault 12 rfl) rfl rfl ?_
      refine j_getI 24 hC fX7_15 (k_90) (by decide) (by decide) rfl (dg DX7_findFault 13 rfl) ?_
      refine j_icmp_lt 27 32 hC (dg DX7_findFault 14 rfl) (by decide) (fun hbr => ?_) (fun hbr => ?_)
      · replace hw := hw.1 hbr
        refine j_aload_n 32 hC 0 (dg DX7_findFault 17 rfl) rfl rfl ?_
        refine j_bipush 33 hC (dg DX7_findFault 18 rfl) (v := 59) (by decide) ?_
        refine j_Vi (As := [.int 59]) 35 hC (m_X7_skip  hw) kX7_29 (k_90) (by decide) ⟨_, _, rfl⟩ (rmN_ok (by decide) (by decide)) rfl rfl (Nat.le_of_ble_eq_true rfl) (dg DX7_findFault 19 rfl) (fun r5 σ4 hw => ?_)
        refine j_if_ne 38 46 hC (dg DX7_findFault 20 rfl) (by decide) (fun hbr => ?_) (fun hbr => ?_)
        · replace hw := hw.2 hbr
          refine j_iinc 46 hC 1 (v1 + 1) [(1, .int (v1 + 1)), (0, .ref (B + 90))] (dg DX7_findFault 24 rfl) rfl rfl (by decide) rfl ?_
          refine j_goto 49 6 hC (dg DX7_findFault 25 rfl) (by decide) ?_
          refine j_lv [1, 0] (lv' := [(0, .ref (B + 90)), (1, .int (v1 + 1))]) rfl ?_
          exact hrc _ _ hw
        · replace hw := hw.1 hbr
          refine j_aload_n 41 hC 0 (dg DX7_findFault 21 rfl) rfl rfl ?_
          refine j_getI 42 hC fX7_19 (k_90) (by decide) (by decide) rfl (dg DX7_findFault 22 rfl) ?_
          exact hR 45 _ _ _ (dg DX7_findFault 23 rfl) hw
      · replace hw := hw.2 hbr
        refine j_iconst 30 hC (dg DX7_findFault 15 rfl) (v := (-1)) (by decide) ?_
        exact hR 31 _ _ _ (dg DX7_findFault 16 rfl) hw
set_option maxRecDepth 100000 in
set_option maxHeartbeats 4000000 in
theorem t_X7_findFault {X : XT} {B : Nat} (hC : Cx X 2 cX7_findFault RX7 (rmN 4 85)) {Q : Int32 → SS → Prop} (hR : RtI X 2 B 95 RS cX7_findFault Q) {σ : SS} (hw : wp_X7_findFault  σ  Q) : J X 2 B 95 RS 0 0 σ [(0, .ref (B + 90))] 0 [] := by
  unfold wp_X7_findFault at hw
  refine j_aload_n 0 hC 0 (dg DX7_findFault 0 rfl) rfl rfl ?_
  refine j_Vv (As := []) 1 hC (m_X7_rewind  hw) kX7_22 (k_90) (by decide) ⟨_, _, rfl⟩ (rmN_ok (by decide) (by decide)) rfl rfl (Nat.le_of_ble_eq_true rfl) (dg DX7_findFault 1 rfl) (fun σ1 hw => ?_)
  refine j_iconst 4 hC (dg DX7_findFault 2 rfl) (v := 0) (by decide) ?_
  refine j_istore_n 5 hC [(1, .int 0), (0, .ref (B + 90))] (dg DX7_findFault 3 rfl) rfl (by decide) rfl ?_
  obtain ⟨k6, hw⟩ := hw
  refine j_lv [1, 0] (lv' := [(0, .ref (B + 90)), (1, .int 0)]) rfl ?_
  exact Li.snd (P := fun τ w1 => J X 2 B 95 RS 0 0 τ [(0, .ref (B + 90)), (1, .int w1)] 6 []) (fun rcc hrcc => tb_X7_findFault_6 hC  hR  hrcc) k6 _ _ hw
theorem m_X7_findFault {B : Nat} {σ : SS} {Q : Int32 → SS → Prop} (hw : wp_X7_findFault  σ  Q) : MI yX7_findFault cX7_findFault 2 (some .int) 4 85 B 95 RS [.ref (B + 90)] σ Q := MI.mk (plainFor_of_name (by decide)) (Nat.le_of_ble_eq_true rfl) (fun X hC hR => t_X7_findFault hC  hR hw)
