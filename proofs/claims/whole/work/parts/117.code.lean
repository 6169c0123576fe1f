-- FortressWatchModel.save
def wp_X10_save  (σ : SS)  (Q : Int32 → SS → Prop) : Prop :=
  wp_X10_copies 96 59 98 59 σ 0 0 (fun σ1 =>
    Q ((u2 σ1 95 8 1) 96 0) (u2 σ1 95 8 1))
set_option maxRecDepth 100000 in
set_option maxHeartbeats 4000000 in
theorem t_X10_save {X : XT} {B : Nat} (hC : Cx X 1 cX10_save RX10 (rmN 1 24)) {Q : Int32 → SS → Prop} (hR : RtI X 1 B 103 RS cX10_save Q) {σ : SS} (hw : wp_X10_save  σ  Q) : J X 1 B 103 RS 0 0 σ [(0, .ref (B + 95))] 0 [] := by
  unfold wp_X10_save at hw
  refine j_aload_n 0 hC 0 (dg DX10_save 0 rfl) rfl rfl ?_
  refine j_getR 1 hC fX10_9 (k_95) (by decide) (by decide) rfl (dg DX10_save 1 rfl) ?_
  refine j_iconst 4 hC (dg DX10_save 2 rfl) (v := 0) (by decide) ?_
  refine j_aload_n 5 hC 0 (dg DX10_save 3 rfl) rfl rfl ?_
  refine j_getR 6 hC fX10_16 (k_95) (by decide) (by decide) rfl (dg DX10_save 4 rfl) ?_
  refine j_iconst 9 hC (dg DX10_save 5 rfl) (v := 0) (by decide) ?_
  refine j_Sv (As := [.ref (B + 96), .int 0, .ref (B + 98), .int 0]) 10 hC (m_X10_copies (k_96) (by decide) (k_98) (by decide) hw) kX10_35 (rmN_ok (by decide) (by decide)) rfl rfl (Nat.le_of_ble_eq_true rfl) (dg DX10_save 6 rfl) (fun σ1 hw => ?_)
  refine j_aload_n 13 hC 0 (dg DX10_save 7 rfl) rfl rfl ?_
  refine j_iconst 14 hC (dg DX10_save 8 rfl) (v := 1) (by decide) ?_
  refine j_putZ 15 hC fX10_241 (k_95) (by decide) (by decide) rfl fp10_8 rfl rfl rfl (dg DX10_save 9 rfl) ?_
  refine j_aload_n 18 hC 0 (dg DX10_save 10 rfl) rfl rfl ?_
  refine j_getR 19 hC fX10_9 (k_95) (by decide) (by decide) rfl (dg DX10_save 11 rfl) ?_
  refine j_iconst 22 hC (dg DX10_save 12 rfl) (v := 0) (by decide) ?_
  refine j_iald0 23 0 hC (k_96) (by decide) (by unfold vp_in; decide) rfl (dg DX10_save 13 rfl) ?_
  exact hR 24 _ _ _ (dg DX10_save 14 rfl) hw
theorem m_X10_save {B : Nat} {σ : SS} {Q : Int32 → SS → Prop} (hw : wp_X10_save  σ  Q) : MI yX10_save cX10_save 1 (some .int) 1 24 B 103 RS [.ref (B + 95)] σ Q := MI.mk (plainFor_of_name (by decide)) (Nat.le_of_ble_eq_true rfl) (fun X hC hR => t_X10_save hC  hR hw)
-- FortressWatchModel.restore
def wp_X10_restore  (σ : SS)  (Q : Int32 → SS → Prop) : Prop :=
  (((σ 95 8) = 0 →
      Q (-4) σ) ∧
    (¬ (σ 95 8) = 0 →
      wp_X10_copies 98 59 96 59 σ 0 0 (fun σ1 =>
        Q ((u2 σ1 95 4 0) 96 0) (u2 σ1 95 4 0))))
set_option maxRecDepth 100000 in
set_option maxHeartbeats 4000000 in
theorem t_X10_restore {X : XT} {B : Nat} (hC : Cx X 1 cX10_restore RX10 (rmN 1 24)) {Q : Int32 → SS → Prop} (hR : RtI X 1 B 103 RS cX10_restore Q) {σ : SS} (hw : wp_X10_restore  σ  Q) : J X 1 B 103 RS 0 0 σ [(0, .ref (B + 95))] 0 [] := by
  unfold wp_X10_restore at hw
  refine j_aload_n 0 hC 0 (dg DX10_restore 0 rfl) rfl rfl ?_
  refine j_getI 1 hC fX10_241 (k_95) (by decide) (by decide) rfl (dg DX10_restore 1 rfl) ?_
  refine j_if_ne 4 10 hC (dg DX10_restore 2 rfl) (by decide) (fun hbr => ?_) (fun hbr => ?_)
  · replace hw := hw.2 hbr
    refine j_aload_n 10 hC 0 (dg DX10_restore 5 rfl) rfl rfl ?_
    refine j_getR 11 hC fX10_16 (k_95) (by decide) (by decide) rfl (dg DX10_restore 6 rfl) ?_
    refine j_iconst 14 hC (dg DX10_restore 7 rfl) (v := 0) (by decide) ?_
    refine j_aload_n 15 hC 0 (dg DX10_restore 8 rfl) rfl rfl ?_
    refine j_getR 16 hC fX10_9 (k_95) (by decide) (by decide) rfl (dg DX10_restore 9 rfl) ?_
    refine j_iconst 19 hC (dg DX10_restore 10 rfl) (v := 0) (by decide) ?_
    refine j_Sv (As := [.ref (B + 98), .int 0, .ref (B + 96), .int 0]) 20 hC (m_X10_copies (k_98) (by decide) (k_96) (by decide) hw) kX10_35 (rmN_ok (by decide) (by decide)) rfl rfl (Nat.le_of_ble_eq_true rfl) (dg DX10_restore 11 rfl) (fun σ1 hw => ?_)
    refine j_aload_n 23 hC 0 (dg DX10_restore 12 rfl) rfl rfl ?_
    refine j_iconst 24 hC (dg DX10_restore 13 rfl) (v := 0) (by decide) ?_
    refine j_putI 25 hC fX10_39 (k_95) (by decide) (by decide) rfl fp10_4 rfl (dg DX10_restore 14 rfl) ?_
    refine j_aload_n 28 hC 0 (dg DX10_restore 15 rfl) rfl rfl ?_
    refine j_getR 29 hC fX10_9 (k_95) (by decide) (by decide) rfl (dg DX10_restore 16 rfl) ?_
    refine j_iconst 32 hC (dg DX10_restore 17 rfl) (v := 0) (by decide) ?_
    refine j_iald0 33 0 hC (k_96) (by decide) (by unfold vp_in; decide) rfl (dg DX10_restore 18 rfl) ?_
    exact hR 34 _ _ _ (dg DX10_restore 19 rfl) hw
  · replace hw := hw.1 hbr
    refine j_bipush 7 hC (dg DX10_restore 3 rfl) (v := (-4)) (by decide) ?_
    exact hR 9 _ _ _ (dg DX10_restore 4 rfl) hw
theorem m_X10_restore {B : Nat} {σ : SS} {Q : Int32 → SS → Prop} (hw : wp_X10_restore  σ  Q) : MI yX10_restore cX10_restore 1 (some .int) 1 24 B 103 RS [.ref (B + 95)] σ Q := MI.mk (plainFor_of_name (by decide)) (Nat.le_of_ble_eq_true rfl) (fun X hC hR => t_X10_restore hC  hR hw)
