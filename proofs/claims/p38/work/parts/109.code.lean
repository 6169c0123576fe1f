-- FortressWatch.undo
def wp_X9_undo  (σ : SS)  (Q : Int32 → SS → Prop) : Prop :=
  ((0 < (σ 22 2) →
      wp_X4_takeBack 1 σ (fun σ1 =>
        Q (σ1 22 2) σ1)) ∧
    (¬ 0 < (σ 22 2) →
      Q (-4) σ))
set_option maxRecDepth 100000 in
set_option maxHeartbeats 4000000 in
theorem t_X9_undo {X : XT} {B : Nat} (hC : Cx X 1 cX9_undo RX9 (rmN 3 67)) {Q : Int32 → SS → Prop} (hR : RtI X 1 B 95 RS cX9_undo Q) {σ : SS} (hw : wp_X9_undo  σ  Q) : J X 1 B 95 RS 0 0 σ [(0, .ref (B + 0))] 0 [] := by
  unfold wp_X9_undo at hw
  refine j_aload_n 0 hC 0 (dg DX9_undo 0 rfl) rfl rfl ?_
  refine j_getR 1 hC fX9_25 (k_0) (by decide) (by decide) rfl (dg DX9_undo 1 rfl) ?_
  refine j_getI 4 hC fX9_259 (k_22) (by decide) (by decide) rfl (dg DX9_undo 2 rfl) ?_
  refine j_if_gt 7 13 hC (dg DX9_undo 3 rfl) (by decide) (fun hbr => ?_) (fun hbr => ?_)
  · replace hw := hw.1 hbr
    refine j_aload_n 13 hC 0 (dg DX9_undo 6 rfl) rfl rfl ?_
    refine j_getR 14 hC fX9_25 (k_0) (by decide) (by decide) rfl (dg DX9_undo 7 rfl) ?_
    refine j_aload_n 17 hC 0 (dg DX9_undo 8 rfl) rfl rfl ?_
    refine j_getR 18 hC fX9_10 (k_0) (by decide) (by decide) rfl (dg DX9_undo 9 rfl) ?_
    refine j_Vv (As := [.ref (B + 1)]) 21 hC (m_X4_takeBack isW_1 hw) kX9_280 (k_22) (by decide) ⟨_, _, rfl⟩ (rmN_ok (by decide) (by decide)) rfl rfl (Nat.le_of_ble_eq_true rfl) (dg DX9_undo 10 rfl) (fun σ1 hw => ?_)
    refine j_aload_n 24 hC 0 (dg DX9_undo 11 rfl) rfl rfl ?_
    refine j_getR 25 hC fX9_25 (k_0) (by decide) (by decide) rfl (dg DX9_undo 12 rfl) ?_
    refine j_getI 28 hC fX9_259 (k_22) (by decide) (by decide) rfl (dg DX9_undo 13 rfl) ?_
    exact hR 31 _ _ _ (dg DX9_undo 14 rfl) hw
  · replace hw := hw.2 hbr
    refine j_bipush 10 hC (dg DX9_undo 4 rfl) (v := (-4)) (by decide) ?_
    exact hR 12 _ _ _ (dg DX9_undo 5 rfl) hw
theorem m_X9_undo {B : Nat} {σ : SS} {Q : Int32 → SS → Prop} (hw : wp_X9_undo  σ  Q) : MI yX9_undo cX9_undo 1 (some .int) 3 67 B 95 RS [.ref (B + 0)] σ Q := MI.mk (plainFor_of_name (by decide)) (Nat.le_of_ble_eq_true rfl) (fun X hC hR => t_X9_undo hC  hR hw)
-- FortressWatch.save
def wp_X9_save  (σ : SS)  (Q : Int32 → SS → Prop) : Prop :=
  wp_X8_copyFrom 15 1 σ (fun σ1 =>
    Q ((u2 σ1 0 11 1) 1 6) (u2 σ1 0 11 1))
set_option maxRecDepth 100000 in
set_option maxHeartbeats 4000000 in
theorem t_X9_save {X : XT} {B : Nat} (hC : Cx X 1 cX9_save RX9 (rmN 2 45)) {Q : Int32 → SS → Prop} (hR : RtI X 1 B 95 RS cX9_save Q) {σ : SS} (hw : wp_X9_save  σ  Q) : J X 1 B 95 RS 0 0 σ [(0, .ref (B + 0))] 0 [] := by
  unfold wp_X9_save at hw
  refine j_aload_n 0 hC 0 (dg DX9_save 0 rfl) rfl rfl ?_
  refine j_getR 1 hC fX9_19 (k_0) (by decide) (by decide) rfl (dg DX9_save 1 rfl) ?_
  refine j_aload_n 4 hC 0 (dg DX9_save 2 rfl) rfl rfl ?_
  refine j_getR 5 hC fX9_10 (k_0) (by decide) (by decide) rfl (dg DX9_save 3 rfl) ?_
  refine j_Vv (As := [.ref (B + 1)]) 8 hC (m_X8_copyFrom isW_15 isW_1 hw) kX9_86 (k_15) (by decide) ⟨_, _, rfl⟩ (rmN_ok (by decide) (by decide)) rfl rfl (Nat.le_of_ble_eq_true rfl) (dg DX9_save 4 rfl) (fun σ1 hw => ?_)
  refine j_aload_n 11 hC 0 (dg DX9_save 5 rfl) rfl rfl ?_
  refine j_iconst 12 hC (dg DX9_save 6 rfl) (v := 1) (by decide) ?_
  refine j_putZ 13 hC fX9_78 (k_0) (by decide) (by decide) rfl fp9_11 rfl rfl rfl (dg DX9_save 7 rfl) ?_
  refine j_aload_n 16 hC 0 (dg DX9_save 8 rfl) rfl rfl ?_
  refine j_getR 17 hC fX9_10 (k_0) (by decide) (by decide) rfl (dg DX9_save 9 rfl) ?_
  refine j_getI 20 hC fX9_203 (k_1) (by decide) (by decide) rfl (dg DX9_save 10 rfl) ?_
  exact hR 23 _ _ _ (dg DX9_save 11 rfl) hw
theorem m_X9_save {B : Nat} {σ : SS} {Q : Int32 → SS → Prop} (hw : wp_X9_save  σ  Q) : MI yX9_save cX9_save 1 (some .int) 2 45 B 95 RS [.ref (B + 0)] σ Q := MI.mk (plainFor_of_name (by decide)) (Nat.le_of_ble_eq_true rfl) (fun X hC hR => t_X9_save hC  hR hw)
-- FortressWatch.restore
def wp_X9_restore  (σ : SS)  (Q : Int32 → SS → Prop) : Prop :=
  (((σ 0 11) = 0 →
      Q (-4) σ) ∧
    (¬ (σ 0 11) = 0 →
      wp_X8_copyFrom 1 15 σ (fun σ1 =>
        wp_X4_forget σ1 (fun σ2 =>
          Q (σ2 1 6) σ2))))
set_option maxRecDepth 100000 in
set_option maxHeartbeats 4000000 in
theorem t_X9_restore {X : XT} {B : Nat} (hC : Cx X 1 cX9_restore RX9 (rmN 2 45)) {Q : Int32 → SS → Prop} (hR : RtI X 1 B 95 RS cX9_restore Q) {σ : SS} (hw : wp_X9_restore  σ  Q) : J X 1 B 95 RS 0 0 σ [(0, .ref (B + 0))] 0 [] := by
  unfold wp_X9_restore at hw
  refine j_aload_n 0 hC 0 (dg DX9_restore 0 rfl) rfl rfl ?_
  refine j_getI 1 hC fX9_78 (k_0) (by decide) (by decide) rfl (dg DX9_restore 1 rfl) ?_
  refine j_if_ne 4 10 hC (dg DX9_restore 2 rfl) (by decide) (fun hbr => ?_) (fun hbr => ?_)
  · replace hw := hw.2 hbr
    refine j_aload_n 10 hC 0 (dg DX9_restore 5 rfl) rfl rfl ?_
    refine j_getR 11 hC fX9_10 (k_0) (by decide) (by decide) rfl (dg DX9_restore 6 rfl) ?_
    refine j_aload_n 14 hC 0 (dg DX9_restore 7 rfl) rfl rfl ?_
    refine j_getR 15 hC fX9_19 (k_0) (by decide) (by decide) rfl (dg DX9_restore 8 rfl) ?_
    refine j_Vv (As := [.ref (B + 15)]) 18 hC (m_X8_copyFrom isW_1 isW_15 hw) kX9_86 (k_1) (by decide) ⟨_, _, rfl⟩ (rmN_ok (by decide) (by decide)) rfl rfl (Nat.le_of_ble_eq_true rfl) (dg DX9_restore 9 rfl) (fun σ1 hw => ?_)
    refine j_aload_n 21 hC 0 (dg DX9_restore 10 rfl) rfl rfl ?_
    refine j_getR 22 hC fX9_25 (k_0) (by decide) (by decide) rfl (dg DX9_restore 11 rfl) ?_
    refine j_Vv (As := []) 25 hC (m_X4_forget  hw) kX9_283 (k_22) (by decide) ⟨_, _, rfl⟩ (rmN_ok (by decide) (by decide)) rfl rfl (Nat.le_of_ble_eq_true rfl) (dg DX9_restore 12 rfl) (fun σ2 hw => ?_)
    refine j_aload_n 28 hC 0 (dg DX9_restore 13 rfl) rfl rfl ?_
    refine j_getR 29 hC fX9_10 (k_0) (by decide) (by decide) rfl (dg DX9_restore 14 rfl) ?_
    refine j_getI 32 hC fX9_203 (k_1) (by decide) (by decide) rfl (dg DX9_restore 15 rfl) ?_
    exact hR 35 _ _ _ (dg DX9_restore 16 rfl) hw
  · replace hw := hw.1 hbr
    refine j_bipush 7 hC (dg DX9_restore 3 rfl) (v := (-4)) (by decide) ?_
    exact hR 9 _ _ _ (dg DX9_restore 4 rfl) hw
theorem m_X9_restore {B : Nat} {σ : SS} {Q : Int32 → SS → Prop} (hw : wp_X9_restore  σ  Q) : MI yX9_restore cX9_restore 1 (some .int) 2 45 B 95 RS [.ref (B + 0)] σ Q := MI.mk (plainFor_of_name (by decide)) (Nat.le_of_ble_eq_true rfl) (fun X hC hR => t_X9_restore hC  hR hw)
-- java/lang/Float.isNaN
def wp_Jxf58ca_isNaN_12338  (σ : SS) (p0 : UInt32) (Q : Int32 → SS → Prop) : Prop :=
  (((Op.cmpValue (FP.fcmp p0 p0) .l) = 0 →
      Q 0 σ) ∧
    (¬ (Op.cmpValue (FP.fcmp p0 p0) .l) = 0 →
      Q 1 σ))
set_option maxRecDepth 100000 in
set_option maxHeartbeats 4000000 in
theorem t_Jxf58ca_isNaN_12338 {X : XT} {B : Nat} (hC : Cx X 1 cJxf58ca_isNaN_12338 RJxf58ca (rmN 0 0)) {Q : Int32 → SS → Prop} (hR : RtZ X 1 B 95 RS cJxf58ca_isNaN_12338 Q) {σ : SS} {p0 : UInt32} (hw : wp_Jxf58ca_isNaN_12338  σ p0 Q) : J X 1 B 95 RS 0 0 σ [(0, .float p0)] 0 [] := by
  unfold wp_Jxf58ca_isNaN_12338 at hw
  refine j_fload_n 0 hC 0 (dg DJxf58ca_isNaN_12338 0 rfl) rfl rfl ?_
  refine j_fload_n 1 hC 0 (dg DJxf58ca_isNaN_12338 1 rfl) rfl rfl ?_
  refine j_fcmp 2 hC (dg DJxf58ca_isNaN_12338 2 rfl) ?_
  refine j_if_eq 3 10 hC (dg DJxf58ca_isNaN_12338 3 rfl) (by decide) (fun hbr => ?_) (fun hbr => ?_)
  · replace hw := hw.1 hbr
    refine j_iconst 10 hC (dg DJxf58ca_isNaN_12338 6 rfl) (v := 0) (by decide) ?_
    exact hR 11 _ _ _ (dg DJxf58ca_isNaN_12338 7 rfl) ⟨by decide, hw⟩
  · replace hw := hw.2 hbr
    refine j_iconst 6 hC (dg DJxf58ca_isNaN_12338 4 rfl) (v := 1) (by decide) ?_
    refine j_goto 7 11 hC (dg DJxf58ca_isNaN_12338 5 rfl) (by decide) ?_
    exact hR 11 _ _ _ (dg DJxf58ca_isNaN_12338 7 rfl) ⟨by decide, hw⟩
theorem m_Jxf58ca_isNaN_12338 {B : Nat} {σ : SS} {p0 : UInt32} {Q : Int32 → SS → Prop} (hw : wp_Jxf58ca_isNaN_12338  σ p0 Q) : MI yJxf58ca_isNaN_12338 cJxf58ca_isNaN_12338 1 (some .boolean) 0 0 B 95 RS [.float p0] σ Q := MI.mkZ (by decide +kernel) (Nat.le_of_ble_eq_true rfl) (fun X hC hR => t_Jxf58ca_isNaN_12338 hC  hR hw)
-- java/lang/Float.floatToIntBits
def wp_Jxf58ca_floatToIntBits_5c35a  (σ : SS) (p0 : UInt32) (Q : Int32 → SS → Prop) : Prop :=
  wp_Jxf58ca_isNaN_12338 σ p0 (fun r2 σ1 =>
    ((r2 = 0 →
        Q p0.toInt32 σ1) ∧
      (¬ r2 = 0 →
        Q 2143289344 σ1)))
set_option maxRecDepth 100000 in
set_option maxHeartbeats 4000000 in
theorem t_Jxf58ca_floatToIntBits_5c35a {X : XT} {B : Nat} (hC : Cx X 1 cJxf58ca_floatToIntBits_5c35a RJxf58ca (rmN 1 40)) {Q : Int32 → SS → Prop} (hR : RtI X 1 B 95 RS cJxf58ca_floatToIntBits_5c35a Q) {σ : SS} {p0 : UInt32} (hw : wp_Jxf58ca_floatToIntBits_5c35a  σ p0 Q) : J X 1 B 95 RS 0 0 σ [(0, .float p0)] 0 [] := by
  unfold wp_Jxf58ca_floatToIntBits_5c35a at hw
  refine j_fload_n 0 hC 0 (dg DJxf58ca_floatToIntBits_5c35a 0 rfl) rfl rfl ?_
  refine j_Si (As := [.float p0]) 1 hC (m_Jxf58ca_isNaN_12338  hw) kJxf58ca_59 (rmN_ok (by decide) (by decide)) rfl rfl (Nat.le_of_ble_eq_true rfl) (dg DJxf58ca_floatToIntBits_5c35a 1 rfl) (fun r2 σ1 hw => ?_)
  refine j_if_ne 4 12 hC (dg DJxf58ca_floatToIntBits_5c35a 2 rfl) (by decide) (fun hbr => ?_) (fun hbr => ?_)
  · replace hw := hw.2 hbr
    refine j_ldc 12 hC (dg DJxf58ca_floatToIntBits_5c35a 6 rfl) w_1056 ?_
    exact hR 14 _ _ _ (dg DJxf58ca_floatToIntBits_5c35a 7 rfl) hw
  · replace hw := hw.1 hbr
    refine j_fload_n 7 hC 0 (dg DJxf58ca_floatToIntBits_5c35a 3 rfl) rfl rfl ?_
    refine j_raw 8 hC w_1053 w_1055 w_1054 w_41 (by decide) (Nat.le_of_ble_eq_true rfl) (dg DJxf58ca_floatToIntBits_5c35a 4 rfl) ?_
    exact hR 11 _ _ _ (dg DJxf58ca_floatToIntBits_5c35a 5 rfl) hw
theorem m_Jxf58ca_floatToIntBits_5c35a {B : Nat} {σ : SS} {p0 : UInt32} {Q : Int32 → SS → Prop} (hw : wp_Jxf58ca_floatToIntBits_5c35a  σ p0 Q) : MI yJxf58ca_floatToIntBits_5c35a cJxf58ca_floatToIntBits_5c35a 1 (some .int) 1 40 B 95 RS [.float p0] σ Q := MI.mk (by decide +kernel) (Nat.le_of_ble_eq_true rfl) (fun X hC hR => t_Jxf58ca_floatToIntBits_5c35a hC  hR hw)
