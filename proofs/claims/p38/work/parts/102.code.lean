-- FortressWatch$Wall.copyFrom
def bd_X8_copyFrom_2 (a : Nat) (b : Nat)   (Q : SS → Prop)  (rc : SS → Int32 → Prop) (σ : SS) (v2 : Int32) : Prop :=
  ((9 ≤ v2 →
      ∀ σ1 : SS, σ1 = u2 (u2 σ a 6 (σ b 6)) a 7 ((u2 σ a 6 (σ b 6)) b 7) →
      ∀ σ2 : SS, σ2 = u2 (u2 σ1 a 8 (σ1 b 8)) a 9 ((u2 σ1 a 8 (σ1 b 8)) b 9) →
      Q (u2 σ2 a 10 (σ2 b 10))) ∧
    (¬ 9 ≤ v2 →
      wp_X8_copyPlace a b σ v2 v2 (fun σ3 =>
        rc σ3 (v2 + 1))))
def wp_X8_copyFrom (a : Nat) (b : Nat) (σ : SS)  (Q : SS → Prop) : Prop :=
  ∃ k4, Li (bd_X8_copyFrom_2 a b Q) k4 σ 0
set_option maxRecDepth 100000 in
set_option maxHeartbeats 4000000 in
theorem tb_X8_copyFrom_2 {X : XT} {B : Nat} (hC : Cx X 3 cX8_copyFrom RX8 (rmN 1 23)) {a : Nat} {b : Nat} {Q : SS → Prop} (ha : isW a) (hb : isW b) (hR : RtV X 3 B 95 RS cX8_copyFrom Q) {rc : SS → Int32 → Prop} (hrc : ∀ (σ : SS) (v2 : Int32), rc σ v2 → J X 3 B 95 RS 0 0 σ [(0, .ref (B + a)), (1, .ref (B + b)), (2, .int v2)] 2 []) : ∀ (σ : SS) (v2 : Int32), bd_X8_copyFrom_2 a b Q rc σ v2 → J X 3 B 95 RS 0 0 σ [(0, .ref (B + a)), (1, .ref (B + b)), (2, .int v2)] 2 [] := by
  intro σ v2 hw
  unfold bd_X8_copyFrom_2 at hw
  refine j_iload_n 2 hC 2 (dg DX8_copyFrom 2 rfl) rfl rfl ?_
  refine j_bipush 3 hC (dg DX8_copyFrom 3 rfl) (v := 9) (by decide) ?_
  refine j_icmp_ge 5 21 hC (dg DX8_copyFrom 4 rfl) (by decide) (fun hbr => ?_) (fun hbr => ?_)
  · replace hw := hw.1 hbr
    refine j_aload_n 21 hC 0 (dg DX8_copyFrom 12 rfl) rfl rfl ?_
    refine j_aload_n 22 hC 1 (dg DX8_copyFrom 13 rfl) rfl rfl ?_
    refine j_getI 23 hC fX8_38 (kW hb) (lW hb) (by decide) rfl (dg DX8_copyFrom 14 rfl) ?_
    refine j_putI 26 hC fX8_38 (kW ha) (lW ha) (by decide) rfl fp8_6 (rW ha (by decide) (by decide)) (dg DX8_copyFrom 15 rfl) ?_
    refine j_aload_n 29 hC 0 (dg DX8_copyFrom 16 rfl) rfl rfl ?_
    refine j_aload_n 30 hC 1 (dg DX8_copyFrom 17 rfl) rfl rfl ?_
    refine j_getI 31 hC fX8_42 (kW hb) (lW hb) (by decide) rfl (dg DX8_copyFrom 18 rfl) ?_
    refine j_putI 34 hC fX8_42 (kW ha) (lW ha) (by decide) rfl fp8_7 (rW ha (by decide) (by decide)) (dg DX8_copyFrom 19 rfl) ?_
    refine j_sg (fun σ1 es => ?_)
    replace hw := hw _ es
    refine j_aload_n 37 hC 0 (dg DX8_copyFrom 20 rfl) rfl rfl ?_
    refine j_aload_n 38 hC 1 (dg DX8_copyFrom 21 rfl) rfl rfl ?_
    refine j_getI 39 hC fX8_45 (kW hb) (lW hb) (by decide) rfl (dg DX8_copyFrom 22 rfl) ?_
    refine j_putI 42 hC fX8_45 (kW ha) (lW ha) (by decide) rfl fp8_8 (rW ha (by decide) (by decide)) (dg DX8_copyFrom 23 rfl) ?_
    refine j_aload_n 45 hC 0 (dg DX8_copyFrom 24 rfl) rfl rfl ?_
    refine j_aload_n 46 hC 1 (dg DX8_copyFrom 25 rfl) rfl rfl ?_
    refine j_getI 47 hC fX8_48 (kW hb) (lW hb) (by decide) rfl (dg DX8_copyFrom 26 rfl) ?_
    refine j_putI 50 hC fX8_48 (kW ha) (lW ha) (by decide) rfl fp8_9 (rW ha (by decide) (by decide)) (dg DX8_copyFrom 27 rfl) ?_
    refine j_sg (fun σ2 es => ?_)
    replace hw := hw _ es
    refine j_aload_n 53 hC 0 (dg DX8_copyFrom 28 rfl) rfl rfl ?_
    refine j_aload_n 54 hC 1 (dg DX8_copyFrom 29 rfl) rfl rfl ?_
    refine j_getI 55 hC fX8_51 (kW hb) (lW hb) (by decide) rfl (dg DX8_copyFrom 30 rfl) ?_
    refine j_putI 58 hC fX8_51 (kW ha) (lW ha) (by decide) rfl fp8_10 (rW ha (by decide) (by decide)) (dg DX8_copyFrom 31 rfl) ?_
    exact hR 61 _ _ (dg DX8_copyFrom 32 rfl) hw
  · replace hw := hw.2 hbr
    refine j_aload_n 8 hC 0 (dg DX8_copyFrom 5 rfl) rfl rfl ?_
    refine j_aload_n 9 hC 1 (dg DX8_copyFrom 6 rfl) rfl rfl ?_
    refine j_iload_n 10 hC 2 (dg DX8_copyFrom 7 rfl) rfl rfl ?_
    refine j_iload_n 11 hC 2 (dg DX8_copyFrom 8 rfl) rfl rfl ?_
    refine j_Vv (As := [.ref (B + b), .int v2, .int v2]) 12 hC (m_X8_copyPlace ha hb hw) kX8_34 (kW ha) (lW ha) ⟨_, _, rfl⟩ (rmN_ok (by decide) (by decide)) rfl rfl (Nat.le_of_ble_eq_true rfl) (dg DX8_copyFrom 9 rfl) (fun σ3 hw => ?_)
    refine j_iinc 15 hC 2 (v2 + 1) [(2, .int (v2 + 1)), (0, .ref (B + a)), (1, .ref (B + b))] (dg DX8_copyFrom 10 rfl) rfl rfl (by decide) rfl ?_
    refine j_goto 18 2 hC (dg DX8_copyFrom 11 rfl) (by decide) ?_
    refine j_lv [1, 2, 0] (lv' := [(0, .ref (B + a)), (1, .ref (B + b)), (2, .int (v2 + 1))]) rfl ?_
    exact hrc _ _ hw
set_option maxRecDepth 100000 in
set_option maxHeartbeats 4000000 in
theorem t_X8_copyFrom {X : XT} {B : Nat} (hC : Cx X 3 cX8_copyFrom RX8 (rmN 1 23)) {a : Nat} {b : Nat} (ha : isW a) (hb : isW b) {Q : SS → Prop} (hR : RtV X 3 B 95 RS cX8_copyFrom Q) {σ : SS} (hw : wp_X8_copyFrom a b σ  Q) : J X 3 B 95 RS 0 0 σ [(0, .ref (B + a)), (1, .ref (B + b))] 0 [] := by
  unfold wp_X8_copyFrom at hw
  refine j_iconst 0 hC (dg DX8_copyFrom 0 rfl) (v := 0) (by decide) ?_
  refine j_istore_n 1 hC [(2, .int 0), (0, .ref (B + a)), (1, .ref (B + b))] (dg DX8_copyFrom 1 rfl) rfl (by decide) rfl ?_
  obtain ⟨k4, hw⟩ := hw
  refine j_lv [1, 2, 0] (lv' := [(0, .ref (B + a)), (1, .ref (B + b)), (2, .int 0)]) rfl ?_
  exact Li.snd (P := fun τ w2 => J X 3 B 95 RS 0 0 τ [(0, .ref (B + a)), (1, .ref (B + b)), (2, .int w2)] 2 []) (fun rcc hrcc => tb_X8_copyFrom_2 hC ha hb hR  hrcc) k4 _ _ hw
theorem m_X8_copyFrom {B : Nat} {a : Nat} {b : Nat} (ha : isW a) (hb : isW b) {σ : SS} {Q : SS → Prop} (hw : wp_X8_copyFrom a b σ  Q) : MV yX8_copyFrom cX8_copyFrom 3 1 23 B 95 RS [.ref (B + a), .ref (B + b)] σ Q := MV.mk (plainFor_of_name (by decide)) (Nat.le_of_ble_eq_true rfl) (fun X hC hR => t_X8_copyFrom hC ha hb hR hw)
-- FortressWatch$Past.keep
def wp_X4_keep (a : Nat) (σ : SS)  (Q : SS → Prop) : Prop :=
  vp_in ((σ 22 1) &&& 7) 8 ∧
  wp_X8_copyFrom (24 + 7 * ((σ 22 1) &&& 7).toNatClampNeg) a σ (fun σ2 =>
    ∀ σ3 : SS, σ3 = u2 (u2 σ2 22 1 ((σ2 22 1) + 1)) 22 2 (if 8 < (((u2 σ2 22 1 ((σ2 22 1) + 1)) 22 2) + 1) then 8 else (((u2 σ2 22 1 ((σ2 22 1) + 1)) 22 2) + 1)) →
    Q σ3)
set_option maxRecDepth 100000 in
set_option maxHeartbeats 4000000 in
theorem t_X4_keep {X : XT} {B : Nat} (hC : Cx X 3 cX4_keep RX4 (rmN 2 45)) {a : Nat} (ha : isW a) {Q : SS → Prop} (hR : RtV X 3 B 95 RS cX4_keep Q) {σ : SS} (hw : wp_X4_keep a σ  Q) : J X 3 B 95 RS 0 0 σ [(0, .ref (B + 22)), (1, .ref (B + a))] 0 [] := by
  unfold wp_X4_keep at hw
  refine j_aload_n 0 hC 0 (dg DX4_keep 0 rfl) rfl rfl ?_
  refine j_getR 1 hC fX4_11 (k_22) (by decide) (by decide) rfl (dg DX4_keep 1 rfl) ?_
  refine j_aload_n 4 hC 0 (dg DX4_keep 2 rfl) rfl rfl ?_
  refine j_getI 5 hC fX4_18 (k_22) (by decide) (by decide) rfl (dg DX4_keep 3 rfl) ?_
  refine j_bipush 8 hC (dg DX4_keep 4 rfl) (v := 7) (by decide) ?_
  refine j_iand 10 hC (dg DX4_keep 5 rfl) ?_
  have hi1 := isW_past hw.1
  refine j_aald 11 hC (by decide) hw.1 (dg DX4_keep 6 rfl) ?_
  replace hw := hw.2
  refine j_astore_n 12 hC [(2, .ref (B + (24 + 7 * ((σ 22 1) &&& 7).toNatClampNeg))), (0, .ref (B + 22)), (1, .ref (B + a))] (dg DX4_keep 7 rfl) rfl (by decide) rfl ?_
  refine j_aload_n 13 hC 0 (dg DX4_keep 8 rfl) rfl rfl ?_
  refine j_ifnull 14 hC (dg DX4_keep 9 rfl) ?_
  refine j_aload_n 17 hC 0 (dg DX4_keep 10 rfl) rfl rfl ?_
  refine j_aload_n 18 hC 2 (dg DX4_keep 11 rfl) rfl rfl ?_
  refine j_Vv (As := [.ref (B + a)]) 19 hC (m_X8_copyFrom hi1 ha hw) kX4_22 (kW hi1) (lW hi1) ⟨_, _, rfl⟩ (rmN_ok (by decide) (by decide)) rfl rfl (Nat.le_of_ble_eq_true rfl) (dg DX4_keep 12 rfl) (fun σ2 hw => ?_)
  refine j_aload_n 22 hC 1 (dg DX4_keep 13 rfl) rfl rfl ?_
  refine j_dup 23 hC (dg DX4_keep 14 rfl) rfl ?_
  refine j_getI 24 hC fX4_18 (k_22) (by decide) (by decide) rfl (dg DX4_keep 15 rfl) ?_
  refine j_iconst 27 hC (dg DX4_keep 16 rfl) (v := 1) (by decide) ?_
  refine j_iadd 28 hC (dg DX4_keep 17 rfl) ?_
  refine j_putI 29 hC fX4_18 (k_22) (by decide) (by decide) rfl fp4_1 rfl (dg DX4_keep 18 rfl) ?_
  refine j_aload_n 32 hC 1 (dg DX4_keep 19 rfl) rfl rfl ?_
  refine j_aload_n 33 hC 1 (dg DX4_keep 20 rfl) rfl rfl ?_
  refine j_getI 34 hC fX4_26 (k_22) (by decide) (by decide) rfl (dg DX4_keep 21 rfl) ?_
  refine j_iconst 37 hC (dg DX4_keep 22 rfl) (v := 1) (by decide) ?_
  refine j_iadd 38 hC (dg DX4_keep 23 rfl) ?_
  refine j_bipush 39 hC (dg DX4_keep 24 rfl) (v := 8) (by decide) ?_
  refine j_mmin 41 hC w_101 w_102 w_39 w_103 (by decide) (Nat.le_of_ble_eq_true rfl) (Nat.zero_le _) (Nat.zero_le _) (dg DX4_keep 25 rfl) ?_
  refine j_putI 44 hC fX4_26 (k_22) (by decide) (by decide) rfl fp4_2 rfl (dg DX4_keep 26 rfl) ?_
  refine j_sg (fun σ3 es => ?_)
  replace hw := hw _ es
  exact hR 47 _ _ (dg DX4_keep 27 rfl) hw
theorem m_X4_keep {B : Nat} {a : Nat} (ha : isW a) {σ : SS} {Q : SS → Prop} (hw : wp_X4_keep a σ  Q) : MV yX4_keep cX4_keep 3 2 45 B 95 RS [.ref (B + 22), .ref (B + a)] σ Q := MV.mk (plainFor_of_name (by decide)) (Nat.le_of_ble_eq_true rfl) (fun X hC hR => t_X4_keep hC ha hR hw)
-- FortressWatch$Past.takeBack
def wp_X4_takeBack (a : Nat) (σ : SS)  (Q : SS → Prop) : Prop :=
  ∀ σ1 : SS, σ1 = u2 (u2 σ 22 1 ((σ 22 1) - 1)) 22 2 (((u2 σ 22 1 ((σ 22 1) - 1)) 22 2) - 1) →
  vp_in ((σ1 22 1) &&& 7) 8 ∧
  wp_X8_copyFrom a (24 + 7 * ((σ1 22 1) &&& 7).toNatClampNeg) σ1 (fun σ3 =>
    Q σ3)
set_option maxRecDepth 100000 in
set_option maxHeartbeats 4000000 in
theorem t_X4_takeBack {X : XT} {B : Nat} (hC : Cx X 3 cX4_takeBack RX4 (rmN 2 45)) {a : Nat} (ha : isW a) {Q : SS → Prop} (hR : RtV X 3 B 95 RS cX4_takeBack Q) {σ : SS} (hw : wp_X4_takeBack a σ  Q) : J X 3 B 95 RS 0 0 σ [(0, .ref (B + 22)), (1, .ref (B + a))] 0 [] := by
  unfold wp_X4_takeBack at hw
  refine j_aload_n 0 hC 0 (dg DX4_takeBack 0 rfl) rfl rfl ?_
  refine j_dup 1 hC (dg DX4_takeBack 1 rfl) rfl ?_
  refine j_getI 2 hC fX4_18 (k_22) (by decide) (by decide) rfl (dg DX4_takeBack 2 rfl) ?_
  refine j_iconst 5 hC (dg DX4_takeBack 3 rfl) (v := 1) (by decide) ?_
  refine j_isub 6 hC (dg DX4_takeBack 4 rfl) ?_
  refine j_putI 7 hC fX4_18 (k_22) (by decide) (by decide) rfl fp4_1 rfl (dg DX4_takeBack 5 rfl) ?_
  refine j_aload_n 10 hC 0 (dg DX4_takeBack 6 rfl) rfl rfl ?_
  refine j_dup 11 hC (dg DX4_takeBack 7 rfl) rfl ?_
  refine j_getI 12 hC fX4_26 (k_22) (by decide) (by decide) rfl (dg DX4_takeBack 8 rfl) ?_
  refine j_iconst 15 hC (dg DX4_takeBack 9 rfl) (v := 1) (by decide) ?_
  refine j_isub 16 hC (dg DX4_takeBack 10 rfl) ?_
  refine j_putI 17 hC fX4_26 (k_22) (by decide) (by decide) rfl fp4_2 rfl (dg DX4_takeBack 11 rfl) ?_
  refine j_sg (fun σ1 es => ?_)
  replace hw := hw _ es
  refine j_aload_n 20 hC 0 (dg DX4_takeBack 12 rfl) rfl rfl ?_
  refine j_getR 21 hC fX4_11 (k_22) (by decide) (by decide) rfl (dg DX4_takeBack 13 rfl) ?_
  refine j_aload_n 24 hC 0 (dg DX4_takeBack 14 rfl) rfl rfl ?_
  refine j_getI 25 hC fX4_18 (k_22) (by decide) (by decide) rfl (dg DX4_takeBack 15 rfl) ?_
  refine j_bipush 28 hC (dg DX4_takeBack 16 rfl) (v := 7) (by decide) ?_
  refine j_iand 30 hC (dg DX4_takeBack 17 rfl) ?_
  have hi2 := isW_past hw.1
  refine j_aald 31 hC (by decide) hw.1 (dg DX4_takeBack 18 rfl) ?_
  replace hw := hw.2
  refine j_astore_n 32 hC [(2, .ref (B + (24 + 7 * ((σ1 22 1) &&& 7).toNatClampNeg))), (0, .ref (B + 22)), (1, .ref (B + a))] (dg DX4_takeBack 19 rfl) rfl (by decide) rfl ?_
  refine j_aload_n 33 hC 0 (dg DX4_takeBack 20 rfl) rfl rfl ?_
  refine j_ifnull 34 hC (dg DX4_takeBack 21 rfl) ?_
  refine j_aload_n 37 hC 2 (dg DX4_takeBack 22 rfl) rfl rfl ?_
  refine j_aload_n 38 hC 0 (dg DX4_takeBack 23 rfl) rfl rfl ?_
  refine j_Vv (As := [.ref (B + (24 + 7 * ((σ1 22 1) &&& 7).toNatClampNeg))]) 39 hC (m_X8_copyFrom ha hi2 hw) kX4_22 (kW ha) (lW ha) ⟨_, _, rfl⟩ (rmN_ok (by decide) (by decide)) rfl rfl (Nat.le_of_ble_eq_true rfl) (dg DX4_takeBack 24 rfl) (fun σ3 hw => ?_)
  exact hR 42 _ _ (dg DX4_takeBack 25 rfl) hw
theorem m_X4_takeBack {B : Nat} {a : Nat} (ha : isW a) {σ : SS} {Q : SS → Prop} (hw : wp_X4_takeBack a σ  Q) : MV yX4_takeBack cX4_takeBack 3 2 45 B 95 RS [.ref (B + 22), .ref (B + a)] σ Q := MV.mk (plainFor_of_name (by decide)) (Nat.le_of_ble_eq_true rfl) (fun X hC hR => t_X4_takeBack hC ha hR hw)
-- FortressWatch$Past.forget
def wp_X4_forget  (σ : SS)  (Q : SS → Prop) : Prop :=
  Q (u2 σ 22 2 0)
set_option maxRecDepth 100000 in
set_option maxHeartbeats 4000000 in
theorem t_X4_forget {X : XT} {B : Nat} (hC : Cx X 1 cX4_forget RX4 (rmN 0 0)) {Q : SS → Prop} (hR : RtV X 1 B 95 RS cX4_forget Q) {σ : SS} (hw : wp_X4_forget  σ  Q) : J X 1 B 95 RS 0 0 σ [(0, .ref (B + 22))] 0 [] := by
  unfold wp_X4_forget at hw
  refine j_aload_n 0 hC 0 (dg DX4_forget 0 rfl) rfl rfl ?_
  refine j_iconst 1 hC (dg DX4_forget 1 rfl) (v := 0) (by decide) ?_
  refine j_putI 2 hC fX4_26 (k_22) (by decide) (by decide) rfl fp4_2 rfl (dg DX4_forget 2 rfl) ?_
  exact hR 5 _ _ (dg DX4_forget 3 rfl) hw
theorem m_X4_forget {B : Nat} {σ : SS} {Q : SS → Prop} (hw : wp_X4_forget  σ  Q) : MV yX4_forget cX4_forget 1 0 0 B 95 RS [.ref (B + 22)] σ Q := MV.mk (plainFor_of_name (by decide)) (Nat.le_of_ble_eq_true rfl) (fun X hC hR => t_X4_forget hC  hR hw)
-- FortressWatch$Refused.tell
def wp_X5_tell  (σ : SS) (p1 : Int32) (p2 : Int32) (p3 : Int32) (Q : SS → Prop) : Prop :=
  ∀ σ1 : SS, σ1 = u2 (u2 (u2 σ 94 0 p1) 94 1 p2) 94 2 p3 →
  Q σ1
set_option maxRecDepth 100000 in
set_option maxHeartbeats 4000000 in
theorem t_X5_tell {X : XT} {B : Nat} (hC : Cx X 4 cX5_tell RX5 (rmN 0 0)) {Q : SS → Prop} (hR : RtV X 4 B 95 RS cX5_tell Q) {σ : SS} {p1 : Int32} {p2 : Int32} {p3 : Int32} (hw : wp_X5_tell  σ p1 p2 p3 Q) : J X 4 B 95 RS 0 0 σ [(0, .ref (B + 94)), (1, .int p1), (2, .int p2), (3, .int p3)] 0 [] := by
  unfold wp_X5_tell at hw
  refine j_aload_n 0 hC 0 (dg DX5_tell 0 rfl) rfl rfl ?_
  refine j_iload_n 1 hC 1 (dg DX5_tell 1 rfl) rfl rfl ?_
  refine j_putI 2 hC fX5_9 (k_94) (by decide) (by decide) rfl fp5_0 rfl (dg DX5_tell 2 rfl) ?_
  refine j_aload_n 5 hC 0 (dg DX5_tell 3 rfl) rfl rfl ?_
  refine j_iload_n 6 hC 2 (dg DX5_tell 4 rfl) rfl rfl ?_
  refine j_putI 7 hC fX5_15 (k_94) (by decide) (by decide) rfl fp5_1 rfl (dg DX5_tell 5 rfl) ?_
  refine j_aload_n 10 hC 0 (dg DX5_tell 6 rfl) rfl rfl ?_
  refine j_iload_n 11 hC 3 (dg DX5_tell 7 rfl) rfl rfl ?_
  refine j_putI 12 hC fX5_18 (k_94) (by decide) (by decide) rfl fp5_2 rfl (dg DX5_tell 8 rfl) ?_
  refine j_sg (fun σ1 es => ?_)
  replace hw := hw _ es
  exact hR 15 _ _ (dg DX5_tell 9 rfl) hw
theorem m_X5_tell {B : Nat} {σ : SS} {p1 : Int32} {p2 : Int32} {p3 : Int32} {Q : SS → Prop} (hw : wp_X5_tell  σ p1 p2 p3 Q) : MV yX5_tell cX5_tell 4 0 0 B 95 RS [.ref (B + 94), .int p1, .int p2, .int p3] σ Q := MV.mk (plainFor_of_name (by decide)) (Nat.le_of_ble_eq_true rfl) (fun X hC hR => t_X5_tell hC  hR hw)
-- FortressWatch$Wall.isPost
def wp_X8_isPost (a : Nat) (σ : SS) (p1 : Int32) (Q : Int32 → SS → Prop) : Prop :=
  ((p1 < 0 →
      Q 0 σ) ∧
    (¬ p1 < 0 →
      ((9 ≤ p1 →
          Q 0 σ) ∧
        (¬ 9 ≤ p1 →
          vp_in p1 9 ∧
          (((σ (a + 1) p1.toNatClampNeg) = (-1) →
              Q 0 σ) ∧
            (¬ (σ (a + 1) p1.toNatClampNeg) = (-1) →
              Q 1 σ))))))
set_option maxRecDepth 100000 in
set_option maxHeartbeats 4000000 in
theorem t_X8_isPost {X : XT} {B : Nat} (hC : Cx X 2 cX8_isPost RX8 (rmN 0 0)) {a : Nat} (ha : isW a) {Q : Int32 → SS → Prop} (hR : RtZ X 2 B 95 RS cX8_isPost Q) {σ : SS} {p1 : Int32} (hw : wp_X8_isPost a σ p1 Q) : J X 2 B 95 RS 0 0 σ [(0, .ref (B + a)), (1, .int p1)] 0 [] := by
  unfold wp_X8_isPost at hw
  refine j_iload_n 0 hC 1 (dg DX8_isPost 0 rfl) rfl rfl ?_
  refine j_if_lt 1 24 hC (dg DX8_isPost 1 rfl) (by decide) (fun hbr => ?_) (fun hbr => ?_)
  · replace hw := hw.1 hbr
    refine j_iconst 24 hC (dg DX8_isPost 13 rfl) (v := 0) (by decide) ?_
    exact hR 25 _ _ _ (dg DX8_isPost 14 rfl) ⟨by decide, hw⟩
  · replace hw := hw.2 hbr
    refine j_iload_n 4 hC 1 (dg DX8_isPost 2 rfl) rfl rfl ?_
    refine j_bipush 5 hC (dg DX8_isPost 3 rfl) (v := 9) (by decide) ?_
    refine j_icmp_ge 7 24 hC (dg DX8_isPost 4 rfl) (by decide) (fun hbr => ?_) (fun hbr => ?_)
    · replace hw := hw.1 hbr
      refine j_iconst 24 hC (dg DX8_isPost 13 rfl) (v := 0) (by decide) ?_
      exact hR 25 _ _ _ (dg DX8_isPost 14 rfl) ⟨by decide, hw⟩
    · replace hw := hw.2 hbr
      refine j_aload_n 10 hC 0 (dg DX8_isPost 5 rfl) rfl rfl ?_
      refine j_getR 11 hC fX8_9 (kW ha) (lW ha) (by decide) rfl (dg DX8_isPost 6 rfl) ?_
      refine j_iload_n 14 hC 1 (dg DX8_isPost 7 rfl) rfl rfl ?_
      refine j_iald0 15 _ hC (kW1 ha) (lW1 ha) hw.1 rfl (dg DX8_isPost 8 rfl) ?_
      replace hw := hw.2
      refine j_iconst 16 hC (dg DX8_isPost 9 rfl) (v := (-1)) (by decide) ?_
      refine j_icmp_eq 17 24 hC (dg DX8_isPost 10 rfl) (by decide) (fun hbr => ?_) (fun hbr => ?_)
      · replace hw := hw.1 hbr
        refine j_iconst 24 hC (dg DX8_isPost 13 rfl) (v := 0) (by decide) ?_
        exact hR 25 _ _ _ (dg DX8_isPost 14 rfl) ⟨by decide, hw⟩
      · replace hw := hw.2 hbr
        refine j_iconst 20 hC (dg DX8_isPost 11 rfl) (v := 1) (by decide) ?_
        refine j_goto 21 25 hC (dg DX8_isPost 12 rfl) (by decide) ?_
        exact hR 25 _ _ _ (dg DX8_isPost 14 rfl) ⟨by decide, hw⟩
theorem m_X8_isPost {B : Nat} {a : Nat} (ha : isW a) {σ : SS} {p1 : Int32} {Q : Int32 → SS → Prop} (hw : wp_X8_isPost a σ p1 Q) : MI yX8_isPost cX8_isPost 2 (some .boolean) 0 0 B 95 RS [.ref (B + a), .int p1] σ Q := MI.mkZ (plainFor_of_name (by decide)) (Nat.le_of_ble_eq_true rfl) (fun X hC hR => t_X8_isPost hC ha hR hw)
-- FortressWatch$Wall.lostByLight
def wp_X8_lostByLight  (σ : SS) (p0 : Int32) (Q : Int32 → SS → Prop) : Prop :=
  ((6 ≤ p0 →
      ((8 ≤ p0 →
          ((10 ≤ p0 →
              Q 3 σ) ∧
            (¬ 10 ≤ p0 →
              Q 2 σ))) ∧
        (¬ 8 ≤ p0 →
          Q 1 σ))) ∧
    (¬ 6 ≤ p0 →
      Q 0 σ))
set_option maxRecDepth 100000 in
set_option maxHeartbeats 4000000 in
theorem t_X8_lostByLight {X : XT} {B : Nat} (hC : Cx X 1 cX8_lostByLight RX8 (rmN 0 0)) {Q : Int32 → SS → Prop} (hR : RtI X 1 B 95 RS cX8_lostByLight Q) {σ : SS} {p0 : Int32} (hw : wp_X8_lostByLight  σ p0 Q) : J X 1 B 95 RS 0 0 σ [(0, .int p0)] 0 [] := by
  unfold wp_X8_lostByLight at hw
  refine j_iload_n 0 hC 0 (dg DX8_lostByLight 0 rfl) rfl rfl ?_
  refine j_bipush 1 hC (dg DX8_lostByLight 1 rfl) (v := 6) (by decide) ?_
  refine j_icmp_ge 3 8 hC (dg DX8_lostByLight 2 rfl) (by decide) (fun hbr => ?_) (fun hbr => ?_)
  · replace hw := hw.1 hbr
    refine j_iload_n 8 hC 0 (dg DX8_lostByLight 5 rfl) rfl rfl ?_
    refine j_bipush 9 hC (dg DX8_lostByLight 6 rfl) (v := 8) (by decide) ?_
    refine j_icmp_ge 11 16 hC (dg DX8_lostByLight 7 rfl) (by decide) (fun hbr => ?_) (fun hbr => ?_)
    · replace hw := hw.1 hbr
      refine j_iload_n 16 hC 0 (dg DX8_lostByLight 10 rfl) rfl rfl ?_
      refine j_bipush 17 hC (dg DX8_lostByLight 11 rfl) (v := 10) (by decide) ?_
      refine j_icmp_ge 19 26 hC (dg DX8_lostByLight 12 rfl) (by decide) (fun hbr => ?_) (fun hbr => ?_)
      · replace hw := hw.1 hbr
        refine j_iconst 26 hC (dg DX8_lostByLight 15 rfl) (v := 3) (by decide) ?_
        exact hR 27 _ _ _ (dg DX8_lostByLight 16 rfl) hw
      · replace hw := hw.2 hbr
        refine j_iconst 22 hC (dg DX8_lostByLight 13 rfl) (v := 2) (by decide) ?_
        refine j_goto 23 27 hC (dg DX8_lostByLight 14 rfl) (by decide) ?_
        exact hR 27 _ _ _ (dg DX8_lostByLight 16 rfl) hw
    · replace hw := hw.2 hbr
      refine j_iconst 14 hC (dg DX8_lostByLight 8 rfl) (v := 1) (by decide) ?_
      exact hR 15 _ _ _ (dg DX8_lostByLight 9 rfl) hw
  · replace hw := hw.2 hbr
    refine j_iconst 6 hC (dg DX8_lostByLight 3 rfl) (v := 0) (by decide) ?_
    exact hR 7 _ _ _ (dg DX8_lostByLight 4 rfl) hw
theorem m_X8_lostByLight {B : Nat} {σ : SS} {p0 : Int32} {Q : Int32 → SS → Prop} (hw : wp_X8_lostByLight  σ p0 Q) : MI yX8_lostByLight cX8_lostByLight 1 (some .int) 0 0 B 95 RS [.int p0] σ Q := MI.mk (plainFor_of_name (by decide)) (Nat.le_of_ble_eq_true rfl) (fun X hC hR => t_X8_lostByLight hC  hR hw)
-- FortressWatch.stretch
def wp_X9_stretch  (σ : SS) (p0 : Int32) (p1 : Int32) (Q : Int32 → SS → Prop) : Prop :=
  Q (((((((1 : Int64) <<< (p1.toInt64 &&& 63)) - 1) <<< (p0.toInt64 &&& 63)) ||| ((((((1 : Int64) <<< (p1.toInt64 &&& 63)) - 1) <<< (p0.toInt64 &&& 63)).toUInt64 >>> ((24 : Int32).toInt64.toUInt64 &&& Int64.toUInt64 63)).toInt64)) &&& 16777215).toInt32) σ
set_option maxRecDepth 100000 in
set_option maxHeartbeats 4000000 in
theorem t_X9_stretch {X : XT} {B : Nat} (hC : Cx X 4 cX9_stretch RX9 (rmN 0 0)) {Q : Int32 → SS → Prop} (hR : RtI X 4 B 95 RS cX9_stretch Q) {σ : SS} {p0 : Int32} {p1 : Int32} (hw : wp_X9_stretch  σ p0 p1 Q) : J X 4 B 95 RS 0 0 σ [(0, .int p0), (1, .int p1)] 0 [] := by
  unfold wp_X9_stretch at hw
  refine j_lconst 0 hC (dg DX9_stretch 0 rfl) (v := 1) (by decide) ?_
  refine j_iload_n 1 hC 1 (dg DX9_stretch 1 rfl) rfl rfl ?_
  refine j_lshl 2 hC (dg DX9_stretch 2 rfl) ?_
  refine j_lconst 3 hC (dg DX9_stretch 3 rfl) (v := 1) (by decide) ?_
  refine j_lsub 4 hC (dg DX9_stretch 4 rfl) ?_
  refine j_iload_n 5 hC 0 (dg DX9_stretch 5 rfl) rfl rfl ?_
  refine j_lshl 6 hC (dg DX9_stretch 6 rfl) ?_
  refine j_lstore_n 7 hC [(2, .long ((((1 : Int64) <<< (p1.toInt64 &&& 63)) - 1) <<< (p0.toInt64 &&& 63))), (0, .int p0), (1, .int p1)] (dg DX9_stretch 7 rfl) rfl (by decide) rfl ?_
  refine j_lload_n 8 hC 0 (dg DX9_stretch 8 rfl) rfl rfl ?_
  refine j_lload_n 9 hC 0 (dg DX9_stretch 9 rfl) rfl rfl ?_
  refine j_bipush 10 hC (dg DX9_stretch 10 rfl) (v := 24) (by decide) ?_
  refine j_lushr 12 hC (dg DX9_stretch 11 rfl) ?_
  refine j_lor 13 hC (dg DX9_stretch 12 rfl) ?_
  refine j_ldc2 14 hC (dg DX9_stretch 13 rfl) w_161 ?_
  refine j_land 17 hC (dg DX9_stretch 14 rfl) ?_
  refine j_l2i 18 hC (dg DX9_stretch 15 rfl) ?_
  exact hR 19 _ _ _ (dg DX9_stretch 16 rfl) hw
theorem m_X9_stretch {B : Nat} {σ : SS} {p0 : Int32} {p1 : Int32} {Q : Int32 → SS → Prop} (hw : wp_X9_stretch  σ p0 p1 Q) : MI yX9_stretch cX9_stretch 4 (some .int) 0 0 B 95 RS [.int p0, .int p1] σ Q := MI.mk (plainFor_of_name (by decide)) (Nat.le_of_ble_eq_true rfl) (fun X hC hR => t_X9_stretch hC  hR hw)
-- FortressWatch$Wall.sightOf
def wp_X8_sightOf (a : Nat) (σ : SS) (p1 : Int32) (p2 : Int32) (Q : Int32 → SS → Prop) : Prop :=
  wp_X8_isPost a σ p1 (fun r2 σ1 =>
    ((r2 = 0 →
        Q 0 σ1) ∧
      (¬ r2 = 0 →
        wp_X8_lostByLight σ1 p2 (fun r4 σ3 =>
          vp_in p1 9 ∧
          ∀ x5 : Int32, x5 = (if 0 < ((σ3 (a + 2) p1.toNatClampNeg) - r4) then ((σ3 (a + 2) p1.toNatClampNeg) - r4) else 0) →
          vp_in p1 9 ∧
          ∀ x6 : Int32, x6 = (if 0 < ((σ3 (a + 3) p1.toNatClampNeg) - r4) then ((σ3 (a + 3) p1.toNatClampNeg) - r4) else 0) →
          vp_in p1 9 ∧
          ((0 ≤ ((σ3 (a + 1) p1.toNatClampNeg) - x5) →
              wp_X9_stretch σ3 ((σ3 (a + 1) p1.toNatClampNeg) - x5) ((x5 + 1) + x6) (fun r8 σ7 =>
                vp_in p1 9 ∧
                (((σ7 (a + 5) p1.toNatClampNeg) = 0 →
                    Q r8 σ7) ∧
                  (¬ (σ7 (a + 5) p1.toNatClampNeg) = 0 →
                    vp_in p1 9 ∧
                    vp_in p1 9 ∧
                    wp_X9_stretch σ7 (σ7 (a + 4) p1.toNatClampNeg) (σ7 (a + 5) p1.toNatClampNeg) (fun r10 σ9 =>
                      Q (r8 &&& (r10 ^^^ (-1))) σ9))))) ∧
            (¬ 0 ≤ ((σ3 (a + 1) p1.toNatClampNeg) - x5) →
              wp_X9_stretch σ3 (((σ3 (a + 1) p1.toNatClampNeg) - x5) + 24) ((x5 + 1) + x6) (fun r12 σ11 =>
                vp_in p1 9 ∧
                (((σ11 (a + 5) p1.toNatClampNeg) = 0 →
                    Q r12 σ11) ∧
                  (¬ (σ11 (a + 5) p1.toNatClampNeg) = 0 →
                    vp_in p1 9 ∧
                    vp_in p1 9 ∧
                    wp_X9_stretch σ11 (σ11 (a + 4) p1.toNatClampNeg) (σ11 (a + 5) p1.toNatClampNeg) (fun r14 σ13 =>
                      Q (r12 &&& (r14 ^^^ (-1))) σ13))))))))))
set_option maxRecDepth 100000 in
set_option maxHeartbeats 4000000 in
theorem t_X8_sightOf {X : XT} {B : Nat} (hC : Cx X 8 cX8_sightOf RX8 (rmN 1 40)) {a : Nat} (ha : isW a) {Q : Int32 → SS → Prop} (hR : RtI X 8 B 95 RS cX8_sightOf Q) {σ : SS} {p1 : Int32} {p2 : Int32} (hw : wp_X8_sightOf a σ p1 p2 Q) : J X 8 B 95 RS 0 0 σ [(0, .ref (B + a)), (1, .int p1), (2, .int p2)] 0 [] := by
  unfold wp_X8_sightOf at hw
  refine j_aload_n 0 hC 0 (dg DX8_sightOf 0 rfl) rfl rfl ?_
  refine j_iload_n 1 hC 1 (dg DX8_sightOf 1 rfl) rfl rfl ?_
  refine j_Vi (As := [.int p1]) 2 hC (m_X8_isPost ha hw) kX8_58 (kW ha) (lW ha) ⟨_, _, rfl⟩ (rmN_ok (by decide) (by decide)) rfl rfl (Nat.le_of_ble_eq_true rfl) (dg DX8_sightOf 2 rfl) (fun r2 σ1 hw => ?_)
  refine j_if_ne 5 10 hC (dg DX8_sightOf 3 rfl) (by decide) (fun hbr => ?_) (fun hbr => ?_)
  · replace hw := hw.2 hbr
    refine j_iload_n 10 hC 2 (dg DX8_sightOf 6 rfl) rfl rfl ?_
    refine j_Si (As := [.int p2]) 11 hC (m_X8_lostByLight  hw) kX8_62 (rmN_ok (by decide) (by decide)) rfl rfl (Nat.le_of_ble_eq_true rfl) (dg DX8_sightOf 7 rfl) (fun r4 σ3 hw => ?_)
    refine j_istore_n 14 hC [(3, .int r4), (0, .ref (B + a)), (1, .int p1), (2, .int p2)] (dg DX8_sightOf 8 rfl) rfl (by decide) rfl ?_
    refine j_iconst 15 hC (dg DX8_sightOf 9 rfl) (v := 0) (by decide) ?_
    refine j_aload_n 16 hC 1 (dg DX8_sightOf 10 rfl) rfl rfl ?_
    refine j_getR 17 hC fX8_15 (kW ha) (lW ha) (by decide) rfl (dg DX8_sightOf 11 rfl) ?_
    refine j_iload_n 20 hC 2 (dg DX8_sightOf 12 rfl) rfl rfl ?_
    refine j_iald0 21 _ hC (kW2 ha) (lW2 ha) hw.1 rfl (dg DX8_sightOf 13 rfl) ?_
    replace hw := hw.2
    refine j_iload_n 22 hC 0 (dg DX8_sightOf 14 rfl) rfl rfl ?_
    refine j_isub 23 hC (dg DX8_sightOf 15 rfl) ?_
    refine j_mmax 24 hC w_155 w_156 w_39 w_157 (by decide) (Nat.le_of_ble_eq_true rfl) (Nat.zero_le _) (Nat.zero_le _) (dg DX8_sightOf 16 rfl) ?_
    refine j_top (fun x5 ex => ?_)
    replace hw := hw _ ex
    refine j_istore 27 hC [(4, .int x5), (3, .int r4), (0, .ref (B + a)), (1, .int p1), (2, .int p2)] (dg DX8_sightOf 17 rfl) (by decide) rfl ?_
    refine j_iconst 29 hC (dg DX8_sightOf 18 rfl) (v := 0) (by decide) ?_
    refine j_aload_n 30 hC 2 (dg DX8_sightOf 19 rfl) rfl rfl ?_
    refine j_getR 31 hC fX8_18 (kW ha) (lW ha) (by decide) rfl (dg DX8_sightOf 20 rfl) ?_
    refine j_iload_n 34 hC 3 (dg DX8_sightOf 21 rfl) rfl rfl ?_
    refine j_iald0 35 _ hC (kW3 ha) (lW3 ha) hw.1 rfl (dg DX8_sightOf 22 rfl) ?_
    replace hw := hw.2
    refine j_iload_n 36 hC 1 (dg DX8_sightOf 23 rfl) rfl rfl ?_
    refine j_isub 37 hC (dg DX8_sightOf 24 rfl) ?_
    refine j_mmax 38 hC w_155 w_156 w_39 w_157 (by decide) (Nat.le_of_ble_eq_true rfl) (Nat.zero_le _) (Nat.zero_le _) (dg DX8_sightOf 25 rfl) ?_
    refine j_top (fun x6 ex => ?_)
    replace hw := hw _ ex
    refine j_istore 41 hC [(5, .int x6), (4, .int x5), (3, .int r4), (0, .ref (B + a)), (1, .int p1), (2, .int p2)] (dg DX8_sightOf 26 rfl) (by decide) rfl ?_
    refine j_aload_n 43 hC 3 (dg DX8_sightOf 27 rfl) rfl rfl ?_
    refine j_getR 44 hC fX8_9 (kW ha) (lW ha) (by decide) rfl (dg DX8_sightOf 28 rfl) ?_
    refine j_iload_n 47 hC 4 (dg DX8_sightOf 29 rfl) rfl rfl ?_
    refine j_iald0 48 _ hC (kW1 ha) (lW1 ha) hw.1 rfl (dg DX8_sightOf 30 rfl) ?_
    replace hw := hw.2
    refine j_iload 49 hC 1 (dg DX8_sightOf 31 rfl) rfl ?_
    refine j_isub 51 hC (dg DX8_sightOf 32 rfl) ?_
    refine j_istore 52 hC [(6, .int ((σ3 (a + 1) p1.toNatClampNeg) - x5)), (5, .int x6), (4, .int x5), (3, .int r4), (0, .ref (B + a)), (1, .int p1), (2, .int p2)] (dg DX8_sightOf 33 rfl) (by decide) rfl ?_
    refine j_iload 54 hC 0 (dg DX8_sightOf 34 rfl) rfl ?_
    refine j_if_ge 56 67 hC (dg DX8_sightOf 35 rfl) (by decide) (fun hbr => ?_) (fun hbr => ?_)
    · replace hw := hw.1 hbr
      refine j_iload 67 hC 0 (dg DX8_sightOf 40 rfl) rfl ?_
      refine j_iload 69 hC 2 (dg DX8_sightOf 41 rfl) rfl ?_
      refine j_iconst 71 hC (dg DX8_sightOf 42 rfl) (v := 1) (by decide) ?_
      refine j_iadd 72 hC (dg DX8_sightOf 43 rfl) ?_
      refine j_iload 73 hC 1 (dg DX8_sightOf 44 rfl) rfl ?_
      refine j_iadd 75 hC (dg DX8_sightOf 45 rfl) ?_
      refine j_SNi (As := [.int ((σ3 (a + 1) p1.toNatClampNeg) - x5), .int ((x5 + 1) + x6)]) 76 hC (m_X9_stretch  hw) kX8_71 (rmN_ok (by decide) (by decide)) rfl rfl (Nat.le_of_ble_eq_true rfl) (dg DX8_sightOf 46 rfl) (fun r8 σ7 hw => ?_)
      refine j_istore 79 hC [(7, .int r8), (6, .int ((σ3 (a + 1) p1.toNatClampNeg) - x5)), (5, .int x6), (4, .int x5), (3, .int r4), (0, .ref (B + a)), (1, .int p1), (2, .int p2)] (dg DX8_sightOf 47 rfl) (by decide) rfl ?_
      refine j_aload_n 81 hC 5 (dg DX8_sightOf 48 rfl) rfl rfl ?_
      refine j_getR 82 hC fX8_24 (kW ha) (lW ha) (by decide) rfl (dg DX8_sightOf 49 rfl) ?_
      refine j_iload_n 85 hC 6 (dg DX8_sightOf 50 rfl) rfl rfl ?_
      refine j_iald0 86 _ hC (kW5 ha) (lW5 ha) hw.1 rfl (dg DX8_sightOf 51 rfl) ?_
      replace hw := hw.2
      refine j_if_ne 87 95 hC (dg DX8_sightOf 52 rfl) (by decide) (fun hbr => ?_) (fun hbr => ?_)
      · replace hw := hw.2 hbr
        refine j_iload 95 hC 0 (dg DX8_sightOf 55 rfl) rfl ?_
        refine j_aload_n 97 hC 5 (dg DX8_sightOf 56 rfl) rfl rfl ?_
        refine j_getR 98 hC fX8_21 (kW ha) (lW ha) (by decide) rfl (dg DX8_sightOf 57 rfl) ?_
        refine j_iload_n 101 hC 6 (dg DX8_sightOf 58 rfl) rfl rfl ?_
        refine j_iald0 102 _ hC (kW4 ha) (lW4 ha) hw.1 rfl (dg DX8_sightOf 59 rfl) ?_
        replace hw := hw.2
        refine j_aload_n 103 hC 5 (dg DX8_sightOf 60 rfl) rfl rfl ?_
        refine j_getR 104 hC fX8_24 (kW ha) (lW ha) (by decide) rfl (dg DX8_sightOf 61 rfl) ?_
        refine j_iload_n 107 hC 6 (dg DX8_sightOf 62 rfl) rfl rfl ?_
        refine j_iald0 108 _ hC (kW5 ha) (lW5 ha) hw.1 rfl (dg DX8_sightOf 63 rfl) ?_
        replace hw := hw.2
        refine j_SNi (As := [.int (σ7 (a + 4) p1.toNatClampNeg), .int (σ7 (a + 5) p1.toNatClampNeg)]) 109 hC (m_X9_stretch  hw) kX8_71 (rmN_ok (by decide) (by decide)) rfl rfl (Nat.le_of_ble_eq_true rfl) (dg DX8_sightOf 64 rfl) (fun r10 σ9 hw => ?_)
        refine j_iconst 112 hC (dg DX8_sightOf 65 rfl) (v := (-1)) (by decide) ?_
        refine j_ixor 113 hC (dg DX8_sightOf 66 rfl) ?_
        refine j_iand 114 hC (dg DX8_sightOf 67 rfl) ?_
        exact hR 115 _ _ _ (dg DX8_sightOf 68 rfl) hw
      · replace hw := hw.1 hbr
        refine j_iload 90 hC 0 (dg DX8_sightOf 53 rfl) rfl ?_
        refine j_goto 92 115 hC (dg DX8_sightOf 54 rfl) (by decide) ?_
        exact hR 115 _ _ _ (dg DX8_sightOf 68 rfl) hw
    · replace hw := hw.2 hbr
      refine j_iload 59 hC 0 (dg DX8_sightOf 36 rfl) rfl ?_
      refine j_bipush 61 hC (dg DX8_sightOf 37 rfl) (v := 24) (by decide) ?_
      refine j_iadd 63 hC (dg DX8_sightOf 38 rfl) ?_
      refine j_goto 64 69 hC (dg DX8_sightOf 39 rfl) (by decide) ?_
      refine j_iload 69 hC 2 (dg DX8_sightOf 41 rfl) rfl ?_
      refine j_iconst 71 hC (dg DX8_sightOf 42 rfl) (v := 1) (by decide) ?_
      refine j_iadd 72 hC (dg DX8_sightOf 43 rfl) ?_
      refine j_iload 73 hC 1 (dg DX8_sightOf 44 rfl) rfl ?_
      refine j_iadd 75 hC (dg DX8_sightOf 45 rfl) ?_
      refine j_SNi (As := [.int (((σ3 (a + 1) p1.toNatClampNeg) - x5) + 24), .int ((x5 + 1) + x6)]) 76 hC (m_X9_stretch  hw) kX8_71 (rmN_ok (by decide) (by decide)) rfl rfl (Nat.le_of_ble_eq_true rfl) (dg DX8_sightOf 46 rfl) (fun r12 σ11 hw => ?_)
      refine j_istore 79 hC [(7, .int r12), (6, .int ((σ3 (a + 1) p1.toNatClampNeg) - x5)), (5, .int x6), (4, .int x5), (3, .int r4), (0, .ref (B + a)), (1, .int p1), (2, .int p2)] (dg DX8_sightOf 47 rfl) (by decide) rfl ?_
      refine j_aload_n 81 hC 5 (dg DX8_sightOf 48 rfl) rfl rfl ?_
      refine j_getR 82 hC fX8_24 (kW ha) (lW ha) (by decide) rfl (dg DX8_sightOf 49 rfl) ?_
      refine j_iload_n 85 hC 6 (dg DX8_sightOf 50 rfl) rfl rfl ?_
      refine j_iald0 86 _ hC (kW5 ha) (lW5 ha) hw.1 rfl (dg DX8_sightOf 51 rfl) ?_
      replace hw := hw.2
      refine j_if_ne 87 95 hC (dg DX8_sightOf 52 rfl) (by decide) (fun hbr => ?_) (fun hbr => ?_)
      · replace hw := hw.2 hbr
        refine j_iload 95 hC 0 (dg DX8_sightOf 55 rfl) rfl ?_
        refine j_aload_n 97 hC 5 (dg DX8_sightOf 56 rfl) rfl rfl ?_
        refine j_getR 98 hC fX8_21 (kW ha) (lW ha) (by decide) rfl (dg DX8_sightOf 57 rfl) ?_
        refine j_iload_n 101 hC 6 (dg DX8_sightOf 58 rfl) rfl rfl ?_
        refine j_iald0 102 _ hC (kW4 ha) (lW4 ha) hw.1 rfl (dg DX8_sightOf 59 rfl) ?_
        replace hw := hw.2
        refine j_aload_n 103 hC 5 (dg DX8_sightOf 60 rfl) rfl rfl ?_
        refine j_getR 104 hC fX8_24 (kW ha) (lW ha) (by decide) rfl (dg DX8_sightOf 61 rfl) ?_
        refine j_iload_n 107 hC 6 (dg DX8_sightOf 62 rfl) rfl rfl ?_
        refine j_iald0 108 _ hC (kW5 ha) (lW5 ha) hw.1 rfl (dg DX8_sightOf 63 rfl) ?_
        replace hw := hw.2
        refine j_SNi (As := [.int (σ11 (a + 4) p1.toNatClampNeg), .int (σ11 (a + 5) p1.toNatClampNeg)]) 109 hC (m_X9_stretch  hw) kX8_71 (rmN_ok (by decide) (by decide)) rfl rfl (Nat.le_of_ble_eq_true rfl) (dg DX8_sightOf 64 rfl) (fun r14 σ13 hw => ?_)
        refine j_iconst 112 hC (dg DX8_sightOf 65 rfl) (v := (-1)) (by decide) ?_
        refine j_ixor 113 hC (dg DX8_sightOf 66 rfl) ?_
        refine j_iand 114 hC (dg DX8_sightOf 67 rfl) ?_
        exact hR 115 _ _ _ (dg DX8_sightOf 68 rfl) hw
      · replace hw := hw.1 hbr
        refine j_iload 90 hC 0 (dg DX8_sightOf 53 rfl) rfl ?_
        refine j_goto 92 115 hC (dg DX8_sightOf 54 rfl) (by decide) ?_
        exact hR 115 _ _ _ (dg DX8_sightOf 68 rfl) hw
  · replace hw := hw.1 hbr
    refine j_iconst 8 hC (dg DX8_sightOf 4 rfl) (v := 0) (by decide) ?_
    exact hR 9 _ _ _ (dg DX8_sightOf 5 rfl) hw
theorem m_X8_sightOf {B : Nat} {a : Nat} (ha : isW a) {σ : SS} {p1 : Int32} {p2 : Int32} {Q : Int32 → SS → Prop} (hw : wp_X8_sightOf a σ p1 p2 Q) : MI yX8_sightOf cX8_sightOf 8 (some .int) 1 40 B 95 RS [.ref (B + a), .int p1, .int p2] σ Q := MI.mk (plainFor_of_name (by decide)) (Nat.le_of_ble_eq_true rfl) (fun X hC hR => t_X8_sightOf hC ha hR hw)
-- FortressWatch$Sights.lookAt
def bd_X6_lookAt_15 (a : Nat)   (Q : SS → Prop) (l2 : Int32) (rc : SS → Int32 → Prop) (σ : SS) (v3 : Int32) : Prop :=
  ((9 ≤ v3 →
      Q σ) ∧
    (¬ 9 ≤ v3 →
      wp_X8_sightOf a σ v3 l2 (fun r2 σ1 =>
        vp_in v3 9 ∧
        vp_in v3 9 ∧
        ∀ σ3 : SS, σ3 = u2 (u2 σ1 81 v3.toNatClampNeg r2) 80 2 (((u2 σ1 81 v3.toNatClampNeg r2) 80 2) ||| (((u2 σ1 81 v3.toNatClampNeg r2) (a + 6) v3.toNatClampNeg) <<< (v3 &&& 31))) →
        rc σ3 (v3 + 1))))
def wp_X6_lookAt (a : Nat) (σ : SS) (p2 : Int32) (Q : SS → Prop) : Prop :=
  ∃ k4, Li (bd_X6_lookAt_15 a Q p2) k4 (u2 (u2 σ 80 1 (σ a 6)) 80 2 0) 0
set_option maxRecDepth 100000 in
set_option maxHeartbeats 4000000 in
theorem tb_X6_lookAt_15 {X : XT} {B : Nat} (hC : Cx X 4 cX6_lookAt RX6 (rmN 2 67)) {a : Nat} {Q : SS → Prop} {l2 : Int32} (ha : isW a) (hR : RtV X 4 B 95 RS cX6_lookAt Q) {rc : SS → Int32 → Prop} (hrc : ∀ (σ : SS) (v3 : Int32), rc σ v3 → J X 4 B 95 RS 0 0 σ [(0, .ref (B + 80)), (1, .ref (B + a)), (2, .int l2), (3, .int v3)] 15 []) : ∀ (σ : SS) (v3 : Int32), bd_X6_lookAt_15 a Q l2 rc σ v3 → J X 4 B 95 RS 0 0 σ [(0, .ref (B + 80)), (1, .ref (B + a)), (2, .int l2), (3, .int v3)] 15 [] := by
  intro σ v3 hw
  unfold bd_X6_lookAt_15 at hw
  refine j_iload_n 15 hC 3 (dg DX6_lookAt 9 rfl) rfl rfl ?_
  refine j_bipush 16 hC (dg DX6_lookAt 10 rfl) (v := 9) (by decide) ?_
  refine j_icmp_ge 18 56 hC (dg DX6_lookAt 11 rfl) (by decide) (fun hbr => ?_) (fun hbr => ?_)
  · replace hw := hw.1 hbr
    exact hR 56 _ _ (dg DX6_lookAt 33 rfl) hw
  · replace hw := hw.2 hbr
    refine j_aload_n 21 hC 0 (dg DX6_lookAt 12 rfl) rfl rfl ?_
    refine j_getR 22 hC fX6_9 (k_80) (by decide) (by decide) rfl (dg DX6_lookAt 13 rfl) ?_
    refine j_iload_n 25 hC 3 (dg DX6_lookAt 14 rfl) rfl rfl ?_
    refine j_aload_n 26 hC 1 (dg DX6_lookAt 15 rfl) rfl rfl ?_
    refine j_iload_n 27 hC 3 (dg DX6_lookAt 16 rfl) rfl rfl ?_
    refine j_iload_n 28 hC 2 (dg DX6_lookAt 17 rfl) rfl rfl ?_
    refine j_Vi (As := [.int v3, .int l2]) 29 hC (m_X8_sightOf ha hw) kX6_25 (kW ha) (lW ha) ⟨_, _, rfl⟩ (rmN_ok (by decide) (by decide)) rfl rfl (Nat.le_of_ble_eq_true rfl) (dg DX6_lookAt 18 rfl) (fun r2 σ1 hw => ?_)
    refine j_iast0 32 _ hC (k_81) (by decide) hw.1 rfl (dg DX6_lookAt 19 rfl) ?_
    replace hw := hw.2
    refine j_aload_n 33 hC 0 (dg DX6_lookAt 20 rfl) rfl rfl ?_
    refine j_dup 34 hC (dg DX6_lookAt 21 rfl) rfl ?_
    refine j_getI 35 hC fX6_22 (k_80) (by decide) (by decide) rfl (dg DX6_lookAt 22 rfl) ?_
    refine j_aload_n 38 hC 1 (dg DX6_lookAt 23 rfl) rfl rfl ?_
    refine j_getR 39 hC fX6_29 (kW ha) (lW ha) (by decide) rfl (dg DX6_lookAt 24 rfl) ?_
    refine j_iload_n 42 hC 3 (dg DX6_lookAt 25 rfl) rfl rfl ?_
    refine j_iald0 43 _ hC (kW6 ha) (lW6 ha) hw.1 rfl (dg DX6_lookAt 26 rfl) ?_
    replace hw := hw.2
    refine j_iload_n 44 hC 3 (dg DX6_lookAt 27 rfl) rfl rfl ?_
    refine j_ishl 45 hC (dg DX6_lookAt 28 rfl) ?_
    refine j_ior 46 hC (dg DX6_lookAt 29 rfl) ?_
    refine j_putI 47 hC fX6_22 (k_80) (by decide) (by decide) rfl fp6_2 rfl (dg DX6_lookAt 30 rfl) ?_
    refine j_sg (fun σ3 es => ?_)
    replace hw := hw _ es
    refine j_iinc 50 hC 3 (v3 + 1) [(3, .int (v3 + 1)), (0, .ref (B + 80)), (1, .ref (B + a)), (2, .int l2)] (dg DX6_lookAt 31 rfl) rfl rfl (by decide) rfl ?_
    refine j_goto 53 15 hC (dg DX6_lookAt 32 rfl) (by decide) ?_
    refine j_lv [1, 2, 3, 0] (lv' := [(0, .ref (B + 80)), (1, .ref (B + a)), (2, .int l2), (3, .int (v3 + 1))]) rfl ?_
    exact hrc _ _ hw
set_option maxRecDepth 100000 in
set_option maxHeartbeats 4000000 in
theorem t_X6_lookAt {X : XT} {B : Nat} (hC : Cx X 4 cX6_lookAt RX6 (rmN 2 67)) {a : Nat} (ha : isW a) {Q : SS → Prop} (hR : RtV X 4 B 95 RS cX6_lookAt Q) {σ : SS} {p2 : Int32} (hw : wp_X6_lookAt a σ p2 Q) : J X 4 B 95 RS 0 0 σ [(0, .ref (B + 80)), (1, .ref (B + a)), (2, .int p2)] 0 [] := by
  unfold wp_X6_lookAt at hw
  refine j_aload_n 0 hC 0 (dg DX6_lookAt 0 rfl) rfl rfl ?_
  refine j_aload_n 1 hC 1 (dg DX6_lookAt 1 rfl) rfl rfl ?_
  refine j_getI 2 hC fX6_15 (kW ha) (lW ha) (by decide) rfl (dg DX6_lookAt 2 rfl) ?_
  refine j_putI 5 hC fX6_21 (k_80) (by decide) (by decide) rfl fp6_1 rfl (dg DX6_lookAt 3 rfl) ?_
  refine j_aload_n 8 hC 0 (dg DX6_lookAt 4 rfl) rfl rfl ?_
  refine j_iconst 9 hC (dg DX6_lookAt 5 rfl) (v := 0) (by decide) ?_
  refine j_putI 10 hC fX6_22 (k_80) (by decide) (by decide) rfl fp6_2 rfl (dg DX6_lookAt 6 rfl) ?_
  refine j_iconst 13 hC (dg DX6_lookAt 7 rfl) (v := 0) (by decide) ?_
  refine j_istore_n 14 hC [(3, .int 0), (0, .ref (B + 80)), (1, .ref (B + a)), (2, .int p2)] (dg DX6_lookAt 8 rfl) rfl (by decide) rfl ?_
  obtain ⟨k4, hw⟩ := hw
  refine j_lv [1, 2, 3, 0] (lv' := [(0, .ref (B + 80)), (1, .ref (B + a)), (2, .int p2), (3, .int 0)]) rfl ?_
  exact Li.snd (P := fun τ w3 => J X 4 B 95 RS 0 0 τ [(0, .ref (B + 80)), (1, .ref (B + a)), (2, .int p2), (3, .int w3)] 15 []) (fun rcc hrcc => tb_X6_lookAt_15 hC ha hR  hrcc) k4 _ _ hw
theorem m_X6_lookAt {B : Nat} {a : Nat} (ha : isW a) {σ : SS} {p2 : Int32} {Q : SS → Prop} (hw : wp_X6_lookAt a σ p2 Q) : MV yX6_lookAt cX6_lookAt 4 2 67 B 95 RS [.ref (B + 80), .ref (B + a), .int p2] σ Q := MV.mk (plainFor_of_name (by decide)) (Nat.le_of_ble_eq_true rfl) (fun X hC hR => t_X6_lookAt hC ha hR hw)
-- FortressWatch$Sights.manySeen
def wp_X6_manySeen  (σ : SS) (p1 : Int32) (Q : Int32 → SS → Prop) : Prop :=
  wp_X6_of σ p1 (fun r2 σ1 =>
    wp_J6_bitCount_0f7a4 σ1 r2 (fun r4 σ3 =>
      Q r4 σ3))
set_option maxRecDepth 100000 in
set_option maxHeartbeats 4000000 in
theorem t_X6_manySeen {X : XT} {B : Nat} (hC : Cx X 2 cX6_manySeen RX6 (rmN 1 21)) {Q : Int32 → SS → Prop} (hR : RtI X 2 B 95 RS cX6_manySeen Q) {σ : SS} {p1 : Int32} (hw : wp_X6_manySeen  σ p1 Q) : J X 2 B 95 RS 0 0 σ [(0, .ref (B + 80)), (1, .int p1)] 0 [] := by
  unfold wp_X6_manySeen at hw
  refine j_aload_n 0 hC 0 (dg DX6_manySeen 0 rfl) rfl rfl ?_
  refine j_iload_n 1 hC 1 (dg DX6_manySeen 1 rfl) rfl rfl ?_
  refine j_Vi (As := [.int p1]) 2 hC (m_X6_of  hw) kX6_31 (k_80) (by decide) ⟨_, _, rfl⟩ (rmN_ok (by decide) (by decide)) rfl rfl (Nat.le_of_ble_eq_true rfl) (dg DX6_manySeen 2 rfl) (fun r2 σ1 hw => ?_)
  refine j_Si (As := [.int r2]) 5 hC (m_J6_bitCount_0f7a4  hw) kX6_35 (rmN_ok (by decide) (by decide)) rfl rfl (Nat.le_of_ble_eq_true rfl) (dg DX6_manySeen 3 rfl) (fun r4 σ3 hw => ?_)
  exact hR 8 _ _ _ (dg DX6_manySeen 4 rfl) hw
theorem m_X6_manySeen {B : Nat} {σ : SS} {p1 : Int32} {Q : Int32 → SS → Prop} (hw : wp_X6_manySeen  σ p1 Q) : MI yX6_manySeen cX6_manySeen 2 (some .int) 1 21 B 95 RS [.ref (B + 80), .int p1] σ Q := MI.mk (plainFor_of_name (by decide)) (Nat.le_of_ble_eq_true rfl) (fun X hC hR => t_X6_manySeen hC  hR hw)
-- FortressWatch$Sights.seenBySet
def bd_X6_seenBySet_4    (Q : Int32 → SS → Prop) (l1 : Int32) (rc : SS → Int32 → Int32 → Prop) (σ : SS) (v2 : Int32) (v3 : Int32) : Prop :=
  ((9 ≤ v3 →
      Q v2 σ) ∧
    (¬ 9 ≤ v3 →
      wp_X9_isIn σ l1 v3 (fun r2 σ1 =>
        ((r2 = 0 →
            rc σ1 v2 (v3 + 1)) ∧
          (¬ r2 = 0 →
            vp_in v3 9 ∧
            rc σ1 (v2 ||| (σ1 81 v3.toNatClampNeg)) (v3 + 1))))))
def wp_X6_seenBySet  (σ : SS) (p1 : Int32) (Q : Int32 → SS → Prop) : Prop :=
  ∃ k3, Lii (bd_X6_seenBySet_4 Q p1) k3 σ 0 0
set_option maxRecDepth 100000 in
set_option maxHeartbeats 4000000 in
theorem tb_X6_seenBySet_4 {X : XT} {B : Nat} (hC : Cx X 4 cX6_seenBySet RX6 (rmN 1 21)) {Q : Int32 → SS → Prop} {l1 : Int32} (hR : RtI X 4 B 95 RS cX6_seenBySet Q) {rc : SS → Int32 → Int32 → Prop} (hrc : ∀ (σ : SS) (v2 : Int32) (v3 : Int32), rc σ v2 v3 → J X 4 B 95 RS 0 0 σ [(0, .ref (B + 80)), (1, .int l1), (2, .int v2), (3, .int v3)] 4 []) : ∀ (σ : SS) (v2 : Int32) (v3 : Int32), bd_X6_seenBySet_4 Q l1 rc σ v2 v3 → J X 4 B 95 RS 0 0 σ [(0, .ref (B + 80)), (1, .int l1), (2, .int v2), (3, .int v3)] 4 [] := by
  intro σ v2 v3 hw
  unfold bd_X6_seenBySet_4 at hw
  refine j_iload_n 4 hC 3 (dg DX6_seenBySet 4 rfl) rfl rfl ?_
  refine j_bipush 5 hC (dg DX6_seenBySet 5 rfl) (v := 9) (by decide) ?_
  refine j_icmp_ge 7 33 hC (dg DX6_seenBySet 6 rfl) (by decide) (fun hbr => ?_) (fun hbr => ?_)
  · replace hw := hw.1 hbr
    refine j_iload_n 33 hC 2 (dg DX6_seenBySet 20 rfl) rfl rfl ?_
    exact hR 34 _ _ _ (dg DX6_seenBySet 21 rfl) hw
  · replace hw := hw.2 hbr
    refine j_iload_n 10 hC 1 (dg DX6_seenBySet 7 rfl) rfl rfl ?_
    refine j_iload_n 11 hC 3 (dg DX6_seenBySet 8 rfl) rfl rfl ?_
    refine j_SNi (As := [.int l1, .int v3]) 12 hC (m_X9_isIn  hw) kX6_43 (rmN_ok (by decide) (by decide)) rfl rfl (Nat.le_of_ble_eq_true rfl) (dg DX6_seenBySet 9 rfl) (fun r2 σ1 hw => ?_)
    refine j_if_eq 15 27 hC (dg DX6_seenBySet 10 rfl) (by decide) (fun hbr => ?_) (fun hbr => ?_)
    · replace hw := hw.1 hbr
      refine j_iinc 27 hC 3 (v3 + 1) [(3, .int (v3 + 1)), (0, .ref (B + 80)), (1, .int l1), (2, .int v2)] (dg DX6_seenBySet 18 rfl) rfl rfl (by decide) rfl ?_
      refine j_goto 30 4 hC (dg DX6_seenBySet 19 rfl) (by decide) ?_
      refine j_lv [1, 2, 3, 0] (lv' := [(0, .ref (B + 80)), (1, .int l1), (2, .int v2), (3, .int (v3 + 1))]) rfl ?_
      exact hrc _ _ _ hw
    · replace hw := hw.2 hbr
      refine j_iload_n 18 hC 2 (dg DX6_seenBySet 11 rfl) rfl rfl ?_
      refine j_aload_n 19 hC 0 (dg DX6_seenBySet 12 rfl) rfl rfl ?_
      refine j_getR 20 hC fX6_9 (k_80) (by decide) (by decide) rfl (dg DX6_seenBySet 13 rfl) ?_
      refine j_iload_n 23 hC 3 (dg DX6_seenBySet 14 rfl) rfl rfl ?_
      refine j_iald0 24 _ hC (k_81) (by decide) hw.1 rfl (dg DX6_seenBySet 15 rfl) ?_
      replace hw := hw.2
      refine j_ior 25 hC (dg DX6_seenBySet 16 rfl) ?_
      refine j_istore_n 26 hC [(2, .int (v2 ||| (σ1 81 v3.toNatClampNeg))), (0, .ref (B + 80)), (1, .int l1), (3, .int v3)] (dg DX6_seenBySet 17 rfl) rfl (by decide) rfl ?_
      refine j_iinc 27 hC 3 (v3 + 1) [(3, .int (v3 + 1)), (2, .int (v2 ||| (σ1 81 v3.toNatClampNeg))), (0, .ref (B + 80)), (1, .int l1)] (dg DX6_seenBySet 18 rfl) rfl rfl (by decide) rfl ?_
      refine j_goto 30 4 hC (dg DX6_seenBySet 19 rfl) (by decide) ?_
      refine j_lv [2, 3, 1, 0] (lv' := [(0, .ref (B + 80)), (1, .int l1), (2, .int (v2 ||| (σ1 81 v3.toNatClampNeg))), (3, .int (v3 + 1))]) rfl ?_
      exact hrc _ _ _ hw
set_option maxRecDepth 100000 in
set_option maxHeartbeats 4000000 in
theorem t_X6_seenBySet {X : XT} {B : Nat} (hC : Cx X 4 cX6_seenBySet RX6 (rmN 1 21)) {Q : Int32 → SS → Prop} (hR : RtI X 4 B 95 RS cX6_seenBySet Q) {σ : SS} {p1 : Int32} (hw : wp_X6_seenBySet  σ p1 Q) : J X 4 B 95 RS 0 0 σ [(0, .ref (B + 80)), (1, .int p1)] 0 [] := by
  unfold wp_X6_seenBySet at hw
  refine j_iconst 0 hC (dg DX6_seenBySet 0 rfl) (v := 0) (by decide) ?_
  refine j_istore_n 1 hC [(2, .int 0), (0, .ref (B + 80)), (1, .int p1)] (dg DX6_seenBySet 1 rfl) rfl (by decide) rfl ?_
  refine j_iconst 2 hC (dg DX6_seenBySet 2 rfl) (v := 0) (by decide) ?_
  refine j_istore_n 3 hC [(3, .int 0), (2, .int 0), (0, .ref (B + 80)), (1, .int p1)] (dg DX6_seenBySet 3 rfl) rfl (by decide) rfl ?_
  obtain ⟨k3, hw⟩ := hw
  refine j_lv [2, 3, 1, 0] (lv' := [(0, .ref (B + 80)), (1, .int p1), (2, .int 0), (3, .int 0)]) rfl ?_
  exact Lii.snd (P := fun τ w2 w3 => J X 4 B 95 RS 0 0 τ [(0, .ref (B + 80)), (1, .int p1), (2, .int w2), (3, .int w3)] 4 []) (fun rcc hrcc => tb_X6_seenBySet_4 hC  hR  hrcc) k3 _ _ _ hw
theorem m_X6_seenBySet {B : Nat} {σ : SS} {p1 : Int32} {Q : Int32 → SS → Prop} (hw : wp_X6_seenBySet  σ p1 Q) : MI yX6_seenBySet cX6_seenBySet 4 (some .int) 1 21 B 95 RS [.ref (B + 80), .int p1] σ Q := MI.mk (plainFor_of_name (by decide)) (Nat.le_of_ble_eq_true rfl) (fun X hC hR => t_X6_seenBySet hC  hR hw)
-- FortressWatch$Sights.manySeenAlone
def wp_X6_manySeenAlone  (σ : SS) (p1 : Int32) (Q : Int32 → SS → Prop) : Prop :=
  wp_X6_of σ p1 (fun r2 σ1 =>
    wp_X6_seenBySet σ1 (511 &&& (((1 : Int32) <<< (p1 &&& 31)) ^^^ (-1))) (fun r4 σ3 =>
      wp_J6_bitCount_0f7a4 σ3 (r2 &&& (r4 ^^^ (-1))) (fun r6 σ5 =>
        Q r6 σ5)))
set_option maxRecDepth 100000 in
set_option maxHeartbeats 4000000 in
theorem t_X6_manySeenAlone {X : XT} {B : Nat} (hC : Cx X 2 cX6_manySeenAlone RX6 (rmN 2 44)) {Q : Int32 → SS → Prop} (hR : RtI X 2 B 95 RS cX6_manySeenAlone Q) {σ : SS} {p1 : Int32} (hw : wp_X6_manySeenAlone  σ p1 Q) : J X 2 B 95 RS 0 0 σ [(0, .ref (B + 80)), (1, .int p1)] 0 [] := by
  unfold wp_X6_manySeenAlone at hw
  refine j_aload_n 0 hC 0 (dg DX6_manySeenAlone 0 rfl) rfl rfl ?_
  refine j_iload_n 1 hC 1 (dg DX6_manySeenAlone 1 rfl) rfl rfl ?_
  refine j_Vi (As := [.int p1]) 2 hC (m_X6_of  hw) kX6_31 (k_80) (by decide) ⟨_, _, rfl⟩ (rmN_ok (by decide) (by decide)) rfl rfl (Nat.le_of_ble_eq_true rfl) (dg DX6_manySeenAlone 2 rfl) (fun r2 σ1 hw => ?_)
  refine j_aload_n 5 hC 0 (dg DX6_manySeenAlone 3 rfl) rfl rfl ?_
  refine j_sipush 6 hC (dg DX6_manySeenAlone 4 rfl) (v := 511) (by decide) ?_
  refine j_iconst 9 hC (dg DX6_manySeenAlone 5 rfl) (v := 1) (by decide) ?_
  refine j_iload_n 10 hC 1 (dg DX6_manySeenAlone 6 rfl) rfl rfl ?_
  refine j_ishl 11 hC (dg DX6_manySeenAlone 7 rfl) ?_
  refine j_iconst 12 hC (dg DX6_manySeenAlone 8 rfl) (v := (-1)) (by decide) ?_
  refine j_ixor 13 hC (dg DX6_manySeenAlone 9 rfl) ?_
  refine j_iand 14 hC (dg DX6_manySeenAlone 10 rfl) ?_
  refine j_Vi (As := [.int (511 &&& (((1 : Int32) <<< (p1 &&& 31)) ^^^ (-1)))]) 15 hC (m_X6_seenBySet  hw) kX6_40 (k_80) (by decide) ⟨_, _, rfl⟩ (rmN_ok (by decide) (by decide)) rfl rfl (Nat.le_of_ble_eq_true rfl) (dg DX6_manySeenAlone 11 rfl) (fun r4 σ3 hw => ?_)
  refine j_iconst 18 hC (dg DX6_manySeenAlone 12 rfl) (v := (-1)) (by decide) ?_
  refine j_ixor 19 hC (dg DX6_manySeenAlone 13 rfl) ?_
  refine j_iand 20 hC (dg DX6_manySeenAlone 14 rfl) ?_
  refine j_Si (As := [.int (r2 &&& (r4 ^^^ (-1)))]) 21 hC (m_J6_bitCount_0f7a4  hw) kX6_35 (rmN_ok (by decide) (by decide)) rfl rfl (Nat.le_of_ble_eq_true rfl) (dg DX6_manySeenAlone 15 rfl) (fun r6 σ5 hw => ?_)
  exact hR 24 _ _ _ (dg DX6_manySeenAlone 16 rfl) hw
theorem m_X6_manySeenAlone {B : Nat} {σ : SS} {p1 : Int32} {Q : Int32 → SS → Prop} (hw : wp_X6_manySeenAlone  σ p1 Q) : MI yX6_manySeenAlone cX6_manySeenAlone 2 (some .int) 2 44 B 95 RS [.ref (B + 80), .int p1] σ Q := MI.mk (plainFor_of_name (by decide)) (Nat.le_of_ble_eq_true rfl) (fun X hC hR => t_X6_manySeenAlone hC  hR hw)
-- FortressWatch$Sights.overlaps
def bd_X6_overlaps_6    (Q : Int32 → SS → Prop)  (rc : SS → Int32 → Int32 → Int32 → Prop) (σ : SS) (v1 : Int32) (v2 : Int32) (v3 : Int32) : Prop :=
  ((9 ≤ v3 →
      wp_J6_bitCount_0f7a4 σ v2 (fun r2 σ1 =>
        Q r2 σ1)) ∧
    (¬ 9 ≤ v3 →
      wp_X9_isIn σ (σ 80 2) v3 (fun r4 σ3 =>
        ((r4 = 0 →
            rc σ3 v1 v2 (v3 + 1)) ∧
          (¬ r4 = 0 →
            vp_in v3 9 ∧
            vp_in v3 9 ∧
            rc σ3 (v1 ||| (σ3 81 v3.toNatClampNeg)) (v2 ||| (v1 &&& (σ3 81 v3.toNatClampNeg))) (v3 + 1))))))
def wp_X6_overlaps  (σ : SS)  (Q : Int32 → SS → Prop) : Prop :=
  ∃ k5, Liii (bd_X6_overlaps_6 Q) k5 σ 0 0 0
set_option maxRecDepth 100000 in
set_option maxHeartbeats 4000000 in
theorem tb_X6_overlaps_6 {X : XT} {B : Nat} (hC : Cx X 4 cX6_overlaps RX6 (rmN 1 21)) {Q : Int32 → SS → Prop} (hR : RtI X 4 B 95 RS cX6_overlaps Q) {rc : SS → Int32 → Int32 → Int32 → Prop} (hrc : ∀ (σ : SS) (v1 : Int32) (v2 : Int32) (v3 : Int32), rc σ v1 v2 v3 → J X 4 B 95 RS 0 0 σ [(0, .ref (B + 80)), (1, .int v1), (2, .int v2), (3, .int v3)] 6 []) : ∀ (σ : SS) (v1 : Int32) (v2 : Int32) (v3 : Int32), bd_X6_overlaps_6 Q rc σ v1 v2 v3 → J X 4 B 95 RS 0 0 σ [(0, .ref (B + 80)), (1, .int v1), (2, .int v2), (3, .int v3)] 6 [] := by
  intro σ v1 v2 v3 hw
  unfold bd_X6_overlaps_6 at hw
  refine j_iload_n 6 hC 3 (dg DX6_overlaps 6 rfl) rfl rfl ?_
  refine j_bipush 7 hC (dg DX6_overlaps 7 rfl) (v := 9) (by decide) ?_
  refine j_icmp_ge 9 49 hC (dg DX6_overlaps 8 rfl) (by decide) (fun hbr => ?_) (fun hbr => ?_)
  · replace hw := hw.1 hbr
    refine j_iload_n 49 hC 2 (dg DX6_overlaps 32 rfl) rfl rfl ?_
    refine j_Si (As := [.int v2]) 50 hC (m_J6_bitCount_0f7a4  hw) kX6_35 (rmN_ok (by decide) (by decide)) rfl rfl (Nat.le_of_ble_eq_true rfl) (dg DX6_overlaps 33 rfl) (fun r2 σ1 hw => ?_)
    exact hR 53 _ _ _ (dg DX6_overlaps 34 rfl) hw
  · replace hw := hw.2 hbr
    refine j_aload_n 12 hC 0 (dg DX6_overlaps 9 rfl) rfl rfl ?_
    refine j_getI 13 hC fX6_22 (k_80) (by decide) (by decide) rfl (dg DX6_overlaps 10 rfl) ?_
    refine j_iload_n 16 hC 3 (dg DX6_overlaps 11 rfl) rfl rfl ?_
    refine j_SNi (As := [.int (σ 80 2), .int v3]) 17 hC (m_X9_isIn  hw) kX6_43 (rmN_ok (by decide) (by decide)) rfl rfl (Nat.le_of_ble_eq_true rfl) (dg DX6_overlaps 12 rfl) (fun r4 σ3 hw => ?_)
    refine j_if_eq 20 43 hC (dg DX6_overlaps 13 rfl) (by decide) (fun hbr => ?_) (fun hbr => ?_)
    · replace hw := hw.1 hbr
      refine j_iinc 43 hC 3 (v3 + 1) [(3, .int (v3 + 1)), (0, .ref (B + 80)), (1, .int v1), (2, .int v2)] (dg DX6_overlaps 30 rfl) rfl rfl (by decide) rfl ?_
      refine j_goto 46 6 hC (dg DX6_overlaps 31 rfl) (by decide) ?_
      refine j_lv [1, 2, 3, 0] (lv' := [(0, .ref (B + 80)), (1, .int v1), (2, .int v2), (3, .int (v3 + 1))]) rfl ?_
      exact hrc _ _ _ _ hw
    · replace hw := hw.2 hbr
      refine j_iload_n 23 hC 2 (dg DX6_overlaps 14 rfl) rfl rfl ?_
      refine j_iload_n 24 hC 1 (dg DX6_overlaps 15 rfl) rfl rfl ?_
      refine j_aload_n 25 hC 0 (dg DX6_overlaps 16 rfl) rfl rfl ?_
      refine j_getR 26 hC fX6_9 (k_80) (by decide) (by decide) rfl (dg DX6_overlaps 17 rfl) ?_
      refine j_iload_n 29 hC 3 (dg DX6_overlaps 18 rfl) rfl rfl ?_
      refine j_iald0 30 _ hC (k_81) (by decide) hw.1 rfl (dg DX6_overlaps 19 rfl) ?_
      replace hw := hw.2
      refine j_iand 31 hC (dg DX6_overlaps 20 rfl) ?_
      refine j_ior 32 hC (dg DX6_overlaps 21 rfl) ?_
      refine j_istore_n 33 hC [(2, .int (v2 ||| (v1 &&& (σ3 81 v3.toNatClampNeg)))), (0, .ref (B + 80)), (1, .int v1), (3, .int v3)] (dg DX6_overlaps 22 rfl) rfl (by decide) rfl ?_
      refine j_iload_n 34 hC 2 (dg DX6_overlaps 23 rfl) rfl rfl ?_
      refine j_aload_n 35 hC 1 (dg DX6_overlaps 24 rfl) rfl rfl ?_
      refine j_getR 36 hC fX6_9 (k_80) (by decide) (by decide) rfl (dg DX6_overlaps 25 rfl) ?_
      refine j_iload_n 39 hC 3 (dg DX6_overlaps 26 rfl) rfl rfl ?_
      refine j_iald0 40 _ hC (k_81) (by decide) hw.1 rfl (dg DX6_overlaps 27 rfl) ?_
      replace hw := hw.2
      refine j_ior 41 hC (dg DX6_overlaps 28 rfl) ?_
      refine j_istore_n 42 hC [(1, .int (v1 ||| (σ3 81 v3.toNatClampNeg))), (2, .int (v2 ||| (v1 &&& (σ3 81 v3.toNatClampNeg)))), (0, .ref (B + 80)), (3, .int v3)] (dg DX6_overlaps 29 rfl) rfl (by decide) rfl ?_
      refine j_iinc 43 hC 3 (v3 + 1) [(3, .int (v3 + 1)), (1, .int (v1 ||| (σ3 81 v3.toNatClampNeg))), (2, .int (v2 ||| (v1 &&& (σ3 81 v3.toNatClampNeg)))), (0, .ref (B + 80))] (dg DX6_overlaps 30 rfl) rfl rfl (by decide) rfl ?_
      refine j_goto 46 6 hC (dg DX6_overlaps 31 rfl) (by decide) ?_
      refine j_lv [3, 1, 2, 0] (lv' := [(0, .ref (B + 80)), (1, .int (v1 ||| (σ3 81 v3.toNatClampNeg))), (2, .int (v2 ||| (v1 &&& (σ3 81 v3.toNatClampNeg)))), (3, .int (v3 + 1))]) rfl ?_
      exact hrc _ _ _ _ hw
set_option maxRecDepth 100000 in
set_option maxHeartbeats 4000000 in
theorem t_X6_overlaps {X : XT} {B : Nat} (hC : Cx X 4 cX6_overlaps RX6 (rmN 1 21)) {Q : Int32 → SS → Prop} (hR : RtI X 4 B 95 RS cX6_overlaps Q) {σ : SS} (hw : wp_X6_overlaps  σ  Q) : J X 4 B 95 RS 0 0 σ [(0, .ref (B + 80))] 0 [] := by
  unfold wp_X6_overlaps at hw
  refine j_iconst 0 hC (dg DX6_overlaps 0 rfl) (v := 0) (by decide) ?_
  refine j_istore_n 1 hC [(1, .int 0), (0, .ref (B + 80))] (dg DX6_overlaps 1 rfl) rfl (by decide) rfl ?_
  refine j_iconst 2 hC (dg DX6_overlaps 2 rfl) (v := 0) (by decide) ?_
  refine j_istore_n 3 hC [(2, .int 0), (1, .int 0), (0, .ref (B + 80))] (dg DX6_overlaps 3 rfl) rfl (by decide) rfl ?_
  refine j_iconst 4 hC (dg DX6_overlaps 4 rfl) (v := 0) (by decide) ?_
  refine j_istore_n 5 hC [(3, .int 0), (2, .int 0), (1, .int 0), (0, .ref (B + 80))] (dg DX6_overlaps 5 rfl) rfl (by decide) rfl ?_
  obtain ⟨k5, hw⟩ := hw
  refine j_lv [3, 2, 1, 0] (lv' := [(0, .ref (B + 80)), (1, .int 0), (2, .int 0), (3, .int 0)]) rfl ?_
  exact Liii.snd (P := fun τ w1 w2 w3 => J X 4 B 95 RS 0 0 τ [(0, .ref (B + 80)), (1, .int w1), (2, .int w2), (3, .int w3)] 6 []) (fun rcc hrcc => tb_X6_overlaps_6 hC  hR  hrcc) k5 _ _ _ _ hw
theorem m_X6_overlaps {B : Nat} {σ : SS} {Q : Int32 → SS → Prop} (hw : wp_X6_overlaps  σ  Q) : MI yX6_overlaps cX6_overlaps 4 (some .int) 1 21 B 95 RS [.ref (B + 80)] σ Q := MI.mk (plainFor_of_name (by decide)) (Nat.le_of_ble_eq_true rfl) (fun X hC hR => t_X6_overlaps hC  hR hw)
