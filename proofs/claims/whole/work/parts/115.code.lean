-- FortressWatchModel.show
def bd_X10_show_7    (Q : Int32 → SS → Prop)  (rc : SS → Int32 → Prop) (σ : SS) (v1 : Int32) : Prop :=
  ((24 ≤ v1 →
      Q (σ 95 10) σ) ∧
    (¬ 24 ≤ v1 →
      wp_X10_watchers σ v1 (fun r2 σ1 =>
        ((r2 = 0 →
            wp_X10_puts σ1 46 (fun σ5 =>
              rc σ5 (v1 + 1))) ∧
          (¬ r2 = 0 →
            ((r2 ≤ 9 →
                wp_X10_puts σ1 (48 + r2) (fun σ3 =>
                  rc σ3 (v1 + 1))) ∧
              (¬ r2 ≤ 9 →
                wp_X10_puts σ1 43 (fun σ4 =>
                  rc σ4 (v1 + 1)))))))))
def wp_X10_show  (σ : SS)  (Q : Int32 → SS → Prop) : Prop :=
  ∃ k6, Li (bd_X10_show_7 Q) k6 (u2 σ 95 10 0) 0
set_option maxRecDepth 100000 in
set_option maxHeartbeats 4000000 in
theorem tb_X10_show_7 {X : XT} {B : Nat} (hC : Cx X 3 cX10_show RX10 (rmN 4 92)) {Q : Int32 → SS → Prop} (hR : RtI X 3 B 103 RS cX10_show Q) {rc : SS → Int32 → Prop} (hrc : ∀ (σ : SS) (v1 : Int32), rc σ v1 → J X 3 B 103 RS 0 0 σ [(0, .ref (B + 95)), (1, .int v1)] 7 []) : ∀ (σ : SS) (v1 : Int32), bd_X10_show_7 Q rc σ v1 → J X 3 B 103 RS 0 0 σ [(0, .ref (B + 95)), (1, .int v1)] 7 [] := by
  intro σ v1 hw
  unfold bd_X10_show_7 at hw
  refine j_iload_n 7 hC 1 (dg DX10_show 5 rfl) rfl rfl ?_
  refine j_bipush 8 hC (dg DX10_show 6 rfl) (v := 24) (by decide) ?_
  refine j_icmp_ge 10 53 hC (dg DX10_show 7 rfl) (by decide) (fun hbr => ?_) (fun hbr => ?_)
  · replace hw := hw.1 hbr
    refine j_aload_n 53 hC 0 (dg DX10_show 28 rfl) rfl rfl ?_
    refine j_getI 54 hC fX10_187 (k_95) (by decide) (by decide) rfl (dg DX10_show 29 rfl) ?_
    exact hR 57 _ _ _ (dg DX10_show 30 rfl) hw
  · replace hw := hw.2 hbr
    refine j_aload_n 13 hC 0 (dg DX10_show 8 rfl) rfl rfl ?_
    refine j_iload_n 14 hC 1 (dg DX10_show 9 rfl) rfl rfl ?_
    refine j_Vi (As := [.int v1]) 15 hC (m_X10_watchers  hw) kX10_166 (k_95) (by decide) ⟨_, _, rfl⟩ (rmN_ok (by decide) (by decide)) rfl rfl (Nat.le_of_ble_eq_true rfl) (dg DX10_show 10 rfl) (fun r2 σ1 hw => ?_)
    refine j_istore_n 18 hC [(2, .int r2), (0, .ref (B + 95)), (1, .int v1)] (dg DX10_show 11 rfl) rfl (by decide) rfl ?_
    refine j_aload_n 19 hC 1 (dg DX10_show 12 rfl) rfl rfl ?_
    refine j_iload_n 20 hC 0 (dg DX10_show 13 rfl) rfl rfl ?_
    refine j_if_ne 21 29 hC (dg DX10_show 14 rfl) (by decide) (fun hbr => ?_) (fun hbr => ?_)
    · replace hw := hw.2 hbr
      refine j_iload_n 29 hC 0 (dg DX10_show 17 rfl) rfl rfl ?_
      refine j_bipush 30 hC (dg DX10_show 18 rfl) (v := 9) (by decide) ?_
      refine j_icmp_le 32 40 hC (dg DX10_show 19 rfl) (by decide) (fun hbr => ?_) (fun hbr => ?_)
      · replace hw := hw.1 hbr
        refine j_bipush 40 hC (dg DX10_show 22 rfl) (v := 48) (by decide) ?_
        refine j_iload_n 42 hC 0 (dg DX10_show 23 rfl) rfl rfl ?_
        refine j_iadd 43 hC (dg DX10_show 24 rfl) ?_
        refine j_Vv (As := [.int (48 + r2)]) 44 hC (m_X10_puts  hw) kX10_194 (k_95) (by decide) ⟨_, _, rfl⟩ (rmN_ok (by decide) (by decide)) rfl rfl (Nat.le_of_ble_eq_true rfl) (dg DX10_show 25 rfl) (fun σ3 hw => ?_)
        refine j_iinc 47 hC 2 (v1 + 1) [(1, .int (v1 + 1)), (2, .int r2), (0, .ref (B + 95))] (dg DX10_show 26 rfl) rfl rfl (by decide) rfl ?_
        refine j_goto 50 7 hC (dg DX10_show 27 rfl) (by decide) ?_
        refine j_lv [2, 0] (lv' := [(0, .ref (B + 95)), (1, .int (v1 + 1))]) rfl ?_
        exact hrc _ _ hw
      · replace hw := hw.2 hbr
        refine j_bipush 35 hC (dg DX10_show 20 rfl) (v := 43) (by decide) ?_
        refine j_goto 37 44 hC (dg DX10_show 21 rfl) (by decide) ?_
        refine j_Vv (As := [.int 43]) 44 hC (m_X10_puts  hw) kX10_194 (k_95) (by decide) ⟨_, _, rfl⟩ (rmN_ok (by decide) (by decide)) rfl rfl (Nat.le_of_ble_eq_true rfl) (dg DX10_show 25 rfl) (fun σ4 hw => ?_)
        refine j_iinc 47 hC 2 (v1 + 1) [(1, .int (v1 + 1)), (2, .int r2), (0, .ref (B + 95))] (dg DX10_show 26 rfl) rfl rfl (by decide) rfl ?_
        refine j_goto 50 7 hC (dg DX10_show 27 rfl) (by decide) ?_
        refine j_lv [2, 0] (lv' := [(0, .ref (B + 95)), (1, .int (v1 + 1))]) rfl ?_
        exact hrc _ _ hw
    · replace hw := hw.1 hbr
      refine j_bipush 24 hC (dg DX10_show 15 rfl) (v := 46) (by decide) ?_
      refine j_goto 26 44 hC (dg DX10_show 16 rfl) (by decide) ?_
      refine j_Vv (As := [.int 46]) 44 hC (m_X10_puts  hw) kX10_194 (k_95) (by decide) ⟨_, _, rfl⟩ (rmN_ok (by decide) (by decide)) rfl rfl (Nat.le_of_ble_eq_true rfl) (dg DX10_show 25 rfl) (fun σ5 hw => ?_)
      refine j_iinc 47 hC 2 (v1 + 1) [(1, .int (v1 + 1)), (2, .int r2), (0, .ref (B + 95))] (dg DX10_show 26 rfl) rfl rfl (by decide) rfl ?_
      refine j_goto 50 7 hC (dg DX10_show 27 rfl) (by decide) ?_
      refine j_lv [2, 0] (lv' := [(0, .ref (B + 95)), (1, .int (v1 + 1))]) rfl ?_
      exact hrc _ _ hw
set_option maxRecDepth 100000 in
set_option maxHeartbeats 4000000 in
theorem t_X10_show {X : XT} {B : Nat} (hC : Cx X 3 cX10_show RX10 (rmN 4 92)) {Q : Int32 → SS → Prop} (hR : RtI X 3 B 103 RS cX10_show Q) {σ : SS} (hw : wp_X10_show  σ  Q) : J X 3 B 103 RS 0 0 σ [(0, .ref (B + 95))] 0 [] := by
  unfold wp_X10_show at hw
  refine j_aload_n 0 hC 0 (dg DX10_show 0 rfl) rfl rfl ?_
  refine j_iconst 1 hC (dg DX10_show 1 rfl) (v := 0) (by decide) ?_
  refine j_putI 2 hC fX10_187 (k_95) (by decide) (by decide) rfl fp10_10 rfl (dg DX10_show 2 rfl) ?_
  refine j_iconst 5 hC (dg DX10_show 3 rfl) (v := 0) (by decide) ?_
  refine j_istore_n 6 hC [(1, .int 0), (0, .ref (B + 95))] (dg DX10_show 4 rfl) rfl (by decide) rfl ?_
  obtain ⟨k6, hw⟩ := hw
  refine j_lv [1, 0] (lv' := [(0, .ref (B + 95)), (1, .int 0)]) rfl ?_
  exact Li.snd (P := fun τ w1 => J X 3 B 103 RS 0 0 τ [(0, .ref (B + 95)), (1, .int w1)] 7 []) (fun rcc hrcc => tb_X10_show_7 hC  hR  hrcc) k6 _ _ hw
theorem m_X10_show {B : Nat} {σ : SS} {Q : Int32 → SS → Prop} (hw : wp_X10_show  σ  Q) : MI yX10_show cX10_show 3 (some .int) 4 92 B 103 RS [.ref (B + 95)] σ Q := MI.mk (plainFor_of_name (by decide)) (Nat.le_of_ble_eq_true rfl) (fun X hC hR => t_X10_show hC  hR hw)
-- FortressWatchModel.sign
def wp_X10_sign  (σ : SS) (p1 : Int32) (Q : Int32 → SS → Prop) : Prop :=
  wp_X10_isIn σ p1 0 ((σ 95 10) - 1) (fun r2 σ1 =>
    ((r2 = 0 →
        Q (-1) σ1) ∧
      (¬ r2 = 0 →
        vp_in p1 24 ∧
        Q (σ1 100 p1.toNatClampNeg) σ1)))
set_option maxRecDepth 100000 in
set_option maxHeartbeats 4000000 in
theorem t_X10_sign {X : XT} {B : Nat} (hC : Cx X 2 cX10_sign RX10 (rmN 1 22)) {Q : Int32 → SS → Prop} (hR : RtI X 2 B 103 RS cX10_sign Q) {σ : SS} {p1 : Int32} (hw : wp_X10_sign  σ p1 Q) : J X 2 B 103 RS 0 0 σ [(0, .ref (B + 95)), (1, .int p1)] 0 [] := by
  unfold wp_X10_sign at hw
  refine j_iload_n 0 hC 1 (dg DX10_sign 0 rfl) rfl rfl ?_
  refine j_iconst 1 hC (dg DX10_sign 1 rfl) (v := 0) (by decide) ?_
  refine j_aload_n 2 hC 0 (dg DX10_sign 2 rfl) rfl rfl ?_
  refine j_getI 3 hC fX10_187 (k_95) (by decide) (by decide) rfl (dg DX10_sign 3 rfl) ?_
  refine j_iconst 6 hC (dg DX10_sign 4 rfl) (v := 1) (by decide) ?_
  refine j_isub 7 hC (dg DX10_sign 5 rfl) ?_
  refine j_Si (As := [.int p1, .int 0, .int ((σ 95 10) - 1)]) 8 hC (m_X10_isIn  hw) kX10_51 (rmN_ok (by decide) (by decide)) rfl rfl (Nat.le_of_ble_eq_true rfl) (dg DX10_sign 6 rfl) (fun r2 σ1 hw => ?_)
  refine j_if_eq 11 23 hC (dg DX10_sign 7 rfl) (by decide) (fun hbr => ?_) (fun hbr => ?_)
  · replace hw := hw.1 hbr
    refine j_iconst 23 hC (dg DX10_sign 13 rfl) (v := (-1)) (by decide) ?_
    exact hR 24 _ _ _ (dg DX10_sign 14 rfl) hw
  · replace hw := hw.2 hbr
    refine j_aload_n 14 hC 0 (dg DX10_sign 8 rfl) rfl rfl ?_
    refine j_getR 15 hC fX10_26 (k_95) (by decide) (by decide) rfl (dg DX10_sign 9 rfl) ?_
    refine j_iload_n 18 hC 1 (dg DX10_sign 10 rfl) rfl rfl ?_
    refine j_iald0 19 _ hC (k_100) (by decide) hw.1 rfl (dg DX10_sign 11 rfl) ?_
    replace hw := hw.2
    refine j_goto 20 24 hC (dg DX10_sign 12 rfl) (by decide) ?_
    exact hR 24 _ _ _ (dg DX10_sign 14 rfl) hw
theorem m_X10_sign {B : Nat} {σ : SS} {p1 : Int32} {Q : Int32 → SS → Prop} (hw : wp_X10_sign  σ p1 Q) : MI yX10_sign cX10_sign 2 (some .int) 1 22 B 103 RS [.ref (B + 95), .int p1] σ Q := MI.mk (plainFor_of_name (by decide)) (Nat.le_of_ble_eq_true rfl) (fun X hC hR => t_X10_sign hC  hR hw)
-- FortressWatchModel.append
def wp_X10_append  (σ : SS) (p1 : Int32) (Q : Int32 → SS → Prop) : Prop :=
  wp_X10_isIn σ p1 32 126 (fun r2 σ1 =>
    ((r2 = 0 →
        Q (-2) σ1) ∧
      (¬ r2 = 0 →
        (((σ1 95 13) = 70 →
            Q (-2) σ1) ∧
          (¬ (σ1 95 13) = 70 →
            vp_in (σ1 95 13) 70 ∧
            ∀ σ3 : SS, σ3 = u2 σ1 101 (σ1 95 13).toNatClampNeg p1 →
            Q ((u2 σ3 95 13 ((σ3 95 13) + 1)) 95 13) (u2 σ3 95 13 ((σ3 95 13) + 1)))))))
set_option maxRecDepth 100000 in
set_option maxHeartbeats 4000000 in
theorem t_X10_append {X : XT} {B : Nat} (hC : Cx X 2 cX10_append RX10 (rmN 1 22)) {Q : Int32 → SS → Prop} (hR : RtI X 2 B 103 RS cX10_append Q) {σ : SS} {p1 : Int32} (hw : wp_X10_append  σ p1 Q) : J X 2 B 103 RS 0 0 σ [(0, .ref (B + 95)), (1, .int p1)] 0 [] := by
  unfold wp_X10_append at hw
  refine j_iload_n 0 hC 1 (dg DX10_append 0 rfl) rfl rfl ?_
  refine j_bipush 1 hC (dg DX10_append 1 rfl) (v := 32) (by decide) ?_
  refine j_bipush 3 hC (dg DX10_append 2 rfl) (v := 126) (by decide) ?_
  refine j_Si (As := [.int p1, .int 32, .int 126]) 5 hC (m_X10_isIn  hw) kX10_51 (rmN_ok (by decide) (by decide)) rfl rfl (Nat.le_of_ble_eq_true rfl) (dg DX10_append 3 rfl) (fun r2 σ1 hw => ?_)
  refine j_if_eq 8 20 hC (dg DX10_append 4 rfl) (by decide) (fun hbr => ?_) (fun hbr => ?_)
  · replace hw := hw.1 hbr
    refine j_bipush 20 hC (dg DX10_append 9 rfl) (v := (-2)) (by decide) ?_
    exact hR 22 _ _ _ (dg DX10_append 10 rfl) hw
  · replace hw := hw.2 hbr
    refine j_aload_n 11 hC 0 (dg DX10_append 5 rfl) rfl rfl ?_
    refine j_getI 12 hC fX10_197 (k_95) (by decide) (by decide) rfl (dg DX10_append 6 rfl) ?_
    refine j_bipush 15 hC (dg DX10_append 7 rfl) (v := 70) (by decide) ?_
    refine j_icmp_ne 17 23 hC (dg DX10_append 8 rfl) (by decide) (fun hbr => ?_) (fun hbr => ?_)
    · replace hw := hw.2 hbr
      refine j_aload_n 23 hC 0 (dg DX10_append 11 rfl) rfl rfl ?_
      refine j_getR 24 hC fX10_29 (k_95) (by decide) (by decide) rfl (dg DX10_append 12 rfl) ?_
      refine j_aload_n 27 hC 0 (dg DX10_append 13 rfl) rfl rfl ?_
      refine j_getI 28 hC fX10_197 (k_95) (by decide) (by decide) rfl (dg DX10_append 14 rfl) ?_
      refine j_iload_n 31 hC 1 (dg DX10_append 15 rfl) rfl rfl ?_
      refine j_iast0 32 _ hC (k_101) (by decide) hw.1 rfl (dg DX10_append 16 rfl) ?_
      replace hw := hw.2
      refine j_sg (fun σ3 es => ?_)
      replace hw := hw _ es
      refine j_aload_n 33 hC 0 (dg DX10_append 17 rfl) rfl rfl ?_
      refine j_dup 34 hC (dg DX10_append 18 rfl) rfl ?_
      refine j_getI 35 hC fX10_197 (k_95) (by decide) (by decide) rfl (dg DX10_append 19 rfl) ?_
      refine j_iconst 38 hC (dg DX10_append 20 rfl) (v := 1) (by decide) ?_
      refine j_iadd 39 hC (dg DX10_append 21 rfl) ?_
      refine j_putI 40 hC fX10_197 (k_95) (by decide) (by decide) rfl fp10_13 rfl (dg DX10_append 22 rfl) ?_
      refine j_aload_n 43 hC 0 (dg DX10_append 23 rfl) rfl rfl ?_
      refine j_getI 44 hC fX10_197 (k_95) (by decide) (by decide) rfl (dg DX10_append 24 rfl) ?_
      exact hR 47 _ _ _ (dg DX10_append 25 rfl) hw
    · replace hw := hw.1 hbr
      refine j_bipush 20 hC (dg DX10_append 9 rfl) (v := (-2)) (by decide) ?_
      exact hR 22 _ _ _ (dg DX10_append 10 rfl) hw
theorem m_X10_append {B : Nat} {σ : SS} {p1 : Int32} {Q : Int32 → SS → Prop} (hw : wp_X10_append  σ p1 Q) : MI yX10_append cX10_append 2 (some .int) 1 22 B 103 RS [.ref (B + 95), .int p1] σ Q := MI.mk (plainFor_of_name (by decide)) (Nat.le_of_ble_eq_true rfl) (fun X hC hR => t_X10_append hC  hR hw)
-- FortressWatchModel.signHere
def wp_X10_signHere  (σ : SS)  (Q : Int32 → SS → Prop) : Prop :=
  (((σ 95 13) ≤ (σ 95 14) →
      Q (-1) σ) ∧
    (¬ (σ 95 13) ≤ (σ 95 14) →
      vp_in (σ 95 14) 70 ∧
      Q (σ 101 (σ 95 14).toNatClampNeg) σ))
set_option maxRecDepth 100000 in
set_option maxHeartbeats 4000000 in
theorem t_X10_signHere {X : XT} {B : Nat} (hC : Cx X 1 cX10_signHere RX10 (rmN 0 0)) {Q : Int32 → SS → Prop} (hR : RtI X 1 B 103 RS cX10_signHere Q) {σ : SS} (hw : wp_X10_signHere  σ  Q) : J X 1 B 103 RS 0 0 σ [(0, .ref (B + 95))] 0 [] := by
  unfold wp_X10_signHere at hw
  refine j_aload_n 0 hC 0 (dg DX10_signHere 0 rfl) rfl rfl ?_
  refine j_getI 1 hC fX10_200 (k_95) (by decide) (by decide) rfl (dg DX10_signHere 1 rfl) ?_
  refine j_aload_n 4 hC 0 (dg DX10_signHere 2 rfl) rfl rfl ?_
  refine j_getI 5 hC fX10_197 (k_95) (by decide) (by decide) rfl (dg DX10_signHere 3 rfl) ?_
  refine j_icmp_ge 8 23 hC (dg DX10_signHere 4 rfl) (by decide) (fun hbr => ?_) (fun hbr => ?_)
  · replace hw := hw.1 hbr
    refine j_iconst 23 hC (dg DX10_signHere 11 rfl) (v := (-1)) (by decide) ?_
    exact hR 24 _ _ _ (dg DX10_signHere 12 rfl) hw
  · replace hw := hw.2 hbr
    refine j_aload_n 11 hC 0 (dg DX10_signHere 5 rfl) rfl rfl ?_
    refine j_getR 12 hC fX10_29 (k_95) (by decide) (by decide) rfl (dg DX10_signHere 6 rfl) ?_
    refine j_aload_n 15 hC 0 (dg DX10_signHere 7 rfl) rfl rfl ?_
    refine j_getI 16 hC fX10_200 (k_95) (by decide) (by decide) rfl (dg DX10_signHere 8 rfl) ?_
    refine j_iald0 19 _ hC (k_101) (by decide) hw.1 rfl (dg DX10_signHere 9 rfl) ?_
    replace hw := hw.2
    refine j_goto 20 24 hC (dg DX10_signHere 10 rfl) (by decide) ?_
    exact hR 24 _ _ _ (dg DX10_signHere 12 rfl) hw
theorem m_X10_signHere {B : Nat} {σ : SS} {Q : Int32 → SS → Prop} (hw : wp_X10_signHere  σ  Q) : MI yX10_signHere cX10_signHere 1 (some .int) 0 0 B 103 RS [.ref (B + 95)] σ Q := MI.mk (plainFor_of_name (by decide)) (Nat.le_of_ble_eq_true rfl) (fun X hC hR => t_X10_signHere hC  hR hw)
-- FortressWatchModel.isHere
def wp_X10_isHere  (σ : SS) (p1 : Int32) (Q : Int32 → SS → Prop) : Prop :=
  wp_X10_signHere σ (fun r2 σ1 =>
    ((r2 = p1 →
        Q 1 (u2 σ1 95 14 ((σ1 95 14) + 1))) ∧
      (¬ r2 = p1 →
        Q 0 (u2 σ1 95 14 ((σ1 95 14) + 0)))))
set_option maxRecDepth 100000 in
set_option maxHeartbeats 4000000 in
theorem t_X10_isHere {X : XT} {B : Nat} (hC : Cx X 3 cX10_isHere RX10 (rmN 1 20)) {Q : Int32 → SS → Prop} (hR : RtZ X 3 B 103 RS cX10_isHere Q) {σ : SS} {p1 : Int32} (hw : wp_X10_isHere  σ p1 Q) : J X 3 B 103 RS 0 0 σ [(0, .ref (B + 95)), (1, .int p1)] 0 [] := by
  unfold wp_X10_isHere at hw
  refine j_aload_n 0 hC 0 (dg DX10_isHere 0 rfl) rfl rfl ?_
  refine j_Vi (As := []) 1 hC (m_X10_signHere  hw) kX10_203 (k_95) (by decide) ⟨_, _, rfl⟩ (rmN_ok (by decide) (by decide)) rfl rfl (Nat.le_of_ble_eq_true rfl) (dg DX10_isHere 1 rfl) (fun r2 σ1 hw => ?_)
  refine j_iload_n 4 hC 1 (dg DX10_isHere 2 rfl) rfl rfl ?_
  refine j_icmp_ne 5 12 hC (dg DX10_isHere 3 rfl) (by decide) (fun hbr => ?_) (fun hbr => ?_)
  · replace hw := hw.2 hbr
    refine j_iconst 12 hC (dg DX10_isHere 6 rfl) (v := 0) (by decide) ?_
    refine j_istore_n 13 hC [(2, .int 0), (0, .ref (B + 95)), (1, .int p1)] (dg DX10_isHere 7 rfl) rfl (by decide) rfl ?_
    refine j_aload_n 14 hC 1 (dg DX10_isHere 8 rfl) rfl rfl ?_
    refine j_dup 15 hC (dg DX10_isHere 9 rfl) rfl ?_
    refine j_getI 16 hC fX10_200 (k_95) (by decide) (by decide) rfl (dg DX10_isHere 10 rfl) ?_
    refine j_iload_n 19 hC 0 (dg DX10_isHere 11 rfl) rfl rfl ?_
    refine j_if_eq 20 27 hC (dg DX10_isHere 12 rfl) (by decide) (fun _ => ?_) (fun c => absurd c (by decide))
    refine j_iconst 27 hC (dg DX10_isHere 15 rfl) (v := 0) (by decide) ?_
    refine j_iadd 28 hC (dg DX10_isHere 16 rfl) ?_
    refine j_putI 29 hC fX10_200 (k_95) (by decide) (by decide) rfl fp10_14 rfl (dg DX10_isHere 17 rfl) ?_
    refine j_iload_n 32 hC 0 (dg DX10_isHere 18 rfl) rfl rfl ?_
    exact hR 33 _ _ _ (dg DX10_isHere 19 rfl) ⟨by decide, hw⟩
  · replace hw := hw.1 hbr
    refine j_iconst 8 hC (dg DX10_isHere 4 rfl) (v := 1) (by decide) ?_
    refine j_goto 9 13 hC (dg DX10_isHere 5 rfl) (by decide) ?_
    refine j_istore_n 13 hC [(2, .int 1), (0, .ref (B + 95)), (1, .int p1)] (dg DX10_isHere 7 rfl) rfl (by decide) rfl ?_
    refine j_aload_n 14 hC 1 (dg DX10_isHere 8 rfl) rfl rfl ?_
    refine j_dup 15 hC (dg DX10_isHere 9 rfl) rfl ?_
    refine j_getI 16 hC fX10_200 (k_95) (by decide) (by decide) rfl (dg DX10_isHere 10 rfl) ?_
    refine j_iload_n 19 hC 0 (dg DX10_isHere 11 rfl) rfl rfl ?_
    refine j_if_eq 20 27 hC (dg DX10_isHere 12 rfl) (by decide) (fun c => absurd c (by decide)) (fun _ => ?_)
    refine j_iconst 23 hC (dg DX10_isHere 13 rfl) (v := 1) (by decide) ?_
    refine j_goto 24 28 hC (dg DX10_isHere 14 rfl) (by decide) ?_
    refine j_iadd 28 hC (dg DX10_isHere 16 rfl) ?_
    refine j_putI 29 hC fX10_200 (k_95) (by decide) (by decide) rfl fp10_14 rfl (dg DX10_isHere 17 rfl) ?_
    refine j_iload_n 32 hC 0 (dg DX10_isHere 18 rfl) rfl rfl ?_
    exact hR 33 _ _ _ (dg DX10_isHere 19 rfl) ⟨by decide, hw⟩
theorem m_X10_isHere {B : Nat} {σ : SS} {p1 : Int32} {Q : Int32 → SS → Prop} (hw : wp_X10_isHere  σ p1 Q) : MI yX10_isHere cX10_isHere 3 (some .boolean) 1 20 B 103 RS [.ref (B + 95), .int p1] σ Q := MI.mkZ (plainFor_of_name (by decide)) (Nat.le_of_ble_eq_true rfl) (fun X hC hR => t_X10_isHere hC  hR hw)
-- FortressWatchModel.isNumber
def bd_X10_isNumber_5    (Q : Int32 → SS → Prop) (l1 : Int32) (l2 : Int32) (rc : SS → Int32 → Int32 → Prop) (σ : SS) (v3 : Int32) (v4 : Int32) : Prop :=
  ((l1 ≤ v4 →
      vp_in l2 144 ∧
      ((v4 ≤ 0 →
          Q 0 (u2 σ 102 l2.toNatClampNeg v3)) ∧
        (¬ v4 ≤ 0 →
          Q 1 (u2 σ 102 l2.toNatClampNeg v3)))) ∧
    (¬ l1 ≤ v4 →
      wp_X10_signHere σ (fun r2 σ1 =>
        wp_X10_isIn σ1 r2 48 57 (fun r4 σ3 =>
          ((r4 = 0 →
              vp_in l2 144 ∧
              ((v4 ≤ 0 →
                  Q 0 (u2 σ3 102 l2.toNatClampNeg v3)) ∧
                (¬ v4 ≤ 0 →
                  Q 1 (u2 σ3 102 l2.toNatClampNeg v3)))) ∧
            (¬ r4 = 0 →
              wp_X10_signHere σ3 (fun r6 σ5 =>
                rc (u2 σ5 95 14 ((σ5 95 14) + 1)) (((10 * v3) + r6) - 48) (v4 + 1))))))))
def wp_X10_isNumber  (σ : SS) (p1 : Int32) (p2 : Int32) (Q : Int32 → SS → Prop) : Prop :=
  ∃ k7, Lii (bd_X10_isNumber_5 Q p1 p2) k7 σ 0 0
set_option maxRecDepth 100000 in
set_option maxHeartbeats 4000000 in
theorem tb_X10_isNumber_5 {X : XT} {B : Nat} (hC : Cx X 5 cX10_isNumber RX10 (rmN 1 22)) {Q : Int32 → SS → Prop} {l1 : Int32} {l2 : Int32} (hR : RtZ X 5 B 103 RS cX10_isNumber Q) {rc : SS → Int32 → Int32 → Prop} (hrc : ∀ (σ : SS) (v3 : Int32) (v4 : Int32), rc σ v3 v4 → J X 5 B 103 RS 0 0 σ [(0, .ref (B + 95)), (1, .int l1), (2, .int l2), (3, .int v3), (4, .int v4)] 5 []) : ∀ (σ : SS) (v3 : Int32) (v4 : Int32), bd_X10_isNumber_5 Q l1 l2 rc σ v3 v4 → J X 5 B 103 RS 0 0 σ [(0, .ref (B + 95)), (1, .int l1), (2, .int l2), (3, .int v3), (4, .int v4)] 5 [] := by
  intro σ v3 v4 hw
  unfold bd_X10_isNumber_5 at hw
  refine j_iload 5 hC 4 (dg DX10_isNumber 4 rfl) rfl ?_
  refine j_iload_n 7 hC 1 (dg DX10_isNumber 5 rfl) rfl rfl ?_
  refine j_icmp_ge 8 54 hC (dg DX10_isNumber 6 rfl) (by decide) (fun hbr => ?_) (fun hbr => ?_)
  · replace hw := hw.1 hbr
    refine j_aload_n 54 hC 0 (dg DX10_isNumber 30 rfl) rfl rfl ?_
    refine j_getR 55 hC fX10_32 (k_95) (by decide) (by decide) rfl (dg DX10_isNumber 31 rfl) ?_
    refine j_iload_n 58 hC 2 (dg DX10_isNumber 32 rfl) rfl rfl ?_
    refine j_iload_n 59 hC 3 (dg DX10_isNumber 33 rfl) rfl rfl ?_
    refine j_iast0 60 _ hC (k_102) (by decide) hw.1 rfl (dg DX10_isNumber 34 rfl) ?_
    replace hw := hw.2
    refine j_iload 61 hC 4 (dg DX10_isNumber 35 rfl) rfl ?_
    refine j_if_le 63 70 hC (dg DX10_isNumber 36 rfl) (by decide) (fun hbr => ?_) (fun hbr => ?_)
    · replace hw := hw.1 hbr
      refine j_iconst 70 hC (dg DX10_isNumber 39 rfl) (v := 0) (by decide) ?_
      exact hR 71 _ _ _ (dg DX10_isNumber 40 rfl) ⟨by decide, hw⟩
    · replace hw := hw.2 hbr
      refine j_iconst 66 hC (dg DX10_isNumber 37 rfl) (v := 1) (by decide) ?_
      refine j_goto 67 71 hC (dg DX10_isNumber 38 rfl) (by decide) ?_
      exact hR 71 _ _ _ (dg DX10_isNumber 40 rfl) ⟨by decide, hw⟩
  · replace hw := hw.2 hbr
    refine j_aload_n 11 hC 0 (dg DX10_isNumber 7 rfl) rfl rfl ?_
    refine j_Vi (As := []) 12 hC (m_X10_signHere  hw) kX10_203 (k_95) (by decide) ⟨_, _, rfl⟩ (rmN_ok (by decide) (by decide)) rfl rfl (Nat.le_of_ble_eq_true rfl) (dg DX10_isNumber 8 rfl) (fun r2 σ1 hw => ?_)
    refine j_bipush 15 hC (dg DX10_isNumber 9 rfl) (v := 48) (by decide) ?_
    refine j_bipush 17 hC (dg DX10_isNumber 10 rfl) (v := 57) (by decide) ?_
    refine j_Si (As := [.int r2, .int 48, .int 57]) 19 hC (m_X10_isIn  hw) kX10_51 (rmN_ok (by decide) (by decide)) rfl rfl (Nat.le_of_ble_eq_true rfl) (dg DX10_isNumber 11 rfl) (fun r4 σ3 hw => ?_)
    refine j_if_eq 22 54 hC (dg DX10_isNumber 12 rfl) (by decide) (fun hbr => ?_) (fun hbr => ?_)
    · replace hw := hw.1 hbr
      refine j_aload_n 54 hC 0 (dg DX10_isNumber 30 rfl) rfl rfl ?_
      refine j_getR 55 hC fX10_32 (k_95) (by decide) (by decide) rfl (dg DX10_isNumber 31 rfl) ?_
      refine j_iload_n 58 hC 2 (dg DX10_isNumber 32 rfl) rfl rfl ?_
      refine j_iload_n 59 hC 3 (dg DX10_isNumber 33 rfl) rfl rfl ?_
      refine j_iast0 60 _ hC (k_102) (by decide) hw.1 rfl (dg DX10_isNumber 34 rfl) ?_
      replace hw := hw.2
      refine j_iload 61 hC 4 (dg DX10_isNumber 35 rfl) rfl ?_
      refine j_if_le 63 70 hC (dg DX10_isNumber 36 rfl) (by decide) (fun hbr => ?_) (fun hbr => ?_)
      · replace hw := hw.1 hbr
        refine j_iconst 70 hC (dg DX10_isNumber 39 rfl) (v := 0) (by decide) ?_
        exact hR 71 _ _ _ (dg DX10_isNumber 40 rfl) ⟨by decide, hw⟩
      · replace hw := hw.2 hbr
        refine j_iconst 66 hC (dg DX10_isNumber 37 rfl) (v := 1) (by decide) ?_
        refine j_goto 67 71 hC (dg DX10_isNumber 38 rfl) (by decide) ?_
        exact hR 71 _ _ _ (dg DX10_isNumber 40 rfl) ⟨by decide, hw⟩
    · replace hw := hw.2 hbr
      refine j_bipush 25 hC (dg DX10_isNumber 13 rfl) (v := 10) (by decide) ?_
      refine j_iload_n 27 hC 3 (dg DX10_isNumber 14 rfl) rfl rfl ?_
      refine j_imul 28 hC (dg DX10_isNumber 15 rfl) ?_
      refine j_aload_n 29 hC 0 (dg DX10_isNumber 16 rfl) rfl rfl ?_
      refine j_Vi (As := []) 30 hC (m_X10_signHere  hw) kX10_203 (k_95) (by decide) ⟨_, _, rfl⟩ (rmN_ok (by decide) (by decide)) rfl rfl (Nat.le_of_ble_eq_true rfl) (dg DX10_isNumber 17 rfl) (fun r6 σ5 hw => ?_)
      refine j_iadd 33 hC (dg DX10_isNumber 18 rfl) ?_
      refine j_bipush 34 hC (dg DX10_isNumber 19 rfl) (v := 48) (by decide) ?_
      refine j_isub 36 hC (dg DX10_isNumber 20 rfl) ?_
      refine j_istore_n 37 hC [(3, .int (((10 * v3) + r6) - 48)), (0, .ref (B + 95)), (1, .int l1), (2, .int l2), (4, .int v4)] (dg DX10_isNumber 21 rfl) rfl (by decide) rfl ?_
      refine j_aload_n 38 hC 1 (dg DX10_isNumber 22 rfl) rfl rfl ?_
      refine j_dup 39 hC (dg DX10_isNumber 23 rfl) rfl ?_
      refine j_getI 40 hC fX10_200 (k_95) (by decide) (by decide) rfl (dg DX10_isNumber 24 rfl) ?_
      refine j_iconst 43 hC (dg DX10_isNumber 25 rfl) (v := 1) (by decide) ?_
      refine j_iadd 44 hC (dg DX10_isNumber 26 rfl) ?_
      refine j_putI 45 hC fX10_200 (k_95) (by decide) (by decide) rfl fp10_14 rfl (dg DX10_isNumber 27 rfl) ?_
      refine j_iinc 48 hC 4 (v4 + 1) [(4, .int (v4 + 1)), (3, .int (((10 * v3) + r6) - 48)), (0, .ref (B + 95)), (1, .int l1), (2, .int l2)] (dg DX10_isNumber 28 rfl) rfl rfl (by decide) rfl ?_
      refine j_goto 51 5 hC (dg DX10_isNumber 29 rfl) (by decide) ?_
      refine j_lv [2, 3, 4, 1, 0] (lv' := [(0, .ref (B + 95)), (1, .int l1), (2, .int l2), (3, .int (((10 * v3) + r6) - 48)), (4, .int (v4 + 1))]) rfl ?_
      exact hrc _ _ _ hw
set_option maxRecDepth 100000 in
set_option maxHeartbeats 4000000 in
theorem t_X10_isNumber {X : XT} {B : Nat} (hC : Cx X 5 cX10_isNumber RX10 (rmN 1 22)) {Q : Int32 → SS → Prop} (hR : RtZ X 5 B 103 RS cX10_isNumber Q) {σ : SS} {p1 : Int32} {p2 : Int32} (hw : wp_X10_isNumber  σ p1 p2 Q) : J X 5 B 103 RS 0 0 σ [(0, .ref (B + 95)), (1, .int p1), (2, .int p2)] 0 [] := by
  unfold wp_X10_isNumber at hw
  refine j_iconst 0 hC (dg DX10_isNumber 0 rfl) (v := 0) (by decide) ?_
  refine j_istore_n 1 hC [(3, .int 0), (0, .ref (B + 95)), (1, .int p1), (2, .int p2)] (dg DX10_isNumber 1 rfl) rfl (by decide) rfl ?_
  refine j_iconst 2 hC (dg DX10_isNumber 2 rfl) (v := 0) (by decide) ?_
  refine j_istore 3 hC [(4, .int 0), (3, .int 0), (0, .ref (B + 95)), (1, .int p1), (2, .int p2)] (dg DX10_isNumber 3 rfl) (by decide) rfl ?_
  obtain ⟨k7, hw⟩ := hw
  refine j_lv [2, 3, 4, 1, 0] (lv' := [(0, .ref (B + 95)), (1, .int p1), (2, .int p2), (3, .int 0), (4, .int 0)]) rfl ?_
  exact Lii.snd (P := fun τ w3 w4 => J X 5 B 103 RS 0 0 τ [(0, .ref (B + 95)), (1, .int p1), (2, .int p2), (3, .int w3), (4, .int w4)] 5 []) (fun rcc hrcc => tb_X10_isNumber_5 hC  hR  hrcc) k7 _ _ _ hw
theorem m_X10_isNumber {B : Nat} {σ : SS} {p1 : Int32} {p2 : Int32} {Q : Int32 → SS → Prop} (hw : wp_X10_isNumber  σ p1 p2 Q) : MI yX10_isNumber cX10_isNumber 5 (some .boolean) 1 22 B 103 RS [.ref (B + 95), .int p1, .int p2] σ Q := MI.mkZ (plainFor_of_name (by decide)) (Nat.le_of_ble_eq_true rfl) (fun X hC hR => t_X10_isNumber hC  hR hw)
-- FortressWatchModel.isKind
def wp_X10_isKind  (σ : SS) (p0 : Int32) (Q : Int32 → SS → Prop) : Prop :=
  ((p0 = 112 →
      Q 1 σ) ∧
    (¬ p0 = 112 →
      ((p0 = 45 →
          Q 1 σ) ∧
        (¬ p0 = 45 →
          ((p0 = 114 →
              Q 1 σ) ∧
            (¬ p0 = 114 →
              ((p0 = 98 →
                  Q 1 σ) ∧
                (¬ p0 = 98 →
                  ((p0 = 110 →
                      Q 1 σ) ∧
                    (¬ p0 = 110 →
                      ((p0 = 109 →
                          Q 1 σ) ∧
                        (¬ p0 = 109 →
                          ((p0 = 108 →
                              Q 1 σ) ∧
                            (¬ p0 = 108 →
                              ((p0 = 104 →
                                  Q 1 σ) ∧
                                (¬ p0 = 104 →
                                  ((p0 = 119 →
                                      Q 1 σ) ∧
                                    (¬ p0 = 119 →
                                      Q 0 σ))))))))))))))))))
set_option maxRecDepth 100000 in
set_option maxHeartbeats 4000000 in
theorem t_X10_isKind {X : XT} {B : Nat} (hC : Cx X 1 cX10_isKind RX10 (rmN 0 0)) {Q : Int32 → SS → Prop} (hR : RtZ X 1 B 103 RS cX10_isKind Q) {σ : SS} {p0 : Int32} (hw : wp_X10_isKind  σ p0 Q) : J X 1 B 103 RS 0 0 σ [(0, .int p0)] 0 [] := by
  unfold wp_X10_isKind at hw
  refine j_iload_n 0 hC 0 (dg DX10_isKind 0 rfl) rfl rfl ?_
  refine j_bipush 1 hC (dg DX10_isKind 1 rfl) (v := 112) (by decide) ?_
  refine j_icmp_eq 3 54 hC (dg DX10_isKind 2 rfl) (by decide) (fun hbr => ?_) (fun hbr => ?_)
  · replace hw := hw.1 hbr
    refine j_iconst 54 hC (dg DX10_isKind 27 rfl) (v := 1) (by decide) ?_
    refine j_goto 55 59 hC (dg DX10_isKind 28 rfl) (by decide) ?_
    exact hR 59 _ _ _ (dg DX10_isKind 30 rfl) ⟨by decide, hw⟩
  · replace hw := hw.2 hbr
    refine j_iload_n 6 hC 0 (dg DX10_isKind 3 rfl) rfl rfl ?_
    refine j_bipush 7 hC (dg DX10_isKind 4 rfl) (v := 45) (by decide) ?_
    refine j_icmp_eq 9 54 hC (dg DX10_isKind 5 rfl) (by decide) (fun hbr => ?_) (fun hbr => ?_)
    · replace hw := hw.1 hbr
      refine j_iconst 54 hC (dg DX10_isKind 27 rfl) (v := 1) (by decide) ?_
      refine j_goto 55 59 hC (dg DX10_isKind 28 rfl) (by decide) ?_
      exact hR 59 _ _ _ (dg DX10_isKind 30 rfl) ⟨by decide, hw⟩
    · replace hw := hw.2 hbr
      refine j_iload_n 12 hC 0 (dg DX10_isKind 6 rfl) rfl rfl ?_
      refine j_bipush 13 hC (dg DX10_isKind 7 rfl) (v := 114) (by decide) ?_
      refine j_icmp_eq 15 54 hC (dg DX10_isKind 8 rfl) (by decide) (fun hbr => ?_) (fun hbr => ?_)
      · replace hw := hw.1 hbr
        refine j_iconst 54 hC (dg DX10_isKind 27 rfl) (v := 1) (by decide) ?_
        refine j_goto 55 59 hC (dg DX10_isKind 28 rfl) (by decide) ?_
        exact hR 59 _ _ _ (dg DX10_isKind 30 rfl) ⟨by decide, hw⟩
      · replace hw := hw.2 hbr
        refine j_iload_n 18 hC 0 (dg DX10_isKind 9 rfl) rfl rfl ?_
        refine j_bipush 19 hC (dg DX10_isKind 10 rfl) (v := 98) (by decide) ?_
        refine j_icmp_eq 21 54 hC (dg DX10_isKind 11 rfl) (by decide) (fun hbr => ?_) (fun hbr => ?_)
        · replace hw := hw.1 hbr
          refine j_iconst 54 hC (dg DX10_isKind 27 rfl) (v := 1) (by decide) ?_
          refine j_goto 55 59 hC (dg DX10_isKind 28 rfl) (by decide) ?_
          exact hR 59 _ _ _ (dg DX10_isKind 30 rfl) ⟨by decide, hw⟩
        · replace hw := hw.2 hbr
          refine j_iload_n 24 hC 0 (dg DX10_isKind 12 rfl) rfl rfl ?_
          refine j_bipush 25 hC (dg DX10_isKind 13 rfl) (v := 110) (by decide) ?_
          refine j_icmp_eq 27 54 hC (dg DX10_isKind 14 rfl) (by decide) (fun hbr => ?_) (fun hbr => ?_)
          · replace hw := hw.1 hbr
            refine j_iconst 54 hC (dg DX10_isKind 27 rfl) (v := 1) (by decide) ?_
            refine j_goto 55 59 hC (dg DX10_isKind 28 rfl) (by decide) ?_
            exact hR 59 _ _ _ (dg DX10_isKind 30 rfl) ⟨by decide, hw⟩
          · replace hw := hw.2 hbr
            refine j_iload_n 30 hC 0 (dg DX10_isKind 15 rfl) rfl rfl ?_
            refine j_bipush 31 hC (dg DX10_isKind 16 rfl) (v := 109) (by decide) ?_
            refine j_icmp_eq 33 54 hC (dg DX10_isKind 17 rfl) (by decide) (fun hbr => ?_) (fun hbr => ?_)
            · replace hw := hw.1 hbr
              refine j_iconst 54 hC (dg DX10_isKind 27 rfl) (v := 1) (by decide) ?_
              refine j_goto 55 59 hC (dg DX10_isKind 28 rfl) (by decide) ?_
              exact hR 59 _ _ _ (dg DX10_isKind 30 rfl) ⟨by decide, hw⟩
            · replace hw := hw.2 hbr
              refine j_iload_n 36 hC 0 (dg DX10_isKind 18 rfl) rfl rfl ?_
              refine j_bipush 37 hC (dg DX10_isKind 19 rfl) (v := 108) (by decide) ?_
              refine j_icmp_eq 39 54 hC (dg DX10_isKind 20 rfl) (by decide) (fun hbr => ?_) (fun hbr => ?_)
              · replace hw := hw.1 hbr
                refine j_iconst 54 hC (dg DX10_isKind 27 rfl) (v := 1) (by decide) ?_
                refine j_goto 55 59 hC (dg DX10_isKind 28 rfl) (by decide) ?_
                exact hR 59 _ _ _ (dg DX10_isKind 30 rfl) ⟨by decide, hw⟩
              · replace hw := hw.2 hbr
                refine j_iload_n 42 hC 0 (dg DX10_isKind 21 rfl) rfl rfl ?_
                refine j_bipush 43 hC (dg DX10_isKind 22 rfl) (v := 104) (by decide) ?_
                refine j_icmp_eq 45 54 hC (dg DX10_isKind 23 rfl) (by decide) (fun hbr => ?_) (fun hbr => ?_)
                · replace hw := hw.1 hbr
                  refine j_iconst 54 hC (dg DX10_isKind 27 rfl) (v := 1) (by decide) ?_
                  refine j_goto 55 59 hC (dg DX10_isKind 28 rfl) (by decide) ?_
                  exact hR 59 _ _ _ (dg DX10_isKind 30 rfl) ⟨by decide, hw⟩
                · replace hw := hw.2 hbr
                  refine j_iload_n 48 hC 0 (dg DX10_isKind 24 rfl) rfl rfl ?_
                  refine j_bipush 49 hC (dg DX10_isKind 25 rfl) (v := 119) (by decide) ?_
                  refine j_icmp_ne 51 58 hC (dg DX10_isKind 26 rfl) (by decide) (fun hbr => ?_) (fun hbr => ?_)
                  · replace hw := hw.2 hbr
                    refine j_iconst 58 hC (dg DX10_isKind 29 rfl) (v := 0) (by decide) ?_
                    exact hR 59 _ _ _ (dg DX10_isKind 30 rfl) ⟨by decide, hw⟩
                  · replace hw := hw.1 hbr
                    refine j_iconst 54 hC (dg DX10_isKind 27 rfl) (v := 1) (by decide) ?_
                    refine j_goto 55 59 hC (dg DX10_isKind 28 rfl) (by decide) ?_
                    exact hR 59 _ _ _ (dg DX10_isKind 30 rfl) ⟨by decide, hw⟩
theorem m_X10_isKind {B : Nat} {σ : SS} {p0 : Int32} {Q : Int32 → SS → Prop} (hw : wp_X10_isKind  σ p0 Q) : MI yX10_isKind cX10_isKind 1 (some .boolean) 0 0 B 103 RS [.int p0] σ Q := MI.mkZ (plainFor_of_name (by decide)) (Nat.le_of_ble_eq_true rfl) (fun X hC hR => t_X10_isKind hC  hR hw)
-- FortressWatchModel.readsCommand
def wp_X10_readsCommand  (σ : SS)  (Q : Int32 → SS → Prop) : Prop :=
  wp_X10_signHere σ (fun r2 σ1 =>
    wp_X10_isKind σ1 r2 (fun r4 σ3 =>
      ((r4 = 0 →
          Q 0 σ3) ∧
        (¬ r4 = 0 →
          vp_in (4 * (σ 95 15)) 144 ∧
          ∀ σ5 : SS, σ5 = u2 σ3 102 (4 * (σ 95 15)).toNatClampNeg r2 →
          ∀ σ6 : SS, σ6 = u2 (u2 σ5 95 14 ((σ5 95 14) + 1)) 95 15 (((u2 σ5 95 14 ((σ5 95 14) + 1)) 95 15) + 1) →
          ((r2 = 98 →
              wp_X10_isNumber σ6 1 ((4 * (σ 95 15)) + 1) (fun r8 σ7 =>
                ((r8 = 0 →
                    Q 0 σ7) ∧
                  (¬ r8 = 0 →
                    wp_X10_isHere σ7 33 (fun r10 σ9 =>
                      ((r10 = 0 →
                          Q 0 σ9) ∧
                        (¬ r10 = 0 →
                          wp_X10_isNumber σ9 2 ((4 * (σ 95 15)) + 2) (fun r12 σ11 =>
                            ((r12 = 0 →
                                Q 0 σ11) ∧
                              (¬ r12 = 0 →
                                wp_X10_isHere σ11 43 (fun r14 σ13 =>
                                  ((r14 = 0 →
                                      Q 0 σ13) ∧
                                    (¬ r14 = 0 →
                                      wp_X10_isNumber σ13 1 ((4 * (σ 95 15)) + 3) (fun r16 σ15 =>
                                        ((r16 = 0 →
                                            Q 0 σ15) ∧
                                          (¬ r16 = 0 →
                                            Q 1 σ15)))))))))))))))) ∧
            (¬ r2 = 98 →
              ((r2 = 104 →
                  wp_X10_isNumber σ6 2 ((4 * (σ 95 15)) + 1) (fun r18 σ17 =>
                    (r18 = 0 ∨ r18 = 1) ∧ Q r18 σ17)) ∧
                (¬ r2 = 104 →
                  ((r2 = 112 →
                      ((r2 = 112 →
                          wp_X10_isNumber σ6 2 ((4 * (σ 95 15)) + 1) (fun r30 σ29 =>
                            ((r30 = 0 →
                                Q 0 σ29) ∧
                              (¬ r30 = 0 →
                                wp_X10_isHere σ29 60 (fun r32 σ31 =>
                                  ((r32 = 0 →
                                      Q 0 σ31) ∧
                                    (¬ r32 = 0 →
                                      wp_X10_isNumber σ31 2 ((4 * (σ 95 15)) + 2) (fun r34 σ33 =>
                                        ((r34 = 0 →
                                            Q 0 σ33) ∧
                                          (¬ r34 = 0 →
                                            wp_X10_isHere σ33 62 (fun r36 σ35 =>
                                              ((r36 = 0 →
                                                  Q 0 σ35) ∧
                                                (¬ r36 = 0 →
                                                  wp_X10_isNumber σ35 2 ((4 * (σ 95 15)) + 3) (fun r38 σ37 =>
                                                    ((r38 = 0 →
                                                        Q 0 σ37) ∧
                                                      (¬ r38 = 0 →
                                                        Q 1 σ37)))))))))))))))) ∧
                        (¬ r2 = 112 →
                          wp_X10_isNumber σ6 1 ((4 * (σ 95 15)) + 1) (fun r20 σ19 =>
                            ((r20 = 0 →
                                Q 0 σ19) ∧
                              (¬ r20 = 0 →
                                wp_X10_isHere σ19 60 (fun r22 σ21 =>
                                  ((r22 = 0 →
                                      Q 0 σ21) ∧
                                    (¬ r22 = 0 →
                                      wp_X10_isNumber σ21 2 ((4 * (σ 95 15)) + 2) (fun r24 σ23 =>
                                        ((r24 = 0 →
                                            Q 0 σ23) ∧
                                          (¬ r24 = 0 →
                                            wp_X10_isHere σ23 62 (fun r26 σ25 =>
                                              ((r26 = 0 →
                                                  Q 0 σ25) ∧
                                                (¬ r26 = 0 →
                                                  wp_X10_isNumber σ25 2 ((4 * (σ 95 15)) + 3) (fun r28 σ27 =>
                                                    ((r28 = 0 →
                                                        Q 0 σ27) ∧
                                                      (¬ r28 = 0 →
                                                        Q 1 σ27)))))))))))))))))) ∧
                    (¬ r2 = 112 →
                      ((r2 = 114 →
                          ((r2 = 112 →
                              wp_X10_isNumber σ6 2 ((4 * (σ 95 15)) + 1) (fun r50 σ49 =>
                                ((r50 = 0 →
                                    Q 0 σ49) ∧
                                  (¬ r50 = 0 →
                                    wp_X10_isHere σ49 60 (fun r52 σ51 =>
                                      ((r52 = 0 →
                                          Q 0 σ51) ∧
                                        (¬ r52 = 0 →
                                          wp_X10_isNumber σ51 2 ((4 * (σ 95 15)) + 2) (fun r54 σ53 =>
                                            ((r54 = 0 →
                                                Q 0 σ53) ∧
                                              (¬ r54 = 0 →
                                                wp_X10_isHere σ53 62 (fun r56 σ55 =>
                                                  ((r56 = 0 →
                                                      Q 0 σ55) ∧
                                                    (¬ r56 = 0 →
                                                      wp_X10_isNumber σ55 2 ((4 * (σ 95 15)) + 3) (fun r58 σ57 =>
                                                        ((r58 = 0 →
                                                            Q 0 σ57) ∧
                                                          (¬ r58 = 0 →
                                                            Q 1 σ57)))))))))))))))) ∧
                            (¬ r2 = 112 →
                              wp_X10_isNumber σ6 1 ((4 * (σ 95 15)) + 1) (fun r40 σ39 =>
                                ((r40 = 0 →
                                    Q 0 σ39) ∧
                                  (¬ r40 = 0 →
                                    wp_X10_isHere σ39 60 (fun r42 σ41 =>
                                      ((r42 = 0 →
                                          Q 0 σ41) ∧
                                        (¬ r42 = 0 →
                                          wp_X10_isNumber σ41 2 ((4 * (σ 95 15)) + 2) (fun r44 σ43 =>
                                            ((r44 = 0 →
                                                Q 0 σ43) ∧
                                              (¬ r44 = 0 →
                                                wp_X10_isHere σ43 62 (fun r46 σ45 =>
                                                  ((r46 = 0 →
                                                      Q 0 σ45) ∧
                                                    (¬ r46 = 0 →
                                                      wp_X10_isNumber σ45 2 ((4 * (σ 95 15)) + 3) (fun r48 σ47 =>
                                                        ((r48 = 0 →
                                                            Q 0 σ47) ∧
                                                          (¬ r48 = 0 →
                                                            Q 1 σ47)))))))))))))))))) ∧
                        (¬ r2 = 114 →
                          ((r2 = 119 →
                              Q 1 σ6) ∧
                            (¬ r2 = 119 →
                              wp_X10_isNumber σ6 1 ((4 * (σ 95 15)) + 1) (fun r60 σ59 =>
                                (r60 = 0 ∨ r60 = 1) ∧ Q r60 σ59)))))))))))))))
set_option maxRecDepth 100000 in
set_option maxHeartbeats 4000000 in
theorem t_X10_readsCommand {X : XT} {B : Nat} (hC : Cx X 3 cX10_readsCommand RX10 (rmN 2 46)) {Q : Int32 → SS → Prop} (hR : RtZ X 3 B 103 RS cX10_readsCommand Q) {σ : SS} (hw : wp_X10_readsCommand  σ  Q) : J X 3 B 103 RS 0 0 σ [(0, .ref (B + 95))] 0 [] := by
  unfold wp_X10_readsCommand at hw
  refine j_iconst 0 hC (dg DX10_readsCommand 0 rfl) (v := 4) (by decide) ?_
  refine j_aload_n 1 hC 0 (dg DX10_readsCommand 1 rfl) rfl rfl ?_
  refine j_getI 2 hC fX10_206 (k_95) (by decide) (by decide) rfl (dg DX10_readsCommand 2 rfl) ?_
  refine j_imul 5 hC (dg DX10_readsCommand 3 rfl) ?_
  refine j_istore_n 6 hC [(1, .int (4 * (σ 95 15))), (0, .ref (B + 95))] (dg DX10_readsCommand 4 rfl) rfl (by decide) rfl ?_
  refine j_aload_n 7 hC 1 (dg DX10_readsCommand 5 rfl) rfl rfl ?_
  refine j_Vi (As := []) 8 hC (m_X10_signHere  hw) kX10_203 (k_95) (by decide) ⟨_, _, rfl⟩ (rmN_ok (by decide) (by decide)) rfl rfl (Nat.le_of_ble_eq_true rfl) (dg DX10_readsCommand 6 rfl) (fun r2 σ1 hw => ?_)
  refine j_istore_n 11 hC [(2, .int r2), (1, .int (4 * (σ 95 15))), (0, .ref (B + 95))] (dg DX10_readsCommand 7 rfl) rfl (by decide) rfl ?_
  refine j_iload_n 12 hC 0 (dg DX10_readsCommand 8 rfl) rfl rfl ?_
  refine j_Si (As := [.int r2]) 13 hC (m_X10_isKind  hw) kX10_209 (rmN_ok (by decide) (by decide)) rfl rfl (Nat.le_of_ble_eq_true rfl) (dg DX10_readsCommand 9 rfl) (fun r4 σ3 hw => ?_)
  refine j_if_ne 16 21 hC (dg DX10_readsCommand 10 rfl) (by decide) (fun hbr => ?_) (fun hbr => ?_)
  · replace hw := hw.2 hbr
    refine j_aload_n 21 hC 2 (dg DX10_readsCommand 13 rfl) rfl rfl ?_
    refine j_getR 22 hC fX10_32 (k_95) (by decide) (by decide) rfl (dg DX10_readsCommand 14 rfl) ?_
    refine j_iload_n 25 hC 1 (dg DX10_readsCommand 15 rfl) rfl rfl ?_
    refine j_iload_n 26 hC 0 (dg DX10_readsCommand 16 rfl) rfl rfl ?_
    refine j_iast0 27 _ hC (k_102) (by decide) hw.1 rfl (dg DX10_readsCommand 17 rfl) ?_
    replace hw := hw.2
    refine j_sg (fun σ5 es => ?_)
    replace hw := hw _ es
    refine j_aload_n 28 hC 2 (dg DX10_readsCommand 18 rfl) rfl rfl ?_
    refine j_dup 29 hC (dg DX10_readsCommand 19 rfl) rfl ?_
    refine j_getI 30 hC fX10_200 (k_95) (by decide) (by decide) rfl (dg DX10_readsCommand 20 rfl) ?_
    refine j_iconst 33 hC (dg DX10_readsCommand 21 rfl) (v := 1) (by decide) ?_
    refine j_iadd 34 hC (dg DX10_readsCommand 22 rfl) ?_
    refine j_putI 35 hC fX10_200 (k_95) (by decide) (by decide) rfl fp10_14 rfl (dg DX10_readsCommand 23 rfl) ?_
    refine j_aload_n 38 hC 2 (dg DX10_readsCommand 24 rfl) rfl rfl ?_
    refine j_dup 39 hC (dg DX10_readsCommand 25 rfl) rfl ?_
    refine j_getI 40 hC fX10_206 (k_95) (by decide) (by decide) rfl (dg DX10_readsCommand 26 rfl) ?_
    refine j_iconst 43 hC (dg DX10_readsCommand 27 rfl) (v := 1) (by decide) ?_
    refine j_iadd 44 hC (dg DX10_readsCommand 28 rfl) ?_
    refine j_putI 45 hC fX10_206 (k_95) (by decide) (by decide) rfl fp10_15 rfl (dg DX10_readsCommand 29 rfl) ?_
    refine j_sg (fun σ6 es => ?_)
    replace hw := hw _ es
    refine j_iload_n 48 hC 0 (dg DX10_readsCommand 30 rfl) rfl rfl ?_
    by_cases n98 : r2 = 98
    · replace hw := hw.1 n98
      refine j_lookup 49 167 (off := 118) hC (dg DX10_readsCommand 31 rfl) (by decide) (by rw [n98]; rfl) (by decide) ?_
      refine j_aload_n 167 hC 2 (dg DX10_readsCommand 70 rfl) rfl rfl ?_
      refine j_iconst 168 hC (dg DX10_readsCommand 71 rfl) (v := 1) (by decide) ?_
      refine j_iload_n 169 hC 1 (dg DX10_readsCommand 72 rfl) rfl rfl ?_
      refine j_iconst 170 hC (dg DX10_readsCommand 73 rfl) (v := 1) (by decide) ?_
      refine j_iadd 171 hC (dg DX10_readsCommand 74 rfl) ?_
      refine j_Vi (As := [.int 1, .int ((4 * (σ 95 15)) + 1)]) 172 hC (m_X10_isNumber  hw) kX10_212 (k_95) (by decide) ⟨_, _, rfl⟩ (rmN_ok (by decide) (by decide)) rfl rfl (Nat.le_of_ble_eq_true rfl) (dg DX10_readsCommand 75 rfl) (fun r8 σ7 hw => ?_)
      refine j_if_eq 175 222 hC (dg DX10_readsCommand 76 rfl) (by decide) (fun hbr => ?_) (fun hbr => ?_)
      · replace hw := hw.1 hbr
        refine j_iconst 222 hC (dg DX10_readsCommand 101 rfl) (v := 0) (by decide) ?_
        exact hR 223 _ _ _ (dg DX10_readsCommand 102 rfl) ⟨by decide, hw⟩
      · replace hw := hw.2 hbr
        refine j_aload_n 178 hC 2 (dg DX10_readsCommand 77 rfl) rfl rfl ?_
        refine j_bipush 179 hC (dg DX10_readsCommand 78 rfl) (v := 33) (by decide) ?_
        refine j_Vi (As := [.int 33]) 181 hC (m_X10_isHere  hw) kX10_215 (k_95) (by decide) ⟨_, _, rfl⟩ (rmN_ok (by decide) (by decide)) rfl rfl (Nat.le_of_ble_eq_true rfl) (dg DX10_readsCommand 79 rfl) (fun r10 σ9 hw => ?_)
        refine j_if_eq 184 222 hC (dg DX10_readsCommand 80 rfl) (by decide) (fun hbr => ?_) (fun hbr => ?_)
        · replace hw := hw.1 hbr
          refine j_iconst 222 hC (dg DX10_readsCommand 101 rfl) (v := 0) (by decide) ?_
          exact hR 223 _ _ _ (dg DX10_readsCommand 102 rfl) ⟨by decide, hw⟩
        · replace hw := hw.2 hbr
          refine j_aload_n 187 hC 2 (dg DX10_readsCommand 81 rfl) rfl rfl ?_
          refine j_iconst 188 hC (dg DX10_readsCommand 82 rfl) (v := 2) (by decide) ?_
          refine j_iload_n 189 hC 1 (dg DX10_readsCommand 83 rfl) rfl rfl ?_
          refine j_iconst 190 hC (dg DX10_readsCommand 84 rfl) (v := 2) (by decide) ?_
          refine j_iadd 191 hC (dg DX10_readsCommand 85 rfl) ?_
          refine j_Vi (As := [.int 2, .int ((4 * (σ 95 15)) + 2)]) 192 hC (m_X10_isNumber  hw) kX10_212 (k_95) (by decide) ⟨_, _, rfl⟩ (rmN_ok (by decide) (by decide)) rfl rfl (Nat.le_of_ble_eq_true rfl) (dg DX10_readsCommand 86 rfl) (fun r12 σ11 hw => ?_)
          refine j_if_eq 195 222 hC (dg DX10_readsCommand 87 rfl) (by decide) (fun hbr => ?_) (fun hbr => ?_)
          · replace hw := hw.1 hbr
            refine j_iconst 222 hC (dg DX10_readsCommand 101 rfl) (v := 0) (by decide) ?_
            exact hR 223 _ _ _ (dg DX10_readsCommand 102 rfl) ⟨by decide, hw⟩
          · replace hw := hw.2 hbr
            refine j_aload_n 198 hC 2 (dg DX10_readsCommand 88 rfl) rfl rfl ?_
            refine j_bipush 199 hC (dg DX10_readsCommand 89 rfl) (v := 43) (by decide) ?_
            refine j_Vi (As := [.int 43]) 201 hC (m_X10_isHere  hw) kX10_215 (k_95) (by decide) ⟨_, _, rfl⟩ (rmN_ok (by decide) (by decide)) rfl rfl (Nat.le_of_ble_eq_true rfl) (dg DX10_readsCommand 90 rfl) (fun r14 σ13 hw => ?_)
            refine j_if_eq 204 222 hC (dg DX10_readsCommand 91 rfl) (by decide) (fun hbr => ?_) (fun hbr => ?_)
            · replace hw := hw.1 hbr
              refine j_iconst 222 hC (dg DX10_readsCommand 101 rfl) (v := 0) (by decide) ?_
              exact hR 223 _ _ _ (dg DX10_readsCommand 102 rfl) ⟨by decide, hw⟩
            · replace hw := hw.2 hbr
              refine j_aload_n 207 hC 2 (dg DX10_readsCommand 92 rfl) rfl rfl ?_
              refine j_iconst 208 hC (dg DX10_readsCommand 93 rfl) (v := 1) (by decide) ?_
              refine j_iload_n 209 hC 1 (dg DX10_readsCommand 94 rfl) rfl rfl ?_
              refine j_iconst 210 hC (dg DX10_readsCommand 95 rfl) (v := 3) (by decide) ?_
              refine j_iadd 211 hC (dg DX10_readsCommand 96 rfl) ?_
              refine j_Vi (As := [.int 1, .int ((4 * (σ 95 15)) + 3)]) 212 hC (m_X10_isNumber  hw) kX10_212 (k_95) (by decide) ⟨_, _, rfl⟩ (rmN_ok (by decide) (by decide)) rfl rfl (Nat.le_of_ble_eq_true rfl) (dg DX10_readsCommand 97 rfl) (fun r16 σ15 hw => ?_)
              refine j_if_eq 215 222 hC (dg DX10_readsCommand 98 rfl) (by decide) (fun hbr => ?_) (fun hbr => ?_)
              · replace hw := hw.1 hbr
                refine j_iconst 222 hC (dg DX10_readsCommand 101 rfl) (v := 0) (by decide) ?_
                exact hR 223 _ _ _ (dg DX10_readsCommand 102 rfl) ⟨by decide, hw⟩
              · replace hw := hw.2 hbr
                refine j_iconst 218 hC (dg DX10_readsCommand 99 rfl) (v := 1) (by decide) ?_
                refine j_goto 219 223 hC (dg DX10_readsCommand 100 rfl) (by decide) ?_
                exact hR 223 _ _ _ (dg DX10_readsCommand 102 rfl) ⟨by decide, hw⟩
    replace hw := hw.2 n98
    by_cases n104 : r2 = 104
    · replace hw := hw.1 n104
      refine j_lookup 49 224 (off := 175) hC (dg DX10_readsCommand 31 rfl) (by decide) (by rw [n104]; rfl) (by decide) ?_
      refine j_aload_n 224 hC 2 (dg DX10_readsCommand 103 rfl) rfl rfl ?_
      refine j_iconst 225 hC (dg DX10_readsCommand 104 rfl) (v := 2) (by decide) ?_
      refine j_iload_n 226 hC 1 (dg DX10_readsCommand 105 rfl) rfl rfl ?_
      refine j_iconst 227 hC (dg DX10_readsCommand 106 rfl) (v := 1) (by decide) ?_
      refine j_iadd 228 hC (dg DX10_readsCommand 107 rfl) ?_
      refine j_Vi (As := [.int 2, .int ((4 * (σ 95 15)) + 1)]) 229 hC (m_X10_isNumber  hw) kX10_212 (k_95) (by decide) ⟨_, _, rfl⟩ (rmN_ok (by decide) (by decide)) rfl rfl (Nat.le_of_ble_eq_true rfl) (dg DX10_readsCommand 108 rfl) (fun r18 σ17 hw => ?_)
      exact hR 232 _ _ _ (dg DX10_readsCommand 109 rfl) hw
    replace hw := hw.2 n104
    by_cases n112 : r2 = 112
    · replace hw := hw.1 n112
      refine j_lookup 49 100 (off := 51) hC (dg DX10_readsCommand 31 rfl) (by decide) (by rw [n112]; rfl) (by decide) ?_
      refine j_aload_n 100 hC 2 (dg DX10_readsCommand 32 rfl) rfl rfl ?_
      refine j_iload_n 101 hC 0 (dg DX10_readsCommand 33 rfl) rfl rfl ?_
      refine j_bipush 102 hC (dg DX10_readsCommand 34 rfl) (v := 112) (by decide) ?_
      refine j_icmp_ne 104 111 hC (dg DX10_readsCommand 35 rfl) (by decide) (fun hbr => ?_) (fun hbr => ?_)
      · replace hw := hw.2 hbr
        refine j_iconst 111 hC (dg DX10_readsCommand 38 rfl) (v := 1) (by decide) ?_
        refine j_iload_n 112 hC 1 (dg DX10_readsCommand 39 rfl) rfl rfl ?_
        refine j_iconst 113 hC (dg DX10_readsCommand 40 rfl) (v := 1) (by decide) ?_
        refine j_iadd 114 hC (dg DX10_readsCommand 41 rfl) ?_
        refine j_Vi (As := [.int 1, .int ((4 * (σ 95 15)) + 1)]) 115 hC (m_X10_isNumber  hw) kX10_212 (k_95) (by decide) ⟨_, _, rfl⟩ (rmN_ok (by decide) (by decide)) rfl rfl (Nat.le_of_ble_eq_true rfl) (dg DX10_readsCommand 42 rfl) (fun r20 σ19 hw => ?_)
        refine j_if_eq 118 165 hC (dg DX10_readsCommand 43 rfl) (by decide) (fun hbr => ?_) (fun hbr => ?_)
        · replace hw := hw.1 hbr
          refine j_iconst 165 hC (dg DX10_readsCommand 68 rfl) (v := 0) (by decide) ?_
          exact hR 166 _ _ _ (dg DX10_readsCommand 69 rfl) ⟨by decide, hw⟩
        · replace hw := hw.2 hbr
          refine j_aload_n 121 hC 2 (dg DX10_readsCommand 44 rfl) rfl rfl ?_
          refine j_bipush 122 hC (dg DX10_readsCommand 45 rfl) (v := 60) (by decide) ?_
          refine j_Vi (As := [.int 60]) 124 hC (m_X10_isHere  hw) kX10_215 (k_95) (by decide) ⟨_, _, rfl⟩ (rmN_ok (by decide) (by decide)) rfl rfl (Nat.le_of_ble_eq_true rfl) (dg DX10_readsCommand 46 rfl) (fun r22 σ21 hw => ?_)
          refine j_if_eq 127 165 hC (dg DX10_readsCommand 47 rfl) (by decide) (fun hbr => ?_) (fun hbr => ?_)
          · replace hw := hw.1 hbr
            refine j_iconst 165 hC (dg DX10_readsCommand 68 rfl) (v := 0) (by decide) ?_
            exact hR 166 _ _ _ (dg DX10_readsCommand 69 rfl) ⟨by decide, hw⟩
          · replace hw := hw.2 hbr
            refine j_aload_n 130 hC 2 (dg DX10_readsCommand 48 rfl) rfl rfl ?_
            refine j_iconst 131 hC (dg DX10_readsCommand 49 rfl) (v := 2) (by decide) ?_
            refine j_iload_n 132 hC 1 (dg DX10_readsCommand 50 rfl) rfl rfl ?_
            refine j_iconst 133 hC (dg DX10_readsCommand 51 rfl) (v := 2) (by decide) ?_
            refine j_iadd 134 hC (dg DX10_readsCommand 52 rfl) ?_
            refine j_Vi (As := [.int 2, .int ((4 * (σ 95 15)) + 2)]) 135 hC (m_X10_isNumber  hw) kX10_212 (k_95) (by decide) ⟨_, _, rfl⟩ (rmN_ok (by decide) (by decide)) rfl rfl (Nat.le_of_ble_eq_true rfl) (dg DX10_readsCommand 53 rfl) (fun r24 σ23 hw => ?_)
            refine j_if_eq 138 165 hC (dg DX10_readsCommand 54 rfl) (by decide) (fun hbr => ?_) (fun hbr => ?_)
            · replace hw := hw.1 hbr
              refine j_iconst 165 hC (dg DX10_readsCommand 68 rfl) (v := 0) (by decide) ?_
              exact hR 166 _ _ _ (dg DX10_readsCommand 69 rfl) ⟨by decide, hw⟩
            · replace hw := hw.2 hbr
              refine j_aload_n 141 hC 2 (dg DX10_readsCommand 55 rfl) rfl rfl ?_
              refine j_bipush 142 hC (dg DX10_readsCommand 56 rfl) (v := 62) (by decide) ?_
              refine j_Vi (As := [.int 62]) 144 hC (m_X10_isHere  hw) kX10_215 (k_95) (by decide) ⟨_, _, rfl⟩ (rmN_ok (by decide) (by decide)) rfl rfl (Nat.le_of_ble_eq_true rfl) (dg DX10_readsCommand 57 rfl) (fun r26 σ25 hw => ?_)
              refine j_if_eq 147 165 hC (dg DX10_readsCommand 58 rfl) (by decide) (fun hbr => ?_) (fun hbr => ?_)
              · replace hw := hw.1 hbr
                refine j_iconst 165 hC (dg DX10_readsCommand 68 rfl) (v := 0) (by decide) ?_
                exact hR 166 _ _ _ (dg DX10_readsCommand 69 rfl) ⟨by decide, hw⟩
              · replace hw := hw.2 hbr
                refine j_aload_n 150 hC 2 (dg DX10_readsCommand 59 rfl) rfl rfl ?_
                refine j_iconst 151 hC (dg DX10_readsCommand 60 rfl) (v := 2) (by decide) ?_
                refine j_iload_n 152 hC 1 (dg DX10_readsCommand 61 rfl) rfl rfl ?_
                refine j_iconst 153 hC (dg DX10_readsCommand 62 rfl) (v := 3) (by decide) ?_
                refine j_iadd 154 hC (dg DX10_readsCommand 63 rfl) ?_
                refine j_Vi (As := [.int 2, .int ((4 * (σ 95 15)) + 3)]) 155 hC (m_X10_isNumber  hw) kX10_212 (k_95) (by decide) ⟨_, _, rfl⟩ (rmN_ok (by decide) (by decide)) rfl rfl (Nat.le_of_ble_eq_true rfl) (dg DX10_readsCommand 64 rfl) (fun r28 σ27 hw => ?_)
                refine j_if_eq 158 165 hC (dg DX10_readsCommand 65 rfl) (by decide) (fun hbr => ?_) (fun hbr => ?_)
                · replace hw := hw.1 hbr
                  refine j_iconst 165 hC (dg DX10_readsCommand 68 rfl) (v := 0) (by decide) ?_
                  exact hR 166 _ _ _ (dg DX10_readsCommand 69 rfl) ⟨by decide, hw⟩
                · replace hw := hw.2 hbr
                  refine j_iconst 161 hC (dg DX10_readsCommand 66 rfl) (v := 1) (by decide) ?_
                  refine j_goto 162 166 hC (dg DX10_readsCommand 67 rfl) (by decide) ?_
                  exact hR 166 _ _ _ (dg DX10_readsCommand 69 rfl) ⟨by decide, hw⟩
      · replace hw := hw.1 hbr
        refine j_iconst 107 hC (dg DX10_readsCommand 36 rfl) (v := 2) (by decide) ?_
        refine j_goto 108 112 hC (dg DX10_readsCommand 37 rfl) (by decide) ?_
        refine j_iload_n 112 hC 1 (dg DX10_readsCommand 39 rfl) rfl rfl ?_
        refine j_iconst 113 hC (dg DX10_readsCommand 40 rfl) (v := 1) (by decide) ?_
        refine j_iadd 114 hC (dg DX10_readsCommand 41 rfl) ?_
        refine j_Vi (As := [.int 2, .int ((4 * (σ 95 15)) + 1)]) 115 hC (m_X10_isNumber  hw) kX10_212 (k_95) (by decide) ⟨_, _, rfl⟩ (rmN_ok (by decide) (by decide)) rfl rfl (Nat.le_of_ble_eq_true rfl) (dg DX10_readsCommand 42 rfl) (fun r30 σ29 hw => ?_)
        refine j_if_eq 118 165 hC (dg DX10_readsCommand 43 rfl) (by decide) (fun hbr => ?_) (fun hbr => ?_)
        · replace hw := hw.1 hbr
          refine j_iconst 165 hC (dg DX10_readsCommand 68 rfl) (v := 0) (by decide) ?_
          exact hR 166 _ _ _ (dg DX10_readsCommand 69 rfl) ⟨by decide, hw⟩
        · replace hw := hw.2 hbr
          refine j_aload_n 121 hC 2 (dg DX10_readsCommand 44 rfl) rfl rfl ?_
          refine j_bipush 122 hC (dg DX10_readsCommand 45 rfl) (v := 60) (by decide) ?_
          refine j_Vi (As := [.int 60]) 124 hC (m_X10_isHere  hw) kX10_215 (k_95) (by decide) ⟨_, _, rfl⟩ (rmN_ok (by decide) (by decide)) rfl rfl (Nat.le_of_ble_eq_true rfl) (dg DX10_readsCommand 46 rfl) (fun r32 σ31 hw => ?_)
          refine j_if_eq 127 165 hC (dg DX10_readsCommand 47 rfl) (by decide) (fun hbr => ?_) (fun hbr => ?_)
          · replace hw := hw.1 hbr
            refine j_iconst 165 hC (dg DX10_readsCommand 68 rfl) (v := 0) (by decide) ?_
            exact hR 166 _ _ _ (dg DX10_readsCommand 69 rfl) ⟨by decide, hw⟩
          · replace hw := hw.2 hbr
            refine j_aload_n 130 hC 2 (dg DX10_readsCommand 48 rfl) rfl rfl ?_
            refine j_iconst 131 hC (dg DX10_readsCommand 49 rfl) (v := 2) (by decide) ?_
            refine j_iload_n 132 hC 1 (dg DX10_readsCommand 50 rfl) rfl rfl ?_
            refine j_iconst 133 hC (dg DX10_readsCommand 51 rfl) (v := 2) (by decide) ?_
            refine j_iadd 134 hC (dg DX10_readsCommand 52 rfl) ?_
            refine j_Vi (As := [.int 2, .int ((4 * (σ 95 15)) + 2)]) 135 hC (m_X10_isNumber  hw) kX10_212 (k_95) (by decide) ⟨_, _, rfl⟩ (rmN_ok (by decide) (by decide)) rfl rfl (Nat.le_of_ble_eq_true rfl) (dg DX10_readsCommand 53 rfl) (fun r34 σ33 hw => ?_)
            refine j_if_eq 138 165 hC (dg DX10_readsCommand 54 rfl) (by decide) (fun hbr => ?_) (fun hbr => ?_)
            · replace hw := hw.1 hbr
              refine j_iconst 165 hC (dg DX10_readsCommand 68 rfl) (v := 0) (by decide) ?_
              exact hR 166 _ _ _ (dg DX10_readsCommand 69 rfl) ⟨by decide, hw⟩
            · replace hw := hw.2 hbr
              refine j_aload_n 141 hC 2 (dg DX10_readsCommand 55 rfl) rfl rfl ?_
              refine j_bipush 142 hC (dg DX10_readsCommand 56 rfl) (v := 62) (by decide) ?_
              refine j_Vi (As := [.int 62]) 144 hC (m_X10_isHere  hw) kX10_215 (k_95) (by decide) ⟨_, _, rfl⟩ (rmN_ok (by decide) (by decide)) rfl rfl (Nat.le_of_ble_eq_true rfl) (dg DX10_readsCommand 57 rfl) (fun r36 σ35 hw => ?_)
              refine j_if_eq 147 165 hC (dg DX10_readsCommand 58 rfl) (by decide) (fun hbr => ?_) (fun hbr => ?_)
              · replace hw := hw.1 hbr
                refine j_iconst 165 hC (dg DX10_readsCommand 68 rfl) (v := 0) (by decide) ?_
                exact hR 166 _ _ _ (dg DX10_readsCommand 69 rfl) ⟨by decide, hw⟩
              · replace hw := hw.2 hbr
                refine j_aload_n 150 hC 2 (dg DX10_readsCommand 59 rfl) rfl rfl ?_
                refine j_iconst 151 hC (dg DX10_readsCommand 60 rfl) (v := 2) (by decide) ?_
                refine j_iload_n 152 hC 1 (dg DX10_readsCommand 61 rfl) rfl rfl ?_
                refine j_iconst 153 hC (dg DX10_readsCommand 62 rfl) (v := 3) (by decide) ?_
                refine j_iadd 154 hC (dg DX10_readsCommand 63 rfl) ?_
                refine j_Vi (As := [.int 2, .int ((4 * (σ 95 15)) + 3)]) 155 hC (m_X10_isNumber  hw) kX10_212 (k_95) (by decide) ⟨_, _, rfl⟩ (rmN_ok (by decide) (by decide)) rfl rfl (Nat.le_of_ble_eq_true rfl) (dg DX10_readsCommand 64 rfl) (fun r38 σ37 hw => ?_)
                refine j_if_eq 158 165 hC (dg DX10_readsCommand 65 rfl) (by decide) (fun hbr => ?_) (fun hbr => ?_)
                · replace hw := hw.1 hbr
                  refine j_iconst 165 hC (dg DX10_readsCommand 68 rfl) (v := 0) (by decide) ?_
                  exact hR 166 _ _ _ (dg DX10_readsCommand 69 rfl) ⟨by decide, hw⟩
                · replace hw := hw.2 hbr
                  refine j_iconst 161 hC (dg DX10_readsCommand 66 rfl) (v := 1) (by decide) ?_
                  refine j_goto 162 166 hC (dg DX10_readsCommand 67 rfl) (by decide) ?_
                  exact hR 166 _ _ _ (dg DX10_readsCommand 69 rfl) ⟨by decide, hw⟩
    replace hw := hw.2 n112
    by_cases n114 : r2 = 114
    · replace hw := hw.1 n114
      refine j_lookup 49 100 (off := 51) hC (dg DX10_readsCommand 31 rfl) (by decide) (by rw [n114]; rfl) (by decide) ?_
      refine j_aload_n 100 hC 2 (dg DX10_readsCommand 32 rfl) rfl rfl ?_
      refine j_iload_n 101 hC 0 (dg DX10_readsCommand 33 rfl) rfl rfl ?_
      refine j_bipush 102 hC (dg DX10_readsCommand 34 rfl) (v := 112) (by decide) ?_
      refine j_icmp_ne 104 111 hC (dg DX10_readsCommand 35 rfl) (by decide) (fun hbr => ?_) (fun hbr => ?_)
      · replace hw := hw.2 hbr
        refine j_iconst 111 hC (dg DX10_readsCommand 38 rfl) (v := 1) (by decide) ?_
        refine j_iload_n 112 hC 1 (dg DX10_readsCommand 39 rfl) rfl rfl ?_
        refine j_iconst 113 hC (dg DX10_readsCommand 40 rfl) (v := 1) (by decide) ?_
        refine j_iadd 114 hC (dg DX10_readsCommand 41 rfl) ?_
        refine j_Vi (As := [.int 1, .int ((4 * (σ 95 15)) + 1)]) 115 hC (m_X10_isNumber  hw) kX10_212 (k_95) (by decide) ⟨_, _, rfl⟩ (rmN_ok (by decide) (by decide)) rfl rfl (Nat.le_of_ble_eq_true rfl) (dg DX10_readsCommand 42 rfl) (fun r40 σ39 hw => ?_)
        refine j_if_eq 118 165 hC (dg DX10_readsCommand 43 rfl) (by decide) (fun hbr => ?_) (fun hbr => ?_)
        · replace hw := hw.1 hbr
          refine j_iconst 165 hC (dg DX10_readsCommand 68 rfl) (v := 0) (by decide) ?_
          exact hR 166 _ _ _ (dg DX10_readsCommand 69 rfl) ⟨by decide, hw⟩
        · replace hw := hw.2 hbr
          refine j_aload_n 121 hC 2 (dg DX10_readsCommand 44 rfl) rfl rfl ?_
          refine j_bipush 122 hC (dg DX10_readsCommand 45 rfl) (v := 60) (by decide) ?_
          refine j_Vi (As := [.int 60]) 124 hC (m_X10_isHere  hw) kX10_215 (k_95) (by decide) ⟨_, _, rfl⟩ (rmN_ok (by decide) (by decide)) rfl rfl (Nat.le_of_ble_eq_true rfl) (dg DX10_readsCommand 46 rfl) (fun r42 σ41 hw => ?_)
          refine j_if_eq 127 165 hC (dg DX10_readsCommand 47 rfl) (by decide) (fun hbr => ?_) (fun hbr => ?_)
          · replace hw := hw.1 hbr
            refine j_iconst 165 hC (dg DX10_readsCommand 68 rfl) (v := 0) (by decide) ?_
            exact hR 166 _ _ _ (dg DX10_readsCommand 69 rfl) ⟨by decide, hw⟩
          · replace hw := hw.2 hbr
            refine j_aload_n 130 hC 2 (dg DX10_readsCommand 48 rfl) rfl rfl ?_
            refine j_iconst 131 hC (dg DX10_readsCommand 49 rfl) (v := 2) (by decide) ?_
            refine j_iload_n 132 hC 1 (dg DX10_readsCommand 50 rfl) rfl rfl ?_
            refine j_iconst 133 hC (dg DX10_readsCommand 51 rfl) (v := 2) (by decide) ?_
            refine j_iadd 134 hC (dg DX10_readsCommand 52 rfl) ?_
            refine j_Vi (As := [.int 2, .int ((4 * (σ 95 15)) + 2)]) 135 hC (m_X10_isNumber  hw) kX10_212 (k_95) (by decide) ⟨_, _, rfl⟩ (rmN_ok (by decide) (by decide)) rfl rfl (Nat.le_of_ble_eq_true rfl) (dg DX10_readsCommand 53 rfl) (fun r44 σ43 hw => ?_)
            refine j_if_eq 138 165 hC (dg DX10_readsCommand 54 rfl) (by decide) (fun hbr => ?_) (fun hbr => ?_)
            · replace hw := hw.1 hbr
              refine j_iconst 165 hC (dg DX10_readsCommand 68 rfl) (v := 0) (by decide) ?_
              exact hR 166 _ _ _ (dg DX10_readsCommand 69 rfl) ⟨by decide, hw⟩
            · replace hw := hw.2 hbr
              refine j_aload_n 141 hC 2 (dg DX10_readsCommand 55 rfl) rfl rfl ?_
              refine j_bipush 142 hC (dg DX10_readsCommand 56 rfl) (v := 62) (by decide) ?_
              refine j_Vi (As := [.int 62]) 144 hC (m_X10_isHere  hw) kX10_215 (k_95) (by decide) ⟨_, _, rfl⟩ (rmN_ok (by decide) (by decide)) rfl rfl (Nat.le_of_ble_eq_true rfl) (dg DX10_readsCommand 57 rfl) (fun r46 σ45 hw => ?_)
              refine j_if_eq 147 165 hC (dg DX10_readsCommand 58 rfl) (by decide) (fun hbr => ?_) (fun hbr => ?_)
              · replace hw := hw.1 hbr
                refine j_iconst 165 hC (dg DX10_readsCommand 68 rfl) (v := 0) (by decide) ?_
                exact hR 166 _ _ _ (dg DX10_readsCommand 69 rfl) ⟨by decide, hw⟩
              · replace hw := hw.2 hbr
                refine j_aload_n 150 hC 2 (dg DX10_readsCommand 59 rfl) rfl rfl ?_
                refine j_iconst 151 hC (dg DX10_readsCommand 60 rfl) (v := 2) (by decide) ?_
                refine j_iload_n 152 hC 1 (dg DX10_readsCommand 61 rfl) rfl rfl ?_
                refine j_iconst 153 hC (dg DX10_readsCommand 62 rfl) (v := 3) (by decide) ?_
                refine j_iadd 154 hC (dg DX10_readsCommand 63 rfl) ?_
                refine j_Vi (As := [.int 2, .int ((4 * (σ 95 15)) + 3)]) 155 hC (m_X10_isNumber  hw) kX10_212 (k_95) (by decide) ⟨_, _, rfl⟩ (rmN_ok (by decide) (by decide)) rfl rfl (Nat.le_of_ble_eq_true rfl) (dg DX10_readsCommand 64 rfl) (fun r48 σ47 hw => ?_)
                refine j_if_eq 158 165 hC (dg DX10_readsCommand 65 rfl) (by decide) (fun hbr => ?_) (fun hbr => ?_)
                · replace hw := hw.1 hbr
                  refine j_iconst 165 hC (dg DX10_readsCommand 68 rfl) (v := 0) (by decide) ?_
                  exact hR 166 _ _ _ (dg DX10_readsCommand 69 rfl) ⟨by decide, hw⟩
                · replace hw := hw.2 hbr
                  refine j_iconst 161 hC (dg DX10_readsCommand 66 rfl) (v := 1) (by decide) ?_
                  refine j_goto 162 166 hC (dg DX10_readsCommand 67 rfl) (by decide) ?_
                  exact hR 166 _ _ _ (dg DX10_readsCommand 69 rfl) ⟨by decide, hw⟩
      · replace hw := hw.1 hbr
        refine j_iconst 107 hC (dg DX10_readsCommand 36 rfl) (v := 2) (by decide) ?_
        refine j_goto 108 112 hC (dg DX10_readsCommand 37 rfl) (by decide) ?_
        refine j_iload_n 112 hC 1 (dg DX10_readsCommand 39 rfl) rfl rfl ?_
        refine j_iconst 113 hC (dg DX10_readsCommand 40 rfl) (v := 1) (by decide) ?_
        refine j_iadd 114 hC (dg DX10_readsCommand 41 rfl) ?_
        refine j_Vi (As := [.int 2, .int ((4 * (σ 95 15)) + 1)]) 115 hC (m_X10_isNumber  hw) kX10_212 (k_95) (by decide) ⟨_, _, rfl⟩ (rmN_ok (by decide) (by decide)) rfl rfl (Nat.le_of_ble_eq_true rfl) (dg DX10_readsCommand 42 rfl) (fun r50 σ49 hw => ?_)
        refine j_if_eq 118 165 hC (dg DX10_readsCommand 43 rfl) (by decide) (fun hbr => ?_) (fun hbr => ?_)
        · replace hw := hw.1 hbr
          refine j_iconst 165 hC (dg DX10_readsCommand 68 rfl) (v := 0) (by decide) ?_
          exact hR 166 _ _ _ (dg DX10_readsCommand 69 rfl) ⟨by decide, hw⟩
        · replace hw := hw.2 hbr
          refine j_aload_n 121 hC 2 (dg DX10_readsCommand 44 rfl) rfl rfl ?_
          refine j_bipush 122 hC (dg DX10_readsCommand 45 rfl) (v := 60) (by decide) ?_
          refine j_Vi (As := [.int 60]) 124 hC (m_X10_isHere  hw) kX10_215 (k_95) (by decide) ⟨_, _, rfl⟩ (rmN_ok (by decide) (by decide)) rfl rfl (Nat.le_of_ble_eq_true rfl) (dg DX10_readsCommand 46 rfl) (fun r52 σ51 hw => ?_)
          refine j_if_eq 127 165 hC (dg DX10_readsCommand 47 rfl) (by decide) (fun hbr => ?_) (fun hbr => ?_)
          · replace hw := hw.1 hbr
            refine j_iconst 165 hC (dg DX10_readsCommand 68 rfl) (v := 0) (by decide) ?_
            exact hR 166 _ _ _ (dg DX10_readsCommand 69 rfl) ⟨by decide, hw⟩
          · replace hw := hw.2 hbr
            refine j_aload_n 130 hC 2 (dg DX10_readsCommand 48 rfl) rfl rfl ?_
            refine j_iconst 131 hC (dg DX10_readsCommand 49 rfl) (v := 2) (by decide) ?_
            refine j_iload_n 132 hC 1 (dg DX10_readsCommand 50 rfl) rfl rfl ?_
            refine j_iconst 133 hC (dg DX10_readsCommand 51 rfl) (v := 2) (by decide) ?_
            refine j_iadd 134 hC (dg DX10_readsCommand 52 rfl) ?_
            refine j_Vi (As := [.int 2, .int ((4 * (σ 95 15)) + 2)]) 135 hC (m_X10_isNumber  hw) kX10_212 (k_95) (by decide) ⟨_, _, rfl⟩ (rmN_ok (by decide) (by decide)) rfl rfl (Nat.le_of_ble_eq_true rfl) (dg DX10_readsCommand 53 rfl) (fun r54 σ53 hw => ?_)
            refine j_if_eq 138 165 hC (dg DX10_readsCommand 54 rfl) (by decide) (fun hbr => ?_) (fun hbr => ?_)
            · replace hw := hw.1 hbr
              refine j_iconst 165 hC (dg DX10_readsCommand 68 rfl) (v := 0) (by decide) ?_
              exact hR 166 _ _ _ (dg DX10_readsCommand 69 rfl) ⟨by decide, hw⟩
            · replace hw := hw.2 hbr
              refine j_aload_n 141 hC 2 (dg DX10_readsCommand 55 rfl) rfl rfl ?_
              refine j_bipush 142 hC (dg DX10_readsCommand 56 rfl) (v := 62) (by decide) ?_
              refine j_Vi (As := [.int 62]) 144 hC (m_X10_isHere  hw) kX10_215 (k_95) (by decide) ⟨_, _, rfl⟩ (rmN_ok (by decide) (by decide)) rfl rfl (Nat.le_of_ble_eq_true rfl) (dg DX10_readsCommand 57 rfl) (fun r56 σ55 hw => ?_)
              refine j_if_eq 147 165 hC (dg DX10_readsCommand 58 rfl) (by decide) (fun hbr => ?_) (fun hbr => ?_)
              · replace hw := hw.1 hbr
                refine j_iconst 165 hC (dg DX10_readsCommand 68 rfl) (v := 0) (by decide) ?_
                exact hR 166 _ _ _ (dg DX10_readsCommand 69 rfl) ⟨by decide, hw⟩
              · replace hw := hw.2 hbr
                refine j_aload_n 150 hC 2 (dg DX10_readsCommand 59 rfl) rfl rfl ?_
                refine j_iconst 151 hC (dg DX10_readsCommand 60 rfl) (v := 2) (by decide) ?_
                refine j_iload_n 152 hC 1 (dg DX10_readsCommand 61 rfl) rfl rfl ?_
                refine j_iconst 153 hC (dg DX10_readsCommand 62 rfl) (v := 3) (by decide) ?_
                refine j_iadd 154 hC (dg DX10_readsCommand 63 rfl) ?_
                refine j_Vi (As := [.int 2, .int ((4 * (σ 95 15)) + 3)]) 155 hC (m_X10_isNumber  hw) kX10_212 (k_95) (by decide) ⟨_, _, rfl⟩ (rmN_ok (by decide) (by decide)) rfl rfl (Nat.le_of_ble_eq_true rfl) (dg DX10_readsCommand 64 rfl) (fun r58 σ57 hw => ?_)
                refine j_if_eq 158 165 hC (dg DX10_readsCommand 65 rfl) (by decide) (fun hbr => ?_) (fun hbr => ?_)
                · replace hw := hw.1 hbr
                  refine j_iconst 165 hC (dg DX10_readsCommand 68 rfl) (v := 0) (by decide) ?_
                  exact hR 166 _ _ _ (dg DX10_readsCommand 69 rfl) ⟨by decide, hw⟩
                · replace hw := hw.2 hbr
                  refine j_iconst 161 hC (dg DX10_readsCommand 66 rfl) (v := 1) (by decide) ?_
                  refine j_goto 162 166 hC (dg DX10_readsCommand 67 rfl) (by decide) ?_
                  exact hR 166 _ _ _ (dg DX10_readsCommand 69 rfl) ⟨by decide, hw⟩
    replace hw := hw.2 n114
    by_cases n119 : r2 = 119
    · replace hw := hw.1 n119
      refine j_lookup 49 233 (off := 184) hC (dg DX10_readsCommand 31 rfl) (by decide) (by rw [n119]; rfl) (by decide) ?_
      refine j_iconst 233 hC (dg DX10_readsCommand 110 rfl) (v := 1) (by decide) ?_
      exact hR 234 _ _ _ (dg DX10_readsCommand 111 rfl) ⟨by decide, hw⟩
    replace hw := hw.2 n119
    have q98 : (r2).toInt ≠ 98 := i32_ne n98
    have q104 : (r2).toInt ≠ 104 := i32_ne n104
    have q112 : (r2).toInt ≠ 112 := i32_ne n112
    have q114 : (r2).toInt ≠ 114 := i32_ne n114
    have q119 : (r2).toInt ≠ 119 := i32_ne n119
    refine j_lookup 49 235 (off := 186) hC (dg DX10_readsCommand 31 rfl) (by decide) (by simp only [Op.lookupswitch.offset, List.find?]; simp [q98, Ne.symm q98, q104, Ne.symm q104, q112, Ne.symm q112, q114, Ne.symm q114, q119, Ne.symm q119]) (by decide) ?_
    refine j_aload_n 235 hC 2 (dg DX10_readsCommand 112 rfl) rfl rfl ?_
    refine j_iconst 236 hC (dg DX10_readsCommand 113 rfl) (v := 1) (by decide) ?_
    refine j_iload_n 237 hC 1 (dg DX10_readsCommand 114 rfl) rfl rfl ?_
    refine j_iconst 238 hC (dg DX10_readsCommand 115 rfl) (v := 1) (by decide) ?_
    refine j_iadd 239 hC (dg DX10_readsCommand 116 rfl) ?_
    refine j_Vi (As := [.int 1, .int ((4 * (σ 95 15)) + 1)]) 240 hC (m_X10_isNumber  hw) kX10_212 (k_95) (by decide) ⟨_, _, rfl⟩ (rmN_ok (by decide) (by decide)) rfl rfl (Nat.le_of_ble_eq_true rfl) (dg DX10_readsCommand 117 rfl) (fun r60 σ59 hw => ?_)
    exact hR 243 _ _ _ (dg DX10_readsCommand 118 rfl) hw
  · replace hw := hw.1 hbr
    refine j_iconst 19 hC (dg DX10_readsCommand 11 rfl) (v := 0) (by decide) ?_
    exact hR 20 _ _ _ (dg DX10_readsCommand 12 rfl) ⟨by decide, hw⟩
theorem m_X10_readsCommand {B : Nat} {σ : SS} {Q : Int32 → SS → Prop} (hw : wp_X10_readsCommand  σ  Q) : MI yX10_readsCommand cX10_readsCommand 3 (some .boolean) 2 46 B 103 RS [.ref (B + 95)] σ Q := MI.mkZ (plainFor_of_name (by decide)) (Nat.le_of_ble_eq_true rfl) (fun X hC hR => t_X10_readsCommand hC  hR hw)
-- FortressWatchModel.isText
def bd_X10_isText_15    (Q : Int32 → SS → Prop)  (rc : SS → Int32 → Prop) (σ : SS) (v1 : Int32) : Prop :=
  ((v1 = 0 →
      ((v1 = 0 →
          Q 0 σ) ∧
        (¬ v1 = 0 →
          (((σ 95 14) = (σ 95 13) →
              Q 1 σ) ∧
            (¬ (σ 95 14) = (σ 95 13) →
              Q 0 σ))))) ∧
    (¬ v1 = 0 →
      wp_X10_isHere σ 59 (fun r4 σ3 =>
        ((r4 = 0 →
            ((v1 = 0 →
                Q 0 σ3) ∧
              (¬ v1 = 0 →
                (((σ3 95 14) = (σ3 95 13) →
                    Q 1 σ3) ∧
                  (¬ (σ3 95 14) = (σ3 95 13) →
                    Q 0 σ3))))) ∧
          (¬ r4 = 0 →
            wp_X10_readsCommand σ3 (fun r6 σ5 =>
              rc σ5 r6))))))
def wp_X10_isText  (σ : SS)  (Q : Int32 → SS → Prop) : Prop :=
  wp_X10_readsCommand (u2 (u2 σ 95 14 0) 95 15 0) (fun r2 σ1 =>
    ∃ k7, Li (bd_X10_isText_15 Q) k7 σ1 r2)
set_option maxRecDepth 100000 in
set_option maxHeartbeats 4000000 in
theorem tb_X10_isText_15 {X : XT} {B : Nat} (hC : Cx X 2 cX10_isText RX10 (rmN 3 68)) {Q : Int32 → SS → Prop} (hR : RtZ X 2 B 103 RS cX10_isText Q) {rc : SS → Int32 → Prop} (hrc : ∀ (σ : SS) (v1 : Int32), rc σ v1 → J X 2 B 103 RS 0 0 σ [(0, .ref (B + 95)), (1, .int v1)] 15 []) : ∀ (σ : SS) (v1 : Int32), bd_X10_isText_15 Q rc σ v1 → J X 2 B 103 RS 0 0 σ [(0, .ref (B + 95)), (1, .int v1)] 15 [] := by
  intro σ v1 hw
  unfold bd_X10_isText_15 at hw
  refine j_iload_n 15 hC 1 (dg DX10_isText 9 rfl) rfl rfl ?_
  refine j_if_eq 16 36 hC (dg DX10_isText 10 rfl) (by decide) (fun hbr => ?_) (fun hbr => ?_)
  · replace hw := hw.1 hbr
    refine j_iload_n 36 hC 1 (dg DX10_isText 19 rfl) rfl rfl ?_
    refine j_if_eq 37 55 hC (dg DX10_isText 20 rfl) (by decide) (fun hbr => ?_) (fun hbr => ?_)
    · replace hw := hw.1 hbr
      refine j_iconst 55 hC (dg DX10_isText 28 rfl) (v := 0) (by decide) ?_
      exact hR 56 _ _ _ (dg DX10_isText 29 rfl) ⟨by decide, hw⟩
    · replace hw := hw.2 hbr
      refine j_aload_n 40 hC 0 (dg DX10_isText 21 rfl) rfl rfl ?_
      refine j_getI 41 hC fX10_200 (k_95) (by decide) (by decide) rfl (dg DX10_isText 22 rfl) ?_
      refine j_aload_n 44 hC 0 (dg DX10_isText 23 rfl) rfl rfl ?_
      refine j_getI 45 hC fX10_197 (k_95) (by decide) (by decide) rfl (dg DX10_isText 24 rfl) ?_
      refine j_icmp_ne 48 55 hC (dg DX10_isText 25 rfl) (by decide) (fun hbr => ?_) (fun hbr => ?_)
      · replace hw := hw.2 hbr
        refine j_iconst 55 hC (dg DX10_isText 28 rfl) (v := 0) (by decide) ?_
        exact hR 56 _ _ _ (dg DX10_isText 29 rfl) ⟨by decide, hw⟩
      · replace hw := hw.1 hbr
        refine j_iconst 51 hC (dg DX10_isText 26 rfl) (v := 1) (by decide) ?_
        refine j_goto 52 56 hC (dg DX10_isText 27 rfl) (by decide) ?_
        exact hR 56 _ _ _ (dg DX10_isText 29 rfl) ⟨by decide, hw⟩
  · replace hw := hw.2 hbr
    refine j_aload_n 19 hC 0 (dg DX10_isText 11 rfl) rfl rfl ?_
    refine j_bipush 20 hC (dg DX10_isText 12 rfl) (v := 59) (by decide) ?_
    refine j_Vi (As := [.int 59]) 22 hC (m_X10_isHere  hw) kX10_215 (k_95) (by decide) ⟨_, _, rfl⟩ (rmN_ok (by decide) (by decide)) rfl rfl (Nat.le_of_ble_eq_true rfl) (dg DX10_isText 13 rfl) (fun r4 σ3 hw => ?_)
    refine j_if_eq 25 36 hC (dg DX10_isText 14 rfl) (by decide) (fun hbr => ?_) (fun hbr => ?_)
    · replace hw := hw.1 hbr
      refine j_iload_n 36 hC 1 (dg DX10_isText 19 rfl) rfl rfl ?_
      refine j_if_eq 37 55 hC (dg DX10_isText 20 rfl) (by decide) (fun hbr => ?_) (fun hbr => ?_)
      · replace hw := hw.1 hbr
        refine j_iconst 55 hC (dg DX10_isText 28 rfl) (v := 0) (by decide) ?_
        exact hR 56 _ _ _ (dg DX10_isText 29 rfl) ⟨by decide, hw⟩
      · replace hw := hw.2 hbr
        refine j_aload_n 40 hC 0 (dg DX10_isText 21 rfl) rfl rfl ?_
        refine j_getI 41 hC fX10_200 (k_95) (by decide) (by decide) rfl (dg DX10_isText 22 rfl) ?_
        refine j_aload_n 44 hC 0 (dg DX10_isText 23 rfl) rfl rfl ?_
        refine j_getI 45 hC fX10_197 (k_95) (by decide) (by decide) rfl (dg DX10_isText 24 rfl) ?_
        refine j_icmp_ne 48 55 hC (dg DX10_isText 25 rfl) (by decide) (fun hbr => ?_) (fun hbr => ?_)
        · replace hw := hw.2 hbr
          refine j_iconst 55 hC (dg DX10_isText 28 rfl) (v := 0) (by decide) ?_
          exact hR 56 _ _ _ (dg DX10_isText 29 rfl) ⟨by decide, hw⟩
        · replace hw := hw.1 hbr
          refine j_iconst 51 hC (dg DX10_isText 26 rfl) (v := 1) (by decide) ?_
          refine j_goto 52 56 hC (dg DX10_isText 27 rfl) (by decide) ?_
          exact hR 56 _ _ _ (dg DX10_isText 29 rfl) ⟨by decide, hw⟩
    · replace hw := hw.2 hbr
      refine j_aload_n 28 hC 0 (dg DX10_isText 15 rfl) rfl rfl ?_
      refine j_Vi (As := []) 29 hC (m_X10_readsCommand  hw) kX10_218 (k_95) (by decide) ⟨_, _, rfl⟩ (rmN_ok (by decide) (by decide)) rfl rfl (Nat.le_of_ble_eq_true rfl) (dg DX10_isText 16 rfl) (fun r6 σ5 hw => ?_)
      refine j_istore_n 32 hC [(1, .int r6), (0, .ref (B + 95))] (dg DX10_isText 17 rfl) rfl (by decide) rfl ?_
      refine j_goto 33 15 hC (dg DX10_isText 18 rfl) (by decide) ?_
      refine j_lv [1, 0] (lv' := [(0, .ref (B + 95)), (1, .int r6)]) rfl ?_
      exact hrc _ _ hw
set_option maxRecDepth 100000 in
set_option maxHeartbeats 4000000 in
theorem t_X10_isText {X : XT} {B : Nat} (hC : Cx X 2 cX10_isText RX10 (rmN 3 68)) {Q : Int32 → SS → Prop} (hR : RtZ X 2 B 103 RS cX10_isText Q) {σ : SS} (hw : wp_X10_isText  σ  Q) : J X 2 B 103 RS 0 0 σ [(0, .ref (B + 95))] 0 [] := by
  unfold wp_X10_isText at hw
  refine j_aload_n 0 hC 0 (dg DX10_isText 0 rfl) rfl rfl ?_
  refine j_iconst 1 hC (dg DX10_isText 1 rfl) (v := 0) (by decide) ?_
  refine j_putI 2 hC fX10_200 (k_95) (by decide) (by decide) rfl fp10_14 rfl (dg DX10_isText 2 rfl) ?_
  refine j_aload_n 5 hC 0 (dg DX10_isText 3 rfl) rfl rfl ?_
  refine j_iconst 6 hC (dg DX10_isText 4 rfl) (v := 0) (by decide) ?_
  refine j_putI 7 hC fX10_206 (k_95) (by decide) (by decide) rfl fp10_15 rfl (dg DX10_isText 5 rfl) ?_
  refine j_aload_n 10 hC 0 (dg DX10_isText 6 rfl) rfl rfl ?_
  refine j_Vi (As := []) 11 hC (m_X10_readsCommand  hw) kX10_218 (k_95) (by decide) ⟨_, _, rfl⟩ (rmN_ok (by decide) (by decide)) rfl rfl (Nat.le_of_ble_eq_true rfl) (dg DX10_isText 7 rfl) (fun r2 σ1 hw => ?_)
  refine j_istore_n 14 hC [(1, .int r2), (0, .ref (B + 95))] (dg DX10_isText 8 rfl) rfl (by decide) rfl ?_
  obtain ⟨k7, hw⟩ := hw
  refine j_lv [1, 0] (lv' := [(0, .ref (B + 95)), (1, .int r2)]) rfl ?_
  exact Li.snd (P := fun τ w1 => J X 2 B 103 RS 0 0 τ [(0, .ref (B + 95)), (1, .int w1)] 15 []) (fun rcc hrcc => tb_X10_isText_15 hC  hR  hrcc) k7 _ _ hw
theorem m_X10_isText {B : Nat} {σ : SS} {Q : Int32 → SS → Prop} (hw : wp_X10_isText  σ  Q) : MI yX10_isText cX10_isText 2 (some .boolean) 3 68 B 103 RS [.ref (B + 95)] σ Q := MI.mkZ (plainFor_of_name (by decide)) (Nat.le_of_ble_eq_true rfl) (fun X hC hR => t_X10_isText hC  hR hw)
