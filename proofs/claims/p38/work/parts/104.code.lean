-- FortressWatch$Wall.postOn
def bd_X8_postOn_2 (a : Nat)   (Q : Int32 → SS → Prop) (l1 : Int32) (rc : SS → Int32 → Prop) (σ : SS) (v2 : Int32) : Prop :=
  ((9 ≤ v2 →
      Q (-1) σ) ∧
    (¬ 9 ≤ v2 →
      vp_in v2 9 ∧
      (((σ (a + 1) v2.toNatClampNeg) = l1 →
          Q v2 σ) ∧
        (¬ (σ (a + 1) v2.toNatClampNeg) = l1 →
          rc σ (v2 + 1)))))
def wp_X8_postOn (a : Nat) (σ : SS) (p1 : Int32) (Q : Int32 → SS → Prop) : Prop :=
  ∃ k1, Li (bd_X8_postOn_2 a Q p1) k1 σ 0
set_option maxRecDepth 100000 in
set_option maxHeartbeats 4000000 in
theorem tb_X8_postOn_2 {X : XT} {B : Nat} (hC : Cx X 3 cX8_postOn RX8 (rmN 0 0)) {a : Nat} {Q : Int32 → SS → Prop} {l1 : Int32} (ha : isW a) (hR : RtI X 3 B 95 RS cX8_postOn Q) {rc : SS → Int32 → Prop} (hrc : ∀ (σ : SS) (v2 : Int32), rc σ v2 → J X 3 B 95 RS 0 0 σ [(0, .ref (B + a)), (1, .int l1), (2, .int v2)] 2 []) : ∀ (σ : SS) (v2 : Int32), bd_X8_postOn_2 a Q l1 rc σ v2 → J X 3 B 95 RS 0 0 σ [(0, .ref (B + a)), (1, .int l1), (2, .int v2)] 2 [] := by
  intro σ v2 hw
  unfold bd_X8_postOn_2 at hw
  refine j_iload_n 2 hC 2 (dg DX8_postOn 2 rfl) rfl rfl ?_
  refine j_bipush 3 hC (dg DX8_postOn 3 rfl) (v := 9) (by decide) ?_
  refine j_icmp_ge 5 26 hC (dg DX8_postOn 4 rfl) (by decide) (fun hbr => ?_) (fun hbr => ?_)
  · replace hw := hw.1 hbr
    refine j_iconst 26 hC (dg DX8_postOn 15 rfl) (v := (-1)) (by decide) ?_
    exact hR 27 _ _ _ (dg DX8_postOn 16 rfl) hw
  · replace hw := hw.2 hbr
    refine j_aload_n 8 hC 0 (dg DX8_postOn 5 rfl) rfl rfl ?_
    refine j_getR 9 hC fX8_9 (kW ha) (lW ha) (by decide) rfl (dg DX8_postOn 6 rfl) ?_
    refine j_iload_n 12 hC 2 (dg DX8_postOn 7 rfl) rfl rfl ?_
    refine j_iald0 13 _ hC (kW1 ha) (lW1 ha) hw.1 rfl (dg DX8_postOn 8 rfl) ?_
    replace hw := hw.2
    refine j_iload_n 14 hC 1 (dg DX8_postOn 9 rfl) rfl rfl ?_
    refine j_icmp_ne 15 20 hC (dg DX8_postOn 10 rfl) (by decide) (fun hbr => ?_) (fun hbr => ?_)
    · replace hw := hw.2 hbr
      refine j_iinc 20 hC 2 (v2 + 1) [(2, .int (v2 + 1)), (0, .ref (B + a)), (1, .int l1)] (dg DX8_postOn 13 rfl) rfl rfl (by decide) rfl ?_
      refine j_goto 23 2 hC (dg DX8_postOn 14 rfl) (by decide) ?_
      refine j_lv [1, 2, 0] (lv' := [(0, .ref (B + a)), (1, .int l1), (2, .int (v2 + 1))]) rfl ?_
      exact hrc _ _ hw
    · replace hw := hw.1 hbr
      refine j_iload_n 18 hC 2 (dg DX8_postOn 11 rfl) rfl rfl ?_
      exact hR 19 _ _ _ (dg DX8_postOn 12 rfl) hw
set_option maxRecDepth 100000 in
set_option maxHeartbeats 4000000 in
theorem t_X8_postOn {X : XT} {B : Nat} (hC : Cx X 3 cX8_postOn RX8 (rmN 0 0)) {a : Nat} (ha : isW a) {Q : Int32 → SS → Prop} (hR : RtI X 3 B 95 RS cX8_postOn Q) {σ : SS} {p1 : Int32} (hw : wp_X8_postOn a σ p1 Q) : J X 3 B 95 RS 0 0 σ [(0, .ref (B + a)), (1, .int p1)] 0 [] := by
  unfold wp_X8_postOn at hw
  refine j_iconst 0 hC (dg DX8_postOn 0 rfl) (v := 0) (by decide) ?_
  refine j_istore_n 1 hC [(2, .int 0), (0, .ref (B + a)), (1, .int p1)] (dg DX8_postOn 1 rfl) rfl (by decide) rfl ?_
  obtain ⟨k1, hw⟩ := hw
  refine j_lv [1, 2, 0] (lv' := [(0, .ref (B + a)), (1, .int p1), (2, .int 0)]) rfl ?_
  exact Li.snd (P := fun τ w2 => J X 3 B 95 RS 0 0 τ [(0, .ref (B + a)), (1, .int p1), (2, .int w2)] 2 []) (fun rcc hrcc => tb_X8_postOn_2 hC ha hR  hrcc) k1 _ _ hw
theorem m_X8_postOn {B : Nat} {a : Nat} (ha : isW a) {σ : SS} {p1 : Int32} {Q : Int32 → SS → Prop} (hw : wp_X8_postOn a σ p1 Q) : MI yX8_postOn cX8_postOn 3 (some .int) 0 0 B 95 RS [.ref (B + a), .int p1] σ Q := MI.mk (plainFor_of_name (by decide)) (Nat.le_of_ble_eq_true rfl) (fun X hC hR => t_X8_postOn hC ha hR hw)
-- FortressWatch$Wall.add
def wp_X8_add (a : Nat) (σ : SS) (p1 : Int32) (p2 : Int32) (p3 : Int32) (Q : Int32 → SS → Prop) : Prop :=
  wp_X8_postOn a σ (-1) (fun r2 σ1 =>
    ((r2 = (-1) →
        Q r2 σ1) ∧
      (¬ r2 = (-1) →
        vp_in r2 9 ∧
        vp_in r2 9 ∧
        ∀ σ3 : SS, σ3 = u2 (u2 σ1 (a + 1) r2.toNatClampNeg p1) (a + 2) r2.toNatClampNeg p2 →
        vp_in r2 9 ∧
        ∀ σ4 : SS, σ4 = u2 (u2 σ3 (a + 3) r2.toNatClampNeg p3) a 6 (((u2 σ3 (a + 3) r2.toNatClampNeg p3) a 6) + 1) →
        Q r2 (u2 σ4 a 8 ((σ4 a 8) + 1)))))
set_option maxRecDepth 100000 in
set_option maxHeartbeats 4000000 in
theorem t_X8_add {X : XT} {B : Nat} (hC : Cx X 5 cX8_add RX8 (rmN 1 22)) {a : Nat} (ha : isW a) {Q : Int32 → SS → Prop} (hR : RtI X 5 B 95 RS cX8_add Q) {σ : SS} {p1 : Int32} {p2 : Int32} {p3 : Int32} (hw : wp_X8_add a σ p1 p2 p3 Q) : J X 5 B 95 RS 0 0 σ [(0, .ref (B + a)), (1, .int p1), (2, .int p2), (3, .int p3)] 0 [] := by
  unfold wp_X8_add at hw
  refine j_aload_n 0 hC 0 (dg DX8_add 0 rfl) rfl rfl ?_
  refine j_iconst 1 hC (dg DX8_add 1 rfl) (v := (-1)) (by decide) ?_
  refine j_Vi (As := [.int (-1)]) 2 hC (m_X8_postOn ha hw) kX8_54 (kW ha) (lW ha) ⟨_, _, rfl⟩ (rmN_ok (by decide) (by decide)) rfl rfl (Nat.le_of_ble_eq_true rfl) (dg DX8_add 2 rfl) (fun r2 σ1 hw => ?_)
  refine j_istore 5 hC [(4, .int r2), (0, .ref (B + a)), (1, .int p1), (2, .int p2), (3, .int p3)] (dg DX8_add 3 rfl) (by decide) rfl ?_
  refine j_iload 7 hC 0 (dg DX8_add 4 rfl) rfl ?_
  refine j_iconst 9 hC (dg DX8_add 5 rfl) (v := (-1)) (by decide) ?_
  refine j_icmp_eq 10 57 hC (dg DX8_add 6 rfl) (by decide) (fun hbr => ?_) (fun hbr => ?_)
  · replace hw := hw.1 hbr
    refine j_iload 57 hC 0 (dg DX8_add 34 rfl) rfl ?_
    exact hR 59 _ _ _ (dg DX8_add 35 rfl) hw
  · replace hw := hw.2 hbr
    refine j_aload_n 13 hC 1 (dg DX8_add 7 rfl) rfl rfl ?_
    refine j_getR 14 hC fX8_9 (kW ha) (lW ha) (by decide) rfl (dg DX8_add 8 rfl) ?_
    refine j_iload 17 hC 0 (dg DX8_add 9 rfl) rfl ?_
    refine j_iload_n 19 hC 2 (dg DX8_add 10 rfl) rfl rfl ?_
    refine j_iast0 20 _ hC (kW1 ha) (lW1 ha) hw.1 rfl (dg DX8_add 11 rfl) ?_
    replace hw := hw.2
    refine j_aload_n 21 hC 1 (dg DX8_add 12 rfl) rfl rfl ?_
    refine j_getR 22 hC fX8_15 (kW ha) (lW ha) (by decide) rfl (dg DX8_add 13 rfl) ?_
    refine j_iload 25 hC 0 (dg DX8_add 14 rfl) rfl ?_
    refine j_iload_n 27 hC 3 (dg DX8_add 15 rfl) rfl rfl ?_
    refine j_iast0 28 _ hC (kW2 ha) (lW2 ha) hw.1 rfl (dg DX8_add 16 rfl) ?_
    replace hw := hw.2
    refine j_sg (fun σ3 es => ?_)
    replace hw := hw _ es
    refine j_aload_n 29 hC 1 (dg DX8_add 17 rfl) rfl rfl ?_
    refine j_getR 30 hC fX8_18 (kW ha) (lW ha) (by decide) rfl (dg DX8_add 18 rfl) ?_
    refine j_iload 33 hC 0 (dg DX8_add 19 rfl) rfl ?_
    refine j_iload_n 35 hC 4 (dg DX8_add 20 rfl) rfl rfl ?_
    refine j_iast0 36 _ hC (kW3 ha) (lW3 ha) hw.1 rfl (dg DX8_add 21 rfl) ?_
    replace hw := hw.2
    refine j_aload_n 37 hC 1 (dg DX8_add 22 rfl) rfl rfl ?_
    refine j_dup 38 hC (dg DX8_add 23 rfl) rfl ?_
    refine j_getI 39 hC fX8_38 (kW ha) (lW ha) (by decide) rfl (dg DX8_add 24 rfl) ?_
    refine j_iconst 42 hC (dg DX8_add 25 rfl) (v := 1) (by decide) ?_
    refine j_iadd 43 hC (dg DX8_add 26 rfl) ?_
    refine j_putI 44 hC fX8_38 (kW ha) (lW ha) (by decide) rfl fp8_6 (rW ha (by decide) (by decide)) (dg DX8_add 27 rfl) ?_
    refine j_sg (fun σ4 es => ?_)
    replace hw := hw _ es
    refine j_aload_n 47 hC 1 (dg DX8_add 28 rfl) rfl rfl ?_
    refine j_dup 48 hC (dg DX8_add 29 rfl) rfl ?_
    refine j_getI 49 hC fX8_45 (kW ha) (lW ha) (by decide) rfl (dg DX8_add 30 rfl) ?_
    refine j_iconst 52 hC (dg DX8_add 31 rfl) (v := 1) (by decide) ?_
    refine j_iadd 53 hC (dg DX8_add 32 rfl) ?_
    refine j_putI 54 hC fX8_45 (kW ha) (lW ha) (by decide) rfl fp8_8 (rW ha (by decide) (by decide)) (dg DX8_add 33 rfl) ?_
    refine j_iload 57 hC 0 (dg DX8_add 34 rfl) rfl ?_
    exact hR 59 _ _ _ (dg DX8_add 35 rfl) hw
theorem m_X8_add {B : Nat} {a : Nat} (ha : isW a) {σ : SS} {p1 : Int32} {p2 : Int32} {p3 : Int32} {Q : Int32 → SS → Prop} (hw : wp_X8_add a σ p1 p2 p3 Q) : MI yX8_add cX8_add 5 (some .int) 1 22 B 95 RS [.ref (B + a), .int p1, .int p2, .int p3] σ Q := MI.mk (plainFor_of_name (by decide)) (Nat.le_of_ble_eq_true rfl) (fun X hC hR => t_X8_add hC ha hR hw)
-- FortressWatch$Wall.empty
def wp_X8_empty (a : Nat) (σ : SS) (p1 : Int32) (Q : SS → Prop) : Prop :=
  vp_in p1 9 ∧
  vp_in p1 9 ∧
  ∀ σ1 : SS, σ1 = u2 (u2 σ (a + 1) p1.toNatClampNeg (-1)) (a + 2) p1.toNatClampNeg 0 →
  vp_in p1 9 ∧
  vp_in p1 9 ∧
  ∀ σ2 : SS, σ2 = u2 (u2 σ1 (a + 3) p1.toNatClampNeg 0) (a + 4) p1.toNatClampNeg (-4) →
  vp_in p1 9 ∧
  vp_in p1 9 ∧
  ∀ σ3 : SS, σ3 = u2 (u2 σ2 (a + 5) p1.toNatClampNeg 0) (a + 6) p1.toNatClampNeg 0 →
  Q σ3
set_option maxRecDepth 100000 in
set_option maxHeartbeats 4000000 in
theorem t_X8_empty {X : XT} {B : Nat} (hC : Cx X 2 cX8_empty RX8 (rmN 0 0)) {a : Nat} (ha : isW a) {Q : SS → Prop} (hR : RtV X 2 B 95 RS cX8_empty Q) {σ : SS} {p1 : Int32} (hw : wp_X8_empty a σ p1 Q) : J X 2 B 95 RS 0 0 σ [(0, .ref (B + a)), (1, .int p1)] 0 [] := by
  unfold wp_X8_empty at hw
  refine j_aload_n 0 hC 0 (dg DX8_empty 0 rfl) rfl rfl ?_
  refine j_getR 1 hC fX8_9 (kW ha) (lW ha) (by decide) rfl (dg DX8_empty 1 rfl) ?_
  refine j_iload_n 4 hC 1 (dg DX8_empty 2 rfl) rfl rfl ?_
  refine j_iconst 5 hC (dg DX8_empty 3 rfl) (v := (-1)) (by decide) ?_
  refine j_iast0 6 _ hC (kW1 ha) (lW1 ha) hw.1 rfl (dg DX8_empty 4 rfl) ?_
  replace hw := hw.2
  refine j_aload_n 7 hC 0 (dg DX8_empty 5 rfl) rfl rfl ?_
  refine j_getR 8 hC fX8_15 (kW ha) (lW ha) (by decide) rfl (dg DX8_empty 6 rfl) ?_
  refine j_iload_n 11 hC 1 (dg DX8_empty 7 rfl) rfl rfl ?_
  refine j_iconst 12 hC (dg DX8_empty 8 rfl) (v := 0) (by decide) ?_
  refine j_iast0 13 _ hC (kW2 ha) (lW2 ha) hw.1 rfl (dg DX8_empty 9 rfl) ?_
  replace hw := hw.2
  refine j_sg (fun σ1 es => ?_)
  replace hw := hw _ es
  refine j_aload_n 14 hC 0 (dg DX8_empty 10 rfl) rfl rfl ?_
  refine j_getR 15 hC fX8_18 (kW ha) (lW ha) (by decide) rfl (dg DX8_empty 11 rfl) ?_
  refine j_iload_n 18 hC 1 (dg DX8_empty 12 rfl) rfl rfl ?_
  refine j_iconst 19 hC (dg DX8_empty 13 rfl) (v := 0) (by decide) ?_
  refine j_iast0 20 _ hC (kW3 ha) (lW3 ha) hw.1 rfl (dg DX8_empty 14 rfl) ?_
  replace hw := hw.2
  refine j_aload_n 21 hC 0 (dg DX8_empty 15 rfl) rfl rfl ?_
  refine j_getR 22 hC fX8_21 (kW ha) (lW ha) (by decide) rfl (dg DX8_empty 16 rfl) ?_
  refine j_iload_n 25 hC 1 (dg DX8_empty 17 rfl) rfl rfl ?_
  refine j_bipush 26 hC (dg DX8_empty 18 rfl) (v := (-4)) (by decide) ?_
  refine j_iast0 28 _ hC (kW4 ha) (lW4 ha) hw.1 rfl (dg DX8_empty 19 rfl) ?_
  replace hw := hw.2
  refine j_sg (fun σ2 es => ?_)
  replace hw := hw _ es
  refine j_aload_n 29 hC 0 (dg DX8_empty 20 rfl) rfl rfl ?_
  refine j_getR 30 hC fX8_24 (kW ha) (lW ha) (by decide) rfl (dg DX8_empty 21 rfl) ?_
  refine j_iload_n 33 hC 1 (dg DX8_empty 22 rfl) rfl rfl ?_
  refine j_iconst 34 hC (dg DX8_empty 23 rfl) (v := 0) (by decide) ?_
  refine j_iast0 35 _ hC (kW5 ha) (lW5 ha) hw.1 rfl (dg DX8_empty 24 rfl) ?_
  replace hw := hw.2
  refine j_aload_n 36 hC 0 (dg DX8_empty 25 rfl) rfl rfl ?_
  refine j_getR 37 hC fX8_27 (kW ha) (lW ha) (by decide) rfl (dg DX8_empty 26 rfl) ?_
  refine j_iload_n 40 hC 1 (dg DX8_empty 27 rfl) rfl rfl ?_
  refine j_iconst 41 hC (dg DX8_empty 28 rfl) (v := 0) (by decide) ?_
  refine j_iast0 42 _ hC (kW6 ha) (lW6 ha) hw.1 rfl (dg DX8_empty 29 rfl) ?_
  replace hw := hw.2
  refine j_sg (fun σ3 es => ?_)
  replace hw := hw _ es
  exact hR 43 _ _ (dg DX8_empty 30 rfl) hw
theorem m_X8_empty {B : Nat} {a : Nat} (ha : isW a) {σ : SS} {p1 : Int32} {Q : SS → Prop} (hw : wp_X8_empty a σ p1 Q) : MV yX8_empty cX8_empty 2 0 0 B 95 RS [.ref (B + a), .int p1] σ Q := MV.mk (plainFor_of_name (by decide)) (Nat.le_of_ble_eq_true rfl) (fun X hC hR => t_X8_empty hC ha hR hw)
-- FortressWatch$Wall.remove
def bd_X8_remove_2 (a : Nat)   (Q : SS → Prop) (l1 : Int32) (rc : SS → Int32 → Prop) (σ : SS) (v2 : Int32) : Prop :=
  ((v2 < 0 →
      wp_X8_empty a σ 8 (fun σ1 =>
        ∀ σ2 : SS, σ2 = u2 (u2 σ1 a 6 ((σ1 a 6) - 1)) a 9 (((u2 σ1 a 6 ((σ1 a 6) - 1)) a 9) + 1) →
        Q σ2)) ∧
    (¬ v2 < 0 →
      ((8 ≤ v2 →
          wp_X8_empty a σ 8 (fun σ3 =>
            ∀ σ4 : SS, σ4 = u2 (u2 σ3 a 6 ((σ3 a 6) - 1)) a 9 (((u2 σ3 a 6 ((σ3 a 6) - 1)) a 9) + 1) →
            Q σ4)) ∧
        (¬ 8 ≤ v2 →
          wp_X8_copyPlace a a σ (v2 + 1) v2 (fun σ5 =>
            rc σ5 (v2 + 1))))))
def wp_X8_remove (a : Nat) (σ : SS) (p1 : Int32) (Q : SS → Prop) : Prop :=
  ∃ k6, Li (bd_X8_remove_2 a Q p1) k6 σ p1
set_option maxRecDepth 100000 in
set_option maxHeartbeats 4000000 in
theorem tb_X8_remove_2 {X : XT} {B : Nat} (hC : Cx X 3 cX8_remove RX8 (rmN 1 23)) {a : Nat} {Q : SS → Prop} {l1 : Int32} (ha : isW a) (hR : RtV X 3 B 95 RS cX8_remove Q) {rc : SS → Int32 → Prop} (hrc : ∀ (σ : SS) (v2 : Int32), rc σ v2 → J X 3 B 95 RS 0 0 σ [(0, .ref (B + a)), (1, .int l1), (2, .int v2)] 2 []) : ∀ (σ : SS) (v2 : Int32), bd_X8_remove_2 a Q l1 rc σ v2 → J X 3 B 95 RS 0 0 σ [(0, .ref (B + a)), (1, .int l1), (2, .int v2)] 2 [] := by
  intro σ v2 hw
  unfold bd_X8_remove_2 at hw
  refine j_iload_n 2 hC 2 (dg DX8_remove 2 rfl) rfl rfl ?_
  refine j_if_lt 3 27 hC (dg DX8_remove 3 rfl) (by decide) (fun hbr => ?_) (fun hbr => ?_)
  · replace hw := hw.1 hbr
    refine j_aload_n 27 hC 0 (dg DX8_remove 16 rfl) rfl rfl ?_
    refine j_bipush 28 hC (dg DX8_remove 17 rfl) (v := 8) (by decide) ?_
    refine j_Vv (As := [.int 8]) 30 hC (m_X8_empty ha hw) kX8_30 (kW ha) (lW ha) ⟨_, _, rfl⟩ (rmN_ok (by decide) (by decide)) rfl rfl (Nat.le_of_ble_eq_true rfl) (dg DX8_remove 18 rfl) (fun σ1 hw => ?_)
    refine j_aload_n 33 hC 0 (dg DX8_remove 19 rfl) rfl rfl ?_
    refine j_dup 34 hC (dg DX8_remove 20 rfl) rfl ?_
    refine j_getI 35 hC fX8_38 (kW ha) (lW ha) (by decide) rfl (dg DX8_remove 21 rfl) ?_
    refine j_iconst 38 hC (dg DX8_remove 22 rfl) (v := 1) (by decide) ?_
    refine j_isub 39 hC (dg DX8_remove 23 rfl) ?_
    refine j_putI 40 hC fX8_38 (kW ha) (lW ha) (by decide) rfl fp8_6 (rW ha (by decide) (by decide)) (dg DX8_remove 24 rfl) ?_
    refine j_aload_n 43 hC 0 (dg DX8_remove 25 rfl) rfl rfl ?_
    refine j_dup 44 hC (dg DX8_remove 26 rfl) rfl ?_
    refine j_getI 45 hC fX8_48 (kW ha) (lW ha) (by decide) rfl (dg DX8_remove 27 rfl) ?_
    refine j_iconst 48 hC (dg DX8_remove 28 rfl) (v := 1) (by decide) ?_
    refine j_iadd 49 hC (dg DX8_remove 29 rfl) ?_
    refine j_putI 50 hC fX8_48 (kW ha) (lW ha) (by decide) rfl fp8_9 (rW ha (by decide) (by decide)) (dg DX8_remove 30 rfl) ?_
    refine j_sg (fun σ2 es => ?_)
    replace hw := hw _ es
    exact hR 53 _ _ (dg DX8_remove 31 rfl) hw
  · replace hw := hw.2 hbr
    refine j_iload_n 6 hC 2 (dg DX8_remove 4 rfl) rfl rfl ?_
    refine j_bipush 7 hC (dg DX8_remove 5 rfl) (v := 8) (by decide) ?_
    refine j_icmp_ge 9 27 hC (dg DX8_remove 6 rfl) (by decide) (fun hbr => ?_) (fun hbr => ?_)
    · replace hw := hw.1 hbr
      refine j_aload_n 27 hC 0 (dg DX8_remove 16 rfl) rfl rfl ?_
      refine j_bipush 28 hC (dg DX8_remove 17 rfl) (v := 8) (by decide) ?_
      refine j_Vv (As := [.int 8]) 30 hC (m_X8_empty ha hw) kX8_30 (kW ha) (lW ha) ⟨_, _, rfl⟩ (rmN_ok (by decide) (by decide)) rfl rfl (Nat.le_of_ble_eq_true rfl) (dg DX8_remove 18 rfl) (fun σ3 hw => ?_)
      refine j_aload_n 33 hC 0 (dg DX8_remove 19 rfl) rfl rfl ?_
      refine j_dup 34 hC (dg DX8_remove 20 rfl) rfl ?_
      refine j_getI 35 hC fX8_38 (kW ha) (lW ha) (by decide) rfl (dg DX8_remove 21 rfl) ?_
      refine j_iconst 38 hC (dg DX8_remove 22 rfl) (v := 1) (by decide) ?_
      refine j_isub 39 hC (dg DX8_remove 23 rfl) ?_
      refine j_putI 40 hC fX8_38 (kW ha) (lW ha) (by decide) rfl fp8_6 (rW ha (by decide) (by decide)) (dg DX8_remove 24 rfl) ?_
      refine j_aload_n 43 hC 0 (dg DX8_remove 25 rfl) rfl rfl ?_
      refine j_dup 44 hC (dg DX8_remove 26 rfl) rfl ?_
      refine j_getI 45 hC fX8_48 (kW ha) (lW ha) (by decide) rfl (dg DX8_remove 27 rfl) ?_
      refine j_iconst 48 hC (dg DX8_remove 28 rfl) (v := 1) (by decide) ?_
      refine j_iadd 49 hC (dg DX8_remove 29 rfl) ?_
      refine j_putI 50 hC fX8_48 (kW ha) (lW ha) (by decide) rfl fp8_9 (rW ha (by decide) (by decide)) (dg DX8_remove 30 rfl) ?_
      refine j_sg (fun σ4 es => ?_)
      replace hw := hw _ es
      exact hR 53 _ _ (dg DX8_remove 31 rfl) hw
    · replace hw := hw.2 hbr
      refine j_aload_n 12 hC 0 (dg DX8_remove 7 rfl) rfl rfl ?_
      refine j_aload_n 13 hC 0 (dg DX8_remove 8 rfl) rfl rfl ?_
      refine j_iload_n 14 hC 2 (dg DX8_remove 9 rfl) rfl rfl ?_
      refine j_iconst 15 hC (dg DX8_remove 10 rfl) (v := 1) (by decide) ?_
      refine j_iadd 16 hC (dg DX8_remove 11 rfl) ?_
      refine j_iload_n 17 hC 2 (dg DX8_remove 12 rfl) rfl rfl ?_
      refine j_Vv (As := [.ref (B + a), .int (v2 + 1), .int v2]) 18 hC (m_X8_copyPlace ha ha hw) kX8_34 (kW ha) (lW ha) ⟨_, _, rfl⟩ (rmN_ok (by decide) (by decide)) rfl rfl (Nat.le_of_ble_eq_true rfl) (dg DX8_remove 13 rfl) (fun σ5 hw => ?_)
      refine j_iinc 21 hC 2 (v2 + 1) [(2, .int (v2 + 1)), (0, .ref (B + a)), (1, .int l1)] (dg DX8_remove 14 rfl) rfl rfl (by decide) rfl ?_
      refine j_goto 24 2 hC (dg DX8_remove 15 rfl) (by decide) ?_
      refine j_lv [1, 2, 0] (lv' := [(0, .ref (B + a)), (1, .int l1), (2, .int (v2 + 1))]) rfl ?_
      exact hrc _ _ hw
set_option maxRecDepth 100000 in
set_option maxHeartbeats 4000000 in
theorem t_X8_remove {X : XT} {B : Nat} (hC : Cx X 3 cX8_remove RX8 (rmN 1 23)) {a : Nat} (ha : isW a) {Q : SS → Prop} (hR : RtV X 3 B 95 RS cX8_remove Q) {σ : SS} {p1 : Int32} (hw : wp_X8_remove a σ p1 Q) : J X 3 B 95 RS 0 0 σ [(0, .ref (B + a)), (1, .int p1)] 0 [] := by
  unfold wp_X8_remove at hw
  refine j_iload_n 0 hC 1 (dg DX8_remove 0 rfl) rfl rfl ?_
  refine j_istore_n 1 hC [(2, .int p1), (0, .ref (B + a)), (1, .int p1)] (dg DX8_remove 1 rfl) rfl (by decide) rfl ?_
  obtain ⟨k6, hw⟩ := hw
  refine j_lv [1, 2, 0] (lv' := [(0, .ref (B + a)), (1, .int p1), (2, .int p1)]) rfl ?_
  exact Li.snd (P := fun τ w2 => J X 3 B 95 RS 0 0 τ [(0, .ref (B + a)), (1, .int p1), (2, .int w2)] 2 []) (fun rcc hrcc => tb_X8_remove_2 hC ha hR  hrcc) k6 _ _ hw
theorem m_X8_remove {B : Nat} {a : Nat} (ha : isW a) {σ : SS} {p1 : Int32} {Q : SS → Prop} (hw : wp_X8_remove a σ p1 Q) : MV yX8_remove cX8_remove 3 1 23 B 95 RS [.ref (B + a), .int p1] σ Q := MV.mk (plainFor_of_name (by decide)) (Nat.le_of_ble_eq_true rfl) (fun X hC hR => t_X8_remove hC ha hR hw)
-- FortressWatch$Wall.manJust
def bd_X8_manJust_2 (a : Nat)   (Q : SS → Prop) (l1 : Int32) (rc : SS → Int32 → Prop) (σ : SS) (v2 : Int32) : Prop :=
  ((9 ≤ v2 →
      Q (u2 σ a 10 ((σ a 10) + 1))) ∧
    (¬ 9 ≤ v2 →
      vp_in v2 9 ∧
      ∀ σ1 : SS, σ1 = u2 σ (a + 6) v2.toNatClampNeg (((l1.toUInt32 >>> (v2.toUInt32 &&& Int32.toUInt32 31)).toInt32) &&& 1) →
      rc σ1 (v2 + 1)))
def wp_X8_manJust (a : Nat) (σ : SS) (p1 : Int32) (Q : SS → Prop) : Prop :=
  ∃ k2, Li (bd_X8_manJust_2 a Q p1) k2 σ 0
set_option maxRecDepth 100000 in
set_option maxHeartbeats 4000000 in
theorem tb_X8_manJust_2 {X : XT} {B : Nat} (hC : Cx X 3 cX8_manJust RX8 (rmN 0 0)) {a : Nat} {Q : SS → Prop} {l1 : Int32} (ha : isW a) (hR : RtV X 3 B 95 RS cX8_manJust Q) {rc : SS → Int32 → Prop} (hrc : ∀ (σ : SS) (v2 : Int32), rc σ v2 → J X 3 B 95 RS 0 0 σ [(0, .ref (B + a)), (1, .int l1), (2, .int v2)] 2 []) : ∀ (σ : SS) (v2 : Int32), bd_X8_manJust_2 a Q l1 rc σ v2 → J X 3 B 95 RS 0 0 σ [(0, .ref (B + a)), (1, .int l1), (2, .int v2)] 2 [] := by
  intro σ v2 hw
  unfold bd_X8_manJust_2 at hw
  refine j_iload_n 2 hC 2 (dg DX8_manJust 2 rfl) rfl rfl ?_
  refine j_bipush 3 hC (dg DX8_manJust 3 rfl) (v := 9) (by decide) ?_
  refine j_icmp_ge 5 25 hC (dg DX8_manJust 4 rfl) (by decide) (fun hbr => ?_) (fun hbr => ?_)
  · replace hw := hw.1 hbr
    refine j_aload_n 25 hC 0 (dg DX8_manJust 16 rfl) rfl rfl ?_
    refine j_dup 26 hC (dg DX8_manJust 17 rfl) rfl ?_
    refine j_getI 27 hC fX8_51 (kW ha) (lW ha) (by decide) rfl (dg DX8_manJust 18 rfl) ?_
    refine j_iconst 30 hC (dg DX8_manJust 19 rfl) (v := 1) (by decide) ?_
    refine j_iadd 31 hC (dg DX8_manJust 20 rfl) ?_
    refine j_putI 32 hC fX8_51 (kW ha) (lW ha) (by decide) rfl fp8_10 (rW ha (by decide) (by decide)) (dg DX8_manJust 21 rfl) ?_
    exact hR 35 _ _ (dg DX8_manJust 22 rfl) hw
  · replace hw := hw.2 hbr
    refine j_aload_n 8 hC 0 (dg DX8_manJust 5 rfl) rfl rfl ?_
    refine j_getR 9 hC fX8_27 (kW ha) (lW ha) (by decide) rfl (dg DX8_manJust 6 rfl) ?_
    refine j_iload_n 12 hC 2 (dg DX8_manJust 7 rfl) rfl rfl ?_
    refine j_iload_n 13 hC 1 (dg DX8_manJust 8 rfl) rfl rfl ?_
    refine j_iload_n 14 hC 2 (dg DX8_manJust 9 rfl) rfl rfl ?_
    refine j_iushr 15 hC (dg DX8_manJust 10 rfl) ?_
    refine j_iconst 16 hC (dg DX8_manJust 11 rfl) (v := 1) (by decide) ?_
    refine j_iand 17 hC (dg DX8_manJust 12 rfl) ?_
    refine j_iast0 18 _ hC (kW6 ha) (lW6 ha) hw.1 rfl (dg DX8_manJust 13 rfl) ?_
    replace hw := hw.2
    refine j_sg (fun σ1 es => ?_)
    replace hw := hw _ es
    refine j_iinc 19 hC 2 (v2 + 1) [(2, .int (v2 + 1)), (0, .ref (B + a)), (1, .int l1)] (dg DX8_manJust 14 rfl) rfl rfl (by decide) rfl ?_
    refine j_goto 22 2 hC (dg DX8_manJust 15 rfl) (by decide) ?_
    refine j_lv [1, 2, 0] (lv' := [(0, .ref (B + a)), (1, .int l1), (2, .int (v2 + 1))]) rfl ?_
    exact hrc _ _ hw
set_option maxRecDepth 100000 in
set_option maxHeartbeats 4000000 in
theorem t_X8_manJust {X : XT} {B : Nat} (hC : Cx X 3 cX8_manJust RX8 (rmN 0 0)) {a : Nat} (ha : isW a) {Q : SS → Prop} (hR : RtV X 3 B 95 RS cX8_manJust Q) {σ : SS} {p1 : Int32} (hw : wp_X8_manJust a σ p1 Q) : J X 3 B 95 RS 0 0 σ [(0, .ref (B + a)), (1, .int p1)] 0 [] := by
  unfold wp_X8_manJust at hw
  refine j_iconst 0 hC (dg DX8_manJust 0 rfl) (v := 0) (by decide) ?_
  refine j_istore_n 1 hC [(2, .int 0), (0, .ref (B + a)), (1, .int p1)] (dg DX8_manJust 1 rfl) rfl (by decide) rfl ?_
  obtain ⟨k2, hw⟩ := hw
  refine j_lv [1, 2, 0] (lv' := [(0, .ref (B + a)), (1, .int p1), (2, .int 0)]) rfl ?_
  exact Li.snd (P := fun τ w2 => J X 3 B 95 RS 0 0 τ [(0, .ref (B + a)), (1, .int p1), (2, .int w2)] 2 []) (fun rcc hrcc => tb_X8_manJust_2 hC ha hR  hrcc) k2 _ _ hw
theorem m_X8_manJust {B : Nat} {a : Nat} (ha : isW a) {σ : SS} {p1 : Int32} {Q : SS → Prop} (hw : wp_X8_manJust a σ p1 Q) : MV yX8_manJust cX8_manJust 3 0 0 B 95 RS [.ref (B + a), .int p1] σ Q := MV.mk (plainFor_of_name (by decide)) (Nat.le_of_ble_eq_true rfl) (fun X hC hR => t_X8_manJust hC ha hR hw)
-- FortressWatch$Wall.numberOf
def wp_X8_numberOf (a : Nat) (σ : SS) (p1 : Int32) (p2 : Int32) (Q : Int32 → SS → Prop) : Prop :=
  wp_X8_isPost a σ p1 (fun r2 σ1 =>
    ((r2 = 0 →
        Q (-1) σ1) ∧
      (¬ r2 = 0 →
        ((p2 = 0 →
            vp_in p1 9 ∧
            Q (σ1 (a + 1) p1.toNatClampNeg) σ1) ∧
          (¬ p2 = 0 →
            ((p2 = 1 →
                vp_in p1 9 ∧
                Q (σ1 (a + 2) p1.toNatClampNeg) σ1) ∧
              (¬ p2 = 1 →
                ((p2 = 2 →
                    vp_in p1 9 ∧
                    Q (σ1 (a + 3) p1.toNatClampNeg) σ1) ∧
                  (¬ p2 = 2 →
                    ((p2 = 3 →
                        vp_in p1 9 ∧
                        Q (σ1 (a + 4) p1.toNatClampNeg) σ1) ∧
                      (¬ p2 = 3 →
                        ((p2 = 4 →
                            vp_in p1 9 ∧
                            Q (σ1 (a + 5) p1.toNatClampNeg) σ1) ∧
                          (¬ p2 = 4 →
                            vp_in p1 9 ∧
                            Q (σ1 (a + 6) p1.toNatClampNeg) σ1)))))))))))))
set_option maxRecDepth 100000 in
set_option maxHeartbeats 4000000 in
theorem t_X8_numberOf {X : XT} {B : Nat} (hC : Cx X 3 cX8_numberOf RX8 (rmN 1 21)) {a : Nat} (ha : isW a) {Q : Int32 → SS → Prop} (hR : RtI X 3 B 95 RS cX8_numberOf Q) {σ : SS} {p1 : Int32} {p2 : Int32} (hw : wp_X8_numberOf a σ p1 p2 Q) : J X 3 B 95 RS 0 0 σ [(0, .ref (B + a)), (1, .int p1), (2, .int p2)] 0 [] := by
  unfold wp_X8_numberOf at hw
  refine j_aload_n 0 hC 0 (dg DX8_numberOf 0 rfl) rfl rfl ?_
  refine j_iload_n 1 hC 1 (dg DX8_numberOf 1 rfl) rfl rfl ?_
  refine j_Vi (As := [.int p1]) 2 hC (m_X8_isPost ha hw) kX8_58 (kW ha) (lW ha) ⟨_, _, rfl⟩ (rmN_ok (by decide) (by decide)) rfl rfl (Nat.le_of_ble_eq_true rfl) (dg DX8_numberOf 2 rfl) (fun r2 σ1 hw => ?_)
  refine j_if_ne 5 10 hC (dg DX8_numberOf 3 rfl) (by decide) (fun hbr => ?_) (fun hbr => ?_)
  · replace hw := hw.2 hbr
    refine j_iload_n 10 hC 2 (dg DX8_numberOf 6 rfl) rfl rfl ?_
    by_cases n0 : p2 = 0
    · replace hw := hw.1 n0
      refine j_tableIn 11 44 hC (dg DX8_numberOf 7 rfl) (by rw [n0]; decide) (by rw [n0]; decide) (off := 33) (by rw [n0]; rfl) (by decide) ?_
      refine j_aload_n 44 hC 0 (dg DX8_numberOf 8 rfl) rfl rfl ?_
      refine j_getR 45 hC fX8_9 (kW ha) (lW ha) (by decide) rfl (dg DX8_numberOf 9 rfl) ?_
      refine j_iload_n 48 hC 1 (dg DX8_numberOf 10 rfl) rfl rfl ?_
      refine j_iald0 49 _ hC (kW1 ha) (lW1 ha) hw.1 rfl (dg DX8_numberOf 11 rfl) ?_
      replace hw := hw.2
      exact hR 50 _ _ _ (dg DX8_numberOf 12 rfl) hw
    replace hw := hw.2 n0
    by_cases n1 : p2 = 1
    · replace hw := hw.1 n1
      refine j_tableIn 11 51 hC (dg DX8_numberOf 7 rfl) (by rw [n1]; decide) (by rw [n1]; decide) (off := 40) (by rw [n1]; rfl) (by decide) ?_
      refine j_aload_n 51 hC 0 (dg DX8_numberOf 13 rfl) rfl rfl ?_
      refine j_getR 52 hC fX8_15 (kW ha) (lW ha) (by decide) rfl (dg DX8_numberOf 14 rfl) ?_
      refine j_iload_n 55 hC 1 (dg DX8_numberOf 15 rfl) rfl rfl ?_
      refine j_iald0 56 _ hC (kW2 ha) (lW2 ha) hw.1 rfl (dg DX8_numberOf 16 rfl) ?_
      replace hw := hw.2
      exact hR 57 _ _ _ (dg DX8_numberOf 17 rfl) hw
    replace hw := hw.2 n1
    by_cases n2 : p2 = 2
    · replace hw := hw.1 n2
      refine j_tableIn 11 58 hC (dg DX8_numberOf 7 rfl) (by rw [n2]; decide) (by rw [n2]; decide) (off := 47) (by rw [n2]; rfl) (by decide) ?_
      refine j_aload_n 58 hC 0 (dg DX8_numberOf 18 rfl) rfl rfl ?_
      refine j_getR 59 hC fX8_18 (kW ha) (lW ha) (by decide) rfl (dg DX8_numberOf 19 rfl) ?_
      refine j_iload_n 62 hC 1 (dg DX8_numberOf 20 rfl) rfl rfl ?_
      refine j_iald0 63 _ hC (kW3 ha) (lW3 ha) hw.1 rfl (dg DX8_numberOf 21 rfl) ?_
      replace hw := hw.2
      exact hR 64 _ _ _ (dg DX8_numberOf 22 rfl) hw
    replace hw := hw.2 n2
    by_cases n3 : p2 = 3
    · replace hw := hw.1 n3
      refine j_tableIn 11 65 hC (dg DX8_numberOf 7 rfl) (by rw [n3]; decide) (by rw [n3]; decide) (off := 54) (by rw [n3]; rfl) (by decide) ?_
      refine j_aload_n 65 hC 0 (dg DX8_numberOf 23 rfl) rfl rfl ?_
      refine j_getR 66 hC fX8_21 (kW ha) (lW ha) (by decide) rfl (dg DX8_numberOf 24 rfl) ?_
      refine j_iload_n 69 hC 1 (dg DX8_numberOf 25 rfl) rfl rfl ?_
      refine j_iald0 70 _ hC (kW4 ha) (lW4 ha) hw.1 rfl (dg DX8_numberOf 26 rfl) ?_
      replace hw := hw.2
      exact hR 71 _ _ _ (dg DX8_numberOf 27 rfl) hw
    replace hw := hw.2 n3
    by_cases n4 : p2 = 4
    · replace hw := hw.1 n4
      refine j_tableIn 11 72 hC (dg DX8_numberOf 7 rfl) (by rw [n4]; decide) (by rw [n4]; decide) (off := 61) (by rw [n4]; rfl) (by decide) ?_
      refine j_aload_n 72 hC 0 (dg DX8_numberOf 28 rfl) rfl rfl ?_
      refine j_getR 73 hC fX8_24 (kW ha) (lW ha) (by decide) rfl (dg DX8_numberOf 29 rfl) ?_
      refine j_iload_n 76 hC 1 (dg DX8_numberOf 30 rfl) rfl rfl ?_
      refine j_iald0 77 _ hC (kW5 ha) (lW5 ha) hw.1 rfl (dg DX8_numberOf 31 rfl) ?_
      replace hw := hw.2
      exact hR 78 _ _ _ (dg DX8_numberOf 32 rfl) hw
    replace hw := hw.2 n4
    have hout : (p2).toInt < 0 ∨ 4 < (p2).toInt := by
      have q0 : (p2).toInt ≠ 0 := i32_ne n0
      have q1 : (p2).toInt ≠ 1 := i32_ne n1
      have q2 : (p2).toInt ≠ 2 := i32_ne n2
      have q3 : (p2).toInt ≠ 3 := i32_ne n3
      have q4 : (p2).toInt ≠ 4 := i32_ne n4
      omega
    refine j_tableOut 11 79 hC (dg DX8_numberOf 7 rfl) hout (by decide) ?_
    refine j_aload_n 79 hC 0 (dg DX8_numberOf 33 rfl) rfl rfl ?_
    refine j_getR 80 hC fX8_27 (kW ha) (lW ha) (by decide) rfl (dg DX8_numberOf 34 rfl) ?_
    refine j_iload_n 83 hC 1 (dg DX8_numberOf 35 rfl) rfl rfl ?_
    refine j_iald0 84 _ hC (kW6 ha) (lW6 ha) hw.1 rfl (dg DX8_numberOf 36 rfl) ?_
    replace hw := hw.2
    exact hR 85 _ _ _ (dg DX8_numberOf 37 rfl) hw
  · replace hw := hw.1 hbr
    refine j_iconst 8 hC (dg DX8_numberOf 4 rfl) (v := (-1)) (by decide) ?_
    exact hR 9 _ _ _ (dg DX8_numberOf 5 rfl) hw
theorem m_X8_numberOf {B : Nat} {a : Nat} (ha : isW a) {σ : SS} {p1 : Int32} {p2 : Int32} {Q : Int32 → SS → Prop} (hw : wp_X8_numberOf a σ p1 p2 Q) : MI yX8_numberOf cX8_numberOf 3 (some .int) 1 21 B 95 RS [.ref (B + a), .int p1, .int p2] σ Q := MI.mk (plainFor_of_name (by decide)) (Nat.le_of_ble_eq_true rfl) (fun X hC hR => t_X8_numberOf hC ha hR hw)
-- FortressWatch$Wall.accountOf
def wp_X8_accountOf (a : Nat) (σ : SS) (p1 : Int32) (Q : Int32 → SS → Prop) : Prop :=
  ((p1 = 7 →
      Q (σ a 7) σ) ∧
    (¬ p1 = 7 →
      ((p1 = 8 →
          Q (σ a 8) σ) ∧
        (¬ p1 = 8 →
          ((p1 = 9 →
              Q (σ a 9) σ) ∧
            (¬ p1 = 9 →
              Q (σ a 10) σ))))))
set_option maxRecDepth 100000 in
set_option maxHeartbeats 4000000 in
theorem t_X8_accountOf {X : XT} {B : Nat} (hC : Cx X 2 cX8_accountOf RX8 (rmN 0 0)) {a : Nat} (ha : isW a) {Q : Int32 → SS → Prop} (hR : RtI X 2 B 95 RS cX8_accountOf Q) {σ : SS} {p1 : Int32} (hw : wp_X8_accountOf a σ p1 Q) : J X 2 B 95 RS 0 0 σ [(0, .ref (B + a)), (1, .int p1)] 0 [] := by
  unfold wp_X8_accountOf at hw
  refine j_iload_n 0 hC 1 (dg DX8_accountOf 0 rfl) rfl rfl ?_
  by_cases n7 : p1 = 7
  · replace hw := hw.1 n7
    refine j_tableIn 1 28 hC (dg DX8_accountOf 1 rfl) (by rw [n7]; decide) (by rw [n7]; decide) (off := 27) (by rw [n7]; rfl) (by decide) ?_
    refine j_aload_n 28 hC 0 (dg DX8_accountOf 2 rfl) rfl rfl ?_
    refine j_getI 29 hC fX8_42 (kW ha) (lW ha) (by decide) rfl (dg DX8_accountOf 3 rfl) ?_
    exact hR 32 _ _ _ (dg DX8_accountOf 4 rfl) hw
  replace hw := hw.2 n7
  by_cases n8 : p1 = 8
  · replace hw := hw.1 n8
    refine j_tableIn 1 33 hC (dg DX8_accountOf 1 rfl) (by rw [n8]; decide) (by rw [n8]; decide) (off := 32) (by rw [n8]; rfl) (by decide) ?_
    refine j_aload_n 33 hC 0 (dg DX8_accountOf 5 rfl) rfl rfl ?_
    refine j_getI 34 hC fX8_45 (kW ha) (lW ha) (by decide) rfl (dg DX8_accountOf 6 rfl) ?_
    exact hR 37 _ _ _ (dg DX8_accountOf 7 rfl) hw
  replace hw := hw.2 n8
  by_cases n9 : p1 = 9
  · replace hw := hw.1 n9
    refine j_tableIn 1 38 hC (dg DX8_accountOf 1 rfl) (by rw [n9]; decide) (by rw [n9]; decide) (off := 37) (by rw [n9]; rfl) (by decide) ?_
    refine j_aload_n 38 hC 0 (dg DX8_accountOf 8 rfl) rfl rfl ?_
    refine j_getI 39 hC fX8_48 (kW ha) (lW ha) (by decide) rfl (dg DX8_accountOf 9 rfl) ?_
    exact hR 42 _ _ _ (dg DX8_accountOf 10 rfl) hw
  replace hw := hw.2 n9
  have hout : (p1).toInt < 7 ∨ 9 < (p1).toInt := by
    have q7 : (p1).toInt ≠ 7 := i32_ne n7
    have q8 : (p1).toInt ≠ 8 := i32_ne n8
    have q9 : (p1).toInt ≠ 9 := i32_ne n9
    omega
  refine j_tableOut 1 43 hC (dg DX8_accountOf 1 rfl) hout (by decide) ?_
  refine j_aload_n 43 hC 0 (dg DX8_accountOf 11 rfl) rfl rfl ?_
  refine j_getI 44 hC fX8_51 (kW ha) (lW ha) (by decide) rfl (dg DX8_accountOf 12 rfl) ?_
  exact hR 47 _ _ _ (dg DX8_accountOf 13 rfl) hw
theorem m_X8_accountOf {B : Nat} {a : Nat} (ha : isW a) {σ : SS} {p1 : Int32} {Q : Int32 → SS → Prop} (hw : wp_X8_accountOf a σ p1 Q) : MI yX8_accountOf cX8_accountOf 2 (some .int) 0 0 B 95 RS [.ref (B + a), .int p1] σ Q := MI.mk (plainFor_of_name (by decide)) (Nat.le_of_ble_eq_true rfl) (fun X hC hR => t_X8_accountOf hC ha hR hw)
-- FortressWatch.isStone
def wp_X9_isStone  (σ : SS) (p0 : Int32) (Q : Int32 → SS → Prop) : Prop :=
  ((p0 < 0 →
      Q 0 σ) ∧
    (¬ p0 < 0 →
      ((24 ≤ p0 →
          Q 0 σ) ∧
        (¬ 24 ≤ p0 →
          Q 1 σ))))
set_option maxRecDepth 100000 in
set_option maxHeartbeats 4000000 in
theorem t_X9_isStone {X : XT} {B : Nat} (hC : Cx X 1 cX9_isStone RX9 (rmN 0 0)) {Q : Int32 → SS → Prop} (hR : RtZ X 1 B 95 RS cX9_isStone Q) {σ : SS} {p0 : Int32} (hw : wp_X9_isStone  σ p0 Q) : J X 1 B 95 RS 0 0 σ [(0, .int p0)] 0 [] := by
  unfold wp_X9_isStone at hw
  refine j_iload_n 0 hC 0 (dg DX9_isStone 0 rfl) rfl rfl ?_
  refine j_if_lt 1 14 hC (dg DX9_isStone 1 rfl) (by decide) (fun hbr => ?_) (fun hbr => ?_)
  · replace hw := hw.1 hbr
    refine j_iconst 14 hC (dg DX9_isStone 7 rfl) (v := 0) (by decide) ?_
    exact hR 15 _ _ _ (dg DX9_isStone 8 rfl) ⟨by decide, hw⟩
  · replace hw := hw.2 hbr
    refine j_iload_n 4 hC 0 (dg DX9_isStone 2 rfl) rfl rfl ?_
    refine j_bipush 5 hC (dg DX9_isStone 3 rfl) (v := 24) (by decide) ?_
    refine j_icmp_ge 7 14 hC (dg DX9_isStone 4 rfl) (by decide) (fun hbr => ?_) (fun hbr => ?_)
    · replace hw := hw.1 hbr
      refine j_iconst 14 hC (dg DX9_isStone 7 rfl) (v := 0) (by decide) ?_
      exact hR 15 _ _ _ (dg DX9_isStone 8 rfl) ⟨by decide, hw⟩
    · replace hw := hw.2 hbr
      refine j_iconst 10 hC (dg DX9_isStone 5 rfl) (v := 1) (by decide) ?_
      refine j_goto 11 15 hC (dg DX9_isStone 6 rfl) (by decide) ?_
      exact hR 15 _ _ _ (dg DX9_isStone 8 rfl) ⟨by decide, hw⟩
theorem m_X9_isStone {B : Nat} {σ : SS} {p0 : Int32} {Q : Int32 → SS → Prop} (hw : wp_X9_isStone  σ p0 Q) : MI yX9_isStone cX9_isStone 1 (some .boolean) 0 0 B 95 RS [.int p0] σ Q := MI.mkZ (plainFor_of_name (by decide)) (Nat.le_of_ble_eq_true rfl) (fun X hC hR => t_X9_isStone hC  hR hw)
-- FortressWatch.isReach
def wp_X9_isReach  (σ : SS) (p0 : Int32) (Q : Int32 → SS → Prop) : Prop :=
  ((p0 < 0 →
      Q 0 σ) ∧
    (¬ p0 < 0 →
      ((11 < p0 →
          Q 0 σ) ∧
        (¬ 11 < p0 →
          Q 1 σ))))
set_option maxRecDepth 100000 in
set_option maxHeartbeats 4000000 in
theorem t_X9_isReach {X : XT} {B : Nat} (hC : Cx X 1 cX9_isReach RX9 (rmN 0 0)) {Q : Int32 → SS → Prop} (hR : RtZ X 1 B 95 RS cX9_isReach Q) {σ : SS} {p0 : Int32} (hw : wp_X9_isReach  σ p0 Q) : J X 1 B 95 RS 0 0 σ [(0, .int p0)] 0 [] := by
  unfold wp_X9_isReach at hw
  refine j_iload_n 0 hC 0 (dg DX9_isReach 0 rfl) rfl rfl ?_
  refine j_if_lt 1 14 hC (dg DX9_isReach 1 rfl) (by decide) (fun hbr => ?_) (fun hbr => ?_)
  · replace hw := hw.1 hbr
    refine j_iconst 14 hC (dg DX9_isReach 7 rfl) (v := 0) (by decide) ?_
    exact hR 15 _ _ _ (dg DX9_isReach 8 rfl) ⟨by decide, hw⟩
  · replace hw := hw.2 hbr
    refine j_iload_n 4 hC 0 (dg DX9_isReach 2 rfl) rfl rfl ?_
    refine j_bipush 5 hC (dg DX9_isReach 3 rfl) (v := 11) (by decide) ?_
    refine j_icmp_gt 7 14 hC (dg DX9_isReach 4 rfl) (by decide) (fun hbr => ?_) (fun hbr => ?_)
    · replace hw := hw.1 hbr
      refine j_iconst 14 hC (dg DX9_isReach 7 rfl) (v := 0) (by decide) ?_
      exact hR 15 _ _ _ (dg DX9_isReach 8 rfl) ⟨by decide, hw⟩
    · replace hw := hw.2 hbr
      refine j_iconst 10 hC (dg DX9_isReach 5 rfl) (v := 1) (by decide) ?_
      refine j_goto 11 15 hC (dg DX9_isReach 6 rfl) (by decide) ?_
      exact hR 15 _ _ _ (dg DX9_isReach 8 rfl) ⟨by decide, hw⟩
theorem m_X9_isReach {B : Nat} {σ : SS} {p0 : Int32} {Q : Int32 → SS → Prop} (hw : wp_X9_isReach  σ p0 Q) : MI yX9_isReach cX9_isReach 1 (some .boolean) 0 0 B 95 RS [.int p0] σ Q := MI.mkZ (plainFor_of_name (by decide)) (Nat.le_of_ble_eq_true rfl) (fun X hC hR => t_X9_isReach hC  hR hw)
-- FortressWatch.refuse
def wp_X9_refuse  (σ : SS) (p1 : Int32) (p2 : Int32) (Q : Int32 → SS → Prop) : Prop :=
  wp_X5_tell σ p1 p2 (σ 0 12) (fun σ1 =>
    Q (-3) σ1)
set_option maxRecDepth 100000 in
set_option maxHeartbeats 4000000 in
theorem t_X9_refuse {X : XT} {B : Nat} (hC : Cx X 3 cX9_refuse RX9 (rmN 1 23)) {Q : Int32 → SS → Prop} (hR : RtI X 3 B 95 RS cX9_refuse Q) {σ : SS} {p1 : Int32} {p2 : Int32} (hw : wp_X9_refuse  σ p1 p2 Q) : J X 3 B 95 RS 0 0 σ [(0, .ref (B + 0)), (1, .int p1), (2, .int p2)] 0 [] := by
  unfold wp_X9_refuse at hw
  refine j_aload_n 0 hC 0 (dg DX9_refuse 0 rfl) rfl rfl ?_
  refine j_getR 1 hC fX9_74 (k_0) (by decide) (by decide) rfl (dg DX9_refuse 1 rfl) ?_
  refine j_iload_n 4 hC 1 (dg DX9_refuse 2 rfl) rfl rfl ?_
  refine j_iload_n 5 hC 2 (dg DX9_refuse 3 rfl) rfl rfl ?_
  refine j_aload_n 6 hC 0 (dg DX9_refuse 4 rfl) rfl rfl ?_
  refine j_getI 7 hC fX9_82 (k_0) (by decide) (by decide) rfl (dg DX9_refuse 5 rfl) ?_
  refine j_Vv (As := [.int p1, .int p2, .int (σ 0 12)]) 10 hC (m_X5_tell  hw) kX9_289 (k_94) (by decide) ⟨_, _, rfl⟩ (rmN_ok (by decide) (by decide)) rfl rfl (Nat.le_of_ble_eq_true rfl) (dg DX9_refuse 6 rfl) (fun σ1 hw => ?_)
  refine j_bipush 13 hC (dg DX9_refuse 7 rfl) (v := (-3)) (by decide) ?_
  exact hR 15 _ _ _ (dg DX9_refuse 8 rfl) hw
theorem m_X9_refuse {B : Nat} {σ : SS} {p1 : Int32} {p2 : Int32} {Q : Int32 → SS → Prop} (hw : wp_X9_refuse  σ p1 p2 Q) : MI yX9_refuse cX9_refuse 3 (some .int) 1 23 B 95 RS [.ref (B + 0), .int p1, .int p2] σ Q := MI.mk (plainFor_of_name (by decide)) (Nat.le_of_ble_eq_true rfl) (fun X hC hR => t_X9_refuse hC  hR hw)
-- FortressWatch.buildPost
def wp_X9_buildPost  (σ : SS) (p1 : Int32) (p2 : Int32) (p3 : Int32) (Q : Int32 → SS → Prop) : Prop :=
  wp_X9_isStone σ p1 (fun r2 σ1 =>
    ((r2 = 0 →
        Q (-1) σ1) ∧
      (¬ r2 = 0 →
        wp_X9_isReach σ1 p2 (fun r4 σ3 =>
          ((r4 = 0 →
              Q (-2) σ3) ∧
            (¬ r4 = 0 →
              wp_X9_isReach σ3 p3 (fun r6 σ5 =>
                ((r6 = 0 →
                    Q (-2) σ5) ∧
                  (¬ r6 = 0 →
                    wp_X8_postOn 1 σ5 p1 (fun r8 σ7 =>
                      ((r8 = (-1) →
                          (((σ7 1 6) < 9 →
                              wp_X8_add 1 σ7 p1 p2 p3 (fun r10 σ9 =>
                                Q r10 σ9)) ∧
                            (¬ (σ7 1 6) < 9 →
                              wp_X9_refuse σ7 1 9 (fun r12 σ11 =>
                                Q r12 σ11)))) ∧
                        (¬ r8 = (-1) →
                          wp_X9_refuse σ7 2 r8 (fun r14 σ13 =>
                            Q r14 σ13)))))))))))))
set_option maxRecDepth 100000 in
set_option maxHeartbeats 4000000 in
theorem t_X9_buildPost {X : XT} {B : Nat} (hC : Cx X 5 cX9_buildPost RX9 (rmN 2 46)) {Q : Int32 → SS → Prop} (hR : RtI X 5 B 95 RS cX9_buildPost Q) {σ : SS} {p1 : Int32} {p2 : Int32} {p3 : Int32} (hw : wp_X9_buildPost  σ p1 p2 p3 Q) : J X 5 B 95 RS 0 0 σ [(0, .ref (B + 0)), (1, .int p1), (2, .int p2), (3, .int p3)] 0 [] := by
  unfold wp_X9_buildPost at hw
  refine j_iload_n 0 hC 1 (dg DX9_buildPost 0 rfl) rfl rfl ?_
  refine j_Si (As := [.int p1]) 1 hC (m_X9_isStone  hw) kX9_154 (rmN_ok (by decide) (by decide)) rfl rfl (Nat.le_of_ble_eq_true rfl) (dg DX9_buildPost 1 rfl) (fun r2 σ1 hw => ?_)
  refine j_if_ne 4 9 hC (dg DX9_buildPost 2 rfl) (by decide) (fun hbr => ?_) (fun hbr => ?_)
  · replace hw := hw.2 hbr
    refine j_iload_n 9 hC 2 (dg DX9_buildPost 5 rfl) rfl rfl ?_
    refine j_Si (As := [.int p2]) 10 hC (m_X9_isReach  hw) kX9_293 (rmN_ok (by decide) (by decide)) rfl rfl (Nat.le_of_ble_eq_true rfl) (dg DX9_buildPost 6 rfl) (fun r4 σ3 hw => ?_)
    refine j_if_eq 13 23 hC (dg DX9_buildPost 7 rfl) (by decide) (fun hbr => ?_) (fun hbr => ?_)
    · replace hw := hw.1 hbr
      refine j_bipush 23 hC (dg DX9_buildPost 11 rfl) (v := (-2)) (by decide) ?_
      exact hR 25 _ _ _ (dg DX9_buildPost 12 rfl) hw
    · replace hw := hw.2 hbr
      refine j_iload_n 16 hC 3 (dg DX9_buildPost 8 rfl) rfl rfl ?_
      refine j_Si (As := [.int p3]) 17 hC (m_X9_isReach  hw) kX9_293 (rmN_ok (by decide) (by decide)) rfl rfl (Nat.le_of_ble_eq_true rfl) (dg DX9_buildPost 9 rfl) (fun r6 σ5 hw => ?_)
      refine j_if_ne 20 26 hC (dg DX9_buildPost 10 rfl) (by decide) (fun hbr => ?_) (fun hbr => ?_)
      · replace hw := hw.2 hbr
        refine j_aload_n 26 hC 0 (dg DX9_buildPost 13 rfl) rfl rfl ?_
        refine j_getR 27 hC fX9_10 (k_0) (by decide) (by decide) rfl (dg DX9_buildPost 14 rfl) ?_
        refine j_iload_n 30 hC 1 (dg DX9_buildPost 15 rfl) rfl rfl ?_
        refine j_Vi (As := [.int p1]) 31 hC (m_X8_postOn isW_1 hw) kX9_296 (k_1) (by decide) ⟨_, _, rfl⟩ (rmN_ok (by decide) (by decide)) rfl rfl (Nat.le_of_ble_eq_true rfl) (dg DX9_buildPost 16 rfl) (fun r8 σ7 hw => ?_)
        refine j_istore 34 hC [(4, .int r8), (0, .ref (B + 0)), (1, .int p1), (2, .int p2), (3, .int p3)] (dg DX9_buildPost 17 rfl) (by decide) rfl ?_
        refine j_iload 36 hC 0 (dg DX9_buildPost 18 rfl) rfl ?_
        refine j_iconst 38 hC (dg DX9_buildPost 19 rfl) (v := (-1)) (by decide) ?_
        refine j_icmp_eq 39 50 hC (dg DX9_buildPost 20 rfl) (by decide) (fun hbr => ?_) (fun hbr => ?_)
        · replace hw := hw.1 hbr
          refine j_aload_n 50 hC 1 (dg DX9_buildPost 26 rfl) rfl rfl ?_
          refine j_getR 51 hC fX9_10 (k_0) (by decide) (by decide) rfl (dg DX9_buildPost 27 rfl) ?_
          refine j_getI 54 hC fX9_203 (k_1) (by decide) (by decide) rfl (dg DX9_buildPost 28 rfl) ?_
          refine j_bipush 57 hC (dg DX9_buildPost 29 rfl) (v := 9) (by decide) ?_
          refine j_icmp_lt 59 70 hC (dg DX9_buildPost 30 rfl) (by decide) (fun hbr => ?_) (fun hbr => ?_)
          · replace hw := hw.1 hbr
            refine j_aload_n 70 hC 1 (dg DX9_buildPost 36 rfl) rfl rfl ?_
            refine j_getR 71 hC fX9_10 (k_0) (by decide) (by decide) rfl (dg DX9_buildPost 37 rfl) ?_
            refine j_iload_n 74 hC 2 (dg DX9_buildPost 38 rfl) rfl rfl ?_
            refine j_iload_n 75 hC 3 (dg DX9_buildPost 39 rfl) rfl rfl ?_
            refine j_iload_n 76 hC 4 (dg DX9_buildPost 40 rfl) rfl rfl ?_
            refine j_Vi (As := [.int p1, .int p2, .int p3]) 77 hC (m_X8_add isW_1 hw) kX9_302 (k_1) (by decide) ⟨_, _, rfl⟩ (rmN_ok (by decide) (by decide)) rfl rfl (Nat.le_of_ble_eq_true rfl) (dg DX9_buildPost 41 rfl) (fun r10 σ9 hw => ?_)
            exact hR 80 _ _ _ (dg DX9_buildPost 42 rfl) hw
          · replace hw := hw.2 hbr
            refine j_aload_n 62 hC 1 (dg DX9_buildPost 31 rfl) rfl rfl ?_
            refine j_iconst 63 hC (dg DX9_buildPost 32 rfl) (v := 1) (by decide) ?_
            refine j_bipush 64 hC (dg DX9_buildPost 33 rfl) (v := 9) (by decide) ?_
            refine j_Vi (As := [.int 1, .int 9]) 66 hC (m_X9_refuse  hw) kX9_299 (k_0) (by decide) ⟨_, _, rfl⟩ (rmN_ok (by decide) (by decide)) rfl rfl (Nat.le_of_ble_eq_true rfl) (dg DX9_buildPost 34 rfl) (fun r12 σ11 hw => ?_)
            exact hR 69 _ _ _ (dg DX9_buildPost 35 rfl) hw
        · replace hw := hw.2 hbr
          refine j_aload_n 42 hC 1 (dg DX9_buildPost 21 rfl) rfl rfl ?_
          refine j_iconst 43 hC (dg DX9_buildPost 22 rfl) (v := 2) (by decide) ?_
          refine j_iload 44 hC 0 (dg DX9_buildPost 23 rfl) rfl ?_
          refine j_Vi (As := [.int 2, .int r8]) 46 hC (m_X9_refuse  hw) kX9_299 (k_0) (by decide) ⟨_, _, rfl⟩ (rmN_ok (by decide) (by decide)) rfl rfl (Nat.le_of_ble_eq_true rfl) (dg DX9_buildPost 24 rfl) (fun r14 σ13 hw => ?_)
          exact hR 49 _ _ _ (dg DX9_buildPost 25 rfl) hw
      · replace hw := hw.1 hbr
        refine j_bipush 23 hC (dg DX9_buildPost 11 rfl) (v := (-2)) (by decide) ?_
        exact hR 25 _ _ _ (dg DX9_buildPost 12 rfl) hw
  · replace hw := hw.1 hbr
    refine j_iconst 7 hC (dg DX9_buildPost 3 rfl) (v := (-1)) (by decide) ?_
    exact hR 8 _ _ _ (dg DX9_buildPost 4 rfl) hw
theorem m_X9_buildPost {B : Nat} {σ : SS} {p1 : Int32} {p2 : Int32} {p3 : Int32} {Q : Int32 → SS → Prop} (hw : wp_X9_buildPost  σ p1 p2 p3 Q) : MI yX9_buildPost cX9_buildPost 5 (some .int) 2 46 B 95 RS [.ref (B + 0), .int p1, .int p2, .int p3] σ Q := MI.mk (plainFor_of_name (by decide)) (Nat.le_of_ble_eq_true rfl) (fun X hC hR => t_X9_buildPost hC  hR hw)
-- FortressWatch.kept
def wp_X9_kept  (σ : SS) (p1 : Int32) (Q : Int32 → SS → Prop) : Prop :=
  ((p1 < 0 →
      Q p1 σ) ∧
    (¬ p1 < 0 →
      wp_X4_keep 8 σ (fun σ1 =>
        Q p1 σ1)))
set_option maxRecDepth 100000 in
set_option maxHeartbeats 4000000 in
theorem t_X9_kept {X : XT} {B : Nat} (hC : Cx X 2 cX9_kept RX9 (rmN 3 67)) {Q : Int32 → SS → Prop} (hR : RtI X 2 B 95 RS cX9_kept Q) {σ : SS} {p1 : Int32} (hw : wp_X9_kept  σ p1 Q) : J X 2 B 95 RS 0 0 σ [(0, .ref (B + 0)), (1, .int p1)] 0 [] := by
  unfold wp_X9_kept at hw
  refine j_iload_n 0 hC 1 (dg DX9_kept 0 rfl) rfl rfl ?_
  refine j_if_lt 1 15 hC (dg DX9_kept 1 rfl) (by decide) (fun hbr => ?_) (fun hbr => ?_)
  · replace hw := hw.1 hbr
    refine j_iload_n 15 hC 1 (dg DX9_kept 7 rfl) rfl rfl ?_
    exact hR 16 _ _ _ (dg DX9_kept 8 rfl) hw
  · replace hw := hw.2 hbr
    refine j_aload_n 4 hC 0 (dg DX9_kept 2 rfl) rfl rfl ?_
    refine j_getR 5 hC fX9_25 (k_0) (by decide) (by decide) rfl (dg DX9_kept 3 rfl) ?_
    refine j_aload_n 8 hC 0 (dg DX9_kept 4 rfl) rfl rfl ?_
    refine j_getR 9 hC fX9_16 (k_0) (by decide) (by decide) rfl (dg DX9_kept 5 rfl) ?_
    refine j_Vv (As := [.ref (B + 8)]) 12 hC (m_X4_keep isW_8 hw) kX9_286 (k_22) (by decide) ⟨_, _, rfl⟩ (rmN_ok (by decide) (by decide)) rfl rfl (Nat.le_of_ble_eq_true rfl) (dg DX9_kept 6 rfl) (fun σ1 hw => ?_)
    refine j_iload_n 15 hC 1 (dg DX9_kept 7 rfl) rfl rfl ?_
    exact hR 16 _ _ _ (dg DX9_kept 8 rfl) hw
theorem m_X9_kept {B : Nat} {σ : SS} {p1 : Int32} {Q : Int32 → SS → Prop} (hw : wp_X9_kept  σ p1 Q) : MI yX9_kept cX9_kept 2 (some .int) 3 67 B 95 RS [.ref (B + 0), .int p1] σ Q := MI.mk (plainFor_of_name (by decide)) (Nat.le_of_ble_eq_true rfl) (fun X hC hR => t_X9_kept hC  hR hw)
-- FortressWatch.post
def wp_X9_post  (σ : SS) (p1 : Int32) (p2 : Int32) (p3 : Int32) (Q : Int32 → SS → Prop) : Prop :=
  wp_X8_copyFrom 8 1 σ (fun σ1 =>
    wp_X9_buildPost σ1 p1 p2 p3 (fun r3 σ2 =>
      wp_X9_kept σ2 r3 (fun r5 σ4 =>
        Q r5 σ4)))
set_option maxRecDepth 100000 in
set_option maxHeartbeats 4000000 in
theorem t_X9_post {X : XT} {B : Nat} (hC : Cx X 4 cX9_post RX9 (rmN 4 88)) {Q : Int32 → SS → Prop} (hR : RtI X 4 B 95 RS cX9_post Q) {σ : SS} {p1 : Int32} {p2 : Int32} {p3 : Int32} (hw : wp_X9_post  σ p1 p2 p3 Q) : J X 4 B 95 RS 0 0 σ [(0, .ref (B + 0)), (1, .int p1), (2, .int p2), (3, .int p3)] 0 [] := by
  unfold wp_X9_post at hw
  refine j_aload_n 0 hC 0 (dg DX9_post 0 rfl) rfl rfl ?_
  refine j_getR 1 hC fX9_16 (k_0) (by decide) (by decide) rfl (dg DX9_post 1 rfl) ?_
  refine j_aload_n 4 hC 0 (dg DX9_post 2 rfl) rfl rfl ?_
  refine j_getR 5 hC fX9_10 (k_0) (by decide) (by decide) rfl (dg DX9_post 3 rfl) ?_
  refine j_Vv (As := [.ref (B + 1)]) 8 hC (m_X8_copyFrom isW_8 isW_1 hw) kX9_86 (k_8) (by decide) ⟨_, _, rfl⟩ (rmN_ok (by decide) (by decide)) rfl rfl (Nat.le_of_ble_eq_true rfl) (dg DX9_post 4 rfl) (fun σ1 hw => ?_)
  refine j_aload_n 11 hC 0 (dg DX9_post 5 rfl) rfl rfl ?_
  refine j_aload_n 12 hC 0 (dg DX9_post 6 rfl) rfl rfl ?_
  refine j_iload_n 13 hC 1 (dg DX9_post 7 rfl) rfl rfl ?_
  refine j_iload_n 14 hC 2 (dg DX9_post 8 rfl) rfl rfl ?_
  refine j_iload_n 15 hC 3 (dg DX9_post 9 rfl) rfl rfl ?_
  refine j_Vi (As := [.int p1, .int p2, .int p3]) 16 hC (m_X9_buildPost  hw) kX9_90 (k_0) (by decide) ⟨_, _, rfl⟩ (rmN_ok (by decide) (by decide)) rfl rfl (Nat.le_of_ble_eq_true rfl) (dg DX9_post 10 rfl) (fun r3 σ2 hw => ?_)
  refine j_Vi (As := [.int r3]) 19 hC (m_X9_kept  hw) kX9_94 (k_0) (by decide) ⟨_, _, rfl⟩ (rmN_ok (by decide) (by decide)) rfl rfl (Nat.le_of_ble_eq_true rfl) (dg DX9_post 11 rfl) (fun r5 σ4 hw => ?_)
  exact hR 22 _ _ _ (dg DX9_post 12 rfl) hw
theorem m_X9_post {B : Nat} {σ : SS} {p1 : Int32} {p2 : Int32} {p3 : Int32} {Q : Int32 → SS → Prop} (hw : wp_X9_post  σ p1 p2 p3 Q) : MI yX9_post cX9_post 4 (some .int) 4 88 B 95 RS [.ref (B + 0), .int p1, .int p2, .int p3] σ Q := MI.mk (plainFor_of_name (by decide)) (Nat.le_of_ble_eq_true rfl) (fun X hC hR => t_X9_post hC  hR hw)
-- FortressWatch.tearDown
def wp_X9_tearDown  (σ : SS) (p1 : Int32) (Q : Int32 → SS → Prop) : Prop :=
  wp_X8_isPost 1 σ p1 (fun r2 σ1 =>
    ((r2 = 0 →
        Q (-1) σ1) ∧
      (¬ r2 = 0 →
        wp_X8_remove 1 σ1 p1 (fun σ3 =>
          Q (σ3 1 6) σ3))))
set_option maxRecDepth 100000 in
set_option maxHeartbeats 4000000 in
theorem t_X9_tearDown {X : XT} {B : Nat} (hC : Cx X 2 cX9_tearDown RX9 (rmN 2 45)) {Q : Int32 → SS → Prop} (hR : RtI X 2 B 95 RS cX9_tearDown Q) {σ : SS} {p1 : Int32} (hw : wp_X9_tearDown  σ p1 Q) : J X 2 B 95 RS 0 0 σ [(0, .ref (B + 0)), (1, .int p1)] 0 [] := by
  unfold wp_X9_tearDown at hw
  refine j_aload_n 0 hC 0 (dg DX9_tearDown 0 rfl) rfl rfl ?_
  refine j_getR 1 hC fX9_10 (k_0) (by decide) (by decide) rfl (dg DX9_tearDown 1 rfl) ?_
  refine j_iload_n 4 hC 1 (dg DX9_tearDown 2 rfl) rfl rfl ?_
  refine j_Vi (As := [.int p1]) 5 hC (m_X8_isPost isW_1 hw) kX9_127 (k_1) (by decide) ⟨_, _, rfl⟩ (rmN_ok (by decide) (by decide)) rfl rfl (Nat.le_of_ble_eq_true rfl) (dg DX9_tearDown 3 rfl) (fun r2 σ1 hw => ?_)
  refine j_if_ne 8 13 hC (dg DX9_tearDown 4 rfl) (by decide) (fun hbr => ?_) (fun hbr => ?_)
  · replace hw := hw.2 hbr
    refine j_aload_n 13 hC 0 (dg DX9_tearDown 7 rfl) rfl rfl ?_
    refine j_getR 14 hC fX9_10 (k_0) (by decide) (by decide) rfl (dg DX9_tearDown 8 rfl) ?_
    refine j_iload_n 17 hC 1 (dg DX9_tearDown 9 rfl) rfl rfl ?_
    refine j_Vv (As := [.int p1]) 18 hC (m_X8_remove isW_1 hw) kX9_305 (k_1) (by decide) ⟨_, _, rfl⟩ (rmN_ok (by decide) (by decide)) rfl rfl (Nat.le_of_ble_eq_true rfl) (dg DX9_tearDown 10 rfl) (fun σ3 hw => ?_)
    refine j_aload_n 21 hC 0 (dg DX9_tearDown 11 rfl) rfl rfl ?_
    refine j_getR 22 hC fX9_10 (k_0) (by decide) (by decide) rfl (dg DX9_tearDown 12 rfl) ?_
    refine j_getI 25 hC fX9_203 (k_1) (by decide) (by decide) rfl (dg DX9_tearDown 13 rfl) ?_
    exact hR 28 _ _ _ (dg DX9_tearDown 14 rfl) hw
  · replace hw := hw.1 hbr
    refine j_iconst 11 hC (dg DX9_tearDown 5 rfl) (v := (-1)) (by decide) ?_
    exact hR 12 _ _ _ (dg DX9_tearDown 6 rfl) hw
theorem m_X9_tearDown {B : Nat} {σ : SS} {p1 : Int32} {Q : Int32 → SS → Prop} (hw : wp_X9_tearDown  σ p1 Q) : MI yX9_tearDown cX9_tearDown 2 (some .int) 2 45 B 95 RS [.ref (B + 0), .int p1] σ Q := MI.mk (plainFor_of_name (by decide)) (Nat.le_of_ble_eq_true rfl) (fun X hC hR => t_X9_tearDown hC  hR hw)
-- FortressWatch.tear
def wp_X9_tear  (σ : SS) (p1 : Int32) (Q : Int32 → SS → Prop) : Prop :=
  wp_X8_copyFrom 8 1 σ (fun σ1 =>
    wp_X9_tearDown σ1 p1 (fun r3 σ2 =>
      wp_X9_kept σ2 r3 (fun r5 σ4 =>
        Q r5 σ4)))
set_option maxRecDepth 100000 in
set_option maxHeartbeats 4000000 in
theorem t_X9_tear {X : XT} {B : Nat} (hC : Cx X 2 cX9_tear RX9 (rmN 4 88)) {Q : Int32 → SS → Prop} (hR : RtI X 2 B 95 RS cX9_tear Q) {σ : SS} {p1 : Int32} (hw : wp_X9_tear  σ p1 Q) : J X 2 B 95 RS 0 0 σ [(0, .ref (B + 0)), (1, .int p1)] 0 [] := by
  unfold wp_X9_tear at hw
  refine j_aload_n 0 hC 0 (dg DX9_tear 0 rfl) rfl rfl ?_
  refine j_getR 1 hC fX9_16 (k_0) (by decide) (by decide) rfl (dg DX9_tear 1 rfl) ?_
  refine j_aload_n 4 hC 0 (dg DX9_tear 2 rfl) rfl rfl ?_
  refine j_getR 5 hC fX9_10 (k_0) (by decide) (by decide) rfl (dg DX9_tear 3 rfl) ?_
  refine j_Vv (As := [.ref (B + 1)]) 8 hC (m_X8_copyFrom isW_8 isW_1 hw) kX9_86 (k_8) (by decide) ⟨_, _, rfl⟩ (rmN_ok (by decide) (by decide)) rfl rfl (Nat.le_of_ble_eq_true rfl) (dg DX9_tear 4 rfl) (fun σ1 hw => ?_)
  refine j_aload_n 11 hC 0 (dg DX9_tear 5 rfl) rfl rfl ?_
  refine j_aload_n 12 hC 0 (dg DX9_tear 6 rfl) rfl rfl ?_
  refine j_iload_n 13 hC 1 (dg DX9_tear 7 rfl) rfl rfl ?_
  refine j_Vi (As := [.int p1]) 14 hC (m_X9_tearDown  hw) kX9_98 (k_0) (by decide) ⟨_, _, rfl⟩ (rmN_ok (by decide) (by decide)) rfl rfl (Nat.le_of_ble_eq_true rfl) (dg DX9_tear 8 rfl) (fun r3 σ2 hw => ?_)
  refine j_Vi (As := [.int r3]) 17 hC (m_X9_kept  hw) kX9_94 (k_0) (by decide) ⟨_, _, rfl⟩ (rmN_ok (by decide) (by decide)) rfl rfl (Nat.le_of_ble_eq_true rfl) (dg DX9_tear 9 rfl) (fun r5 σ4 hw => ?_)
  exact hR 20 _ _ _ (dg DX9_tear 10 rfl) hw
theorem m_X9_tear {B : Nat} {σ : SS} {p1 : Int32} {Q : Int32 → SS → Prop} (hw : wp_X9_tear  σ p1 Q) : MI yX9_tear cX9_tear 2 (some .int) 4 88 B 95 RS [.ref (B + 0), .int p1] σ Q := MI.mk (plainFor_of_name (by decide)) (Nat.le_of_ble_eq_true rfl) (fun X hC hR => t_X9_tear hC  hR hw)
