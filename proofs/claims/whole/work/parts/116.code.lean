-- FortressWatchModel.does
def wp_X10_does  (σ : SS) (p1 : Int32) (Q : Int32 → SS → Prop) : Prop :=
  vp_in (p1 + 1) 144 ∧
  vp_in (p1 + 2) 144 ∧
  vp_in (p1 + 3) 144 ∧
  vp_in p1 144 ∧
  (((σ 102 p1.toNatClampNeg) = 45 →
      wp_X10_tears σ (σ 102 (p1 + 1).toNatClampNeg) (fun r2 σ1 =>
        Q r2 σ1)) ∧
    (¬ (σ 102 p1.toNatClampNeg) = 45 →
      (((σ 102 p1.toNatClampNeg) = 98 →
          wp_X10_blinds σ (σ 102 (p1 + 1).toNatClampNeg) (σ 102 (p1 + 2).toNatClampNeg) (σ 102 (p1 + 3).toNatClampNeg) (fun r4 σ3 =>
            Q r4 σ3)) ∧
        (¬ (σ 102 p1.toNatClampNeg) = 98 →
          (((σ 102 p1.toNatClampNeg) = 104 →
              wp_X10_tellsHour σ (σ 102 (p1 + 1).toNatClampNeg) (fun r6 σ5 =>
                Q r6 σ5)) ∧
            (¬ (σ 102 p1.toNatClampNeg) = 104 →
              (((σ 102 p1.toNatClampNeg) = 108 →
                  wp_X10_mans σ (σ 102 (p1 + 1).toNatClampNeg) 0 (fun r8 σ7 =>
                    Q r8 σ7)) ∧
                (¬ (σ 102 p1.toNatClampNeg) = 108 →
                  (((σ 102 p1.toNatClampNeg) = 109 →
                      wp_X10_mans σ (σ 102 (p1 + 1).toNatClampNeg) 1 (fun r10 σ9 =>
                        Q r10 σ9)) ∧
                    (¬ (σ 102 p1.toNatClampNeg) = 109 →
                      (((σ 102 p1.toNatClampNeg) = 110 →
                          wp_X10_lets σ (σ 102 (p1 + 1).toNatClampNeg) (fun r12 σ11 =>
                            Q r12 σ11)) ∧
                        (¬ (σ 102 p1.toNatClampNeg) = 110 →
                          (((σ 102 p1.toNatClampNeg) = 112 →
                              wp_X10_builds σ (σ 102 (p1 + 1).toNatClampNeg) (σ 102 (p1 + 2).toNatClampNeg) (σ 102 (p1 + 3).toNatClampNeg) (fun r14 σ13 =>
                                Q r14 σ13)) ∧
                            (¬ (σ 102 p1.toNatClampNeg) = 112 →
                              (((σ 102 p1.toNatClampNeg) = 114 →
                                  wp_X10_reaches σ (σ 102 (p1 + 1).toNatClampNeg) (σ 102 (p1 + 2).toNatClampNeg) (σ 102 (p1 + 3).toNatClampNeg) (fun r16 σ15 =>
                                    Q r16 σ15)) ∧
                                (¬ (σ 102 p1.toNatClampNeg) = 114 →
                                  wp_X10_watching σ (fun r18 σ17 =>
                                    Q r18 σ17)))))))))))))))))
set_option maxRecDepth 100000 in
set_option maxHeartbeats 4000000 in
theorem t_X10_does {X : XT} {B : Nat} (hC : Cx X 5 cX10_does RX10 (rmN 5 118)) {Q : Int32 → SS → Prop} (hR : RtI X 5 B 103 RS cX10_does Q) {σ : SS} {p1 : Int32} (hw : wp_X10_does  σ p1 Q) : J X 5 B 103 RS 0 0 σ [(0, .ref (B + 95)), (1, .int p1)] 0 [] := by
  unfold wp_X10_does at hw
  refine j_aload_n 0 hC 0 (dg DX10_does 0 rfl) rfl rfl ?_
  refine j_getR 1 hC fX10_32 (k_95) (by decide) (by decide) rfl (dg DX10_does 1 rfl) ?_
  refine j_iload_n 4 hC 1 (dg DX10_does 2 rfl) rfl rfl ?_
  refine j_iconst 5 hC (dg DX10_does 3 rfl) (v := 1) (by decide) ?_
  refine j_iadd 6 hC (dg DX10_does 4 rfl) ?_
  refine j_iald0 7 _ hC (k_102) (by decide) hw.1 rfl (dg DX10_does 5 rfl) ?_
  replace hw := hw.2
  refine j_istore_n 8 hC [(2, .int (σ 102 (p1 + 1).toNatClampNeg)), (0, .ref (B + 95)), (1, .int p1)] (dg DX10_does 6 rfl) rfl (by decide) rfl ?_
  refine j_aload_n 9 hC 1 (dg DX10_does 7 rfl) rfl rfl ?_
  refine j_getR 10 hC fX10_32 (k_95) (by decide) (by decide) rfl (dg DX10_does 8 rfl) ?_
  refine j_iload_n 13 hC 2 (dg DX10_does 9 rfl) rfl rfl ?_
  refine j_iconst 14 hC (dg DX10_does 10 rfl) (v := 2) (by decide) ?_
  refine j_iadd 15 hC (dg DX10_does 11 rfl) ?_
  refine j_iald0 16 _ hC (k_102) (by decide) hw.1 rfl (dg DX10_does 12 rfl) ?_
  replace hw := hw.2
  refine j_istore_n 17 hC [(3, .int (σ 102 (p1 + 2).toNatClampNeg)), (2, .int (σ 102 (p1 + 1).toNatClampNeg)), (0, .ref (B + 95)), (1, .int p1)] (dg DX10_does 13 rfl) rfl (by decide) rfl ?_
  refine j_aload_n 18 hC 2 (dg DX10_does 14 rfl) rfl rfl ?_
  refine j_getR 19 hC fX10_32 (k_95) (by decide) (by decide) rfl (dg DX10_does 15 rfl) ?_
  refine j_iload_n 22 hC 3 (dg DX10_does 16 rfl) rfl rfl ?_
  refine j_iconst 23 hC (dg DX10_does 17 rfl) (v := 3) (by decide) ?_
  refine j_iadd 24 hC (dg DX10_does 18 rfl) ?_
  refine j_iald0 25 _ hC (k_102) (by decide) hw.1 rfl (dg DX10_does 19 rfl) ?_
  replace hw := hw.2
  refine j_istore 26 hC [(4, .int (σ 102 (p1 + 3).toNatClampNeg)), (3, .int (σ 102 (p1 + 2).toNatClampNeg)), (2, .int (σ 102 (p1 + 1).toNatClampNeg)), (0, .ref (B + 95)), (1, .int p1)] (dg DX10_does 20 rfl) (by decide) rfl ?_
  refine j_aload_n 28 hC 3 (dg DX10_does 21 rfl) rfl rfl ?_
  refine j_getR 29 hC fX10_32 (k_95) (by decide) (by decide) rfl (dg DX10_does 22 rfl) ?_
  refine j_iload_n 32 hC 4 (dg DX10_does 23 rfl) rfl rfl ?_
  refine j_iald0 33 _ hC (k_102) (by decide) hw.1 rfl (dg DX10_does 24 rfl) ?_
  replace hw := hw.2
  by_cases n45 : (σ 102 p1.toNatClampNeg) = 45
  · replace hw := hw.1 n45
    refine j_lookup 34 117 (off := 83) hC (dg DX10_does 25 rfl) (by decide) (by rw [n45]; rfl) (by decide) ?_
    refine j_aload_n 117 hC 3 (dg DX10_does 32 rfl) rfl rfl ?_
    refine j_iload_n 118 hC 2 (dg DX10_does 33 rfl) rfl rfl ?_
    refine j_Vi (As := [.int (σ 102 (p1 + 1).toNatClampNeg)]) 119 hC (m_X10_tears  hw) kX10_110 (k_95) (by decide) ⟨_, _, rfl⟩ (rmN_ok (by decide) (by decide)) rfl rfl (Nat.le_of_ble_eq_true rfl) (dg DX10_does 34 rfl) (fun r2 σ1 hw => ?_)
    exact hR 122 _ _ _ (dg DX10_does 35 rfl) hw
  replace hw := hw.2 n45
  by_cases n98 : (σ 102 p1.toNatClampNeg) = 98
  · replace hw := hw.1 n98
    refine j_lookup 34 132 (off := 98) hC (dg DX10_does 25 rfl) (by decide) (by rw [n98]; rfl) (by decide) ?_
    refine j_aload_n 132 hC 3 (dg DX10_does 42 rfl) rfl rfl ?_
    refine j_iload_n 133 hC 2 (dg DX10_does 43 rfl) rfl rfl ?_
    refine j_iload_n 134 hC 1 (dg DX10_does 44 rfl) rfl rfl ?_
    refine j_iload 135 hC 0 (dg DX10_does 45 rfl) rfl ?_
    refine j_Vi (As := [.int (σ 102 (p1 + 1).toNatClampNeg), .int (σ 102 (p1 + 2).toNatClampNeg), .int (σ 102 (p1 + 3).toNatClampNeg)]) 137 hC (m_X10_blinds  hw) kX10_122 (k_95) (by decide) ⟨_, _, rfl⟩ (rmN_ok (by decide) (by decide)) rfl rfl (Nat.le_of_ble_eq_true rfl) (dg DX10_does 46 rfl) (fun r4 σ3 hw => ?_)
    exact hR 140 _ _ _ (dg DX10_does 47 rfl) hw
  replace hw := hw.2 n98
  by_cases n104 : (σ 102 p1.toNatClampNeg) = 104
  · replace hw := hw.1 n104
    refine j_lookup 34 161 (off := 127) hC (dg DX10_does 25 rfl) (by decide) (by rw [n104]; rfl) (by decide) ?_
    refine j_aload_n 161 hC 3 (dg DX10_does 62 rfl) rfl rfl ?_
    refine j_iload_n 162 hC 2 (dg DX10_does 63 rfl) rfl rfl ?_
    refine j_Vi (As := [.int (σ 102 (p1 + 1).toNatClampNeg)]) 163 hC (m_X10_tellsHour  hw) kX10_141 (k_95) (by decide) ⟨_, _, rfl⟩ (rmN_ok (by decide) (by decide)) rfl rfl (Nat.le_of_ble_eq_true rfl) (dg DX10_does 64 rfl) (fun r6 σ5 hw => ?_)
    exact hR 166 _ _ _ (dg DX10_does 65 rfl) hw
  replace hw := hw.2 n104
  by_cases n108 : (σ 102 p1.toNatClampNeg) = 108
  · replace hw := hw.1 n108
    refine j_lookup 34 154 (off := 120) hC (dg DX10_does 25 rfl) (by decide) (by rw [n108]; rfl) (by decide) ?_
    refine j_aload_n 154 hC 3 (dg DX10_does 57 rfl) rfl rfl ?_
    refine j_iload_n 155 hC 2 (dg DX10_does 58 rfl) rfl rfl ?_
    refine j_iconst 156 hC (dg DX10_does 59 rfl) (v := 0) (by decide) ?_
    refine j_Vi (As := [.int (σ 102 (p1 + 1).toNatClampNeg), .int 0]) 157 hC (m_X10_mans  hw) kX10_135 (k_95) (by decide) ⟨_, _, rfl⟩ (rmN_ok (by decide) (by decide)) rfl rfl (Nat.le_of_ble_eq_true rfl) (dg DX10_does 60 rfl) (fun r8 σ7 hw => ?_)
    exact hR 160 _ _ _ (dg DX10_does 61 rfl) hw
  replace hw := hw.2 n108
  by_cases n109 : (σ 102 p1.toNatClampNeg) = 109
  · replace hw := hw.1 n109
    refine j_lookup 34 147 (off := 113) hC (dg DX10_does 25 rfl) (by decide) (by rw [n109]; rfl) (by decide) ?_
    refine j_aload_n 147 hC 3 (dg DX10_does 52 rfl) rfl rfl ?_
    refine j_iload_n 148 hC 2 (dg DX10_does 53 rfl) rfl rfl ?_
    refine j_iconst 149 hC (dg DX10_does 54 rfl) (v := 1) (by decide) ?_
    refine j_Vi (As := [.int (σ 102 (p1 + 1).toNatClampNeg), .int 1]) 150 hC (m_X10_mans  hw) kX10_135 (k_95) (by decide) ⟨_, _, rfl⟩ (rmN_ok (by decide) (by decide)) rfl rfl (Nat.le_of_ble_eq_true rfl) (dg DX10_does 55 rfl) (fun r10 σ9 hw => ?_)
    exact hR 153 _ _ _ (dg DX10_does 56 rfl) hw
  replace hw := hw.2 n109
  by_cases n110 : (σ 102 p1.toNatClampNeg) = 110
  · replace hw := hw.1 n110
    refine j_lookup 34 141 (off := 107) hC (dg DX10_does 25 rfl) (by decide) (by rw [n110]; rfl) (by decide) ?_
    refine j_aload_n 141 hC 3 (dg DX10_does 48 rfl) rfl rfl ?_
    refine j_iload_n 142 hC 2 (dg DX10_does 49 rfl) rfl rfl ?_
    refine j_Vi (As := [.int (σ 102 (p1 + 1).toNatClampNeg)]) 143 hC (m_X10_lets  hw) kX10_125 (k_95) (by decide) ⟨_, _, rfl⟩ (rmN_ok (by decide) (by decide)) rfl rfl (Nat.le_of_ble_eq_true rfl) (dg DX10_does 50 rfl) (fun r12 σ11 hw => ?_)
    exact hR 146 _ _ _ (dg DX10_does 51 rfl) hw
  replace hw := hw.2 n110
  by_cases n112 : (σ 102 p1.toNatClampNeg) = 112
  · replace hw := hw.1 n112
    refine j_lookup 34 108 (off := 74) hC (dg DX10_does 25 rfl) (by decide) (by rw [n112]; rfl) (by decide) ?_
    refine j_aload_n 108 hC 3 (dg DX10_does 26 rfl) rfl rfl ?_
    refine j_iload_n 109 hC 2 (dg DX10_does 27 rfl) rfl rfl ?_
    refine j_iload_n 110 hC 1 (dg DX10_does 28 rfl) rfl rfl ?_
    refine j_iload 111 hC 0 (dg DX10_does 29 rfl) rfl ?_
    refine j_Vi (As := [.int (σ 102 (p1 + 1).toNatClampNeg), .int (σ 102 (p1 + 2).toNatClampNeg), .int (σ 102 (p1 + 3).toNatClampNeg)]) 113 hC (m_X10_builds  hw) kX10_100 (k_95) (by decide) ⟨_, _, rfl⟩ (rmN_ok (by decide) (by decide)) rfl rfl (Nat.le_of_ble_eq_true rfl) (dg DX10_does 30 rfl) (fun r14 σ13 hw => ?_)
    exact hR 116 _ _ _ (dg DX10_does 31 rfl) hw
  replace hw := hw.2 n112
  by_cases n114 : (σ 102 p1.toNatClampNeg) = 114
  · replace hw := hw.1 n114
    refine j_lookup 34 123 (off := 89) hC (dg DX10_does 25 rfl) (by decide) (by rw [n114]; rfl) (by decide) ?_
    refine j_aload_n 123 hC 3 (dg DX10_does 36 rfl) rfl rfl ?_
    refine j_iload_n 124 hC 2 (dg DX10_does 37 rfl) rfl rfl ?_
    refine j_iload_n 125 hC 1 (dg DX10_does 38 rfl) rfl rfl ?_
    refine j_iload 126 hC 0 (dg DX10_does 39 rfl) rfl ?_
    refine j_Vi (As := [.int (σ 102 (p1 + 1).toNatClampNeg), .int (σ 102 (p1 + 2).toNatClampNeg), .int (σ 102 (p1 + 3).toNatClampNeg)]) 128 hC (m_X10_reaches  hw) kX10_113 (k_95) (by decide) ⟨_, _, rfl⟩ (rmN_ok (by decide) (by decide)) rfl rfl (Nat.le_of_ble_eq_true rfl) (dg DX10_does 40 rfl) (fun r16 σ15 hw => ?_)
    exact hR 131 _ _ _ (dg DX10_does 41 rfl) hw
  replace hw := hw.2 n114
  have q45 : ((σ 102 p1.toNatClampNeg)).toInt ≠ 45 := i32_ne n45
  have q98 : ((σ 102 p1.toNatClampNeg)).toInt ≠ 98 := i32_ne n98
  have q104 : ((σ 102 p1.toNatClampNeg)).toInt ≠ 104 := i32_ne n104
  have q108 : ((σ 102 p1.toNatClampNeg)).toInt ≠ 108 := i32_ne n108
  have q109 : ((σ 102 p1.toNatClampNeg)).toInt ≠ 109 := i32_ne n109
  have q110 : ((σ 102 p1.toNatClampNeg)).toInt ≠ 110 := i32_ne n110
  have q112 : ((σ 102 p1.toNatClampNeg)).toInt ≠ 112 := i32_ne n112
  have q114 : ((σ 102 p1.toNatClampNeg)).toInt ≠ 114 := i32_ne n114
  refine j_lookup 34 167 (off := 133) hC (dg DX10_does 25 rfl) (by decide) (by simp only [Op.lookupswitch.offset, List.find?]; simp [q45, Ne.symm q45, q98, Ne.symm q98, q104, Ne.symm q104, q108, Ne.symm q108, q109, Ne.symm q109, q110, Ne.symm q110, q112, Ne.symm q112, q114, Ne.symm q114]) (by decide) ?_
  refine j_aload_n 167 hC 3 (dg DX10_does 66 rfl) rfl rfl ?_
  refine j_Vi (As := []) 168 hC (m_X10_watching  hw) kX10_151 (k_95) (by decide) ⟨_, _, rfl⟩ (rmN_ok (by decide) (by decide)) rfl rfl (Nat.le_of_ble_eq_true rfl) (dg DX10_does 67 rfl) (fun r18 σ17 hw => ?_)
  exact hR 171 _ _ _ (dg DX10_does 68 rfl) hw
theorem m_X10_does {B : Nat} {σ : SS} {p1 : Int32} {Q : Int32 → SS → Prop} (hw : wp_X10_does  σ p1 Q) : MI yX10_does cX10_does 5 (some .int) 5 118 B 103 RS [.ref (B + 95), .int p1] σ Q := MI.mk (plainFor_of_name (by decide)) (Nat.le_of_ble_eq_true rfl) (fun X hC hR => t_X10_does hC  hR hw)
-- FortressWatchModel.read
def bd_X10_read_28    (Q : Int32 → SS → Prop) (l1 : Int32) (rc : SS → Int32 → Prop) (σ : SS) (v2 : Int32) : Prop :=
  (((σ 95 15) ≤ v2 →
      wp_X10_ends σ (σ 95 15) (fun r5 σ4 =>
        Q r5 σ4)) ∧
    (¬ (σ 95 15) ≤ v2 →
      wp_X10_does σ (4 * v2) (fun r7 σ6 =>
        ((0 ≤ r7 →
            rc σ6 (v2 + 1)) ∧
          (¬ 0 ≤ r7 →
            ((r7 = (-3) →
                wp_X10_copies 97 59 96 59 (u2 σ6 95 7 v2) 0 0 (fun σ9 =>
                  ((r7 = (-3) →
                      Q (-3) σ9) ∧
                    (¬ r7 = (-3) →
                      Q (-2) σ9)))) ∧
              (¬ r7 = (-3) →
                wp_X10_copies 97 59 96 59 (u2 σ6 95 7 (σ6 95 7)) 0 0 (fun σ8 =>
                  ((r7 = (-3) →
                      Q (-3) σ8) ∧
                    (¬ r7 = (-3) →
                      Q (-2) σ8))))))))))
def wp_X10_read  (σ : SS)  (Q : Int32 → SS → Prop) : Prop :=
  wp_X10_isText σ (fun r2 σ1 =>
    ((r2 = 0 →
        Q ((-100) - ((u2 σ1 95 13 0) 95 14)) (u2 σ1 95 13 0)) ∧
      (¬ r2 = 0 →
        wp_X10_keeps (u2 σ1 95 13 0) (fun σ3 =>
          ∃ k10, Li (bd_X10_read_28 Q r2) k10 σ3 0))))
set_option maxRecDepth 100000 in
set_option maxHeartbeats 4000000 in
theorem tb_X10_read_28 {X : XT} {B : Nat} (hC : Cx X 4 cX10_read RX10 (rmN 6 142)) {Q : Int32 → SS → Prop} {l1 : Int32} (hR : RtI X 4 B 103 RS cX10_read Q) {rc : SS → Int32 → Prop} (hrc : ∀ (σ : SS) (v2 : Int32), rc σ v2 → J X 4 B 103 RS 0 0 σ [(0, .ref (B + 95)), (1, .int l1), (2, .int v2)] 28 []) : ∀ (σ : SS) (v2 : Int32), bd_X10_read_28 Q l1 rc σ v2 → J X 4 B 103 RS 0 0 σ [(0, .ref (B + 95)), (1, .int l1), (2, .int v2)] 28 [] := by
  intro σ v2 hw
  unfold bd_X10_read_28 at hw
  refine j_iload_n 28 hC 2 (dg DX10_read 17 rfl) rfl rfl ?_
  refine j_aload_n 29 hC 0 (dg DX10_read 18 rfl) rfl rfl ?_
  refine j_getI 30 hC fX10_206 (k_95) (by decide) (by decide) rfl (dg DX10_read 19 rfl) ?_
  refine j_icmp_ge 33 99 hC (dg DX10_read 20 rfl) (by decide) (fun hbr => ?_) (fun hbr => ?_)
  · replace hw := hw.1 hbr
    refine j_aload_n 99 hC 0 (dg DX10_read 54 rfl) rfl rfl ?_
    refine j_aload_n 100 hC 0 (dg DX10_read 55 rfl) rfl rfl ?_
    refine j_getI 101 hC fX10_206 (k_95) (by decide) (by decide) rfl (dg DX10_read 56 rfl) ?_
    refine j_Vi (As := [.int (σ 95 15)]) 104 hC (m_X10_ends  hw) kX10_104 (k_95) (by decide) ⟨_, _, rfl⟩ (rmN_ok (by decide) (by decide)) rfl rfl (Nat.le_of_ble_eq_true rfl) (dg DX10_read 57 rfl) (fun r5 σ4 hw => ?_)
    exact hR 107 _ _ _ (dg DX10_read 58 rfl) hw
  · replace hw := hw.2 hbr
    refine j_aload_n 36 hC 0 (dg DX10_read 21 rfl) rfl rfl ?_
    refine j_iconst 37 hC (dg DX10_read 22 rfl) (v := 4) (by decide) ?_
    refine j_iload_n 38 hC 2 (dg DX10_read 23 rfl) rfl rfl ?_
    refine j_imul 39 hC (dg DX10_read 24 rfl) ?_
    refine j_Vi (As := [.int (4 * v2)]) 40 hC (m_X10_does  hw) kX10_225 (k_95) (by decide) ⟨_, _, rfl⟩ (rmN_ok (by decide) (by decide)) rfl rfl (Nat.le_of_ble_eq_true rfl) (dg DX10_read 25 rfl) (fun r7 σ6 hw => ?_)
    refine j_istore_n 43 hC [(3, .int r7), (0, .ref (B + 95)), (1, .int l1), (2, .int v2)] (dg DX10_read 26 rfl) rfl (by decide) rfl ?_
    refine j_iload_n 44 hC 0 (dg DX10_read 27 rfl) rfl rfl ?_
    refine j_if_ge 45 93 hC (dg DX10_read 28 rfl) (by decide) (fun hbr => ?_) (fun hbr => ?_)
    · replace hw := hw.1 hbr
      refine j_iinc 93 hC 3 (v2 + 1) [(2, .int (v2 + 1)), (3, .int r7), (0, .ref (B + 95)), (1, .int l1)] (dg DX10_read 52 rfl) rfl rfl (by decide) rfl ?_
      refine j_goto 96 28 hC (dg DX10_read 53 rfl) (by decide) ?_
      refine j_lv [2, 3, 0] (lv' := [(0, .ref (B + 95)), (1, .int l1), (2, .int (v2 + 1))]) rfl ?_
      exact hrc _ _ hw
    · replace hw := hw.2 hbr
      refine j_aload_n 48 hC 1 (dg DX10_read 29 rfl) rfl rfl ?_
      refine j_iload_n 49 hC 0 (dg DX10_read 30 rfl) rfl rfl ?_
      refine j_bipush 50 hC (dg DX10_read 31 rfl) (v := (-3)) (by decide) ?_
      refine j_icmp_ne 52 59 hC (dg DX10_read 32 rfl) (by decide) (fun hbr => ?_) (fun hbr => ?_)
      · replace hw := hw.2 hbr
        refine j_aload_n 59 hC 1 (dg DX10_read 35 rfl) rfl rfl ?_
        refine j_getI 60 hC fX10_22 (k_95) (by decide) (by decide) rfl (dg DX10_read 36 rfl) ?_
        refine j_putI 63 hC fX10_22 (k_95) (by decide) (by decide) rfl fp10_7 rfl (dg DX10_read 37 rfl) ?_
        refine j_aload_n 66 hC 1 (dg DX10_read 38 rfl) rfl rfl ?_
        refine j_getR 67 hC fX10_13 (k_95) (by decide) (by decide) rfl (dg DX10_read 39 rfl) ?_
        refine j_iconst 70 hC (dg DX10_read 40 rfl) (v := 0) (by decide) ?_
        refine j_aload_n 71 hC 1 (dg DX10_read 41 rfl) rfl rfl ?_
        refine j_getR 72 hC fX10_9 (k_95) (by decide) (by decide) rfl (dg DX10_read 42 rfl) ?_
        refine j_iconst 75 hC (dg DX10_read 43 rfl) (v := 0) (by decide) ?_
        refine j_Sv (As := [.ref (B + 97), .int 0, .ref (B + 96), .int 0]) 76 hC (m_X10_copies (k_97) (by decide) (k_96) (by decide) hw) kX10_35 (rmN_ok (by decide) (by decide)) rfl rfl (Nat.le_of_ble_eq_true rfl) (dg DX10_read 44 rfl) (fun σ8 hw => ?_)
        refine j_iload_n 79 hC 0 (dg DX10_read 45 rfl) rfl rfl ?_
        refine j_bipush 80 hC (dg DX10_read 46 rfl) (v := (-3)) (by decide) ?_
        refine j_icmp_ne 82 90 hC (dg DX10_read 47 rfl) (by decide) (fun hbr => ?_) (fun hbr => ?_)
        · replace hw := hw.2 hbr
          refine j_bipush 90 hC (dg DX10_read 50 rfl) (v := (-2)) (by decide) ?_
          exact hR 92 _ _ _ (dg DX10_read 51 rfl) hw
        · replace hw := hw.1 hbr
          refine j_bipush 85 hC (dg DX10_read 48 rfl) (v := (-3)) (by decide) ?_
          refine j_goto 87 92 hC (dg DX10_read 49 rfl) (by decide) ?_
          exact hR 92 _ _ _ (dg DX10_read 51 rfl) hw
      · replace hw := hw.1 hbr
        refine j_iload_n 55 hC 3 (dg DX10_read 33 rfl) rfl rfl ?_
        refine j_goto 56 63 hC (dg DX10_read 34 rfl) (by decide) ?_
        refine j_putI 63 hC fX10_22 (k_95) (by decide) (by decide) rfl fp10_7 rfl (dg DX10_read 37 rfl) ?_
        refine j_aload_n 66 hC 1 (dg DX10_read 38 rfl) rfl rfl ?_
        refine j_getR 67 hC fX10_13 (k_95) (by decide) (by decide) rfl (dg DX10_read 39 rfl) ?_
        refine j_iconst 70 hC (dg DX10_read 40 rfl) (v := 0) (by decide) ?_
        refine j_aload_n 71 hC 1 (dg DX10_read 41 rfl) rfl rfl ?_
        refine j_getR 72 hC fX10_9 (k_95) (by decide) (by decide) rfl (dg DX10_read 42 rfl) ?_
        refine j_iconst 75 hC (dg DX10_read 43 rfl) (v := 0) (by decide) ?_
        refine j_Sv (As := [.ref (B + 97), .int 0, .ref (B + 96), .int 0]) 76 hC (m_X10_copies (k_97) (by decide) (k_96) (by decide) hw) kX10_35 (rmN_ok (by decide) (by decide)) rfl rfl (Nat.le_of_ble_eq_true rfl) (dg DX10_read 44 rfl) (fun σ9 hw => ?_)
        refine j_iload_n 79 hC 0 (dg DX10_read 45 rfl) rfl rfl ?_
        refine j_bipush 80 hC (dg DX10_read 46 rfl) (v := (-3)) (by decide) ?_
        refine j_icmp_ne 82 90 hC (dg DX10_read 47 rfl) (by decide) (fun hbr => ?_) (fun hbr => ?_)
        · replace hw := hw.2 hbr
          refine j_bipush 90 hC (dg DX10_read 50 rfl) (v := (-2)) (by decide) ?_
          exact hR 92 _ _ _ (dg DX10_read 51 rfl) hw
        · replace hw := hw.1 hbr
          refine j_bipush 85 hC (dg DX10_read 48 rfl) (v := (-3)) (by decide) ?_
          refine j_goto 87 92 hC (dg DX10_read 49 rfl) (by decide) ?_
          exact hR 92 _ _ _ (dg DX10_read 51 rfl) hw
set_option maxRecDepth 100000 in
set_option maxHeartbeats 4000000 in
theorem t_X10_read {X : XT} {B : Nat} (hC : Cx X 4 cX10_read RX10 (rmN 6 142)) {Q : Int32 → SS → Prop} (hR : RtI X 4 B 103 RS cX10_read Q) {σ : SS} (hw : wp_X10_read  σ  Q) : J X 4 B 103 RS 0 0 σ [(0, .ref (B + 95))] 0 [] := by
  unfold wp_X10_read at hw
  refine j_aload_n 0 hC 0 (dg DX10_read 0 rfl) rfl rfl ?_
  refine j_Vi (As := []) 1 hC (m_X10_isText  hw) kX10_222 (k_95) (by decide) ⟨_, _, rfl⟩ (rmN_ok (by decide) (by decide)) rfl rfl (Nat.le_of_ble_eq_true rfl) (dg DX10_read 1 rfl) (fun r2 σ1 hw => ?_)
  refine j_istore_n 4 hC [(1, .int r2), (0, .ref (B + 95))] (dg DX10_read 2 rfl) rfl (by decide) rfl ?_
  refine j_aload_n 5 hC 1 (dg DX10_read 3 rfl) rfl rfl ?_
  refine j_iconst 6 hC (dg DX10_read 4 rfl) (v := 0) (by decide) ?_
  refine j_putI 7 hC fX10_197 (k_95) (by decide) (by decide) rfl fp10_13 rfl (dg DX10_read 5 rfl) ?_
  refine j_iload_n 10 hC 0 (dg DX10_read 6 rfl) rfl rfl ?_
  refine j_if_ne 11 22 hC (dg DX10_read 7 rfl) (by decide) (fun hbr => ?_) (fun hbr => ?_)
  · replace hw := hw.2 hbr
    refine j_aload_n 22 hC 1 (dg DX10_read 13 rfl) rfl rfl ?_
    refine j_Vv (As := []) 23 hC (m_X10_keeps  hw) kX10_97 (k_95) (by decide) ⟨_, _, rfl⟩ (rmN_ok (by decide) (by decide)) rfl rfl (Nat.le_of_ble_eq_true rfl) (dg DX10_read 14 rfl) (fun σ3 hw => ?_)
    refine j_iconst 26 hC (dg DX10_read 15 rfl) (v := 0) (by decide) ?_
    refine j_istore_n 27 hC [(2, .int 0), (1, .int r2), (0, .ref (B + 95))] (dg DX10_read 16 rfl) rfl (by decide) rfl ?_
    obtain ⟨k10, hw⟩ := hw
    refine j_lv [2, 1, 0] (lv' := [(0, .ref (B + 95)), (1, .int r2), (2, .int 0)]) rfl ?_
    exact Li.snd (P := fun τ w2 => J X 4 B 103 RS 0 0 τ [(0, .ref (B + 95)), (1, .int r2), (2, .int w2)] 28 []) (fun rcc hrcc => tb_X10_read_28 hC  hR  hrcc) k10 _ _ hw
  · replace hw := hw.1 hbr
    refine j_bipush 14 hC (dg DX10_read 8 rfl) (v := (-100)) (by decide) ?_
    refine j_aload_n 16 hC 1 (dg DX10_read 9 rfl) rfl rfl ?_
    refine j_getI 17 hC fX10_200 (k_95) (by decide) (by decide) rfl (dg DX10_read 10 rfl) ?_
    refine j_isub 20 hC (dg DX10_read 11 rfl) ?_
    exact hR 21 _ _ _ (dg DX10_read 12 rfl) hw
theorem m_X10_read {B : Nat} {σ : SS} {Q : Int32 → SS → Prop} (hw : wp_X10_read  σ  Q) : MI yX10_read cX10_read 4 (some .int) 6 142 B 103 RS [.ref (B + 95)] σ Q := MI.mk (plainFor_of_name (by decide)) (Nat.le_of_ble_eq_true rfl) (fun X hC hR => t_X10_read hC  hR hw)
-- FortressWatchModel.refusal
def wp_X10_refusal  (σ : SS) (p1 : Int32) (Q : Int32 → SS → Prop) : Prop :=
  wp_X10_isIn σ p1 0 2 (fun r2 σ1 =>
    ((r2 = 0 →
        Q (-2) σ1) ∧
      (¬ r2 = 0 →
        (((σ1 95 5) = 0 →
            Q (-4) σ1) ∧
          (¬ (σ1 95 5) = 0 →
            ((p1 = 0 →
                Q (σ1 95 5) σ1) ∧
              (¬ p1 = 0 →
                ((p1 = 1 →
                    Q (σ1 95 6) σ1) ∧
                  (¬ p1 = 1 →
                    Q (σ1 95 7) σ1)))))))))
set_option maxRecDepth 100000 in
set_option maxHeartbeats 4000000 in
theorem t_X10_refusal {X : XT} {B : Nat} (hC : Cx X 2 cX10_refusal RX10 (rmN 1 22)) {Q : Int32 → SS → Prop} (hR : RtI X 2 B 103 RS cX10_refusal Q) {σ : SS} {p1 : Int32} (hw : wp_X10_refusal  σ p1 Q) : J X 2 B 103 RS 0 0 σ [(0, .ref (B + 95)), (1, .int p1)] 0 [] := by
  unfold wp_X10_refusal at hw
  refine j_iload_n 0 hC 1 (dg DX10_refusal 0 rfl) rfl rfl ?_
  refine j_iconst 1 hC (dg DX10_refusal 1 rfl) (v := 0) (by decide) ?_
  refine j_iconst 2 hC (dg DX10_refusal 2 rfl) (v := 2) (by decide) ?_
  refine j_Si (As := [.int p1, .int 0, .int 2]) 3 hC (m_X10_isIn  hw) kX10_51 (rmN_ok (by decide) (by decide)) rfl rfl (Nat.le_of_ble_eq_true rfl) (dg DX10_refusal 3 rfl) (fun r2 σ1 hw => ?_)
  refine j_if_ne 6 12 hC (dg DX10_refusal 4 rfl) (by decide) (fun hbr => ?_) (fun hbr => ?_)
  · replace hw := hw.2 hbr
    refine j_aload_n 12 hC 0 (dg DX10_refusal 7 rfl) rfl rfl ?_
    refine j_getI 13 hC fX10_45 (k_95) (by decide) (by decide) rfl (dg DX10_refusal 8 rfl) ?_
    refine j_if_ne 16 24 hC (dg DX10_refusal 9 rfl) (by decide) (fun hbr => ?_) (fun hbr => ?_)
    · replace hw := hw.2 hbr
      refine j_iload_n 24 hC 1 (dg DX10_refusal 12 rfl) rfl rfl ?_
      refine j_if_ne 25 35 hC (dg DX10_refusal 13 rfl) (by decide) (fun hbr => ?_) (fun hbr => ?_)
      · replace hw := hw.2 hbr
        refine j_iload_n 35 hC 1 (dg DX10_refusal 17 rfl) rfl rfl ?_
        refine j_iconst 36 hC (dg DX10_refusal 18 rfl) (v := 1) (by decide) ?_
        refine j_icmp_ne 37 47 hC (dg DX10_refusal 19 rfl) (by decide) (fun hbr => ?_) (fun hbr => ?_)
        · replace hw := hw.2 hbr
          refine j_aload_n 47 hC 0 (dg DX10_refusal 23 rfl) rfl rfl ?_
          refine j_getI 48 hC fX10_22 (k_95) (by decide) (by decide) rfl (dg DX10_refusal 24 rfl) ?_
          exact hR 51 _ _ _ (dg DX10_refusal 25 rfl) hw
        · replace hw := hw.1 hbr
          refine j_aload_n 40 hC 0 (dg DX10_refusal 20 rfl) rfl rfl ?_
          refine j_getI 41 hC fX10_48 (k_95) (by decide) (by decide) rfl (dg DX10_refusal 21 rfl) ?_
          refine j_goto 44 51 hC (dg DX10_refusal 22 rfl) (by decide) ?_
          exact hR 51 _ _ _ (dg DX10_refusal 25 rfl) hw
      · replace hw := hw.1 hbr
        refine j_aload_n 28 hC 0 (dg DX10_refusal 14 rfl) rfl rfl ?_
        refine j_getI 29 hC fX10_45 (k_95) (by decide) (by decide) rfl (dg DX10_refusal 15 rfl) ?_
        refine j_goto 32 51 hC (dg DX10_refusal 16 rfl) (by decide) ?_
        exact hR 51 _ _ _ (dg DX10_refusal 25 rfl) hw
    · replace hw := hw.1 hbr
      refine j_bipush 19 hC (dg DX10_refusal 10 rfl) (v := (-4)) (by decide) ?_
      refine j_goto 21 51 hC (dg DX10_refusal 11 rfl) (by decide) ?_
      exact hR 51 _ _ _ (dg DX10_refusal 25 rfl) hw
  · replace hw := hw.1 hbr
    refine j_bipush 9 hC (dg DX10_refusal 5 rfl) (v := (-2)) (by decide) ?_
    exact hR 11 _ _ _ (dg DX10_refusal 6 rfl) hw
theorem m_X10_refusal {B : Nat} {σ : SS} {p1 : Int32} {Q : Int32 → SS → Prop} (hw : wp_X10_refusal  σ p1 Q) : MI yX10_refusal cX10_refusal 2 (some .int) 1 22 B 103 RS [.ref (B + 95), .int p1] σ Q := MI.mk (plainFor_of_name (by decide)) (Nat.le_of_ble_eq_true rfl) (fun X hC hR => t_X10_refusal hC  hR hw)
-- FortressWatchModel.overlaps
def bd_X10_overlaps_4    (Q : Int32 → SS → Prop)  (rc : SS → Int32 → Int32 → Prop) (σ : SS) (v1 : Int32) (v2 : Int32) : Prop :=
  ((24 ≤ v2 →
      Q v1 σ) ∧
    (¬ 24 ≤ v2 →
      wp_X10_watchers σ v2 (fun r2 σ1 =>
        ((r2 ≤ 1 →
            rc σ1 (v1 + 0) (v2 + 1)) ∧
          (¬ r2 ≤ 1 →
            rc σ1 (v1 + 1) (v2 + 1))))))
def wp_X10_overlaps  (σ : SS)  (Q : Int32 → SS → Prop) : Prop :=
  ∃ k3, Lii (bd_X10_overlaps_4 Q) k3 σ 0 0
set_option maxRecDepth 100000 in
set_option maxHeartbeats 4000000 in
theorem tb_X10_overlaps_4 {X : XT} {B : Nat} (hC : Cx X 3 cX10_overlaps RX10 (rmN 4 92)) {Q : Int32 → SS → Prop} (hR : RtI X 3 B 103 RS cX10_overlaps Q) {rc : SS → Int32 → Int32 → Prop} (hrc : ∀ (σ : SS) (v1 : Int32) (v2 : Int32), rc σ v1 v2 → J X 3 B 103 RS 0 0 σ [(0, .ref (B + 95)), (1, .int v1), (2, .int v2)] 4 []) : ∀ (σ : SS) (v1 : Int32) (v2 : Int32), bd_X10_overlaps_4 Q rc σ v1 v2 → J X 3 B 103 RS 0 0 σ [(0, .ref (B + 95)), (1, .int v1), (2, .int v2)] 4 [] := by
  intro σ v1 v2 hw
  unfold bd_X10_overlaps_4 at hw
  refine j_iload_n 4 hC 2 (dg DX10_overlaps 4 rfl) rfl rfl ?_
  refine j_bipush 5 hC (dg DX10_overlaps 5 rfl) (v := 24) (by decide) ?_
  refine j_icmp_ge 7 33 hC (dg DX10_overlaps 6 rfl) (by decide) (fun hbr => ?_) (fun hbr => ?_)
  · replace hw := hw.1 hbr
    refine j_iload_n 33 hC 1 (dg DX10_overlaps 20 rfl) rfl rfl ?_
    exact hR 34 _ _ _ (dg DX10_overlaps 21 rfl) hw
  · replace hw := hw.2 hbr
    refine j_iload_n 10 hC 1 (dg DX10_overlaps 7 rfl) rfl rfl ?_
    refine j_aload_n 11 hC 0 (dg DX10_overlaps 8 rfl) rfl rfl ?_
    refine j_iload_n 12 hC 2 (dg DX10_overlaps 9 rfl) rfl rfl ?_
    refine j_Vi (As := [.int v2]) 13 hC (m_X10_watchers  hw) kX10_166 (k_95) (by decide) ⟨_, _, rfl⟩ (rmN_ok (by decide) (by decide)) rfl rfl (Nat.le_of_ble_eq_true rfl) (dg DX10_overlaps 10 rfl) (fun r2 σ1 hw => ?_)
    refine j_iconst 16 hC (dg DX10_overlaps 11 rfl) (v := 1) (by decide) ?_
    refine j_icmp_le 17 24 hC (dg DX10_overlaps 12 rfl) (by decide) (fun hbr => ?_) (fun hbr => ?_)
    · replace hw := hw.1 hbr
      refine j_iconst 24 hC (dg DX10_overlaps 15 rfl) (v := 0) (by decide) ?_
      refine j_iadd 25 hC (dg DX10_overlaps 16 rfl) ?_
      refine j_istore_n 26 hC [(1, .int (v1 + 0)), (0, .ref (B + 95)), (2, .int v2)] (dg DX10_overlaps 17 rfl) rfl (by decide) rfl ?_
      refine j_iinc 27 hC 2 (v2 + 1) [(2, .int (v2 + 1)), (1, .int (v1 + 0)), (0, .ref (B + 95))] (dg DX10_overlaps 18 rfl) rfl rfl (by decide) rfl ?_
      refine j_goto 30 4 hC (dg DX10_overlaps 19 rfl) (by decide) ?_
      refine j_lv [2, 1, 0] (lv' := [(0, .ref (B + 95)), (1, .int (v1 + 0)), (2, .int (v2 + 1))]) rfl ?_
      exact hrc _ _ _ hw
    · replace hw := hw.2 hbr
      refine j_iconst 20 hC (dg DX10_overlaps 13 rfl) (v := 1) (by decide) ?_
      refine j_goto 21 25 hC (dg DX10_overlaps 14 rfl) (by decide) ?_
      refine j_iadd 25 hC (dg DX10_overlaps 16 rfl) ?_
      refine j_istore_n 26 hC [(1, .int (v1 + 1)), (0, .ref (B + 95)), (2, .int v2)] (dg DX10_overlaps 17 rfl) rfl (by decide) rfl ?_
      refine j_iinc 27 hC 2 (v2 + 1) [(2, .int (v2 + 1)), (1, .int (v1 + 1)), (0, .ref (B + 95))] (dg DX10_overlaps 18 rfl) rfl rfl (by decide) rfl ?_
      refine j_goto 30 4 hC (dg DX10_overlaps 19 rfl) (by decide) ?_
      refine j_lv [2, 1, 0] (lv' := [(0, .ref (B + 95)), (1, .int (v1 + 1)), (2, .int (v2 + 1))]) rfl ?_
      exact hrc _ _ _ hw
set_option maxRecDepth 100000 in
set_option maxHeartbeats 4000000 in
theorem t_X10_overlaps {X : XT} {B : Nat} (hC : Cx X 3 cX10_overlaps RX10 (rmN 4 92)) {Q : Int32 → SS → Prop} (hR : RtI X 3 B 103 RS cX10_overlaps Q) {σ : SS} (hw : wp_X10_overlaps  σ  Q) : J X 3 B 103 RS 0 0 σ [(0, .ref (B + 95))] 0 [] := by
  unfold wp_X10_overlaps at hw
  refine j_iconst 0 hC (dg DX10_overlaps 0 rfl) (v := 0) (by decide) ?_
  refine j_istore_n 1 hC [(1, .int 0), (0, .ref (B + 95))] (dg DX10_overlaps 1 rfl) rfl (by decide) rfl ?_
  refine j_iconst 2 hC (dg DX10_overlaps 2 rfl) (v := 0) (by decide) ?_
  refine j_istore_n 3 hC [(2, .int 0), (1, .int 0), (0, .ref (B + 95))] (dg DX10_overlaps 3 rfl) rfl (by decide) rfl ?_
  obtain ⟨k3, hw⟩ := hw
  refine j_lv [2, 1, 0] (lv' := [(0, .ref (B + 95)), (1, .int 0), (2, .int 0)]) rfl ?_
  exact Lii.snd (P := fun τ w1 w2 => J X 3 B 103 RS 0 0 τ [(0, .ref (B + 95)), (1, .int w1), (2, .int w2)] 4 []) (fun rcc hrcc => tb_X10_overlaps_4 hC  hR  hrcc) k3 _ _ _ hw
theorem m_X10_overlaps {B : Nat} {σ : SS} {Q : Int32 → SS → Prop} (hw : wp_X10_overlaps  σ  Q) : MI yX10_overlaps cX10_overlaps 3 (some .int) 4 92 B 103 RS [.ref (B + 95)] σ Q := MI.mk (plainFor_of_name (by decide)) (Nat.le_of_ble_eq_true rfl) (fun X hC hR => t_X10_overlaps hC  hR hw)
-- FortressWatchModel.account
def wp_X10_account  (σ : SS) (p1 : Int32) (Q : Int32 → SS → Prop) : Prop :=
  ((p1 = 0 →
      Q (σ 96 0) σ) ∧
    (¬ p1 = 0 →
      ((p1 = 1 →
          wp_X10_mannedSet σ (fun r2 σ1 =>
            wp_X10_bits σ1 r2 (fun r4 σ3 =>
              Q r4 σ3))) ∧
        (¬ p1 = 1 →
          ((p1 = 2 →
              wp_X10_mannedSet σ (fun r6 σ5 =>
                wp_X10_seen σ5 r6 (fun r8 σ7 =>
                  wp_X10_bits σ7 r8 (fun r10 σ9 =>
                    Q r10 σ9)))) ∧
            (¬ p1 = 2 →
              ((p1 = 3 →
                  wp_X10_overlaps σ (fun r12 σ11 =>
                    Q r12 σ11)) ∧
                (¬ p1 = 3 →
                  ((p1 = 4 →
                      wp_X10_gapMany σ (fun r14 σ13 =>
                        Q r14 σ13)) ∧
                    (¬ p1 = 4 →
                      ((p1 = 5 →
                          wp_X10_longestGap σ (fun r16 σ15 =>
                            Q r16 σ15)) ∧
                        (¬ p1 = 5 →
                          ((p1 = 6 →
                              wp_X10_all σ (fun r18 σ17 =>
                                wp_X10_seen σ17 r18 (fun r20 σ19 =>
                                  wp_X10_bits σ19 r20 (fun r22 σ21 =>
                                    Q (24 - r22) σ21)))) ∧
                            (¬ p1 = 6 →
                              ((p1 = 7 →
                                  Q (σ 96 1) σ) ∧
                                (¬ p1 = 7 →
                                  ((p1 = 8 →
                                      vp_in ((p1 - 8) + 2) 59 ∧
                                      Q (σ 96 ((p1 - 8) + 2).toNatClampNeg) σ) ∧
                                    (¬ p1 = 8 →
                                      ((p1 = 9 →
                                          vp_in ((p1 - 8) + 2) 59 ∧
                                          Q (σ 96 ((p1 - 8) + 2).toNatClampNeg) σ) ∧
                                        (¬ p1 = 9 →
                                          ((p1 = 10 →
                                              vp_in ((p1 - 8) + 2) 59 ∧
                                              Q (σ 96 ((p1 - 8) + 2).toNatClampNeg) σ) ∧
                                            (¬ p1 = 10 →
                                              ((p1 = 11 →
                                                  Q (σ 95 13) σ) ∧
                                                (¬ p1 = 11 →
                                                  ((p1 = 12 →
                                                      Q (σ 95 4) σ) ∧
                                                    (¬ p1 = 12 →
                                                      Q (-2) σ))))))))))))))))))))))))))
set_option maxRecDepth 100000 in
set_option maxHeartbeats 4000000 in
theorem t_X10_account {X : XT} {B : Nat} (hC : Cx X 2 cX10_account RX10 (rmN 6 139)) {Q : Int32 → SS → Prop} (hR : RtI X 2 B 103 RS cX10_account Q) {σ : SS} {p1 : Int32} (hw : wp_X10_account  σ p1 Q) : J X 2 B 103 RS 0 0 σ [(0, .ref (B + 95)), (1, .int p1)] 0 [] := by
  unfold wp_X10_account at hw
  refine j_iload_n 0 hC 1 (dg DX10_account 0 rfl) rfl rfl ?_
  by_cases n0 : p1 = 0
  · replace hw := hw.1 n0
    refine j_tableIn 1 68 hC (dg DX10_account 1 rfl) (by rw [n0]; decide) (by rw [n0]; decide) (off := 67) (by rw [n0]; rfl) (by decide) ?_
    refine j_aload_n 68 hC 0 (dg DX10_account 2 rfl) rfl rfl ?_
    refine j_getR 69 hC fX10_9 (k_95) (by decide) (by decide) rfl (dg DX10_account 3 rfl) ?_
    refine j_iconst 72 hC (dg DX10_account 4 rfl) (v := 0) (by decide) ?_
    refine j_iald0 73 0 hC (k_96) (by decide) (by unfold vp_in; decide) rfl (dg DX10_account 5 rfl) ?_
    exact hR 74 _ _ _ (dg DX10_account 6 rfl) hw
  replace hw := hw.2 n0
  by_cases n1 : p1 = 1
  · replace hw := hw.1 n1
    refine j_tableIn 1 75 hC (dg DX10_account 1 rfl) (by rw [n1]; decide) (by rw [n1]; decide) (off := 74) (by rw [n1]; rfl) (by decide) ?_
    refine j_aload_n 75 hC 0 (dg DX10_account 7 rfl) rfl rfl ?_
    refine j_Vi (As := []) 76 hC (m_X10_mannedSet  hw) kX10_128 (k_95) (by decide) ⟨_, _, rfl⟩ (rmN_ok (by decide) (by decide)) rfl rfl (Nat.le_of_ble_eq_true rfl) (dg DX10_account 8 rfl) (fun r2 σ1 hw => ?_)
    refine j_Si (As := [.int r2]) 79 hC (m_X10_bits  hw) kX10_119 (rmN_ok (by decide) (by decide)) rfl rfl (Nat.le_of_ble_eq_true rfl) (dg DX10_account 9 rfl) (fun r4 σ3 hw => ?_)
    exact hR 82 _ _ _ (dg DX10_account 10 rfl) hw
  replace hw := hw.2 n1
  by_cases n2 : p1 = 2
  · replace hw := hw.1 n2
    refine j_tableIn 1 83 hC (dg DX10_account 1 rfl) (by rw [n2]; decide) (by rw [n2]; decide) (off := 82) (by rw [n2]; rfl) (by decide) ?_
    refine j_aload_n 83 hC 0 (dg DX10_account 11 rfl) rfl rfl ?_
    refine j_aload_n 84 hC 0 (dg DX10_account 12 rfl) rfl rfl ?_
    refine j_Vi (As := []) 85 hC (m_X10_mannedSet  hw) kX10_128 (k_95) (by decide) ⟨_, _, rfl⟩ (rmN_ok (by decide) (by decide)) rfl rfl (Nat.le_of_ble_eq_true rfl) (dg DX10_account 13 rfl) (fun r6 σ5 hw => ?_)
    refine j_Vi (As := [.int r6]) 88 hC (m_X10_seen  hw) kX10_132 (k_95) (by decide) ⟨_, _, rfl⟩ (rmN_ok (by decide) (by decide)) rfl rfl (Nat.le_of_ble_eq_true rfl) (dg DX10_account 14 rfl) (fun r8 σ7 hw => ?_)
    refine j_Si (As := [.int r8]) 91 hC (m_X10_bits  hw) kX10_119 (rmN_ok (by decide) (by decide)) rfl rfl (Nat.le_of_ble_eq_true rfl) (dg DX10_account 15 rfl) (fun r10 σ9 hw => ?_)
    exact hR 94 _ _ _ (dg DX10_account 16 rfl) hw
  replace hw := hw.2 n2
  by_cases n3 : p1 = 3
  · replace hw := hw.1 n3
    refine j_tableIn 1 95 hC (dg DX10_account 1 rfl) (by rw [n3]; decide) (by rw [n3]; decide) (off := 94) (by rw [n3]; rfl) (by decide) ?_
    refine j_aload_n 95 hC 0 (dg DX10_account 17 rfl) rfl rfl ?_
    refine j_Vi (As := []) 96 hC (m_X10_overlaps  hw) kX10_228 (k_95) (by decide) ⟨_, _, rfl⟩ (rmN_ok (by decide) (by decide)) rfl rfl (Nat.le_of_ble_eq_true rfl) (dg DX10_account 18 rfl) (fun r12 σ11 hw => ?_)
    exact hR 99 _ _ _ (dg DX10_account 19 rfl) hw
  replace hw := hw.2 n3
  by_cases n4 : p1 = 4
  · replace hw := hw.1 n4
    refine j_tableIn 1 100 hC (dg DX10_account 1 rfl) (by rw [n4]; decide) (by rw [n4]; decide) (off := 99) (by rw [n4]; rfl) (by decide) ?_
    refine j_aload_n 100 hC 0 (dg DX10_account 20 rfl) rfl rfl ?_
    refine j_Vi (As := []) 101 hC (m_X10_gapMany  hw) kX10_181 (k_95) (by decide) ⟨_, _, rfl⟩ (rmN_ok (by decide) (by decide)) rfl rfl (Nat.le_of_ble_eq_true rfl) (dg DX10_account 21 rfl) (fun r14 σ13 hw => ?_)
    exact hR 104 _ _ _ (dg DX10_account 22 rfl) hw
  replace hw := hw.2 n4
  by_cases n5 : p1 = 5
  · replace hw := hw.1 n5
    refine j_tableIn 1 105 hC (dg DX10_account 1 rfl) (by rw [n5]; decide) (by rw [n5]; decide) (off := 104) (by rw [n5]; rfl) (by decide) ?_
    refine j_aload_n 105 hC 0 (dg DX10_account 23 rfl) rfl rfl ?_
    refine j_Vi (As := []) 106 hC (m_X10_longestGap  hw) kX10_231 (k_95) (by decide) ⟨_, _, rfl⟩ (rmN_ok (by decide) (by decide)) rfl rfl (Nat.le_of_ble_eq_true rfl) (dg DX10_account 24 rfl) (fun r16 σ15 hw => ?_)
    exact hR 109 _ _ _ (dg DX10_account 25 rfl) hw
  replace hw := hw.2 n5
  by_cases n6 : p1 = 6
  · replace hw := hw.1 n6
    refine j_tableIn 1 110 hC (dg DX10_account 1 rfl) (by rw [n6]; decide) (by rw [n6]; decide) (off := 109) (by rw [n6]; rfl) (by decide) ?_
    refine j_bipush 110 hC (dg DX10_account 26 rfl) (v := 24) (by decide) ?_
    refine j_aload_n 112 hC 0 (dg DX10_account 27 rfl) rfl rfl ?_
    refine j_aload_n 113 hC 0 (dg DX10_account 28 rfl) rfl rfl ?_
    refine j_Vi (As := []) 114 hC (m_X10_all  hw) kX10_144 (k_95) (by decide) ⟨_, _, rfl⟩ (rmN_ok (by decide) (by decide)) rfl rfl (Nat.le_of_ble_eq_true rfl) (dg DX10_account 29 rfl) (fun r18 σ17 hw => ?_)
    refine j_Vi (As := [.int r18]) 117 hC (m_X10_seen  hw) kX10_132 (k_95) (by decide) ⟨_, _, rfl⟩ (rmN_ok (by decide) (by decide)) rfl rfl (Nat.le_of_ble_eq_true rfl) (dg DX10_account 30 rfl) (fun r20 σ19 hw => ?_)
    refine j_Si (As := [.int r20]) 120 hC (m_X10_bits  hw) kX10_119 (rmN_ok (by decide) (by decide)) rfl rfl (Nat.le_of_ble_eq_true rfl) (dg DX10_account 31 rfl) (fun r22 σ21 hw => ?_)
    refine j_isub 123 hC (dg DX10_account 32 rfl) ?_
    exact hR 124 _ _ _ (dg DX10_account 33 rfl) hw
  replace hw := hw.2 n6
  by_cases n7 : p1 = 7
  · replace hw := hw.1 n7
    refine j_tableIn 1 125 hC (dg DX10_account 1 rfl) (by rw [n7]; decide) (by rw [n7]; decide) (off := 124) (by rw [n7]; rfl) (by decide) ?_
    refine j_aload_n 125 hC 0 (dg DX10_account 34 rfl) rfl rfl ?_
    refine j_getR 126 hC fX10_9 (k_95) (by decide) (by decide) rfl (dg DX10_account 35 rfl) ?_
    refine j_iconst 129 hC (dg DX10_account 36 rfl) (v := 1) (by decide) ?_
    refine j_iald0 130 1 hC (k_96) (by decide) (by unfold vp_in; decide) rfl (dg DX10_account 37 rfl) ?_
    exact hR 131 _ _ _ (dg DX10_account 38 rfl) hw
  replace hw := hw.2 n7
  by_cases n8 : p1 = 8
  · replace hw := hw.1 n8
    refine j_tableIn 1 132 hC (dg DX10_account 1 rfl) (by rw [n8]; decide) (by rw [n8]; decide) (off := 131) (by rw [n8]; rfl) (by decide) ?_
    refine j_aload_n 132 hC 0 (dg DX10_account 39 rfl) rfl rfl ?_
    refine j_getR 133 hC fX10_9 (k_95) (by decide) (by decide) rfl (dg DX10_account 40 rfl) ?_
    refine j_iload_n 136 hC 1 (dg DX10_account 41 rfl) rfl rfl ?_
    refine j_bipush 137 hC (dg DX10_account 42 rfl) (v := 8) (by decide) ?_
    refine j_isub 139 hC (dg DX10_account 43 rfl) ?_
    refine j_iconst 140 hC (dg DX10_account 44 rfl) (v := 2) (by decide) ?_
    refine j_iadd 141 hC (dg DX10_account 45 rfl) ?_
    refine j_iald0 142 _ hC (k_96) (by decide) hw.1 rfl (dg DX10_account 46 rfl) ?_
    replace hw := hw.2
    exact hR 143 _ _ _ (dg DX10_account 47 rfl) hw
  replace hw := hw.2 n8
  by_cases n9 : p1 = 9
  · replace hw := hw.1 n9
    refine j_tableIn 1 132 hC (dg DX10_account 1 rfl) (by rw [n9]; decide) (by rw [n9]; decide) (off := 131) (by rw [n9]; rfl) (by decide) ?_
    refine j_aload_n 132 hC 0 (dg DX10_account 39 rfl) rfl rfl ?_
    refine j_getR 133 hC fX10_9 (k_95) (by decide) (by decide) rfl (dg DX10_account 40 rfl) ?_
    refine j_iload_n 136 hC 1 (dg DX10_account 41 rfl) rfl rfl ?_
    refine j_bipush 137 hC (dg DX10_account 42 rfl) (v := 8) (by decide) ?_
    refine j_isub 139 hC (dg DX10_account 43 rfl) ?_
    refine j_iconst 140 hC (dg DX10_account 44 rfl) (v := 2) (by decide) ?_
    refine j_iadd 141 hC (dg DX10_account 45 rfl) ?_
    refine j_iald0 142 _ hC (k_96) (by decide) hw.1 rfl (dg DX10_account 46 rfl) ?_
    replace hw := hw.2
    exact hR 143 _ _ _ (dg DX10_account 47 rfl) hw
  replace hw := hw.2 n9
  by_cases n10 : p1 = 10
  · replace hw := hw.1 n10
    refine j_tableIn 1 132 hC (dg DX10_account 1 rfl) (by rw [n10]; decide) (by rw [n10]; decide) (off := 131) (by rw [n10]; rfl) (by decide) ?_
    refine j_aload_n 132 hC 0 (dg DX10_account 39 rfl) rfl rfl ?_
    refine j_getR 133 hC fX10_9 (k_95) (by decide) (by decide) rfl (dg DX10_account 40 rfl) ?_
    refine j_iload_n 136 hC 1 (dg DX10_account 41 rfl) rfl rfl ?_
    refine j_bipush 137 hC (dg DX10_account 42 rfl) (v := 8) (by decide) ?_
    refine j_isub 139 hC (dg DX10_account 43 rfl) ?_
    refine j_iconst 140 hC (dg DX10_account 44 rfl) (v := 2) (by decide) ?_
    refine j_iadd 141 hC (dg DX10_account 45 rfl) ?_
    refine j_iald0 142 _ hC (k_96) (by decide) hw.1 rfl (dg DX10_account 46 rfl) ?_
    replace hw := hw.2
    exact hR 143 _ _ _ (dg DX10_account 47 rfl) hw
  replace hw := hw.2 n10
  by_cases n11 : p1 = 11
  · replace hw := hw.1 n11
    refine j_tableIn 1 144 hC (dg DX10_account 1 rfl) (by rw [n11]; decide) (by rw [n11]; decide) (off := 143) (by rw [n11]; rfl) (by decide) ?_
    refine j_aload_n 144 hC 0 (dg DX10_account 48 rfl) rfl rfl ?_
    refine j_getI 145 hC fX10_197 (k_95) (by decide) (by decide) rfl (dg DX10_account 49 rfl) ?_
    exact hR 148 _ _ _ (dg DX10_account 50 rfl) hw
  replace hw := hw.2 n11
  by_cases n12 : p1 = 12
  · replace hw := hw.1 n12
    refine j_tableIn 1 149 hC (dg DX10_account 1 rfl) (by rw [n12]; decide) (by rw [n12]; decide) (off := 148) (by rw [n12]; rfl) (by decide) ?_
    refine j_aload_n 149 hC 0 (dg DX10_account 51 rfl) rfl rfl ?_
    refine j_getI 150 hC fX10_39 (k_95) (by decide) (by decide) rfl (dg DX10_account 52 rfl) ?_
    exact hR 153 _ _ _ (dg DX10_account 53 rfl) hw
  replace hw := hw.2 n12
  have hout : (p1).toInt < 0 ∨ 12 < (p1).toInt := by
    have q0 : (p1).toInt ≠ 0 := i32_ne n0
    have q1 : (p1).toInt ≠ 1 := i32_ne n1
    have q2 : (p1).toInt ≠ 2 := i32_ne n2
    have q3 : (p1).toInt ≠ 3 := i32_ne n3
    have q4 : (p1).toInt ≠ 4 := i32_ne n4
    have q5 : (p1).toInt ≠ 5 := i32_ne n5
    have q6 : (p1).toInt ≠ 6 := i32_ne n6
    have q7 : (p1).toInt ≠ 7 := i32_ne n7
    have q8 : (p1).toInt ≠ 8 := i32_ne n8
    have q9 : (p1).toInt ≠ 9 := i32_ne n9
    have q10 : (p1).toInt ≠ 10 := i32_ne n10
    have q11 : (p1).toInt ≠ 11 := i32_ne n11
    have q12 : (p1).toInt ≠ 12 := i32_ne n12
    omega
  refine j_tableOut 1 154 hC (dg DX10_account 1 rfl) hout (by decide) ?_
  refine j_bipush 154 hC (dg DX10_account 54 rfl) (v := (-2)) (by decide) ?_
  exact hR 156 _ _ _ (dg DX10_account 55 rfl) hw
theorem m_X10_account {B : Nat} {σ : SS} {p1 : Int32} {Q : Int32 → SS → Prop} (hw : wp_X10_account  σ p1 Q) : MI yX10_account cX10_account 2 (some .int) 6 139 B 103 RS [.ref (B + 95), .int p1] σ Q := MI.mk (plainFor_of_name (by decide)) (Nat.le_of_ble_eq_true rfl) (fun X hC hR => t_X10_account hC  hR hw)
-- FortressWatchModel.isWell
def bd_X10_isWell_14    (Q : Int32 → SS → Prop)  (rc : SS → Int32 → Int32 → Prop) (σ : SS) (v1 : Int32) (v2 : Int32) : Prop :=
  wp_X10_gapMany σ (fun r8 σ7 =>
    ((r8 ≤ v2 →
        ((v1 = 24 →
            Q 1 σ7) ∧
          (¬ v1 = 24 →
            Q 0 σ7))) ∧
      (¬ r8 ≤ v2 →
        wp_X10_gapAt σ7 v2 (fun r10 σ9 =>
          wp_X10_gapLength σ9 r10 (fun r12 σ11 =>
            rc σ11 (v1 + r12) (v2 + 1))))))
def wp_X10_isWell  (σ : SS)  (Q : Int32 → SS → Prop) : Prop :=
  wp_X10_mannedSet σ (fun r2 σ1 =>
    wp_X10_seen σ1 r2 (fun r4 σ3 =>
      wp_X10_bits σ3 r4 (fun r6 σ5 =>
        ∃ k13, Lii (bd_X10_isWell_14 Q) k13 σ5 r6 0)))
set_option maxRecDepth 100000 in
set_option maxHeartbeats 4000000 in
theorem tb_X10_isWell_14 {X : XT} {B : Nat} (hC : Cx X 3 cX10_isWell RX10 (rmN 5 117)) {Q : Int32 → SS → Prop} (hR : RtI X 3 B 103 RS cX10_isWell Q) {rc : SS → Int32 → Int32 → Prop} (hrc : ∀ (σ : SS) (v1 : Int32) (v2 : Int32), rc σ v1 v2 → J X 3 B 103 RS 0 0 σ [(0, .ref (B + 95)), (1, .int v1), (2, .int v2)] 14 []) : ∀ (σ : SS) (v1 : Int32) (v2 : Int32), bd_X10_isWell_14 Q rc σ v1 v2 → J X 3 B 103 RS 0 0 σ [(0, .ref (B + 95)), (1, .int v1), (2, .int v2)] 14 [] := by
  intro σ v1 v2 hw
  unfold bd_X10_isWell_14 at hw
  refine j_iload_n 14 hC 2 (dg DX10_isWell 8 rfl) rfl rfl ?_
  refine j_aload_n 15 hC 0 (dg DX10_isWell 9 rfl) rfl rfl ?_
  refine j_Vi (As := []) 16 hC (m_X10_gapMany  hw) kX10_181 (k_95) (by decide) ⟨_, _, rfl⟩ (rmN_ok (by decide) (by decide)) rfl rfl (Nat.le_of_ble_eq_true rfl) (dg DX10_isWell 10 rfl) (fun r8 σ7 hw => ?_)
  refine j_icmp_ge 19 40 hC (dg DX10_isWell 11 rfl) (by decide) (fun hbr => ?_) (fun hbr => ?_)
  · replace hw := hw.1 hbr
    refine j_iload_n 40 hC 1 (dg DX10_isWell 22 rfl) rfl rfl ?_
    refine j_bipush 41 hC (dg DX10_isWell 23 rfl) (v := 24) (by decide) ?_
    refine j_icmp_ne 43 50 hC (dg DX10_isWell 24 rfl) (by decide) (fun hbr => ?_) (fun hbr => ?_)
    · replace hw := hw.2 hbr
      refine j_iconst 50 hC (dg DX10_isWell 27 rfl) (v := 0) (by decide) ?_
      exact hR 51 _ _ _ (dg DX10_isWell 28 rfl) hw
    · replace hw := hw.1 hbr
      refine j_iconst 46 hC (dg DX10_isWell 25 rfl) (v := 1) (by decide) ?_
      refine j_goto 47 51 hC (dg DX10_isWell 26 rfl) (by decide) ?_
      exact hR 51 _ _ _ (dg DX10_isWell 28 rfl) hw
  · replace hw := hw.2 hbr
    refine j_iload_n 22 hC 1 (dg DX10_isWell 12 rfl) rfl rfl ?_
    refine j_aload_n 23 hC 0 (dg DX10_isWell 13 rfl) rfl rfl ?_
    refine j_aload_n 24 hC 0 (dg DX10_isWell 14 rfl) rfl rfl ?_
    refine j_iload_n 25 hC 2 (dg DX10_isWell 15 rfl) rfl rfl ?_
    refine j_Vi (As := [.int v2]) 26 hC (m_X10_gapAt  hw) kX10_175 (k_95) (by decide) ⟨_, _, rfl⟩ (rmN_ok (by decide) (by decide)) rfl rfl (Nat.le_of_ble_eq_true rfl) (dg DX10_isWell 16 rfl) (fun r10 σ9 hw => ?_)
    refine j_Vi (As := [.int r10]) 29 hC (m_X10_gapLength  hw) kX10_172 (k_95) (by decide) ⟨_, _, rfl⟩ (rmN_ok (by decide) (by decide)) rfl rfl (Nat.le_of_ble_eq_true rfl) (dg DX10_isWell 17 rfl) (fun r12 σ11 hw => ?_)
    refine j_iadd 32 hC (dg DX10_isWell 18 rfl) ?_
    refine j_istore_n 33 hC [(1, .int (v1 + r12)), (0, .ref (B + 95)), (2, .int v2)] (dg DX10_isWell 19 rfl) rfl (by decide) rfl ?_
    refine j_iinc 34 hC 2 (v2 + 1) [(2, .int (v2 + 1)), (1, .int (v1 + r12)), (0, .ref (B + 95))] (dg DX10_isWell 20 rfl) rfl rfl (by decide) rfl ?_
    refine j_goto 37 14 hC (dg DX10_isWell 21 rfl) (by decide) ?_
    refine j_lv [2, 1, 0] (lv' := [(0, .ref (B + 95)), (1, .int (v1 + r12)), (2, .int (v2 + 1))]) rfl ?_
    exact hrc _ _ _ hw
set_option maxRecDepth 100000 in
set_option maxHeartbeats 4000000 in
theorem t_X10_isWell {X : XT} {B : Nat} (hC : Cx X 3 cX10_isWell RX10 (rmN 5 117)) {Q : Int32 → SS → Prop} (hR : RtI X 3 B 103 RS cX10_isWell Q) {σ : SS} (hw : wp_X10_isWell  σ  Q) : J X 3 B 103 RS 0 0 σ [(0, .ref (B + 95))] 0 [] := by
  unfold wp_X10_isWell at hw
  refine j_aload_n 0 hC 0 (dg DX10_isWell 0 rfl) rfl rfl ?_
  refine j_aload_n 1 hC 0 (dg DX10_isWell 1 rfl) rfl rfl ?_
  refine j_Vi (As := []) 2 hC (m_X10_mannedSet  hw) kX10_128 (k_95) (by decide) ⟨_, _, rfl⟩ (rmN_ok (by decide) (by decide)) rfl rfl (Nat.le_of_ble_eq_true rfl) (dg DX10_isWell 2 rfl) (fun r2 σ1 hw => ?_)
  refine j_Vi (As := [.int r2]) 5 hC (m_X10_seen  hw) kX10_132 (k_95) (by decide) ⟨_, _, rfl⟩ (rmN_ok (by decide) (by decide)) rfl rfl (Nat.le_of_ble_eq_true rfl) (dg DX10_isWell 3 rfl) (fun r4 σ3 hw => ?_)
  refine j_Si (As := [.int r4]) 8 hC (m_X10_bits  hw) kX10_119 (rmN_ok (by decide) (by decide)) rfl rfl (Nat.le_of_ble_eq_true rfl) (dg DX10_isWell 4 rfl) (fun r6 σ5 hw => ?_)
  refine j_istore_n 11 hC [(1, .int r6), (0, .ref (B + 95))] (dg DX10_isWell 5 rfl) rfl (by decide) rfl ?_
  refine j_iconst 12 hC (dg DX10_isWell 6 rfl) (v := 0) (by decide) ?_
  refine j_istore_n 13 hC [(2, .int 0), (1, .int r6), (0, .ref (B + 95))] (dg DX10_isWell 7 rfl) rfl (by decide) rfl ?_
  obtain ⟨k13, hw⟩ := hw
  refine j_lv [2, 1, 0] (lv' := [(0, .ref (B + 95)), (1, .int r6), (2, .int 0)]) rfl ?_
  exact Lii.snd (P := fun τ w1 w2 => J X 3 B 103 RS 0 0 τ [(0, .ref (B + 95)), (1, .int w1), (2, .int w2)] 14 []) (fun rcc hrcc => tb_X10_isWell_14 hC  hR  hrcc) k13 _ _ _ hw
theorem m_X10_isWell {B : Nat} {σ : SS} {Q : Int32 → SS → Prop} (hw : wp_X10_isWell  σ  Q) : MI yX10_isWell cX10_isWell 3 (some .int) 5 117 B 103 RS [.ref (B + 95)] σ Q := MI.mk (plainFor_of_name (by decide)) (Nat.le_of_ble_eq_true rfl) (fun X hC hR => t_X10_isWell hC  hR hw)
-- java/lang/Float.isNaN
def wp_Jxf58ca_isNaN_12338  (σ : SS) (p0 : UInt32) (Q : Int32 → SS → Prop) : Prop :=
  (((Op.cmpValue (FP.fcmp p0 p0) .l) = 0 →
      Q 0 σ) ∧
    (¬ (Op.cmpValue (FP.fcmp p0 p0) .l) = 0 →
      Q 1 σ))
set_option maxRecDepth 100000 in
set_option maxHeartbeats 4000000 in
theorem t_Jxf58ca_isNaN_12338 {X : XT} {B : Nat} (hC : Cx X 1 cJxf58ca_isNaN_12338 RJxf58ca (rmN 0 0)) {Q : Int32 → SS → Prop} (hR : RtZ X 1 B 103 RS cJxf58ca_isNaN_12338 Q) {σ : SS} {p0 : UInt32} (hw : wp_Jxf58ca_isNaN_12338  σ p0 Q) : J X 1 B 103 RS 0 0 σ [(0, .float p0)] 0 [] := by
  unfold wp_Jxf58ca_isNaN_12338 at hw
  refine j_fload_n 0 hC 0 (dg DJxf58ca_isNaN_12338 0 rfl) rfl rfl ?_
  refine j_fload_n 1 hC 0 (dg DJxf58ca_isNaN_12338 1 rfl) rfl rfl ?_
  refine j_fcmp 2 hC (dg DJxf58ca_isNaN_12338 2 rfl) ?_
  refine j_if_eq 3 10 hC (dg DJxf58ca_isNaN_12338 3 rfl) (by decide) (fun hbr => ?_) (fun hbr => ?_)
  · replace hw := hw.1 hbr
    refine j_iconst 10 hC (dg DJxf58ca_isNaN_12338 6 rfl) (v := 0) (by decide) ?_
    exact hR 11 _ _ _ (dg DJxf58ca_isNaN_12338 7 rfl) ⟨by decide, hw⟩
  · replace hw := hw.2 hbr
    refine j_iconst 6 hC (dg DJxf58ca_isNaN_12338 4 rfl) (v := 1) (by decide) ?_
    refine j_goto 7 11 hC (dg DJxf58ca_isNaN_12338 5 rfl) (by decide) ?_
    exact hR 11 _ _ _ (dg DJxf58ca_isNaN_12338 7 rfl) ⟨by decide, hw⟩
theorem m_Jxf58ca_isNaN_12338 {B : Nat} {σ : SS} {p0 : UInt32} {Q : Int32 → SS → Prop} (hw : wp_Jxf58ca_isNaN_12338  σ p0 Q) : MI yJxf58ca_isNaN_12338 cJxf58ca_isNaN_12338 1 (some .boolean) 0 0 B 103 RS [.float p0] σ Q := MI.mkZ (by decide +kernel) (Nat.le_of_ble_eq_true rfl) (fun X hC hR => t_Jxf58ca_isNaN_12338 hC  hR hw)
-- java/lang/Float.floatToIntBits
def wp_Jxf58ca_floatToIntBits_5c35a  (σ : SS) (p0 : UInt32) (Q : Int32 → SS → Prop) : Prop :=
  wp_Jxf58ca_isNaN_12338 σ p0 (fun r2 σ1 =>
    ((r2 = 0 →
        Q p0.toInt32 σ1) ∧
      (¬ r2 = 0 →
        Q 2143289344 σ1)))
set_option maxRecDepth 100000 in
set_option maxHeartbeats 4000000 in
theorem t_Jxf58ca_floatToIntBits_5c35a {X : XT} {B : Nat} (hC : Cx X 1 cJxf58ca_floatToIntBits_5c35a RJxf58ca (rmN 1 40)) {Q : Int32 → SS → Prop} (hR : RtI X 1 B 103 RS cJxf58ca_floatToIntBits_5c35a Q) {σ : SS} {p0 : UInt32} (hw : wp_Jxf58ca_floatToIntBits_5c35a  σ p0 Q) : J X 1 B 103 RS 0 0 σ [(0, .float p0)] 0 [] := by
  unfold wp_Jxf58ca_floatToIntBits_5c35a at hw
  refine j_fload_n 0 hC 0 (dg DJxf58ca_floatToIntBits_5c35a 0 rfl) rfl rfl ?_
  refine j_Si (As := [.float p0]) 1 hC (m_Jxf58ca_isNaN_12338  hw) kJxf58ca_59 (rmN_ok (by decide) (by decide)) rfl rfl (Nat.le_of_ble_eq_true rfl) (dg DJxf58ca_floatToIntBits_5c35a 1 rfl) (fun r2 σ1 hw => ?_)
  refine j_if_ne 4 12 hC (dg DJxf58ca_floatToIntBits_5c35a 2 rfl) (by decide) (fun hbr => ?_) (fun hbr => ?_)
  · replace hw := hw.2 hbr
    refine j_ldc 12 hC (dg DJxf58ca_floatToIntBits_5c35a 6 rfl) w_1243 ?_
    exact hR 14 _ _ _ (dg DJxf58ca_floatToIntBits_5c35a 7 rfl) hw
  · replace hw := hw.1 hbr
    refine j_fload_n 7 hC 0 (dg DJxf58ca_floatToIntBits_5c35a 3 rfl) rfl rfl ?_
    refine j_raw 8 hC w_1240 w_1242 w_1241 w_87 (by decide) (Nat.le_of_ble_eq_true rfl) (dg DJxf58ca_floatToIntBits_5c35a 4 rfl) ?_
    exact hR 11 _ _ _ (dg DJxf58ca_floatToIntBits_5c35a 5 rfl) hw
theorem m_Jxf58ca_floatToIntBits_5c35a {B : Nat} {σ : SS} {p0 : UInt32} {Q : Int32 → SS → Prop} (hw : wp_Jxf58ca_floatToIntBits_5c35a  σ p0 Q) : MI yJxf58ca_floatToIntBits_5c35a cJxf58ca_floatToIntBits_5c35a 1 (some .int) 1 40 B 103 RS [.float p0] σ Q := MI.mk (by decide +kernel) (Nat.le_of_ble_eq_true rfl) (fun X hC hR => t_Jxf58ca_floatToIntBits_5c35a hC  hR hw)
-- FortressWatchModel.mean
def bd_X10_mean_4    (Q : Int32 → SS → Prop)  (rc : SS → Int32 → Int32 → Prop) (σ : SS) (v1 : Int32) (v2 : Int32) : Prop :=
  ((24 ≤ v2 →
      vf_n32 (FP.fdiv (FP.i2f v1) 1103101952) ∧
      wp_Jxf58ca_floatToIntBits_5c35a σ (FP.fdiv (FP.i2f v1) 1103101952) (fun r2 σ1 =>
        Q r2 σ1)) ∧
    (¬ 24 ≤ v2 →
      wp_X10_watchers σ v2 (fun r4 σ3 =>
        rc σ3 (v1 + r4) (v2 + 1))))
def wp_X10_mean  (σ : SS)  (Q : Int32 → SS → Prop) : Prop :=
  ∃ k5, Lii (bd_X10_mean_4 Q) k5 σ 0 0
set_option maxRecDepth 100000 in
set_option maxHeartbeats 4000000 in
theorem tb_X10_mean_4 {X : XT} {B : Nat} (hC : Cx X 3 cX10_mean RX10 (rmN 4 92)) {Q : Int32 → SS → Prop} (hR : RtI X 3 B 103 RS cX10_mean Q) {rc : SS → Int32 → Int32 → Prop} (hrc : ∀ (σ : SS) (v1 : Int32) (v2 : Int32), rc σ v1 v2 → J X 3 B 103 RS 0 0 σ [(0, .ref (B + 95)), (1, .int v1), (2, .int v2)] 4 []) : ∀ (σ : SS) (v1 : Int32) (v2 : Int32), bd_X10_mean_4 Q rc σ v1 v2 → J X 3 B 103 RS 0 0 σ [(0, .ref (B + 95)), (1, .int v1), (2, .int v2)] 4 [] := by
  intro σ v1 v2 hw
  unfold bd_X10_mean_4 at hw
  refine j_iload_n 4 hC 2 (dg DX10_mean 4 rfl) rfl rfl ?_
  refine j_bipush 5 hC (dg DX10_mean 5 rfl) (v := 24) (by decide) ?_
  refine j_icmp_ge 7 24 hC (dg DX10_mean 6 rfl) (by decide) (fun hbr => ?_) (fun hbr => ?_)
  · replace hw := hw.1 hbr
    refine j_iload_n 24 hC 1 (dg DX10_mean 15 rfl) rfl rfl ?_
    refine j_i2f 25 hC (dg DX10_mean 16 rfl) ?_
    refine j_ldcf 26 hC (dg DX10_mean 17 rfl) w_1233 ?_
    refine j_fdiv 28 hC (dg DX10_mean 18 rfl) hw.1 ?_
    replace hw := hw.2
    refine j_Si (As := [.float (FP.fdiv (FP.i2f v1) 1103101952)]) 29 hC (m_Jxf58ca_floatToIntBits_5c35a  hw) kX10_235 (rmN_ok (by decide) (by decide)) rfl rfl (Nat.le_of_ble_eq_true rfl) (dg DX10_mean 19 rfl) (fun r2 σ1 hw => ?_)
    exact hR 32 _ _ _ (dg DX10_mean 20 rfl) hw
  · replace hw := hw.2 hbr
    refine j_iload_n 10 hC 1 (dg DX10_mean 7 rfl) rfl rfl ?_
    refine j_aload_n 11 hC 0 (dg DX10_mean 8 rfl) rfl rfl ?_
    refine j_iload_n 12 hC 2 (dg DX10_mean 9 rfl) rfl rfl ?_
    refine j_Vi (As := [.int v2]) 13 hC (m_X10_watchers  hw) kX10_166 (k_95) (by decide) ⟨_, _, rfl⟩ (rmN_ok (by decide) (by decide)) rfl rfl (Nat.le_of_ble_eq_true rfl) (dg DX10_mean 10 rfl) (fun r4 σ3 hw => ?_)
    refine j_iadd 16 hC (dg DX10_mean 11 rfl) ?_
    refine j_istore_n 17 hC [(1, .int (v1 + r4)), (0, .ref (B + 95)), (2, .int v2)] (dg DX10_mean 12 rfl) rfl (by decide) rfl ?_
    refine j_iinc 18 hC 2 (v2 + 1) [(2, .int (v2 + 1)), (1, .int (v1 + r4)), (0, .ref (B + 95))] (dg DX10_mean 13 rfl) rfl rfl (by decide) rfl ?_
    refine j_goto 21 4 hC (dg DX10_mean 14 rfl) (by decide) ?_
    refine j_lv [2, 1, 0] (lv' := [(0, .ref (B + 95)), (1, .int (v1 + r4)), (2, .int (v2 + 1))]) rfl ?_
    exact hrc _ _ _ hw
set_option maxRecDepth 100000 in
set_option maxHeartbeats 4000000 in
theorem t_X10_mean {X : XT} {B : Nat} (hC : Cx X 3 cX10_mean RX10 (rmN 4 92)) {Q : Int32 → SS → Prop} (hR : RtI X 3 B 103 RS cX10_mean Q) {σ : SS} (hw : wp_X10_mean  σ  Q) : J X 3 B 103 RS 0 0 σ [(0, .ref (B + 95))] 0 [] := by
  unfold wp_X10_mean at hw
  refine j_iconst 0 hC (dg DX10_mean 0 rfl) (v := 0) (by decide) ?_
  refine j_istore_n 1 hC [(1, .int 0), (0, .ref (B + 95))] (dg DX10_mean 1 rfl) rfl (by decide) rfl ?_
  refine j_iconst 2 hC (dg DX10_mean 2 rfl) (v := 0) (by decide) ?_
  refine j_istore_n 3 hC [(2, .int 0), (1, .int 0), (0, .ref (B + 95))] (dg DX10_mean 3 rfl) rfl (by decide) rfl ?_
  obtain ⟨k5, hw⟩ := hw
  refine j_lv [2, 1, 0] (lv' := [(0, .ref (B + 95)), (1, .int 0), (2, .int 0)]) rfl ?_
  exact Lii.snd (P := fun τ w1 w2 => J X 3 B 103 RS 0 0 τ [(0, .ref (B + 95)), (1, .int w1), (2, .int w2)] 4 []) (fun rcc hrcc => tb_X10_mean_4 hC  hR  hrcc) k5 _ _ _ hw
theorem m_X10_mean {B : Nat} {σ : SS} {Q : Int32 → SS → Prop} (hw : wp_X10_mean  σ  Q) : MI yX10_mean cX10_mean 3 (some .int) 4 92 B 103 RS [.ref (B + 95)] σ Q := MI.mk (plainFor_of_name (by decide)) (Nat.le_of_ble_eq_true rfl) (fun X hC hR => t_X10_mean hC  hR hw)
-- FortressWatchModel.undo
def wp_X10_undo  (σ : SS)  (Q : Int32 → SS → Prop) : Prop :=
  (((σ 95 4) = 0 →
      Q (-4) σ) ∧
    (¬ (σ 95 4) = 0 →
      wp_X10_copies 99 472 96 59 (u2 σ 95 4 ((σ 95 4) - 1)) (59 * ((u2 σ 95 4 ((σ 95 4) - 1)) 95 4)) 0 (fun σ1 =>
        Q (σ1 95 4) σ1)))
set_option maxRecDepth 100000 in
set_option maxHeartbeats 4000000 in
theorem t_X10_undo {X : XT} {B : Nat} (hC : Cx X 1 cX10_undo RX10 (rmN 1 24)) {Q : Int32 → SS → Prop} (hR : RtI X 1 B 103 RS cX10_undo Q) {σ : SS} (hw : wp_X10_undo  σ  Q) : J X 1 B 103 RS 0 0 σ [(0, .ref (B + 95))] 0 [] := by
  unfold wp_X10_undo at hw
  refine j_aload_n 0 hC 0 (dg DX10_undo 0 rfl) rfl rfl ?_
  refine j_getI 1 hC fX10_39 (k_95) (by decide) (by decide) rfl (dg DX10_undo 1 rfl) ?_
  refine j_if_ne 4 10 hC (dg DX10_undo 2 rfl) (by decide) (fun hbr => ?_) (fun hbr => ?_)
  · replace hw := hw.2 hbr
    refine j_aload_n 10 hC 0 (dg DX10_undo 5 rfl) rfl rfl ?_
    refine j_dup 11 hC (dg DX10_undo 6 rfl) rfl ?_
    refine j_getI 12 hC fX10_39 (k_95) (by decide) (by decide) rfl (dg DX10_undo 7 rfl) ?_
    refine j_iconst 15 hC (dg DX10_undo 8 rfl) (v := 1) (by decide) ?_
    refine j_isub 16 hC (dg DX10_undo 9 rfl) ?_
    refine j_putI 17 hC fX10_39 (k_95) (by decide) (by decide) rfl fp10_4 rfl (dg DX10_undo 10 rfl) ?_
    refine j_aload_n 20 hC 0 (dg DX10_undo 11 rfl) rfl rfl ?_
    refine j_getR 21 hC fX10_19 (k_95) (by decide) (by decide) rfl (dg DX10_undo 12 rfl) ?_
    refine j_bipush 24 hC (dg DX10_undo 13 rfl) (v := 59) (by decide) ?_
    refine j_aload_n 26 hC 0 (dg DX10_undo 14 rfl) rfl rfl ?_
    refine j_getI 27 hC fX10_39 (k_95) (by decide) (by decide) rfl (dg DX10_undo 15 rfl) ?_
    refine j_imul 30 hC (dg DX10_undo 16 rfl) ?_
    refine j_aload_n 31 hC 0 (dg DX10_undo 17 rfl) rfl rfl ?_
    refine j_getR 32 hC fX10_9 (k_95) (by decide) (by decide) rfl (dg DX10_undo 18 rfl) ?_
    refine j_iconst 35 hC (dg DX10_undo 19 rfl) (v := 0) (by decide) ?_
    refine j_Sv (As := [.ref (B + 99), .int (59 * ((u2 σ 95 4 ((σ 95 4) - 1)) 95 4)), .ref (B + 96), .int 0]) 36 hC (m_X10_copies (k_99) (by decide) (k_96) (by decide) hw) kX10_35 (rmN_ok (by decide) (by decide)) rfl rfl (Nat.le_of_ble_eq_true rfl) (dg DX10_undo 20 rfl) (fun σ1 hw => ?_)
    refine j_aload_n 39 hC 0 (dg DX10_undo 21 rfl) rfl rfl ?_
    refine j_getI 40 hC fX10_39 (k_95) (by decide) (by decide) rfl (dg DX10_undo 22 rfl) ?_
    exact hR 43 _ _ _ (dg DX10_undo 23 rfl) hw
  · replace hw := hw.1 hbr
    refine j_bipush 7 hC (dg DX10_undo 3 rfl) (v := (-4)) (by decide) ?_
    exact hR 9 _ _ _ (dg DX10_undo 4 rfl) hw
theorem m_X10_undo {B : Nat} {σ : SS} {Q : Int32 → SS → Prop} (hw : wp_X10_undo  σ  Q) : MI yX10_undo cX10_undo 1 (some .int) 1 24 B 103 RS [.ref (B + 95)] σ Q := MI.mk (plainFor_of_name (by decide)) (Nat.le_of_ble_eq_true rfl) (fun X hC hR => t_X10_undo hC  hR hw)
