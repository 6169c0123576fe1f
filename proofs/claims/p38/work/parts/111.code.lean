-- FortressWatchLaw.isWell
def bd_L_isWell_449   (K353 : SS → Int32 → Int32 → Int32 → Int32 → Prop) (Q : Int32 → SS → Prop) (l1 : Int32) (l2 : Int32) (l3 : Int32) (l4 : Int32) (l5 : Int32) (l6 : Int32) (l7 : Int32) (l8 : Int32) (l9 : Int32) (l10 : Int32) (l11 : Int32) (l12 : Int32) (l13 : Int32) (rc : SS → Int32 → Prop) (σ : SS) (v14 : Int32) : Prop :=
  ((l13 ≤ v14 →
      K353 σ l8 l9 l12 (l11 + 1)) ∧
    (¬ l13 ≤ v14 →
      wp_X9_watched σ ((l12 + v14) - (l12 + v14) / 24 * 24) (fun r70 σ69 =>
        ((r70 = 0 →
            rc σ69 (v14 + 1)) ∧
          (¬ r70 = 0 →
            Q 0 σ69)))))
def bd_L_isWell_353    (Q : Int32 → SS → Prop) (l1 : Int32) (l2 : Int32) (l3 : Int32) (l4 : Int32) (l5 : Int32) (l6 : Int32) (l7 : Int32) (rc : SS → Int32 → Int32 → Int32 → Int32 → Prop) (σ : SS) (v8 : Int32) (v9 : Int32) (v10 : Int32) (v11 : Int32) : Prop :=
  ((l7 ≤ v11 →
      wp_X9_fewest σ (fun r6 σ5 =>
        wp_X9_fewestAgain σ5 (fun r8 σ7 =>
          ((r6 = r8 →
              ((r6 = (-4) →
                  ((l4 = 0 →
                      Q 0 σ7) ∧
                    (¬ l4 = 0 →
                      wp_X9_watches σ7 (fun r42 σ41 =>
                        ((r42 = 0 →
                            wp_X9_account σ41 1 (fun r44 σ43 =>
                              ((l5 = r44 →
                                  wp_X9_account σ43 2 (fun r46 σ45 =>
                                    ((l2 = r46 →
                                        wp_X9_account σ45 3 (fun r48 σ47 =>
                                          ((l3 = r48 →
                                              wp_X9_account σ47 6 (fun r50 σ49 =>
                                                ((l4 = r50 →
                                                    wp_X9_account σ49 5 (fun r52 σ51 =>
                                                      ((v8 = r52 →
                                                          (((v9 + l2) = 24 →
                                                              wp_X9_gapOf σ51 l7 0 (fun r54 σ53 =>
                                                                ((r54 = (-1) →
                                                                    wp_X9_mean σ53 (fun r56 σ55 =>
                                                                      vf_n32 (FP.fdiv (FP.i2f l6) 1103101952) ∧
                                                                      wp_Jxf58ca_floatToIntBits_5c35a σ55 (FP.fdiv (FP.i2f l6) 1103101952) (fun r58 σ57 =>
                                                                        ((r56 = r58 →
                                                                            wp_X9_account σ57 8 (fun r60 σ59 =>
                                                                              wp_X9_account σ59 9 (fun r62 σ61 =>
                                                                                (((r60 - r62) = l1 →
                                                                                    wp_X9_isWell σ61 (fun r64 σ63 =>
                                                                                      ((r64 = 1 →
                                                                                          Q 1 σ63) ∧
                                                                                        (¬ r64 = 1 →
                                                                                          Q 0 σ63)))) ∧
                                                                                  (¬ (r60 - r62) = l1 →
                                                                                    Q 0 σ61))))) ∧
                                                                          (¬ r56 = r58 →
                                                                            Q 0 σ57))))) ∧
                                                                  (¬ r54 = (-1) →
                                                                    Q 0 σ53)))) ∧
                                                            (¬ (v9 + l2) = 24 →
                                                              Q 0 σ51))) ∧
                                                        (¬ v8 = r52 →
                                                          Q 0 σ51)))) ∧
                                                  (¬ l4 = r50 →
                                                    Q 0 σ49)))) ∧
                                            (¬ l3 = r48 →
                                              Q 0 σ47)))) ∧
                                      (¬ l2 = r46 →
                                        Q 0 σ45)))) ∧
                                (¬ l5 = r44 →
                                  Q 0 σ43)))) ∧
                          (¬ r42 = 0 →
                            Q 0 σ41)))))) ∧
                (¬ r6 = (-4) →
                  ((0 < l4 →
                      Q 0 σ7) ∧
                    (¬ 0 < l4 →
                      wp_X9_isFull σ7 r6 (fun r10 σ9 =>
                        ((r10 = 1 →
                            wp_X9_watches σ9 (fun r12 σ11 =>
                              ((r12 < 1 →
                                  Q 0 σ11) ∧
                                (¬ r12 < 1 →
                                  wp_X9_account σ11 7 (fun r14 σ13 =>
                                    wp_X9_wouldNeed σ13 r14 (fun r16 σ15 =>
                                      wp_J6_bitCount_0f7a4 σ15 r6 (fun r18 σ17 =>
                                        ((r16 = r18 →
                                            wp_X9_account σ17 1 (fun r20 σ19 =>
                                              ((l5 = r20 →
                                                  wp_X9_account σ19 2 (fun r22 σ21 =>
                                                    ((l2 = r22 →
                                                        wp_X9_account σ21 3 (fun r24 σ23 =>
                                                          ((l3 = r24 →
                                                              wp_X9_account σ23 6 (fun r26 σ25 =>
                                                                ((l4 = r26 →
                                                                    wp_X9_account σ25 5 (fun r28 σ27 =>
                                                                      ((v8 = r28 →
                                                                          (((v9 + l2) = 24 →
                                                                              wp_X9_gapOf σ27 l7 0 (fun r30 σ29 =>
                                                                                ((r30 = (-1) →
                                                                                    wp_X9_mean σ29 (fun r32 σ31 =>
                                                                                      vf_n32 (FP.fdiv (FP.i2f l6) 1103101952) ∧
                                                                                      wp_Jxf58ca_floatToIntBits_5c35a σ31 (FP.fdiv (FP.i2f l6) 1103101952) (fun r34 σ33 =>
                                                                                        ((r32 = r34 →
                                                                                            wp_X9_account σ33 8 (fun r36 σ35 =>
                                                                                              wp_X9_account σ35 9 (fun r38 σ37 =>
                                                                                                (((r36 - r38) = l1 →
                                                                                                    wp_X9_isWell σ37 (fun r40 σ39 =>
                                                                                                      ((r40 = 1 →
                                                                                                          Q 1 σ39) ∧
                                                                                                        (¬ r40 = 1 →
                                                                                                          Q 0 σ39)))) ∧
                                                                                                  (¬ (r36 - r38) = l1 →
                                                                                                    Q 0 σ37))))) ∧
                                                                                          (¬ r32 = r34 →
                                                                                            Q 0 σ33))))) ∧
                                                                                  (¬ r30 = (-1) →
                                                                                    Q 0 σ29)))) ∧
                                                                            (¬ (v9 + l2) = 24 →
                                                                              Q 0 σ27))) ∧
                                                                        (¬ v8 = r28 →
                                                                          Q 0 σ27)))) ∧
                                                                  (¬ l4 = r26 →
                                                                    Q 0 σ25)))) ∧
                                                            (¬ l3 = r24 →
                                                              Q 0 σ23)))) ∧
                                                      (¬ l2 = r22 →
                                                        Q 0 σ21)))) ∧
                                                (¬ l5 = r20 →
                                                  Q 0 σ19)))) ∧
                                          (¬ r16 = r18 →
                                            Q 0 σ17))))))))) ∧
                          (¬ r10 = 1 →
                            Q 0 σ9)))))))) ∧
            (¬ r6 = r8 →
              Q 0 σ7))))) ∧
    (¬ l7 ≤ v11 →
      wp_X9_gapOf σ v11 0 (fun r66 σ65 =>
        wp_X9_gapOf σ65 v11 1 (fun r68 σ67 =>
          ((r66 ≤ v10 →
              Q 0 σ67) ∧
            (¬ r66 ≤ v10 →
              ((r68 < 1 →
                  Q 0 σ67) ∧
                (¬ r68 < 1 →
                  ((24 ≤ r68 →
                      ∃ k71, Li (bd_L_isWell_449 rc Q l1 l2 l3 l4 l5 l6 l7 (if v8 < r68 then r68 else v8) (v9 + r68) v10 v11 r66 r68) k71 σ67 0) ∧
                    (¬ 24 ≤ r68 →
                      wp_X9_watched σ67 ((r66 + 23) - (r66 + 23) / 24 * 24) (fun r73 σ72 =>
                        ((r73 = 0 →
                            Q 0 σ72) ∧
                          (¬ r73 = 0 →
                            wp_X9_watched σ72 ((r66 + r68) - (r66 + r68) / 24 * 24) (fun r75 σ74 =>
                              ((r75 = 0 →
                                  Q 0 σ74) ∧
                                (¬ r75 = 0 →
                                  ∃ k76, Li (bd_L_isWell_449 rc Q l1 l2 l3 l4 l5 l6 l7 (if v8 < r68 then r68 else v8) (v9 + r68) v10 v11 r66 r68) k76 σ74 0))))))))))))))))
def bd_L_isWell_251   (K236 : SS → Int32 → Prop) (Q : Int32 → SS → Prop) (l1 : Int32) (l2 : Int32) (l3 : Int32) (l4 : Int32) (l5 : Int32) (l6 : Int32) (l7 : Int32) (rc : SS → Int32 → Int32 → Int32 → Prop) (σ : SS) (v8 : Int32) (v9 : Int32) (v10 : Int32) : Prop :=
  ((24 ≤ v10 →
      wp_X9_postOf σ l7 6 (fun r79 σ78 =>
        ((r79 = v8 →
            wp_X9_postOf σ78 l7 7 (fun r81 σ80 =>
              ((r81 = v9 →
                  K236 σ80 (l7 + 1)) ∧
                (¬ r81 = v9 →
                  Q 0 σ80)))) ∧
          (¬ r79 = v8 →
            Q 0 σ78)))) ∧
    (¬ 24 ≤ v10 →
      wp_X9_sees σ l7 v10 (fun r83 σ82 =>
        wp_X9_seenBy σ82 v10 (fun r85 σ84 =>
          ((r85 = ((1 : Int32) <<< (l7 &&& 31)) →
              rc σ84 (v8 + r83) (v9 + 1) (v10 + 1)) ∧
            (¬ r85 = ((1 : Int32) <<< (l7 &&& 31)) →
              rc σ84 (v8 + r83) (v9 + 0) (v10 + 1)))))))
def bd_L_isWell_236    (Q : Int32 → SS → Prop) (l1 : Int32) (l2 : Int32) (l3 : Int32) (l4 : Int32) (l5 : Int32) (l6 : Int32) (rc : SS → Int32 → Prop) (σ : SS) (v7 : Int32) : Prop :=
  ((l1 ≤ v7 →
      wp_X9_account σ 4 (fun r4 σ3 =>
        ∃ k77, Liiii (bd_L_isWell_353 Q l1 l2 l3 l4 l5 l6 r4) k77 σ3 0 0 (-1) 0)) ∧
    (¬ l1 ≤ v7 →
      ∃ k86, Liii (bd_L_isWell_251 rc Q l1 l2 l3 l4 l5 l6 v7) k86 σ 0 0 0))
def bd_L_isWell_65   (K49 : SS → Int32 → Int32 → Int32 → Int32 → Int32 → Prop) (Q : Int32 → SS → Prop) (l1 : Int32) (l2 : Int32) (l3 : Int32) (l4 : Int32) (l5 : Int32) (l6 : Int32) (l7 : Int32) (rc : SS → Int32 → Int32 → Int32 → Prop) (σ : SS) (v8 : Int32) (v9 : Int32) (v10 : Int32) : Prop :=
  ((l1 ≤ v10 →
      wp_X9_seenBy σ l7 (fun r89 σ88 =>
        ((r89 = v8 →
            wp_X9_watched σ88 l7 (fun r91 σ90 =>
              ((r91 = v9 →
                  ((v9 ≤ 0 →
                      ((v9 ≤ 1 →
                          ((v8 = 0 →
                              K49 σ90 (l2 + 0) (l3 + 0) (l4 + 1) (l6 + v9) (l7 + 1)) ∧
                            (¬ v8 = 0 →
                              K49 σ90 (l2 + 0) (l3 + 0) (l4 + 0) (l6 + v9) (l7 + 1)))) ∧
                        (¬ v9 ≤ 1 →
                          ((v8 = 0 →
                              K49 σ90 (l2 + 0) (l3 + 1) (l4 + 1) (l6 + v9) (l7 + 1)) ∧
                            (¬ v8 = 0 →
                              K49 σ90 (l2 + 0) (l3 + 1) (l4 + 0) (l6 + v9) (l7 + 1)))))) ∧
                    (¬ v9 ≤ 0 →
                      ((v9 ≤ 1 →
                          ((v8 = 0 →
                              K49 σ90 (l2 + 1) (l3 + 0) (l4 + 1) (l6 + v9) (l7 + 1)) ∧
                            (¬ v8 = 0 →
                              K49 σ90 (l2 + 1) (l3 + 0) (l4 + 0) (l6 + v9) (l7 + 1)))) ∧
                        (¬ v9 ≤ 1 →
                          ((v8 = 0 →
                              K49 σ90 (l2 + 1) (l3 + 1) (l4 + 1) (l6 + v9) (l7 + 1)) ∧
                            (¬ v8 = 0 →
                              K49 σ90 (l2 + 1) (l3 + 1) (l4 + 0) (l6 + v9) (l7 + 1)))))))) ∧
                (¬ r91 = v9 →
                  Q 0 σ90)))) ∧
          (¬ r89 = v8 →
            Q 0 σ88)))) ∧
    (¬ l1 ≤ v10 →
      wp_L_should σ v10 l7 (fun r93 σ92 =>
        wp_X9_sees σ92 v10 l7 (fun r95 σ94 =>
          ((r93 = 0 →
              ((r95 = 0 →
                  ((r93 = 0 →
                      ((r93 = 0 →
                          rc σ94 (v8 ||| 0) (v9 + 0) (v10 + 1)) ∧
                        (¬ r93 = 0 →
                          wp_X9_postOf σ94 v10 5 (fun r97 σ96 =>
                            ((r97 = 1 →
                                rc σ96 (v8 ||| 0) (v9 + 1) (v10 + 1)) ∧
                              (¬ r97 = 1 →
                                rc σ96 (v8 ||| 0) (v9 + 0) (v10 + 1))))))) ∧
                    (¬ r93 = 0 →
                      ((r93 = 0 →
                          rc σ94 (v8 ||| ((1 : Int32) <<< (v10 &&& 31))) (v9 + 0) (v10 + 1)) ∧
                        (¬ r93 = 0 →
                          wp_X9_postOf σ94 v10 5 (fun r99 σ98 =>
                            ((r99 = 1 →
                                rc σ98 (v8 ||| ((1 : Int32) <<< (v10 &&& 31))) (v9 + 1) (v10 + 1)) ∧
                              (¬ r99 = 1 →
                                rc σ98 (v8 ||| ((1 : Int32) <<< (v10 &&& 31))) (v9 + 0) (v10 + 1))))))))) ∧
                (¬ r95 = 0 →
                  Q 0 σ94))) ∧
            (¬ r93 = 0 →
              ((r95 = 1 →
                  ((r93 = 0 →
                      ((r93 = 0 →
                          rc σ94 (v8 ||| 0) (v9 + 0) (v10 + 1)) ∧
                        (¬ r93 = 0 →
                          wp_X9_postOf σ94 v10 5 (fun r101 σ100 =>
                            ((r101 = 1 →
                                rc σ100 (v8 ||| 0) (v9 + 1) (v10 + 1)) ∧
                              (¬ r101 = 1 →
                                rc σ100 (v8 ||| 0) (v9 + 0) (v10 + 1))))))) ∧
                    (¬ r93 = 0 →
                      ((r93 = 0 →
                          rc σ94 (v8 ||| ((1 : Int32) <<< (v10 &&& 31))) (v9 + 0) (v10 + 1)) ∧
                        (¬ r93 = 0 →
                          wp_X9_postOf σ94 v10 5 (fun r103 σ102 =>
                            ((r103 = 1 →
                                rc σ102 (v8 ||| ((1 : Int32) <<< (v10 &&& 31))) (v9 + 1) (v10 + 1)) ∧
                              (¬ r103 = 1 →
                                rc σ102 (v8 ||| ((1 : Int32) <<< (v10 &&& 31))) (v9 + 0) (v10 + 1))))))))) ∧
                (¬ r95 = 1 →
                  Q 0 σ94))))))))
def bd_L_isWell_49    (Q : Int32 → SS → Prop) (l1 : Int32) (l5 : Int32) (rc : SS → Int32 → Int32 → Int32 → Int32 → Int32 → Prop) (σ : SS) (v2 : Int32) (v3 : Int32) (v4 : Int32) (v6 : Int32) (v7 : Int32) : Prop :=
  ((24 ≤ v7 →
      ∃ k87, Li (bd_L_isWell_236 Q l1 v2 v3 v4 l5 v6) k87 σ 0) ∧
    (¬ 24 ≤ v7 →
      ∃ k104, Liii (bd_L_isWell_65 rc Q l1 v2 v3 v4 l5 v6 v7) k104 σ 0 0 0))
def bd_L_isWell_22    (Q : Int32 → SS → Prop) (l1 : Int32) (l2 : Int32) (l3 : Int32) (l4 : Int32) (l6 : Int32) (rc : SS → Int32 → Int32 → Prop) (σ : SS) (v5 : Int32) (v7 : Int32) : Prop :=
  ((l1 ≤ v7 →
      ∃ k105, Liiiii (bd_L_isWell_49 Q l1 v5) k105 σ l2 l3 l4 l6 0) ∧
    (¬ l1 ≤ v7 →
      wp_X9_postOf σ v7 5 (fun r107 σ106 =>
        rc σ106 (v5 + r107) (v7 + 1))))
def wp_L_isWell  (σ : SS)  (Q : Int32 → SS → Prop) : Prop :=
  wp_X9_account σ 0 (fun r2 σ1 =>
    ∃ k108, Lii (bd_L_isWell_22 Q r2 0 0 0 0) k108 σ1 0 0)
set_option maxRecDepth 100000 in
set_option maxHeartbeats 4000000 in
theorem tb_L_isWell_449 {X : XT} {B : Nat} (hC : Cx X 15 cL_isWell RL (rmN 17 454)) {K353 : SS → Int32 → Int32 → Int32 → Int32 → Prop} {Q : Int32 → SS → Prop} {l1 : Int32} {l2 : Int32} {l3 : Int32} {l4 : Int32} {l5 : Int32} {l6 : Int32} {l7 : Int32} {l8 : Int32} {l9 : Int32} {l10 : Int32} {l11 : Int32} {l12 : Int32} {l13 : Int32} (hR : RtZ X 15 B 95 RS cL_isWell Q) (hK353 : ∀ (σ : SS) (v8 : Int32) (v9 : Int32) (v10 : Int32) (v11 : Int32), K353 σ v8 v9 v10 v11 → J X 15 B 95 RS 0 0 σ [(0, .ref (B + 0)), (1, .int l1), (2, .int l2), (3, .int l3), (4, .int l4), (5, .int l5), (6, .int l6), (7, .int l7), (8, .int v8), (9, .int v9), (10, .int v10), (11, .int v11)] 353 []) {rc : SS → Int32 → Prop} (hrc : ∀ (σ : SS) (v14 : Int32), rc σ v14 → J X 15 B 95 RS 0 0 σ [(0, .ref (B + 0)), (1, .int l1), (2, .int l2), (3, .int l3), (4, .int l4), (5, .int l5), (6, .int l6), (7, .int l7), (8, .int l8), (9, .int l9), (10, .int l10), (11, .int l11), (12, .int l12), (13, .int l13), (14, .int v14)] 449 []) : ∀ (σ : SS) (v14 : Int32), bd_L_isWell_449 K353 Q l1 l2 l3 l4 l5 l6 l7 l8 l9 l10 l11 l12 l13 rc σ v14 → J X 15 B 95 RS 0 0 σ [(0, .ref (B + 0)), (1, .int l1), (2, .int l2), (3, .int l3), (4, .int l4), (5, .int l5), (6, .int l6), (7, .int l7), (8, .int l8), (9, .int l9), (10, .int l10), (11, .int l11), (12, .int l12), (13, .int l13), (14, .int v14)] 449 [] := by
  intro σ v14 hw
  unfold bd_L_isWell_449 at hw
  refine j_iload 449 hC 14 (dg DL_isWell 242 rfl) rfl ?_
  refine j_iload 451 hC 13 (dg DL_isWell 243 rfl) rfl ?_
  refine j_icmp_ge 453 479 hC (dg DL_isWell 244 rfl) (by decide) (fun hbr => ?_) (fun hbr => ?_)
  · replace hw := hw.1 hbr
    refine j_iload 479 hC 12 (dg DL_isWell 257 rfl) rfl ?_
    refine j_istore 481 hC [(10, .int l12), (0, .ref (B + 0)), (1, .int l1), (2, .int l2), (3, .int l3), (4, .int l4), (5, .int l5), (6, .int l6), (7, .int l7), (8, .int l8), (9, .int l9), (11, .int l11), (12, .int l12), (13, .int l13), (14, .int v14)] (dg DL_isWell 258 rfl) (by decide) rfl ?_
    refine j_iinc 483 hC 11 (l11 + 1) [(11, .int (l11 + 1)), (10, .int l12), (0, .ref (B + 0)), (1, .int l1), (2, .int l2), (3, .int l3), (4, .int l4), (5, .int l5), (6, .int l6), (7, .int l7), (8, .int l8), (9, .int l9), (12, .int l12), (13, .int l13), (14, .int v14)] (dg DL_isWell 259 rfl) rfl rfl (by decide) rfl ?_
    refine j_goto 486 353 hC (dg DL_isWell 260 rfl) (by decide) ?_
    refine j_lv [2, 3, 4, 5, 6, 7, 8, 9, 10, 11, 1, 0] (lv' := [(0, .ref (B + 0)), (1, .int l1), (2, .int l2), (3, .int l3), (4, .int l4), (5, .int l5), (6, .int l6), (7, .int l7), (8, .int l8), (9, .int l9), (10, .int l12), (11, .int (l11 + 1))]) rfl ?_
    exact hK353 _ _ _ _ _ hw
  · replace hw := hw.2 hbr
    refine j_aload_n 456 hC 0 (dg DL_isWell 245 rfl) rfl rfl ?_
    refine j_iload 457 hC 12 (dg DL_isWell 246 rfl) rfl ?_
    refine j_iload 459 hC 14 (dg DL_isWell 247 rfl) rfl ?_
    refine j_iadd 461 hC (dg DL_isWell 248 rfl) ?_
    refine j_bipush 462 hC (dg DL_isWell 249 rfl) (v := 24) (by decide) ?_
    refine j_irem 464 hC (dg DL_isWell 250 rfl) (by decide) ?_
    refine j_Vi (As := [.int ((l12 + v14) - (l12 + v14) / 24 * 24)]) 465 hC (m_X9_watched  hw) kL_112 (k_0) (by decide) ⟨_, _, rfl⟩ (rmN_ok (by decide) (by decide)) rfl rfl (Nat.le_of_ble_eq_true rfl) (dg DL_isWell 251 rfl) (fun r70 σ69 hw => ?_)
    refine j_if_eq 468 473 hC (dg DL_isWell 252 rfl) (by decide) (fun hbr => ?_) (fun hbr => ?_)
    · replace hw := hw.1 hbr
      refine j_iinc 473 hC 14 (v14 + 1) [(14, .int (v14 + 1)), (0, .ref (B + 0)), (1, .int l1), (2, .int l2), (3, .int l3), (4, .int l4), (5, .int l5), (6, .int l6), (7, .int l7), (8, .int l8), (9, .int l9), (10, .int l10), (11, .int l11), (12, .int l12), (13, .int l13)] (dg DL_isWell 255 rfl) rfl rfl (by decide) rfl ?_
      refine j_goto 476 449 hC (dg DL_isWell 256 rfl) (by decide) ?_
      refine j_lv [1, 2, 3, 4, 5, 6, 7, 8, 9, 10, 11, 12, 13, 14, 0] (lv' := [(0, .ref (B + 0)), (1, .int l1), (2, .int l2), (3, .int l3), (4, .int l4), (5, .int l5), (6, .int l6), (7, .int l7), (8, .int l8), (9, .int l9), (10, .int l10), (11, .int l11), (12, .int l12), (13, .int l13), (14, .int (v14 + 1))]) rfl ?_
      exact hrc _ _ hw
    · replace hw := hw.2 hbr
      refine j_iconst 471 hC (dg DL_isWell 253 rfl) (v := 0) (by decide) ?_
      exact hR 472 _ _ _ (dg DL_isWell 254 rfl) ⟨by decide, hw⟩
set_option maxRecDepth 100000 in
set_option maxHeartbeats 4000000 in
theorem tb_L_isWell_353 {X : XT} {B : Nat} (hC : Cx X 15 cL_isWell RL (rmN 17 454)) {Q : Int32 → SS → Prop} {l1 : Int32} {l2 : Int32} {l3 : Int32} {l4 : Int32} {l5 : Int32} {l6 : Int32} {l7 : Int32} (hR : RtZ X 15 B 95 RS cL_isWell Q) {rc : SS → Int32 → Int32 → Int32 → Int32 → Prop} (hrc : ∀ (σ : SS) (v8 : Int32) (v9 : Int32) (v10 : Int32) (v11 : Int32), rc σ v8 v9 v10 v11 → J X 15 B 95 RS 0 0 σ [(0, .ref (B + 0)), (1, .int l1), (2, .int l2), (3, .int l3), (4, .int l4), (5, .int l5), (6, .int l6), (7, .int l7), (8, .int v8), (9, .int v9), (10, .int v10), (11, .int v11)] 353 []) : ∀ (σ : SS) (v8 : Int32) (v9 : Int32) (v10 : Int32) (v11 : Int32), bd_L_isWell_353 Q l1 l2 l3 l4 l5 l6 l7 rc σ v8 v9 v10 v11 → J X 15 B 95 RS 0 0 σ [(0, .ref (B + 0)), (1, .int l1), (2, .int l2), (3, .int l3), (4, .int l4), (5, .int l5), (6, .int l6), (7, .int l7), (8, .int v8), (9, .int v9), (10, .int v10), (11, .int v11)] 353 [] := by
  intro σ v8 v9 v10 v11 hw
  unfold bd_L_isWell_353 at hw
  refine j_iload 353 hC 11 (dg DL_isWell 192 rfl) rfl ?_
  refine j_iload 355 hC 7 (dg DL_isWell 193 rfl) rfl ?_
  refine j_icmp_ge 357 489 hC (dg DL_isWell 194 rfl) (by decide) (fun hbr => ?_) (fun hbr => ?_)
  · replace hw := hw.1 hbr
    refine j_aload_n 489 hC 0 (dg DL_isWell 261 rfl) rfl rfl ?_
    refine j_Vi (As := []) 490 hC (m_X9_fewest  hw) kL_123 (k_0) (by decide) ⟨_, _, rfl⟩ (rmN_ok (by decide) (by decide)) rfl rfl (Nat.le_of_ble_eq_true rfl) (dg DL_isWell 262 rfl) (fun r6 σ5 hw => ?_)
    refine j_istore 493 hC [(11, .int r6), (0, .ref (B + 0)), (1, .int l1), (2, .int l2), (3, .int l3), (4, .int l4), (5, .int l5), (6, .int l6), (7, .int l7), (8, .int v8), (9, .int v9), (10, .int v10)] (dg DL_isWell 263 rfl) (by decide) rfl ?_
    refine j_iload 495 hC 0 (dg DL_isWell 264 rfl) rfl ?_
    refine j_aload_n 497 hC 1 (dg DL_isWell 265 rfl) rfl rfl ?_
    refine j_Vi (As := []) 498 hC (m_X9_fewestAgain  hw) kL_126 (k_0) (by decide) ⟨_, _, rfl⟩ (rmN_ok (by decide) (by decide)) rfl rfl (Nat.le_of_ble_eq_true rfl) (dg DL_isWell 266 rfl) (fun r8 σ7 hw => ?_)
    refine j_icmp_ne 501 567 hC (dg DL_isWell 267 rfl) (by decide) (fun hbr => ?_) (fun hbr => ?_)
    · replace hw := hw.2 hbr
      refine j_iconst 567 hC (dg DL_isWell 296 rfl) (v := 0) (by decide) ?_
      exact hR 568 _ _ _ (dg DL_isWell 297 rfl) ⟨by decide, hw⟩
    · replace hw := hw.1 hbr
      refine j_iload 504 hC 0 (dg DL_isWell 268 rfl) rfl ?_
      refine j_bipush 506 hC (dg DL_isWell 269 rfl) (v := (-4)) (by decide) ?_
      refine j_icmp_ne 508 526 hC (dg DL_isWell 270 rfl) (by decide) (fun hbr => ?_) (fun hbr => ?_)
      · replace hw := hw.2 hbr
        refine j_iload 526 hC 5 (dg DL_isWell 277 rfl) rfl ?_
        refine j_if_gt 528 567 hC (dg DL_isWell 278 rfl) (by decide) (fun hbr => ?_) (fun hbr => ?_)
        · replace hw := hw.1 hbr
          refine j_iconst 567 hC (dg DL_isWell 296 rfl) (v := 0) (by decide) ?_
          exact hR 568 _ _ _ (dg DL_isWell 297 rfl) ⟨by decide, hw⟩
        · replace hw := hw.2 hbr
          refine j_aload_n 531 hC 1 (dg DL_isWell 279 rfl) rfl rfl ?_
          refine j_iload 532 hC 0 (dg DL_isWell 280 rfl) rfl ?_
          refine j_Vi (As := [.int r6]) 534 hC (m_X9_isFull  hw) kL_132 (k_0) (by decide) ⟨_, _, rfl⟩ (rmN_ok (by decide) (by decide)) rfl rfl (Nat.le_of_ble_eq_true rfl) (dg DL_isWell 281 rfl) (fun r10 σ9 hw => ?_)
          refine j_iconst 537 hC (dg DL_isWell 282 rfl) (v := 1) (by decide) ?_
          refine j_icmp_ne 538 567 hC (dg DL_isWell 283 rfl) (by decide) (fun hbr => ?_) (fun hbr => ?_)
          · replace hw := hw.2 hbr
            refine j_iconst 567 hC (dg DL_isWell 296 rfl) (v := 0) (by decide) ?_
            exact hR 568 _ _ _ (dg DL_isWell 297 rfl) ⟨by decide, hw⟩
          · replace hw := hw.1 hbr
            refine j_aload_n 541 hC 1 (dg DL_isWell 284 rfl) rfl rfl ?_
            refine j_Vi (As := []) 542 hC (m_X9_watches  hw) kL_129 (k_0) (by decide) ⟨_, _, rfl⟩ (rmN_ok (by decide) (by decide)) rfl rfl (Nat.le_of_ble_eq_true rfl) (dg DL_isWell 285 rfl) (fun r12 σ11 hw => ?_)
            refine j_iconst 545 hC (dg DL_isWell 286 rfl) (v := 1) (by decide) ?_
            refine j_icmp_lt 546 567 hC (dg DL_isWell 287 rfl) (by decide) (fun hbr => ?_) (fun hbr => ?_)
            · replace hw := hw.1 hbr
              refine j_iconst 567 hC (dg DL_isWell 296 rfl) (v := 0) (by decide) ?_
              exact hR 568 _ _ _ (dg DL_isWell 297 rfl) ⟨by decide, hw⟩
            · replace hw := hw.2 hbr
              refine j_aload_n 549 hC 1 (dg DL_isWell 288 rfl) rfl rfl ?_
              refine j_aload_n 550 hC 1 (dg DL_isWell 289 rfl) rfl rfl ?_
              refine j_bipush 551 hC (dg DL_isWell 290 rfl) (v := 7) (by decide) ?_
              refine j_Vi (As := [.int 7]) 553 hC (m_X9_account  hw) kL_96 (k_0) (by decide) ⟨_, _, rfl⟩ (rmN_ok (by decide) (by decide)) rfl rfl (Nat.le_of_ble_eq_true rfl) (dg DL_isWell 291 rfl) (fun r14 σ13 hw => ?_)
              refine j_Vi (As := [.int r14]) 556 hC (m_X9_wouldNeed  hw) kL_135 (k_0) (by decide) ⟨_, _, rfl⟩ (rmN_ok (by decide) (by decide)) rfl rfl (Nat.le_of_ble_eq_true rfl) (dg DL_isWell 292 rfl) (fun r16 σ15 hw => ?_)
              refine j_iload 559 hC 0 (dg DL_isWell 293 rfl) rfl ?_
              refine j_Si (As := [.int r6]) 561 hC (m_J6_bitCount_0f7a4  hw) kL_138 (rmN_ok (by decide) (by decide)) rfl rfl (Nat.le_of_ble_eq_true rfl) (dg DL_isWell 294 rfl) (fun r18 σ17 hw => ?_)
              refine j_icmp_eq 564 569 hC (dg DL_isWell 295 rfl) (by decide) (fun hbr => ?_) (fun hbr => ?_)
              · replace hw := hw.1 hbr
                refine j_iload 569 hC 6 (dg DL_isWell 298 rfl) rfl ?_
                refine j_aload_n 571 hC 1 (dg DL_isWell 299 rfl) rfl rfl ?_
                refine j_iconst 572 hC (dg DL_isWell 300 rfl) (v := 1) (by decide) ?_
                refine j_Vi (As := [.int 1]) 573 hC (m_X9_account  hw) kL_96 (k_0) (by decide) ⟨_, _, rfl⟩ (rmN_ok (by decide) (by decide)) rfl rfl (Nat.le_of_ble_eq_true rfl) (dg DL_isWell 301 rfl) (fun r20 σ19 hw => ?_)
                refine j_icmp_ne 576 683 hC (dg DL_isWell 302 rfl) (by decide) (fun hbr => ?_) (fun hbr => ?_)
                · replace hw := hw.2 hbr
                  refine j_iconst 683 hC (dg DL_isWell 357 rfl) (v := 0) (by decide) ?_
                  exact hR 684 _ _ _ (dg DL_isWell 358 rfl) ⟨by decide, hw⟩
                · replace hw := hw.1 hbr
                  refine j_iload_n 579 hC 3 (dg DL_isWell 303 rfl) rfl rfl ?_
                  refine j_aload_n 580 hC 1 (dg DL_isWell 304 rfl) rfl rfl ?_
                  refine j_iconst 581 hC (dg DL_isWell 305 rfl) (v := 2) (by decide) ?_
                  refine j_Vi (As := [.int 2]) 582 hC (m_X9_account  hw) kL_96 (k_0) (by decide) ⟨_, _, rfl⟩ (rmN_ok (by decide) (by decide)) rfl rfl (Nat.le_of_ble_eq_true rfl) (dg DL_isWell 306 rfl) (fun r22 σ21 hw => ?_)
                  refine j_icmp_ne 585 683 hC (dg DL_isWell 307 rfl) (by decide) (fun hbr => ?_) (fun hbr => ?_)
                  · replace hw := hw.2 hbr
                    refine j_iconst 683 hC (dg DL_isWell 357 rfl) (v := 0) (by decide) ?_
                    exact hR 684 _ _ _ (dg DL_isWell 358 rfl) ⟨by decide, hw⟩
                  · replace hw := hw.1 hbr
                    refine j_iload_n 588 hC 4 (dg DL_isWell 308 rfl) rfl rfl ?_
                    refine j_aload_n 589 hC 1 (dg DL_isWell 309 rfl) rfl rfl ?_
                    refine j_iconst 590 hC (dg DL_isWell 310 rfl) (v := 3) (by decide) ?_
                    refine j_Vi (As := [.int 3]) 591 hC (m_X9_account  hw) kL_96 (k_0) (by decide) ⟨_, _, rfl⟩ (rmN_ok (by decide) (by decide)) rfl rfl (Nat.le_of_ble_eq_true rfl) (dg DL_isWell 311 rfl) (fun r24 σ23 hw => ?_)
                    refine j_icmp_ne 594 683 hC (dg DL_isWell 312 rfl) (by decide) (fun hbr => ?_) (fun hbr => ?_)
                    · replace hw := hw.2 hbr
                      refine j_iconst 683 hC (dg DL_isWell 357 rfl) (v := 0) (by decide) ?_
                      exact hR 684 _ _ _ (dg DL_isWell 358 rfl) ⟨by decide, hw⟩
                    · replace hw := hw.1 hbr
                      refine j_iload 597 hC 5 (dg DL_isWell 313 rfl) rfl ?_
                      refine j_aload_n 599 hC 1 (dg DL_isWell 314 rfl) rfl rfl ?_
                      refine j_bipush 600 hC (dg DL_isWell 315 rfl) (v := 6) (by decide) ?_
                      refine j_Vi (As := [.int 6]) 602 hC (m_X9_account  hw) kL_96 (k_0) (by decide) ⟨_, _, rfl⟩ (rmN_ok (by decide) (by decide)) rfl rfl (Nat.le_of_ble_eq_true rfl) (dg DL_isWell 316 rfl) (fun r26 σ25 hw => ?_)
                      refine j_icmp_ne 605 683 hC (dg DL_isWell 317 rfl) (by decide) (fun hbr => ?_) (fun hbr => ?_)
                      · replace hw := hw.2 hbr
                        refine j_iconst 683 hC (dg DL_isWell 357 rfl) (v := 0) (by decide) ?_
                        exact hR 684 _ _ _ (dg DL_isWell 358 rfl) ⟨by decide, hw⟩
                      · replace hw := hw.1 hbr
                        refine j_iload 608 hC 9 (dg DL_isWell 318 rfl) rfl ?_
                        refine j_aload_n 610 hC 1 (dg DL_isWell 319 rfl) rfl rfl ?_
                        refine j_iconst 611 hC (dg DL_isWell 320 rfl) (v := 5) (by decide) ?_
                        refine j_Vi (As := [.int 5]) 612 hC (m_X9_account  hw) kL_96 (k_0) (by decide) ⟨_, _, rfl⟩ (rmN_ok (by decide) (by decide)) rfl rfl (Nat.le_of_ble_eq_true rfl) (dg DL_isWell 321 rfl) (fun r28 σ27 hw => ?_)
                        refine j_icmp_ne 615 683 hC (dg DL_isWell 322 rfl) (by decide) (fun hbr => ?_) (fun hbr => ?_)
                        · replace hw := hw.2 hbr
                          refine j_iconst 683 hC (dg DL_isWell 357 rfl) (v := 0) (by decide) ?_
                          exact hR 684 _ _ _ (dg DL_isWell 358 rfl) ⟨by decide, hw⟩
                        · replace hw := hw.1 hbr
                          refine j_iload 618 hC 10 (dg DL_isWell 323 rfl) rfl ?_
                          refine j_iload_n 620 hC 3 (dg DL_isWell 324 rfl) rfl rfl ?_
                          refine j_iadd 621 hC (dg DL_isWell 325 rfl) ?_
                          refine j_bipush 622 hC (dg DL_isWell 326 rfl) (v := 24) (by decide) ?_
                          refine j_icmp_ne 624 683 hC (dg DL_isWell 327 rfl) (by decide) (fun hbr => ?_) (fun hbr => ?_)
                          · replace hw := hw.2 hbr
                            refine j_iconst 683 hC (dg DL_isWell 357 rfl) (v := 0) (by decide) ?_
                            exact hR 684 _ _ _ (dg DL_isWell 358 rfl) ⟨by decide, hw⟩
                          · replace hw := hw.1 hbr
                            refine j_aload_n 627 hC 1 (dg DL_isWell 328 rfl) rfl rfl ?_
                            refine j_iload 628 hC 8 (dg DL_isWell 329 rfl) rfl ?_
                            refine j_iconst 630 hC (dg DL_isWell 330 rfl) (v := 0) (by decide) ?_
                            refine j_Vi (As := [.int l7, .int 0]) 631 hC (m_X9_gapOf  hw) kL_115 (k_0) (by decide) ⟨_, _, rfl⟩ (rmN_ok (by decide) (by decide)) rfl rfl (Nat.le_of_ble_eq_true rfl) (dg DL_isWell 331 rfl) (fun r30 σ29 hw => ?_)
                            refine j_iconst 634 hC (dg DL_isWell 332 rfl) (v := (-1)) (by decide) ?_
                            refine j_icmp_ne 635 683 hC (dg DL_isWell 333 rfl) (by decide) (fun hbr => ?_) (fun hbr => ?_)
                            · replace hw := hw.2 hbr
                              refine j_iconst 683 hC (dg DL_isWell 357 rfl) (v := 0) (by decide) ?_
                              exact hR 684 _ _ _ (dg DL_isWell 358 rfl) ⟨by decide, hw⟩
                            · replace hw := hw.1 hbr
                              refine j_aload_n 638 hC 1 (dg DL_isWell 334 rfl) rfl rfl ?_
                              refine j_Vi (As := []) 639 hC (m_X9_mean  hw) kL_143 (k_0) (by decide) ⟨_, _, rfl⟩ (rmN_ok (by decide) (by decide)) rfl rfl (Nat.le_of_ble_eq_true rfl) (dg DL_isWell 335 rfl) (fun r32 σ31 hw => ?_)
                              refine j_iload 642 hC 7 (dg DL_isWell 336 rfl) rfl ?_
                              refine j_i2f 644 hC (dg DL_isWell 337 rfl) ?_
                              refine j_ldcf 645 hC (dg DL_isWell 338 rfl) w_1046 ?_
                              refine j_fdiv 647 hC (dg DL_isWell 339 rfl) hw.1 ?_
                              replace hw := hw.2
                              refine j_Si (As := [.float (FP.fdiv (FP.i2f l6) 1103101952)]) 648 hC (m_Jxf58ca_floatToIntBits_5c35a  hw) kL_147 (rmN_ok (by decide) (by decide)) rfl rfl (Nat.le_of_ble_eq_true rfl) (dg DL_isWell 340 rfl) (fun r34 σ33 hw => ?_)
                              refine j_icmp_ne 651 683 hC (dg DL_isWell 341 rfl) (by decide) (fun hbr => ?_) (fun hbr => ?_)
                              · replace hw := hw.2 hbr
                                refine j_iconst 683 hC (dg DL_isWell 357 rfl) (v := 0) (by decide) ?_
                                exact hR 684 _ _ _ (dg DL_isWell 358 rfl) ⟨by decide, hw⟩
                              · replace hw := hw.1 hbr
                                refine j_aload_n 654 hC 1 (dg DL_isWell 342 rfl) rfl rfl ?_
                                refine j_bipush 655 hC (dg DL_isWell 343 rfl) (v := 8) (by decide) ?_
                                refine j_Vi (As := [.int 8]) 657 hC (m_X9_account  hw) kL_96 (k_0) (by decide) ⟨_, _, rfl⟩ (rmN_ok (by decide) (by decide)) rfl rfl (Nat.le_of_ble_eq_true rfl) (dg DL_isWell 344 rfl) (fun r36 σ35 hw => ?_)
                                refine j_aload_n 660 hC 1 (dg DL_isWell 345 rfl) rfl rfl ?_
                                refine j_bipush 661 hC (dg DL_isWell 346 rfl) (v := 9) (by decide) ?_
                                refine j_Vi (As := [.int 9]) 663 hC (m_X9_account  hw) kL_96 (k_0) (by decide) ⟨_, _, rfl⟩ (rmN_ok (by decide) (by decide)) rfl rfl (Nat.le_of_ble_eq_true rfl) (dg DL_isWell 347 rfl) (fun r38 σ37 hw => ?_)
                                refine j_isub 666 hC (dg DL_isWell 348 rfl) ?_
                                refine j_iload_n 667 hC 2 (dg DL_isWell 349 rfl) rfl rfl ?_
                                refine j_icmp_ne 668 683 hC (dg DL_isWell 350 rfl) (by decide) (fun hbr => ?_) (fun hbr => ?_)
                                · replace hw := hw.2 hbr
                                  refine j_iconst 683 hC (dg DL_isWell 357 rfl) (v := 0) (by decide) ?_
                                  exact hR 684 _ _ _ (dg DL_isWell 358 rfl) ⟨by decide, hw⟩
                                · replace hw := hw.1 hbr
                                  refine j_aload_n 671 hC 1 (dg DL_isWell 351 rfl) rfl rfl ?_
                                  refine j_Vi (As := []) 672 hC (m_X9_isWell  hw) kL_153 (k_0) (by decide) ⟨_, _, rfl⟩ (rmN_ok (by decide) (by decide)) rfl rfl (Nat.le_of_ble_eq_true rfl) (dg DL_isWell 352 rfl) (fun r40 σ39 hw => ?_)
                                  refine j_iconst 675 hC (dg DL_isWell 353 rfl) (v := 1) (by decide) ?_
                                  refine j_icmp_ne 676 683 hC (dg DL_isWell 354 rfl) (by decide) (fun hbr => ?_) (fun hbr => ?_)
                                  · replace hw := hw.2 hbr
                                    refine j_iconst 683 hC (dg DL_isWell 357 rfl) (v := 0) (by decide) ?_
                                    exact hR 684 _ _ _ (dg DL_isWell 358 rfl) ⟨by decide, hw⟩
                                  · replace hw := hw.1 hbr
                                    refine j_iconst 679 hC (dg DL_isWell 355 rfl) (v := 1) (by decide) ?_
                                    refine j_goto 680 684 hC (dg DL_isWell 356 rfl) (by decide) ?_
                                    exact hR 684 _ _ _ (dg DL_isWell 358 rfl) ⟨by decide, hw⟩
              · replace hw := hw.2 hbr
                refine j_iconst 567 hC (dg DL_isWell 296 rfl) (v := 0) (by decide) ?_
                exact hR 568 _ _ _ (dg DL_isWell 297 rfl) ⟨by decide, hw⟩
      · replace hw := hw.1 hbr
        refine j_iload 511 hC 5 (dg DL_isWell 271 rfl) rfl ?_
        refine j_if_eq 513 567 hC (dg DL_isWell 272 rfl) (by decide) (fun hbr => ?_) (fun hbr => ?_)
        · replace hw := hw.1 hbr
          refine j_iconst 567 hC (dg DL_isWell 296 rfl) (v := 0) (by decide) ?_
          exact hR 568 _ _ _ (dg DL_isWell 297 rfl) ⟨by decide, hw⟩
        · replace hw := hw.2 hbr
          refine j_aload_n 516 hC 1 (dg DL_isWell 273 rfl) rfl rfl ?_
          refine j_Vi (As := []) 517 hC (m_X9_watches  hw) kL_129 (k_0) (by decide) ⟨_, _, rfl⟩ (rmN_ok (by decide) (by decide)) rfl rfl (Nat.le_of_ble_eq_true rfl) (dg DL_isWell 274 rfl) (fun r42 σ41 hw => ?_)
          refine j_if_eq 520 569 hC (dg DL_isWell 275 rfl) (by decide) (fun hbr => ?_) (fun hbr => ?_)
          · replace hw := hw.1 hbr
            refine j_iload 569 hC 6 (dg DL_isWell 298 rfl) rfl ?_
            refine j_aload_n 571 hC 1 (dg DL_isWell 299 rfl) rfl rfl ?_
            refine j_iconst 572 hC (dg DL_isWell 300 rfl) (v := 1) (by decide) ?_
            refine j_Vi (As := [.int 1]) 573 hC (m_X9_account  hw) kL_96 (k_0) (by decide) ⟨_, _, rfl⟩ (rmN_ok (by decide) (by decide)) rfl rfl (Nat.le_of_ble_eq_true rfl) (dg DL_isWell 301 rfl) (fun r44 σ43 hw => ?_)
            refine j_icmp_ne 576 683 hC (dg DL_isWell 302 rfl) (by decide) (fun hbr => ?_) (fun hbr => ?_)
            · replace hw := hw.2 hbr
              refine j_iconst 683 hC (dg DL_isWell 357 rfl) (v := 0) (by decide) ?_
              exact hR 684 _ _ _ (dg DL_isWell 358 rfl) ⟨by decide, hw⟩
            · replace hw := hw.1 hbr
              refine j_iload_n 579 hC 3 (dg DL_isWell 303 rfl) rfl rfl ?_
              refine j_aload_n 580 hC 1 (dg DL_isWell 304 rfl) rfl rfl ?_
              refine j_iconst 581 hC (dg DL_isWell 305 rfl) (v := 2) (by decide) ?_
              refine j_Vi (As := [.int 2]) 582 hC (m_X9_account  hw) kL_96 (k_0) (by decide) ⟨_, _, rfl⟩ (rmN_ok (by decide) (by decide)) rfl rfl (Nat.le_of_ble_eq_true rfl) (dg DL_isWell 306 rfl) (fun r46 σ45 hw => ?_)
              refine j_icmp_ne 585 683 hC (dg DL_isWell 307 rfl) (by decide) (fun hbr => ?_) (fun hbr => ?_)
              · replace hw := hw.2 hbr
                refine j_iconst 683 hC (dg DL_isWell 357 rfl) (v := 0) (by decide) ?_
                exact hR 684 _ _ _ (dg DL_isWell 358 rfl) ⟨by decide, hw⟩
              · replace hw := hw.1 hbr
                refine j_iload_n 588 hC 4 (dg DL_isWell 308 rfl) rfl rfl ?_
                refine j_aload_n 589 hC 1 (dg DL_isWell 309 rfl) rfl rfl ?_
                refine j_iconst 590 hC (dg DL_isWell 310 rfl) (v := 3) (by decide) ?_
                refine j_Vi (As := [.int 3]) 591 hC (m_X9_account  hw) kL_96 (k_0) (by decide) ⟨_, _, rfl⟩ (rmN_ok (by decide) (by decide)) rfl rfl (Nat.le_of_ble_eq_true rfl) (dg DL_isWell 311 rfl) (fun r48 σ47 hw => ?_)
                refine j_icmp_ne 594 683 hC (dg DL_isWell 312 rfl) (by decide) (fun hbr => ?_) (fun hbr => ?_)
                · replace hw := hw.2 hbr
                  refine j_iconst 683 hC (dg DL_isWell 357 rfl) (v := 0) (by decide) ?_
                  exact hR 684 _ _ _ (dg DL_isWell 358 rfl) ⟨by decide, hw⟩
                · replace hw := hw.1 hbr
                  refine j_iload 597 hC 5 (dg DL_isWell 313 rfl) rfl ?_
                  refine j_aload_n 599 hC 1 (dg DL_isWell 314 rfl) rfl rfl ?_
                  refine j_bipush 600 hC (dg DL_isWell 315 rfl) (v := 6) (by decide) ?_
                  refine j_Vi (As := [.int 6]) 602 hC (m_X9_account  hw) kL_96 (k_0) (by decide) ⟨_, _, rfl⟩ (rmN_ok (by decide) (by decide)) rfl rfl (Nat.le_of_ble_eq_true rfl) (dg DL_isWell 316 rfl) (fun r50 σ49 hw => ?_)
                  refine j_icmp_ne 605 683 hC (dg DL_isWell 317 rfl) (by decide) (fun hbr => ?_) (fun hbr => ?_)
                  · replace hw := hw.2 hbr
                    refine j_iconst 683 hC (dg DL_isWell 357 rfl) (v := 0) (by decide) ?_
                    exact hR 684 _ _ _ (dg DL_isWell 358 rfl) ⟨by decide, hw⟩
                  · replace hw := hw.1 hbr
                    refine j_iload 608 hC 9 (dg DL_isWell 318 rfl) rfl ?_
                    refine j_aload_n 610 hC 1 (dg DL_isWell 319 rfl) rfl rfl ?_
                    refine j_iconst 611 hC (dg DL_isWell 320 rfl) (v := 5) (by decide) ?_
                    refine j_Vi (As := [.int 5]) 612 hC (m_X9_account  hw) kL_96 (k_0) (by decide) ⟨_, _, rfl⟩ (rmN_ok (by decide) (by decide)) rfl rfl (Nat.le_of_ble_eq_true rfl) (dg DL_isWell 321 rfl) (fun r52 σ51 hw => ?_)
                    refine j_icmp_ne 615 683 hC (dg DL_isWell 322 rfl) (by decide) (fun hbr => ?_) (fun hbr => ?_)
                    · replace hw := hw.2 hbr
                      refine j_iconst 683 hC (dg DL_isWell 357 rfl) (v := 0) (by decide) ?_
                      exact hR 684 _ _ _ (dg DL_isWell 358 rfl) ⟨by decide, hw⟩
                    · replace hw := hw.1 hbr
                      refine j_iload 618 hC 10 (dg DL_isWell 323 rfl) rfl ?_
                      refine j_iload_n 620 hC 3 (dg DL_isWell 324 rfl) rfl rfl ?_
                      refine j_iadd 621 hC (dg DL_isWell 325 rfl) ?_
                      refine j_bipush 622 hC (dg DL_isWell 326 rfl) (v := 24) (by decide) ?_
                      refine j_icmp_ne 624 683 hC (dg DL_isWell 327 rfl) (by decide) (fun hbr => ?_) (fun hbr => ?_)
                      · replace hw := hw.2 hbr
                        refine j_iconst 683 hC (dg DL_isWell 357 rfl) (v := 0) (by decide) ?_
                        exact hR 684 _ _ _ (dg DL_isWell 358 rfl) ⟨by decide, hw⟩
                      · replace hw := hw.1 hbr
                        refine j_aload_n 627 hC 1 (dg DL_isWell 328 rfl) rfl rfl ?_
                        refine j_iload 628 hC 8 (dg DL_isWell 329 rfl) rfl ?_
                        refine j_iconst 630 hC (dg DL_isWell 330 rfl) (v := 0) (by decide) ?_
                        refine j_Vi (As := [.int l7, .int 0]) 631 hC (m_X9_gapOf  hw) kL_115 (k_0) (by decide) ⟨_, _, rfl⟩ (rmN_ok (by decide) (by decide)) rfl rfl (Nat.le_of_ble_eq_true rfl) (dg DL_isWell 331 rfl) (fun r54 σ53 hw => ?_)
                        refine j_iconst 634 hC (dg DL_isWell 332 rfl) (v := (-1)) (by decide) ?_
                        refine j_icmp_ne 635 683 hC (dg DL_isWell 333 rfl) (by decide) (fun hbr => ?_) (fun hbr => ?_)
                        · replace hw := hw.2 hbr
                          refine j_iconst 683 hC (dg DL_isWell 357 rfl) (v := 0) (by decide) ?_
                          exact hR 684 _ _ _ (dg DL_isWell 358 rfl) ⟨by decide, hw⟩
                        · replace hw := hw.1 hbr
                          refine j_aload_n 638 hC 1 (dg DL_isWell 334 rfl) rfl rfl ?_
                          refine j_Vi (As := []) 639 hC (m_X9_mean  hw) kL_143 (k_0) (by decide) ⟨_, _, rfl⟩ (rmN_ok (by decide) (by decide)) rfl rfl (Nat.le_of_ble_eq_true rfl) (dg DL_isWell 335 rfl) (fun r56 σ55 hw => ?_)
                          refine j_iload 642 hC 7 (dg DL_isWell 336 rfl) rfl ?_
                          refine j_i2f 644 hC (dg DL_isWell 337 rfl) ?_
                          refine j_ldcf 645 hC (dg DL_isWell 338 rfl) w_1046 ?_
                          refine j_fdiv 647 hC (dg DL_isWell 339 rfl) hw.1 ?_
                          replace hw := hw.2
                          refine j_Si (As := [.float (FP.fdiv (FP.i2f l6) 1103101952)]) 648 hC (m_Jxf58ca_floatToIntBits_5c35a  hw) kL_147 (rmN_ok (by decide) (by decide)) rfl rfl (Nat.le_of_ble_eq_true rfl) (dg DL_isWell 340 rfl) (fun r58 σ57 hw => ?_)
                          refine j_icmp_ne 651 683 hC (dg DL_isWell 341 rfl) (by decide) (fun hbr => ?_) (fun hbr => ?_)
                          · replace hw := hw.2 hbr
                            refine j_iconst 683 hC (dg DL_isWell 357 rfl) (v := 0) (by decide) ?_
                            exact hR 684 _ _ _ (dg DL_isWell 358 rfl) ⟨by decide, hw⟩
                          · replace hw := hw.1 hbr
                            refine j_aload_n 654 hC 1 (dg DL_isWell 342 rfl) rfl rfl ?_
                            refine j_bipush 655 hC (dg DL_isWell 343 rfl) (v := 8) (by decide) ?_
                            refine j_Vi (As := [.int 8]) 657 hC (m_X9_account  hw) kL_96 (k_0) (by decide) ⟨_, _, rfl⟩ (rmN_ok (by decide) (by decide)) rfl rfl (Nat.le_of_ble_eq_true rfl) (dg DL_isWell 344 rfl) (fun r60 σ59 hw => ?_)
                            refine j_aload_n 660 hC 1 (dg DL_isWell 345 rfl) rfl rfl ?_
                            refine j_bipush 661 hC (dg DL_isWell 346 rfl) (v := 9) (by decide) ?_
                            refine j_Vi (As := [.int 9]) 663 hC (m_X9_account  hw) kL_96 (k_0) (by decide) ⟨_, _, rfl⟩ (rmN_ok (by decide) (by decide)) rfl rfl (Nat.le_of_ble_eq_true rfl) (dg DL_isWell 347 rfl) (fun r62 σ61 hw => ?_)
                            refine j_isub 666 hC (dg DL_isWell 348 rfl) ?_
                            refine j_iload_n 667 hC 2 (dg DL_isWell 349 rfl) rfl rfl ?_
                            refine j_icmp_ne 668 683 hC (dg DL_isWell 350 rfl) (by decide) (fun hbr => ?_) (fun hbr => ?_)
                            · replace hw := hw.2 hbr
                              refine j_iconst 683 hC (dg DL_isWell 357 rfl) (v := 0) (by decide) ?_
                              exact hR 684 _ _ _ (dg DL_isWell 358 rfl) ⟨by decide, hw⟩
                            · replace hw := hw.1 hbr
                              refine j_aload_n 671 hC 1 (dg DL_isWell 351 rfl) rfl rfl ?_
                              refine j_Vi (As := []) 672 hC (m_X9_isWell  hw) kL_153 (k_0) (by decide) ⟨_, _, rfl⟩ (rmN_ok (by decide) (by decide)) rfl rfl (Nat.le_of_ble_eq_true rfl) (dg DL_isWell 352 rfl) (fun r64 σ63 hw => ?_)
                              refine j_iconst 675 hC (dg DL_isWell 353 rfl) (v := 1) (by decide) ?_
                              refine j_icmp_ne 676 683 hC (dg DL_isWell 354 rfl) (by decide) (fun hbr => ?_) (fun hbr => ?_)
                              · replace hw := hw.2 hbr
                                refine j_iconst 683 hC (dg DL_isWell 357 rfl) (v := 0) (by decide) ?_
                                exact hR 684 _ _ _ (dg DL_isWell 358 rfl) ⟨by decide, hw⟩
                              · replace hw := hw.1 hbr
                                refine j_iconst 679 hC (dg DL_isWell 355 rfl) (v := 1) (by decide) ?_
                                refine j_goto 680 684 hC (dg DL_isWell 356 rfl) (by decide) ?_
                                exact hR 684 _ _ _ (dg DL_isWell 358 rfl) ⟨by decide, hw⟩
          · replace hw := hw.2 hbr
            refine j_goto 523 567 hC (dg DL_isWell 276 rfl) (by decide) ?_
            refine j_iconst 567 hC (dg DL_isWell 296 rfl) (v := 0) (by decide) ?_
            exact hR 568 _ _ _ (dg DL_isWell 297 rfl) ⟨by decide, hw⟩
  · replace hw := hw.2 hbr
    refine j_aload_n 360 hC 0 (dg DL_isWell 195 rfl) rfl rfl ?_
    refine j_iload 361 hC 11 (dg DL_isWell 196 rfl) rfl ?_
    refine j_iconst 363 hC (dg DL_isWell 197 rfl) (v := 0) (by decide) ?_
    refine j_Vi (As := [.int v11, .int 0]) 364 hC (m_X9_gapOf  hw) kL_115 (k_0) (by decide) ⟨_, _, rfl⟩ (rmN_ok (by decide) (by decide)) rfl rfl (Nat.le_of_ble_eq_true rfl) (dg DL_isWell 198 rfl) (fun r66 σ65 hw => ?_)
    refine j_istore 367 hC [(12, .int r66), (0, .ref (B + 0)), (1, .int l1), (2, .int l2), (3, .int l3), (4, .int l4), (5, .int l5), (6, .int l6), (7, .int l7), (8, .int v8), (9, .int v9), (10, .int v10), (11, .int v11)] (dg DL_isWell 199 rfl) (by decide) rfl ?_
    refine j_aload_n 369 hC 1 (dg DL_isWell 200 rfl) rfl rfl ?_
    refine j_iload 370 hC 12 (dg DL_isWell 201 rfl) rfl ?_
    refine j_iconst 372 hC (dg DL_isWell 202 rfl) (v := 1) (by decide) ?_
    refine j_Vi (As := [.int v11, .int 1]) 373 hC (m_X9_gapOf  hw) kL_115 (k_0) (by decide) ⟨_, _, rfl⟩ (rmN_ok (by decide) (by decide)) rfl rfl (Nat.le_of_ble_eq_true rfl) (dg DL_isWell 203 rfl) (fun r68 σ67 hw => ?_)
    refine j_istore 376 hC [(13, .int r68), (12, .int r66), (0, .ref (B + 0)), (1, .int l1), (2, .int l2), (3, .int l3), (4, .int l4), (5, .int l5), (6, .int l6), (7, .int l7), (8, .int v8), (9, .int v9), (10, .int v10), (11, .int v11)] (dg DL_isWell 204 rfl) (by decide) rfl ?_
    refine j_iload 378 hC 10 (dg DL_isWell 205 rfl) rfl ?_
    refine j_iload 380 hC 0 (dg DL_isWell 206 rfl) rfl ?_
    refine j_mmax 382 hC w_1003 w_156 w_39 w_157 (by decide) (Nat.le_of_ble_eq_true rfl) (Nat.zero_le _) (Nat.zero_le _) (dg DL_isWell 207 rfl) ?_
    refine j_istore 385 hC [(8, .int (if v8 < r68 then r68 else v8)), (13, .int r68), (12, .int r66), (0, .ref (B + 0)), (1, .int l1), (2, .int l2), (3, .int l3), (4, .int l4), (5, .int l5), (6, .int l6), (7, .int l7), (9, .int v9), (10, .int v10), (11, .int v11)] (dg DL_isWell 208 rfl) (by decide) rfl ?_
    refine j_iload 387 hC 11 (dg DL_isWell 209 rfl) rfl ?_
    refine j_iload 389 hC 1 (dg DL_isWell 210 rfl) rfl ?_
    refine j_iadd 391 hC (dg DL_isWell 211 rfl) ?_
    refine j_istore 392 hC [(9, .int (v9 + r68)), (8, .int (if v8 < r68 then r68 else v8)), (13, .int r68), (12, .int r66), (0, .ref (B + 0)), (1, .int l1), (2, .int l2), (3, .int l3), (4, .int l4), (5, .int l5), (6, .int l6), (7, .int l7), (10, .int v10), (11, .int v11)] (dg DL_isWell 212 rfl) (by decide) rfl ?_
    refine j_iload 394 hC 3 (dg DL_isWell 213 rfl) rfl ?_
    refine j_iload 396 hC 12 (dg DL_isWell 214 rfl) rfl ?_
    refine j_icmp_le 398 444 hC (dg DL_isWell 215 rfl) (by decide) (fun hbr => ?_) (fun hbr => ?_)
    · replace hw := hw.1 hbr
      refine j_iconst 444 hC (dg DL_isWell 238 rfl) (v := 0) (by decide) ?_
      exact hR 445 _ _ _ (dg DL_isWell 239 rfl) ⟨by decide, hw⟩
    · replace hw := hw.2 hbr
      refine j_iload 401 hC 2 (dg DL_isWell 216 rfl) rfl ?_
      refine j_iconst 403 hC (dg DL_isWell 217 rfl) (v := 1) (by decide) ?_
      refine j_icmp_lt 404 444 hC (dg DL_isWell 218 rfl) (by decide) (fun hbr => ?_) (fun hbr => ?_)
      · replace hw := hw.1 hbr
        refine j_iconst 444 hC (dg DL_isWell 238 rfl) (v := 0) (by decide) ?_
        exact hR 445 _ _ _ (dg DL_isWell 239 rfl) ⟨by decide, hw⟩
      · replace hw := hw.2 hbr
        refine j_iload 407 hC 2 (dg DL_isWell 219 rfl) rfl ?_
        refine j_bipush 409 hC (dg DL_isWell 220 rfl) (v := 24) (by decide) ?_
        refine j_icmp_ge 411 446 hC (dg DL_isWell 221 rfl) (by decide) (fun hbr => ?_) (fun hbr => ?_)
        · replace hw := hw.1 hbr
          refine j_iconst 446 hC (dg DL_isWell 240 rfl) (v := 0) (by decide) ?_
          refine j_istore 447 hC [(14, .int 0), (9, .int (v9 + r68)), (8, .int (if v8 < r68 then r68 else v8)), (13, .int r68), (12, .int r66), (0, .ref (B + 0)), (1, .int l1), (2, .int l2), (3, .int l3), (4, .int l4), (5, .int l5), (6, .int l6), (7, .int l7), (10, .int v10), (11, .int v11)] (dg DL_isWell 241 rfl) (by decide) rfl ?_
          obtain ⟨k71, hw⟩ := hw
          refine j_lv [5, 6, 7, 8, 9, 10, 11, 12, 2, 1, 13, 14, 4, 3, 0] (lv' := [(0, .ref (B + 0)), (1, .int l1), (2, .int l2), (3, .int l3), (4, .int l4), (5, .int l5), (6, .int l6), (7, .int l7), (8, .int (if v8 < r68 then r68 else v8)), (9, .int (v9 + r68)), (10, .int v10), (11, .int v11), (12, .int r66), (13, .int r68), (14, .int 0)]) rfl ?_
          exact Li.snd (P := fun τ w14 => J X 15 B 95 RS 0 0 τ [(0, .ref (B + 0)), (1, .int l1), (2, .int l2), (3, .int l3), (4, .int l4), (5, .int l5), (6, .int l6), (7, .int l7), (8, .int (if v8 < r68 then r68 else v8)), (9, .int (v9 + r68)), (10, .int v10), (11, .int v11), (12, .int r66), (13, .int r68), (14, .int w14)] 449 []) (fun rcc hrcc => tb_L_isWell_449 hC  hR hrc hrcc) k71 _ _ hw
        · replace hw := hw.2 hbr
          refine j_aload_n 414 hC 4 (dg DL_isWell 222 rfl) rfl rfl ?_
          refine j_iload 415 hC 3 (dg DL_isWell 223 rfl) rfl ?_
          refine j_bipush 417 hC (dg DL_isWell 224 rfl) (v := 23) (by decide) ?_
          refine j_iadd 419 hC (dg DL_isWell 225 rfl) ?_
          refine j_bipush 420 hC (dg DL_isWell 226 rfl) (v := 24) (by decide) ?_
          refine j_irem 422 hC (dg DL_isWell 227 rfl) (by decide) ?_
          refine j_Vi (As := [.int ((r66 + 23) - (r66 + 23) / 24 * 24)]) 423 hC (m_X9_watched  hw) kL_112 (k_0) (by decide) ⟨_, _, rfl⟩ (rmN_ok (by decide) (by decide)) rfl rfl (Nat.le_of_ble_eq_true rfl) (dg DL_isWell 228 rfl) (fun r73 σ72 hw => ?_)
          refine j_if_eq 426 444 hC (dg DL_isWell 229 rfl) (by decide) (fun hbr => ?_) (fun hbr => ?_)
          · replace hw := hw.1 hbr
            refine j_iconst 444 hC (dg DL_isWell 238 rfl) (v := 0) (by decide) ?_
            exact hR 445 _ _ _ (dg DL_isWell 239 rfl) ⟨by decide, hw⟩
          · replace hw := hw.2 hbr
            refine j_aload_n 429 hC 4 (dg DL_isWell 230 rfl) rfl rfl ?_
            refine j_iload 430 hC 3 (dg DL_isWell 231 rfl) rfl ?_
            refine j_iload 432 hC 2 (dg DL_isWell 232 rfl) rfl ?_
            refine j_iadd 434 hC (dg DL_isWell 233 rfl) ?_
            refine j_bipush 435 hC (dg DL_isWell 234 rfl) (v := 24) (by decide) ?_
            refine j_irem 437 hC (dg DL_isWell 235 rfl) (by decide) ?_
            refine j_Vi (As := [.int ((r66 + r68) - (r66 + r68) / 24 * 24)]) 438 hC (m_X9_watched  hw) kL_112 (k_0) (by decide) ⟨_, _, rfl⟩ (rmN_ok (by decide) (by decide)) rfl rfl (Nat.le_of_ble_eq_true rfl) (dg DL_isWell 236 rfl) (fun r75 σ74 hw => ?_)
            refine j_if_ne 441 446 hC (dg DL_isWell 237 rfl) (by decide) (fun hbr => ?_) (fun hbr => ?_)
            · replace hw := hw.2 hbr
              refine j_iconst 446 hC (dg DL_isWell 240 rfl) (v := 0) (by decide) ?_
              refine j_istore 447 hC [(14, .int 0), (9, .int (v9 + r68)), (8, .int (if v8 < r68 then r68 else v8)), (13, .int r68), (12, .int r66), (0, .ref (B + 0)), (1, .int l1), (2, .int l2), (3, .int l3), (4, .int l4), (5, .int l5), (6, .int l6), (7, .int l7), (10, .int v10), (11, .int v11)] (dg DL_isWell 241 rfl) (by decide) rfl ?_
              obtain ⟨k76, hw⟩ := hw
              refine j_lv [5, 6, 7, 8, 9, 10, 11, 12, 2, 1, 13, 14, 4, 3, 0] (lv' := [(0, .ref (B + 0)), (1, .int l1), (2, .int l2), (3, .int l3), (4, .int l4), (5, .int l5), (6, .int l6), (7, .int l7), (8, .int (if v8 < r68 then r68 else v8)), (9, .int (v9 + r68)), (10, .int v10), (11, .int v11), (12, .int r66), (13, .int r68), (14, .int 0)]) rfl ?_
              exact Li.snd (P := fun τ w14 => J X 15 B 95 RS 0 0 τ [(0, .ref (B + 0)), (1, .int l1), (2, .int l2), (3, .int l3), (4, .int l4), (5, .int l5), (6, .int l6), (7, .int l7), (8, .int (if v8 < r68 then r68 else v8)), (9, .int (v9 + r68)), (10, .int v10), (11, .int v11), (12, .int r66), (13, .int r68), (14, .int w14)] 449 []) (fun rcc hrcc => tb_L_isWell_449 hC  hR hrc hrcc) k76 _ _ hw
            · replace hw := hw.1 hbr
              refine j_iconst 444 hC (dg DL_isWell 238 rfl) (v := 0) (by decide) ?_
              exact hR 445 _ _ _ (dg DL_isWell 239 rfl) ⟨by decide, hw⟩
set_option maxRecDepth 100000 in
set_option maxHeartbeats 4000000 in
theorem tb_L_isWell_251 {X : XT} {B : Nat} (hC : Cx X 15 cL_isWell RL (rmN 17 454)) {K236 : SS → Int32 → Prop} {Q : Int32 → SS → Prop} {l1 : Int32} {l2 : Int32} {l3 : Int32} {l4 : Int32} {l5 : Int32} {l6 : Int32} {l7 : Int32} (hR : RtZ X 15 B 95 RS cL_isWell Q) (hK236 : ∀ (σ : SS) (v7 : Int32), K236 σ v7 → J X 15 B 95 RS 0 0 σ [(0, .ref (B + 0)), (1, .int l1), (2, .int l2), (3, .int l3), (4, .int l4), (5, .int l5), (6, .int l6), (7, .int v7)] 236 []) {rc : SS → Int32 → Int32 → Int32 → Prop} (hrc : ∀ (σ : SS) (v8 : Int32) (v9 : Int32) (v10 : Int32), rc σ v8 v9 v10 → J X 15 B 95 RS 0 0 σ [(0, .ref (B + 0)), (1, .int l1), (2, .int l2), (3, .int l3), (4, .int l4), (5, .int l5), (6, .int l6), (7, .int l7), (8, .int v8), (9, .int v9), (10, .int v10)] 251 []) : ∀ (σ : SS) (v8 : Int32) (v9 : Int32) (v10 : Int32), bd_L_isWell_251 K236 Q l1 l2 l3 l4 l5 l6 l7 rc σ v8 v9 v10 → J X 15 B 95 RS 0 0 σ [(0, .ref (B + 0)), (1, .int l1), (2, .int l2), (3, .int l3), (4, .int l4), (5, .int l5), (6, .int l6), (7, .int l7), (8, .int v8), (9, .int v9), (10, .int v10)] 251 [] := by
  intro σ v8 v9 v10 hw
  unfold bd_L_isWell_251 at hw
  refine j_iload 251 hC 10 (dg DL_isWell 139 rfl) rfl ?_
  refine j_bipush 253 hC (dg DL_isWell 140 rfl) (v := 24) (by decide) ?_
  refine j_icmp_ge 255 300 hC (dg DL_isWell 141 rfl) (by decide) (fun hbr => ?_) (fun hbr => ?_)
  · replace hw := hw.1 hbr
    refine j_aload_n 300 hC 0 (dg DL_isWell 164 rfl) rfl rfl ?_
    refine j_iload 301 hC 7 (dg DL_isWell 165 rfl) rfl ?_
    refine j_bipush 303 hC (dg DL_isWell 166 rfl) (v := 6) (by decide) ?_
    refine j_Vi (As := [.int l7, .int 6]) 305 hC (m_X9_postOf  hw) kL_99 (k_0) (by decide) ⟨_, _, rfl⟩ (rmN_ok (by decide) (by decide)) rfl rfl (Nat.le_of_ble_eq_true rfl) (dg DL_isWell 167 rfl) (fun r79 σ78 hw => ?_)
    refine j_iload 308 hC 8 (dg DL_isWell 168 rfl) rfl ?_
    refine j_icmp_ne 310 326 hC (dg DL_isWell 169 rfl) (by decide) (fun hbr => ?_) (fun hbr => ?_)
    · replace hw := hw.2 hbr
      refine j_iconst 326 hC (dg DL_isWell 176 rfl) (v := 0) (by decide) ?_
      exact hR 327 _ _ _ (dg DL_isWell 177 rfl) ⟨by decide, hw⟩
    · replace hw := hw.1 hbr
      refine j_aload_n 313 hC 0 (dg DL_isWell 170 rfl) rfl rfl ?_
      refine j_iload 314 hC 7 (dg DL_isWell 171 rfl) rfl ?_
      refine j_bipush 316 hC (dg DL_isWell 172 rfl) (v := 7) (by decide) ?_
      refine j_Vi (As := [.int l7, .int 7]) 318 hC (m_X9_postOf  hw) kL_99 (k_0) (by decide) ⟨_, _, rfl⟩ (rmN_ok (by decide) (by decide)) rfl rfl (Nat.le_of_ble_eq_true rfl) (dg DL_isWell 173 rfl) (fun r81 σ80 hw => ?_)
      refine j_iload 321 hC 9 (dg DL_isWell 174 rfl) rfl ?_
      refine j_icmp_eq 323 328 hC (dg DL_isWell 175 rfl) (by decide) (fun hbr => ?_) (fun hbr => ?_)
      · replace hw := hw.1 hbr
        refine j_iinc 328 hC 7 (l7 + 1) [(7, .int (l7 + 1)), (0, .ref (B + 0)), (1, .int l1), (2, .int l2), (3, .int l3), (4, .int l4), (5, .int l5), (6, .int l6), (8, .int v8), (9, .int v9), (10, .int v10)] (dg DL_isWell 178 rfl) rfl rfl (by decide) rfl ?_
        refine j_goto 331 236 hC (dg DL_isWell 179 rfl) (by decide) ?_
        refine j_lv [1, 2, 3, 4, 5, 6, 7, 0] (lv' := [(0, .ref (B + 0)), (1, .int l1), (2, .int l2), (3, .int l3), (4, .int l4), (5, .int l5), (6, .int l6), (7, .int (l7 + 1))]) rfl ?_
        exact hK236 _ _ hw
      · replace hw := hw.2 hbr
        refine j_iconst 326 hC (dg DL_isWell 176 rfl) (v := 0) (by decide) ?_
        exact hR 327 _ _ _ (dg DL_isWell 177 rfl) ⟨by decide, hw⟩
  · replace hw := hw.2 hbr
    refine j_iload 258 hC 8 (dg DL_isWell 142 rfl) rfl ?_
    refine j_aload_n 260 hC 0 (dg DL_isWell 143 rfl) rfl rfl ?_
    refine j_iload 261 hC 7 (dg DL_isWell 144 rfl) rfl ?_
    refine j_iload 263 hC 10 (dg DL_isWell 145 rfl) rfl ?_
    refine j_Vi (As := [.int l7, .int v10]) 265 hC (m_X9_sees  hw) kL_106 (k_0) (by decide) ⟨_, _, rfl⟩ (rmN_ok (by decide) (by decide)) rfl rfl (Nat.le_of_ble_eq_true rfl) (dg DL_isWell 146 rfl) (fun r83 σ82 hw => ?_)
    refine j_iadd 268 hC (dg DL_isWell 147 rfl) ?_
    refine j_istore 269 hC [(8, .int (v8 + r83)), (0, .ref (B + 0)), (1, .int l1), (2, .int l2), (3, .int l3), (4, .int l4), (5, .int l5), (6, .int l6), (7, .int l7), (9, .int v9), (10, .int v10)] (dg DL_isWell 148 rfl) (by decide) rfl ?_
    refine j_iload 271 hC 9 (dg DL_isWell 149 rfl) rfl ?_
    refine j_aload_n 273 hC 1 (dg DL_isWell 150 rfl) rfl rfl ?_
    refine j_iload 274 hC 10 (dg DL_isWell 151 rfl) rfl ?_
    refine j_Vi (As := [.int v10]) 276 hC (m_X9_seenBy  hw) kL_109 (k_0) (by decide) ⟨_, _, rfl⟩ (rmN_ok (by decide) (by decide)) rfl rfl (Nat.le_of_ble_eq_true rfl) (dg DL_isWell 152 rfl) (fun r85 σ84 hw => ?_)
    refine j_iconst 279 hC (dg DL_isWell 153 rfl) (v := 1) (by decide) ?_
    refine j_iload 280 hC 8 (dg DL_isWell 154 rfl) rfl ?_
    refine j_ishl 282 hC (dg DL_isWell 155 rfl) ?_
    refine j_icmp_ne 283 290 hC (dg DL_isWell 156 rfl) (by decide) (fun hbr => ?_) (fun hbr => ?_)
    · replace hw := hw.2 hbr
      refine j_iconst 290 hC (dg DL_isWell 159 rfl) (v := 0) (by decide) ?_
      refine j_iadd 291 hC (dg DL_isWell 160 rfl) ?_
      refine j_istore 292 hC [(9, .int (v9 + 0)), (8, .int (v8 + r83)), (0, .ref (B + 0)), (1, .int l1), (2, .int l2), (3, .int l3), (4, .int l4), (5, .int l5), (6, .int l6), (7, .int l7), (10, .int v10)] (dg DL_isWell 161 rfl) (by decide) rfl ?_
      refine j_iinc 294 hC 10 (v10 + 1) [(10, .int (v10 + 1)), (9, .int (v9 + 0)), (8, .int (v8 + r83)), (0, .ref (B + 0)), (1, .int l1), (2, .int l2), (3, .int l3), (4, .int l4), (5, .int l5), (6, .int l6), (7, .int l7)] (dg DL_isWell 162 rfl) rfl rfl (by decide) rfl ?_
      refine j_goto 297 251 hC (dg DL_isWell 163 rfl) (by decide) ?_
      refine j_lv [3, 4, 5, 6, 7, 8, 9, 10, 2, 1, 0] (lv' := [(0, .ref (B + 0)), (1, .int l1), (2, .int l2), (3, .int l3), (4, .int l4), (5, .int l5), (6, .int l6), (7, .int l7), (8, .int (v8 + r83)), (9, .int (v9 + 0)), (10, .int (v10 + 1))]) rfl ?_
      exact hrc _ _ _ _ hw
    · replace hw := hw.1 hbr
      refine j_iconst 286 hC (dg DL_isWell 157 rfl) (v := 1) (by decide) ?_
      refine j_goto 287 291 hC (dg DL_isWell 158 rfl) (by decide) ?_
      refine j_iadd 291 hC (dg DL_isWell 160 rfl) ?_
      refine j_istore 292 hC [(9, .int (v9 + 1)), (8, .int (v8 + r83)), (0, .ref (B + 0)), (1, .int l1), (2, .int l2), (3, .int l3), (4, .int l4), (5, .int l5), (6, .int l6), (7, .int l7), (10, .int v10)] (dg DL_isWell 161 rfl) (by decide) rfl ?_
      refine j_iinc 294 hC 10 (v10 + 1) [(10, .int (v10 + 1)), (9, .int (v9 + 1)), (8, .int (v8 + r83)), (0, .ref (B + 0)), (1, .int l1), (2, .int l2), (3, .int l3), (4, .int l4), (5, .int l5), (6, .int l6), (7, .int l7)] (dg DL_isWell 162 rfl) rfl rfl (by decide) rfl ?_
      refine j_goto 297 251 hC (dg DL_isWell 163 rfl) (by decide) ?_
      refine j_lv [3, 4, 5, 6, 7, 8, 9, 10, 2, 1, 0] (lv' := [(0, .ref (B + 0)), (1, .int l1), (2, .int l2), (3, .int l3), (4, .int l4), (5, .int l5), (6, .int l6), (7, .int l7), (8, .int (v8 + r83)), (9, .int (v9 + 1)), (10, .int (v10 + 1))]) rfl ?_
      exact hrc _ _ _ _ hw
set_option maxRecDepth 100000 in
set_option maxHeartbeats 4000000 in
theorem tb_L_isWell_236 {X : XT} {B : Nat} (hC : Cx X 15 cL_isWell RL (rmN 17 454)) {Q : Int32 → SS → Prop} {l1 : Int32} {l2 : Int32} {l3 : Int32} {l4 : Int32} {l5 : Int32} {l6 : Int32} (hR : RtZ X 15 B 95 RS cL_isWell Q) {rc : SS → Int32 → Prop} (hrc : ∀ (σ : SS) (v7 : Int32), rc σ v7 → J X 15 B 95 RS 0 0 σ [(0, .ref (B + 0)), (1, .int l1), (2, .int l2), (3, .int l3), (4, .int l4), (5, .int l5), (6, .int l6), (7, .int v7)] 236 []) : ∀ (σ : SS) (v7 : Int32), bd_L_isWell_236 Q l1 l2 l3 l4 l5 l6 rc σ v7 → J X 15 B 95 RS 0 0 σ [(0, .ref (B + 0)), (1, .int l1), (2, .int l2), (3, .int l3), (4, .int l4), (5, .int l5), (6, .int l6), (7, .int v7)] 236 [] := by
  intro σ v7 hw
  unfold bd_L_isWell_236 at hw
  refine j_iload 236 hC 7 (dg DL_isWell 130 rfl) rfl ?_
  refine j_iload_n 238 hC 1 (dg DL_isWell 131 rfl) rfl rfl ?_
  refine j_icmp_ge 239 334 hC (dg DL_isWell 132 rfl) (by decide) (fun hbr => ?_) (fun hbr => ?_)
  · replace hw := hw.1 hbr
    refine j_aload_n 334 hC 0 (dg DL_isWell 180 rfl) rfl rfl ?_
    refine j_iconst 335 hC (dg DL_isWell 181 rfl) (v := 4) (by decide) ?_
    refine j_Vi (As := [.int 4]) 336 hC (m_X9_account  hw) kL_96 (k_0) (by decide) ⟨_, _, rfl⟩ (rmN_ok (by decide) (by decide)) rfl rfl (Nat.le_of_ble_eq_true rfl) (dg DL_isWell 182 rfl) (fun r4 σ3 hw => ?_)
    refine j_istore 339 hC [(7, .int r4), (0, .ref (B + 0)), (1, .int l1), (2, .int l2), (3, .int l3), (4, .int l4), (5, .int l5), (6, .int l6)] (dg DL_isWell 183 rfl) (by decide) rfl ?_
    refine j_iconst 341 hC (dg DL_isWell 184 rfl) (v := 0) (by decide) ?_
    refine j_istore 342 hC [(8, .int 0), (7, .int r4), (0, .ref (B + 0)), (1, .int l1), (2, .int l2), (3, .int l3), (4, .int l4), (5, .int l5), (6, .int l6)] (dg DL_isWell 185 rfl) (by decide) rfl ?_
    refine j_iconst 344 hC (dg DL_isWell 186 rfl) (v := 0) (by decide) ?_
    refine j_istore 345 hC [(9, .int 0), (8, .int 0), (7, .int r4), (0, .ref (B + 0)), (1, .int l1), (2, .int l2), (3, .int l3), (4, .int l4), (5, .int l5), (6, .int l6)] (dg DL_isWell 187 rfl) (by decide) rfl ?_
    refine j_iconst 347 hC (dg DL_isWell 188 rfl) (v := (-1)) (by decide) ?_
    refine j_istore 348 hC [(10, .int (-1)), (9, .int 0), (8, .int 0), (7, .int r4), (0, .ref (B + 0)), (1, .int l1), (2, .int l2), (3, .int l3), (4, .int l4), (5, .int l5), (6, .int l6)] (dg DL_isWell 189 rfl) (by decide) rfl ?_
    refine j_iconst 350 hC (dg DL_isWell 190 rfl) (v := 0) (by decide) ?_
    refine j_istore 351 hC [(11, .int 0), (10, .int (-1)), (9, .int 0), (8, .int 0), (7, .int r4), (0, .ref (B + 0)), (1, .int l1), (2, .int l2), (3, .int l3), (4, .int l4), (5, .int l5), (6, .int l6)] (dg DL_isWell 191 rfl) (by decide) rfl ?_
    obtain ⟨k77, hw⟩ := hw
    refine j_lv [5, 6, 7, 8, 9, 10, 11, 4, 3, 2, 1, 0] (lv' := [(0, .ref (B + 0)), (1, .int l1), (2, .int l2), (3, .int l3), (4, .int l4), (5, .int l5), (6, .int l6), (7, .int r4), (8, .int 0), (9, .int 0), (10, .int (-1)), (11, .int 0)]) rfl ?_
    exact Liiii.snd (P := fun τ w8 w9 w10 w11 => J X 15 B 95 RS 0 0 τ [(0, .ref (B + 0)), (1, .int l1), (2, .int l2), (3, .int l3), (4, .int l4), (5, .int l5), (6, .int l6), (7, .int r4), (8, .int w8), (9, .int w9), (10, .int w10), (11, .int w11)] 353 []) (fun rcc hrcc => tb_L_isWell_353 hC  hR  hrcc) k77 _ _ _ _ _ hw
  · replace hw := hw.2 hbr
    refine j_iconst 242 hC (dg DL_isWell 133 rfl) (v := 0) (by decide) ?_
    refine j_istore 243 hC [(8, .int 0), (0, .ref (B + 0)), (1, .int l1), (2, .int l2), (3, .int l3), (4, .int l4), (5, .int l5), (6, .int l6), (7, .int v7)] (dg DL_isWell 134 rfl) (by decide) rfl ?_
    refine j_iconst 245 hC (dg DL_isWell 135 rfl) (v := 0) (by decide) ?_
    refine j_istore 246 hC [(9, .int 0), (8, .int 0), (0, .ref (B + 0)), (1, .int l1), (2, .int l2), (3, .int l3), (4, .int l4), (5, .int l5), (6, .int l6), (7, .int v7)] (dg DL_isWell 136 rfl) (by decide) rfl ?_
    refine j_iconst 248 hC (dg DL_isWell 137 rfl) (v := 0) (by decide) ?_
    refine j_istore 249 hC [(10, .int 0), (9, .int 0), (8, .int 0), (0, .ref (B + 0)), (1, .int l1), (2, .int l2), (3, .int l3), (4, .int l4), (5, .int l5), (6, .int l6), (7, .int v7)] (dg DL_isWell 138 rfl) (by decide) rfl ?_
    obtain ⟨k86, hw⟩ := hw
    refine j_lv [3, 4, 5, 6, 7, 8, 9, 10, 2, 1, 0] (lv' := [(0, .ref (B + 0)), (1, .int l1), (2, .int l2), (3, .int l3), (4, .int l4), (5, .int l5), (6, .int l6), (7, .int v7), (8, .int 0), (9, .int 0), (10, .int 0)]) rfl ?_
    exact Liii.snd (P := fun τ w8 w9 w10 => J X 15 B 95 RS 0 0 τ [(0, .ref (B + 0)), (1, .int l1), (2, .int l2), (3, .int l3), (4, .int l4), (5, .int l5), (6, .int l6), (7, .int v7), (8, .int w8), (9, .int w9), (10, .int w10)] 251 []) (fun rcc hrcc => tb_L_isWell_251 hC  hR hrc hrcc) k86 _ _ _ _ hw
set_option maxRecDepth 100000 in
set_option maxHeartbeats 4000000 in
theorem tb_L_isWell_65 {X : XT} {B : Nat} (hC : Cx X 15 cL_isWell RL (rmN 17 454)) {K49 : SS → Int32 → Int32 → Int32 → Int32 → Int32 → Prop} {Q : Int32 → SS → Prop} {l1 : Int32} {l2 : Int32} {l3 : Int32} {l4 : Int32} {l5 : Int32} {l6 : Int32} {l7 : Int32} (hR : RtZ X 15 B 95 RS cL_isWell Q) (hK49 : ∀ (σ : SS) (v2 : Int32) (v3 : Int32) (v4 : Int32) (v6 : Int32) (v7 : Int32), K49 σ v2 v3 v4 v6 v7 → J X 15 B 95 RS 0 0 σ [(0, .ref (B + 0)), (1, .int l1), (2, .int v2), (3, .int v3), (4, .int v4), (5, .int l5), (6, .int v6), (7, .int v7)] 49 []) {rc : SS → Int32 → Int32 → Int32 → Prop} (hrc : ∀ (σ : SS) (v8 : Int32) (v9 : Int32) (v10 : Int32), rc σ v8 v9 v10 → J X 15 B 95 RS 0 0 σ [(0, .ref (B + 0)), (1, .int l1), (2, .int l2), (3, .int l3), (4, .int l4), (5, .int l5), (6, .int l6), (7, .int l7), (8, .int v8), (9, .int v9), (10, .int v10)] 65 []) : ∀ (σ : SS) (v8 : Int32) (v9 : Int32) (v10 : Int32), bd_L_isWell_65 K49 Q l1 l2 l3 l4 l5 l6 l7 rc σ v8 v9 v10 → J X 15 B 95 RS 0 0 σ [(0, .ref (B + 0)), (1, .int l1), (2, .int l2), (3, .int l3), (4, .int l4), (5, .int l5), (6, .int l6), (7, .int l7), (8, .int v8), (9, .int v9), (10, .int v10)] 65 [] := by
  intro σ v8 v9 v10 hw
  unfold bd_L_isWell_65 at hw
  refine j_iload 65 hC 10 (dg DL_isWell 39 rfl) rfl ?_
  refine j_iload_n 67 hC 1 (dg DL_isWell 40 rfl) rfl rfl ?_
  refine j_icmp_ge 68 154 hC (dg DL_isWell 41 rfl) (by decide) (fun hbr => ?_) (fun hbr => ?_)
  · replace hw := hw.1 hbr
    refine j_aload_n 154 hC 0 (dg DL_isWell 85 rfl) rfl rfl ?_
    refine j_iload 155 hC 7 (dg DL_isWell 86 rfl) rfl ?_
    refine j_Vi (As := [.int l7]) 157 hC (m_X9_seenBy  hw) kL_109 (k_0) (by decide) ⟨_, _, rfl⟩ (rmN_ok (by decide) (by decide)) rfl rfl (Nat.le_of_ble_eq_true rfl) (dg DL_isWell 87 rfl) (fun r89 σ88 hw => ?_)
    refine j_iload 160 hC 8 (dg DL_isWell 88 rfl) rfl ?_
    refine j_icmp_ne 162 176 hC (dg DL_isWell 89 rfl) (by decide) (fun hbr => ?_) (fun hbr => ?_)
    · replace hw := hw.2 hbr
      refine j_iconst 176 hC (dg DL_isWell 95 rfl) (v := 0) (by decide) ?_
      exact hR 177 _ _ _ (dg DL_isWell 96 rfl) ⟨by decide, hw⟩
    · replace hw := hw.1 hbr
      refine j_aload_n 165 hC 0 (dg DL_isWell 90 rfl) rfl rfl ?_
      refine j_iload 166 hC 7 (dg DL_isWell 91 rfl) rfl ?_
      refine j_Vi (As := [.int l7]) 168 hC (m_X9_watched  hw) kL_112 (k_0) (by decide) ⟨_, _, rfl⟩ (rmN_ok (by decide) (by decide)) rfl rfl (Nat.le_of_ble_eq_true rfl) (dg DL_isWell 92 rfl) (fun r91 σ90 hw => ?_)
      refine j_iload 171 hC 9 (dg DL_isWell 93 rfl) rfl ?_
      refine j_icmp_eq 173 178 hC (dg DL_isWell 94 rfl) (by decide) (fun hbr => ?_) (fun hbr => ?_)
      · replace hw := hw.1 hbr
        refine j_iload_n 178 hC 2 (dg DL_isWell 97 rfl) rfl rfl ?_
        refine j_iload 179 hC 9 (dg DL_isWell 98 rfl) rfl ?_
        refine j_if_le 181 188 hC (dg DL_isWell 99 rfl) (by decide) (fun hbr => ?_) (fun hbr => ?_)
        · replace hw := hw.1 hbr
          refine j_iconst 188 hC (dg DL_isWell 102 rfl) (v := 0) (by decide) ?_
          refine j_iadd 189 hC (dg DL_isWell 103 rfl) ?_
          refine j_istore_n 190 hC [(2, .int (l2 + 0)), (0, .ref (B + 0)), (1, .int l1), (3, .int l3), (4, .int l4), (5, .int l5), (6, .int l6), (7, .int l7), (8, .int v8), (9, .int v9), (10, .int v10)] (dg DL_isWell 104 rfl) rfl (by decide) rfl ?_
          refine j_iload_n 191 hC 3 (dg DL_isWell 105 rfl) rfl rfl ?_
          refine j_iload 192 hC 9 (dg DL_isWell 106 rfl) rfl ?_
          refine j_iconst 194 hC (dg DL_isWell 107 rfl) (v := 1) (by decide) ?_
          refine j_icmp_le 195 202 hC (dg DL_isWell 108 rfl) (by decide) (fun hbr => ?_) (fun hbr => ?_)
          · replace hw := hw.1 hbr
            refine j_iconst 202 hC (dg DL_isWell 111 rfl) (v := 0) (by decide) ?_
            refine j_iadd 203 hC (dg DL_isWell 112 rfl) ?_
            refine j_istore_n 204 hC [(3, .int (l3 + 0)), (2, .int (l2 + 0)), (0, .ref (B + 0)), (1, .int l1), (4, .int l4), (5, .int l5), (6, .int l6), (7, .int l7), (8, .int v8), (9, .int v9), (10, .int v10)] (dg DL_isWell 113 rfl) rfl (by decide) rfl ?_
            refine j_iload 205 hC 4 (dg DL_isWell 114 rfl) rfl ?_
            refine j_iload 207 hC 8 (dg DL_isWell 115 rfl) rfl ?_
            refine j_if_ne 209 216 hC (dg DL_isWell 116 rfl) (by decide) (fun hbr => ?_) (fun hbr => ?_)
            · replace hw := hw.2 hbr
              refine j_iconst 216 hC (dg DL_isWell 119 rfl) (v := 0) (by decide) ?_
              refine j_iadd 217 hC (dg DL_isWell 120 rfl) ?_
              refine j_istore 218 hC [(4, .int (l4 + 0)), (3, .int (l3 + 0)), (2, .int (l2 + 0)), (0, .ref (B + 0)), (1, .int l1), (5, .int l5), (6, .int l6), (7, .int l7), (8, .int v8), (9, .int v9), (10, .int v10)] (dg DL_isWell 121 rfl) (by decide) rfl ?_
              refine j_iload 220 hC 6 (dg DL_isWell 122 rfl) rfl ?_
              refine j_iload 222 hC 9 (dg DL_isWell 123 rfl) rfl ?_
              refine j_iadd 224 hC (dg DL_isWell 124 rfl) ?_
              refine j_istore 225 hC [(6, .int (l6 + v9)), (4, .int (l4 + 0)), (3, .int (l3 + 0)), (2, .int (l2 + 0)), (0, .ref (B + 0)), (1, .int l1), (5, .int l5), (7, .int l7), (8, .int v8), (9, .int v9), (10, .int v10)] (dg DL_isWell 125 rfl) (by decide) rfl ?_
              refine j_iinc 227 hC 7 (l7 + 1) [(7, .int (l7 + 1)), (6, .int (l6 + v9)), (4, .int (l4 + 0)), (3, .int (l3 + 0)), (2, .int (l2 + 0)), (0, .ref (B + 0)), (1, .int l1), (5, .int l5), (8, .int v8), (9, .int v9), (10, .int v10)] (dg DL_isWell 126 rfl) rfl rfl (by decide) rfl ?_
              refine j_goto 230 49 hC (dg DL_isWell 127 rfl) (by decide) ?_
              refine j_lv [5, 6, 4, 3, 2, 7, 1, 0] (lv' := [(0, .ref (B + 0)), (1, .int l1), (2, .int (l2 + 0)), (3, .int (l3 + 0)), (4, .int (l4 + 0)), (5, .int l5), (6, .int (l6 + v9)), (7, .int (l7 + 1))]) rfl ?_
              exact hK49 _ _ _ _ _ _ hw
            · replace hw := hw.1 hbr
              refine j_iconst 212 hC (dg DL_isWell 117 rfl) (v := 1) (by decide) ?_
              refine j_goto 213 217 hC (dg DL_isWell 118 rfl) (by decide) ?_
              refine j_iadd 217 hC (dg DL_isWell 120 rfl) ?_
              refine j_istore 218 hC [(4, .int (l4 + 1)), (3, .int (l3 + 0)), (2, .int (l2 + 0)), (0, .ref (B + 0)), (1, .int l1), (5, .int l5), (6, .int l6), (7, .int l7), (8, .int v8), (9, .int v9), (10, .int v10)] (dg DL_isWell 121 rfl) (by decide) rfl ?_
              refine j_iload 220 hC 6 (dg DL_isWell 122 rfl) rfl ?_
              refine j_iload 222 hC 9 (dg DL_isWell 123 rfl) rfl ?_
              refine j_iadd 224 hC (dg DL_isWell 124 rfl) ?_
              refine j_istore 225 hC [(6, .int (l6 + v9)), (4, .int (l4 + 1)), (3, .int (l3 + 0)), (2, .int (l2 + 0)), (0, .ref (B + 0)), (1, .int l1), (5, .int l5), (7, .int l7), (8, .int v8), (9, .int v9), (10, .int v10)] (dg DL_isWell 125 rfl) (by decide) rfl ?_
              refine j_iinc 227 hC 7 (l7 + 1) [(7, .int (l7 + 1)), (6, .int (l6 + v9)), (4, .int (l4 + 1)), (3, .int (l3 + 0)), (2, .int (l2 + 0)), (0, .ref (B + 0)), (1, .int l1), (5, .int l5), (8, .int v8), (9, .int v9), (10, .int v10)] (dg DL_isWell 126 rfl) rfl rfl (by decide) rfl ?_
              refine j_goto 230 49 hC (dg DL_isWell 127 rfl) (by decide) ?_
              refine j_lv [5, 6, 4, 3, 2, 7, 1, 0] (lv' := [(0, .ref (B + 0)), (1, .int l1), (2, .int (l2 + 0)), (3, .int (l3 + 0)), (4, .int (l4 + 1)), (5, .int l5), (6, .int (l6 + v9)), (7, .int (l7 + 1))]) rfl ?_
              exact hK49 _ _ _ _ _ _ hw
          · replace hw := hw.2 hbr
            refine j_iconst 198 hC (dg DL_isWell 109 rfl) (v := 1) (by decide) ?_
            refine j_goto 199 203 hC (dg DL_isWell 110 rfl) (by decide) ?_
            refine j_iadd 203 hC (dg DL_isWell 112 rfl) ?_
            refine j_istore_n 204 hC [(3, .int (l3 + 1)), (2, .int (l2 + 0)), (0, .ref (B + 0)), (1, .int l1), (4, .int l4), (5, .int l5), (6, .int l6), (7, .int l7), (8, .int v8), (9, .int v9), (10, .int v10)] (dg DL_isWell 113 rfl) rfl (by decide) rfl ?_
            refine j_iload 205 hC 4 (dg DL_isWell 114 rfl) rfl ?_
            refine j_iload 207 hC 8 (dg DL_isWell 115 rfl) rfl ?_
            refine j_if_ne 209 216 hC (dg DL_isWell 116 rfl) (by decide) (fun hbr => ?_) (fun hbr => ?_)
            · replace hw := hw.2 hbr
              refine j_iconst 216 hC (dg DL_isWell 119 rfl) (v := 0) (by decide) ?_
              refine j_iadd 217 hC (dg DL_isWell 120 rfl) ?_
              refine j_istore 218 hC [(4, .int (l4 + 0)), (3, .int (l3 + 1)), (2, .int (l2 + 0)), (0, .ref (B + 0)), (1, .int l1), (5, .int l5), (6, .int l6), (7, .int l7), (8, .int v8), (9, .int v9), (10, .int v10)] (dg DL_isWell 121 rfl) (by decide) rfl ?_
              refine j_iload 220 hC 6 (dg DL_isWell 122 rfl) rfl ?_
              refine j_iload 222 hC 9 (dg DL_isWell 123 rfl) rfl ?_
              refine j_iadd 224 hC (dg DL_isWell 124 rfl) ?_
              refine j_istore 225 hC [(6, .int (l6 + v9)), (4, .int (l4 + 0)), (3, .int (l3 + 1)), (2, .int (l2 + 0)), (0, .ref (B + 0)), (1, .int l1), (5, .int l5), (7, .int l7), (8, .int v8), (9, .int v9), (10, .int v10)] (dg DL_isWell 125 rfl) (by decide) rfl ?_
              refine j_iinc 227 hC 7 (l7 + 1) [(7, .int (l7 + 1)), (6, .int (l6 + v9)), (4, .int (l4 + 0)), (3, .int (l3 + 1)), (2, .int (l2 + 0)), (0, .ref (B + 0)), (1, .int l1), (5, .int l5), (8, .int v8), (9, .int v9), (10, .int v10)] (dg DL_isWell 126 rfl) rfl rfl (by decide) rfl ?_
              refine j_goto 230 49 hC (dg DL_isWell 127 rfl) (by decide) ?_
              refine j_lv [5, 6, 4, 3, 2, 7, 1, 0] (lv' := [(0, .ref (B + 0)), (1, .int l1), (2, .int (l2 + 0)), (3, .int (l3 + 1)), (4, .int (l4 + 0)), (5, .int l5), (6, .int (l6 + v9)), (7, .int (l7 + 1))]) rfl ?_
              exact hK49 _ _ _ _ _ _ hw
            · replace hw := hw.1 hbr
              refine j_iconst 212 hC (dg DL_isWell 117 rfl) (v := 1) (by decide) ?_
              refine j_goto 213 217 hC (dg DL_isWell 118 rfl) (by decide) ?_
              refine j_iadd 217 hC (dg DL_isWell 120 rfl) ?_
              refine j_istore 218 hC [(4, .int (l4 + 1)), (3, .int (l3 + 1)), (2, .int (l2 + 0)), (0, .ref (B + 0)), (1, .int l1), (5, .int l5), (6, .int l6), (7, .int l7), (8, .int v8), (9, .int v9), (10, .int v10)] (dg DL_isWell 121 rfl) (by decide) rfl ?_
              refine j_iload 220 hC 6 (dg DL_isWell 122 rfl) rfl ?_
              refine j_iload 222 hC 9 (dg DL_isWell 123 rfl) rfl ?_
              refine j_iadd 224 hC (dg DL_isWell 124 rfl) ?_
              refine j_istore 225 hC [(6, .int (l6 + v9)), (4, .int (l4 + 1)), (3, .int (l3 + 1)), (2, .int (l2 + 0)), (0, .ref (B + 0)), (1, .int l1), (5, .int l5), (7, .int l7), (8, .int v8), (9, .int v9), (10, .int v10)] (dg DL_isWell 125 rfl) (by decide) rfl ?_
              refine j_iinc 227 hC 7 (l7 + 1) [(7, .int (l7 + 1)), (6, .int (l6 + v9)), (4, .int (l4 + 1)), (3, .int (l3 + 1)), (2, .int (l2 + 0)), (0, .ref (B + 0)), (1, .int l1), (5, .int l5), (8, .int v8), (9, .int v9), (10, .int v10)] (dg DL_isWell 126 rfl) rfl rfl (by decide) rfl ?_
              refine j_goto 230 49 hC (dg DL_isWell 127 rfl) (by decide) ?_
              refine j_lv [5, 6, 4, 3, 2, 7, 1, 0] (lv' := [(0, .ref (B + 0)), (1, .int l1), (2, .int (l2 + 0)), (3, .int (l3 + 1)), (4, .int (l4 + 1)), (5, .int l5), (6, .int (l6 + v9)), (7, .int (l7 + 1))]) rfl ?_
              exact hK49 _ _ _ _ _ _ hw
        · replace hw := hw.2 hbr
          refine j_iconst 184 hC (dg DL_isWell 100 rfl) (v := 1) (by decide) ?_
          refine j_goto 185 189 hC (dg DL_isWell 101 rfl) (by decide) ?_
          refine j_iadd 189 hC (dg DL_isWell 103 rfl) ?_
          refine j_istore_n 190 hC [(2, .int (l2 + 1)), (0, .ref (B + 0)), (1, .int l1), (3, .int l3), (4, .int l4), (5, .int l5), (6, .int l6), (7, .int l7), (8, .int v8), (9, .int v9), (10, .int v10)] (dg DL_isWell 104 rfl) rfl (by decide) rfl ?_
          refine j_iload_n 191 hC 3 (dg DL_isWell 105 rfl) rfl rfl ?_
          refine j_iload 192 hC 9 (dg DL_isWell 106 rfl) rfl ?_
          refine j_iconst 194 hC (dg DL_isWell 107 rfl) (v := 1) (by decide) ?_
          refine j_icmp_le 195 202 hC (dg DL_isWell 108 rfl) (by decide) (fun hbr => ?_) (fun hbr => ?_)
          · replace hw := hw.1 hbr
            refine j_iconst 202 hC (dg DL_isWell 111 rfl) (v := 0) (by decide) ?_
            refine j_iadd 203 hC (dg DL_isWell 112 rfl) ?_
            refine j_istore_n 204 hC [(3, .int (l3 + 0)), (2, .int (l2 + 1)), (0, .ref (B + 0)), (1, .int l1), (4, .int l4), (5, .int l5), (6, .int l6), (7, .int l7), (8, .int v8), (9, .int v9), (10, .int v10)] (dg DL_isWell 113 rfl) rfl (by decide) rfl ?_
            refine j_iload 205 hC 4 (dg DL_isWell 114 rfl) rfl ?_
            refine j_iload 207 hC 8 (dg DL_isWell 115 rfl) rfl ?_
            refine j_if_ne 209 216 hC (dg DL_isWell 116 rfl) (by decide) (fun hbr => ?_) (fun hbr => ?_)
            · replace hw := hw.2 hbr
              refine j_iconst 216 hC (dg DL_isWell 119 rfl) (v := 0) (by decide) ?_
              refine j_iadd 217 hC (dg DL_isWell 120 rfl) ?_
              refine j_istore 218 hC [(4, .int (l4 + 0)), (3, .int (l3 + 0)), (2, .int (l2 + 1)), (0, .ref (B + 0)), (1, .int l1), (5, .int l5), (6, .int l6), (7, .int l7), (8, .int v8), (9, .int v9), (10, .int v10)] (dg DL_isWell 121 rfl) (by decide) rfl ?_
              refine j_iload 220 hC 6 (dg DL_isWell 122 rfl) rfl ?_
              refine j_iload 222 hC 9 (dg DL_isWell 123 rfl) rfl ?_
              refine j_iadd 224 hC (dg DL_isWell 124 rfl) ?_
              refine j_istore 225 hC [(6, .int (l6 + v9)), (4, .int (l4 + 0)), (3, .int (l3 + 0)), (2, .int (l2 + 1)), (0, .ref (B + 0)), (1, .int l1), (5, .int l5), (7, .int l7), (8, .int v8), (9, .int v9), (10, .int v10)] (dg DL_isWell 125 rfl) (by decide) rfl ?_
              refine j_iinc 227 hC 7 (l7 + 1) [(7, .int (l7 + 1)), (6, .int (l6 + v9)), (4, .int (l4 + 0)), (3, .int (l3 + 0)), (2, .int (l2 + 1)), (0, .ref (B + 0)), (1, .int l1), (5, .int l5), (8, .int v8), (9, .int v9), (10, .int v10)] (dg DL_isWell 126 rfl) rfl rfl (by decide) rfl ?_
              refine j_goto 230 49 hC (dg DL_isWell 127 rfl) (by decide) ?_
              refine j_lv [5, 6, 4, 3, 2, 7, 1, 0] (lv' := [(0, .ref (B + 0)), (1, .int l1), (2, .int (l2 + 1)), (3, .int (l3 + 0)), (4, .int (l4 + 0)), (5, .int l5), (6, .int (l6 + v9)), (7, .int (l7 + 1))]) rfl ?_
              exact hK49 _ _ _ _ _ _ hw
            · replace hw := hw.1 hbr
              refine j_iconst 212 hC (dg DL_isWell 117 rfl) (v := 1) (by decide) ?_
              refine j_goto 213 217 hC (dg DL_isWell 118 rfl) (by decide) ?_
              refine j_iadd 217 hC (dg DL_isWell 120 rfl) ?_
              refine j_istore 218 hC [(4, .int (l4 + 1)), (3, .int (l3 + 0)), (2, .int (l2 + 1)), (0, .ref (B + 0)), (1, .int l1), (5, .int l5), (6, .int l6), (7, .int l7), (8, .int v8), (9, .int v9), (10, .int v10)] (dg DL_isWell 121 rfl) (by decide) rfl ?_
              refine j_iload 220 hC 6 (dg DL_isWell 122 rfl) rfl ?_
              refine j_iload 222 hC 9 (dg DL_isWell 123 rfl) rfl ?_
              refine j_iadd 224 hC (dg DL_isWell 124 rfl) ?_
              refine j_istore 225 hC [(6, .int (l6 + v9)), (4, .int (l4 + 1)), (3, .int (l3 + 0)), (2, .int (l2 + 1)), (0, .ref (B + 0)), (1, .int l1), (5, .int l5), (7, .int l7), (8, .int v8), (9, .int v9), (10, .int v10)] (dg DL_isWell 125 rfl) (by decide) rfl ?_
              refine j_iinc 227 hC 7 (l7 + 1) [(7, .int (l7 + 1)), (6, .int (l6 + v9)), (4, .int (l4 + 1)), (3, .int (l3 + 0)), (2, .int (l2 + 1)), (0, .ref (B + 0)), (1, .int l1), (5, .int l5), (8, .int v8), (9, .int v9), (10, .int v10)] (dg DL_isWell 126 rfl) rfl rfl (by decide) rfl ?_
              refine j_goto 230 49 hC (dg DL_isWell 127 rfl) (by decide) ?_
              refine j_lv [5, 6, 4, 3, 2, 7, 1, 0] (lv' := [(0, .ref (B + 0)), (1, .int l1), (2, .int (l2 + 1)), (3, .int (l3 + 0)), (4, .int (l4 + 1)), (5, .int l5), (6, .int (l6 + v9)), (7, .int (l7 + 1))]) rfl ?_
              exact hK49 _ _ _ _ _ _ hw
          · replace hw := hw.2 hbr
            refine j_iconst 198 hC (dg DL_isWell 109 rfl) (v := 1) (by decide) ?_
            refine j_goto 199 203 hC (dg DL_isWell 110 rfl) (by decide) ?_
            refine j_iadd 203 hC (dg DL_isWell 112 rfl) ?_
            refine j_istore_n 204 hC [(3, .int (l3 + 1)), (2, .int (l2 + 1)), (0, .ref (B + 0)), (1, .int l1), (4, .int l4), (5, .int l5), (6, .int l6), (7, .int l7), (8, .int v8), (9, .int v9), (10, .int v10)] (dg DL_isWell 113 rfl) rfl (by decide) rfl ?_
            refine j_iload 205 hC 4 (dg DL_isWell 114 rfl) rfl ?_
            refine j_iload 207 hC 8 (dg DL_isWell 115 rfl) rfl ?_
            refine j_if_ne 209 216 hC (dg DL_isWell 116 rfl) (by decide) (fun hbr => ?_) (fun hbr => ?_)
            · replace hw := hw.2 hbr
              refine j_iconst 216 hC (dg DL_isWell 119 rfl) (v := 0) (by decide) ?_
              refine j_iadd 217 hC (dg DL_isWell 120 rfl) ?_
              refine j_istore 218 hC [(4, .int (l4 + 0)), (3, .int (l3 + 1)), (2, .int (l2 + 1)), (0, .ref (B + 0)), (1, .int l1), (5, .int l5), (6, .int l6), (7, .int l7), (8, .int v8), (9, .int v9), (10, .int v10)] (dg DL_isWell 121 rfl) (by decide) rfl ?_
              refine j_iload 220 hC 6 (dg DL_isWell 122 rfl) rfl ?_
              refine j_iload 222 hC 9 (dg DL_isWell 123 rfl) rfl ?_
              refine j_iadd 224 hC (dg DL_isWell 124 rfl) ?_
              refine j_istore 225 hC [(6, .int (l6 + v9)), (4, .int (l4 + 0)), (3, .int (l3 + 1)), (2, .int (l2 + 1)), (0, .ref (B + 0)), (1, .int l1), (5, .int l5), (7, .int l7), (8, .int v8), (9, .int v9), (10, .int v10)] (dg DL_isWell 125 rfl) (by decide) rfl ?_
              refine j_iinc 227 hC 7 (l7 + 1) [(7, .int (l7 + 1)), (6, .int (l6 + v9)), (4, .int (l4 + 0)), (3, .int (l3 + 1)), (2, .int (l2 + 1)), (0, .ref (B + 0)), (1, .int l1), (5, .int l5), (8, .int v8), (9, .int v9), (10, .int v10)] (dg DL_isWell 126 rfl) rfl rfl (by decide) rfl ?_
              refine j_goto 230 49 hC (dg DL_isWell 127 rfl) (by decide) ?_
              refine j_lv [5, 6, 4, 3, 2, 7, 1, 0] (lv' := [(0, .ref (B + 0)), (1, .int l1), (2, .int (l2 + 1)), (3, .int (l3 + 1)), (4, .int (l4 + 0)), (5, .int l5), (6, .int (l6 + v9)), (7, .int (l7 + 1))]) rfl ?_
              exact hK49 _ _ _ _ _ _ hw
            · replace hw := hw.1 hbr
              refine j_iconst 212 hC (dg DL_isWell 117 rfl) (v := 1) (by decide) ?_
              refine j_goto 213 217 hC (dg DL_isWell 118 rfl) (by decide) ?_
              refine j_iadd 217 hC (dg DL_isWell 120 rfl) ?_
              refine j_istore 218 hC [(4, .int (l4 + 1)), (3, .int (l3 + 1)), (2, .int (l2 + 1)), (0, .ref (B + 0)), (1, .int l1), (5, .int l5), (6, .int l6), (7, .int l7), (8, .int v8), (9, .int v9), (10, .int v10)] (dg DL_isWell 121 rfl) (by decide) rfl ?_
              refine j_iload 220 hC 6 (dg DL_isWell 122 rfl) rfl ?_
              refine j_iload 222 hC 9 (dg DL_isWell 123 rfl) rfl ?_
              refine j_iadd 224 hC (dg DL_isWell 124 rfl) ?_
              refine j_istore 225 hC [(6, .int (l6 + v9)), (4, .int (l4 + 1)), (3, .int (l3 + 1)), (2, .int (l2 + 1)), (0, .ref (B + 0)), (1, .int l1), (5, .int l5), (7, .int l7), (8, .int v8), (9, .int v9), (10, .int v10)] (dg DL_isWell 125 rfl) (by decide) rfl ?_
              refine j_iinc 227 hC 7 (l7 + 1) [(7, .int (l7 + 1)), (6, .int (l6 + v9)), (4, .int (l4 + 1)), (3, .int (l3 + 1)), (2, .int (l2 + 1)), (0, .ref (B + 0)), (1, .int l1), (5, .int l5), (8, .int v8), (9, .int v9), (10, .int v10)] (dg DL_isWell 126 rfl) rfl rfl (by decide) rfl ?_
              refine j_goto 230 49 hC (dg DL_isWell 127 rfl) (by decide) ?_
              refine j_lv [5, 6, 4, 3, 2, 7, 1, 0] (lv' := [(0, .ref (B + 0)), (1, .int l1), (2, .int (l2 + 1)), (3, .int (l3 + 1)), (4, .int (l4 + 1)), (5, .int l5), (6, .int (l6 + v9)), (7, .int (l7 + 1))]) rfl ?_
              exact hK49 _ _ _ _ _ _ hw
      · replace hw := hw.2 hbr
        refine j_iconst 176 hC (dg DL_isWell 95 rfl) (v := 0) (by decide) ?_
        exact hR 177 _ _ _ (dg DL_isWell 96 rfl) ⟨by decide, hw⟩
  · replace hw := hw.2 hbr
    refine j_aload_n 71 hC 0 (dg DL_isWell 42 rfl) rfl rfl ?_
    refine j_iload 72 hC 10 (dg DL_isWell 43 rfl) rfl ?_
    refine j_iload 74 hC 7 (dg DL_isWell 44 rfl) rfl ?_
    refine j_Si (As := [.ref (B + 0), .int v10, .int l7]) 76 hC (m_L_should  hw) kL_102 (rmN_ok (by decide) (by decide)) rfl rfl (Nat.le_of_ble_eq_true rfl) (dg DL_isWell 45 rfl) (fun r93 σ92 hw => ?_)
    refine j_istore 79 hC [(11, .int r93), (0, .ref (B + 0)), (1, .int l1), (2, .int l2), (3, .int l3), (4, .int l4), (5, .int l5), (6, .int l6), (7, .int l7), (8, .int v8), (9, .int v9), (10, .int v10)] (dg DL_isWell 46 rfl) (by decide) rfl ?_
    refine j_aload_n 81 hC 1 (dg DL_isWell 47 rfl) rfl rfl ?_
    refine j_iload 82 hC 11 (dg DL_isWell 48 rfl) rfl ?_
    refine j_iload 84 hC 8 (dg DL_isWell 49 rfl) rfl ?_
    refine j_Vi (As := [.int v10, .int l7]) 86 hC (m_X9_sees  hw) kL_106 (k_0) (by decide) ⟨_, _, rfl⟩ (rmN_ok (by decide) (by decide)) rfl rfl (Nat.le_of_ble_eq_true rfl) (dg DL_isWell 50 rfl) (fun r95 σ94 hw => ?_)
    refine j_iload 89 hC 0 (dg DL_isWell 51 rfl) rfl ?_
    refine j_if_eq 91 98 hC (dg DL_isWell 52 rfl) (by decide) (fun hbr => ?_) (fun hbr => ?_)
    · replace hw := hw.1 hbr
      refine j_iconst 98 hC (dg DL_isWell 55 rfl) (v := 0) (by decide) ?_
      refine j_icmp_eq 99 104 hC (dg DL_isWell 56 rfl) (by decide) (fun hbr => ?_) (fun hbr => ?_)
      · replace hw := hw.1 hbr
        refine j_iload 104 hC 9 (dg DL_isWell 59 rfl) rfl ?_
        refine j_iload 106 hC 0 (dg DL_isWell 60 rfl) rfl ?_
        refine j_if_eq 108 118 hC (dg DL_isWell 61 rfl) (by decide) (fun hbr => ?_) (fun hbr => ?_)
        · replace hw := hw.1 hbr
          refine j_iconst 118 hC (dg DL_isWell 66 rfl) (v := 0) (by decide) ?_
          refine j_ior 119 hC (dg DL_isWell 67 rfl) ?_
          refine j_istore 120 hC [(8, .int (v8 ||| 0)), (11, .int r93), (0, .ref (B + 0)), (1, .int l1), (2, .int l2), (3, .int l3), (4, .int l4), (5, .int l5), (6, .int l6), (7, .int l7), (9, .int v9), (10, .int v10)] (dg DL_isWell 68 rfl) (by decide) rfl ?_
          refine j_iload 122 hC 10 (dg DL_isWell 69 rfl) rfl ?_
          refine j_iload 124 hC 1 (dg DL_isWell 70 rfl) rfl ?_
          refine j_if_eq 126 144 hC (dg DL_isWell 71 rfl) (by decide) (fun hbr => ?_) (fun hbr => ?_)
          · replace hw := hw.1 hbr
            refine j_iconst 144 hC (dg DL_isWell 80 rfl) (v := 0) (by decide) ?_
            refine j_iadd 145 hC (dg DL_isWell 81 rfl) ?_
            refine j_istore 146 hC [(9, .int (v9 + 0)), (8, .int (v8 ||| 0)), (11, .int r93), (0, .ref (B + 0)), (1, .int l1), (2, .int l2), (3, .int l3), (4, .int l4), (5, .int l5), (6, .int l6), (7, .int l7), (10, .int v10)] (dg DL_isWell 82 rfl) (by decide) rfl ?_
            refine j_iinc 148 hC 11 (v10 + 1) [(10, .int (v10 + 1)), (9, .int (v9 + 0)), (8, .int (v8 ||| 0)), (11, .int r93), (0, .ref (B + 0)), (1, .int l1), (2, .int l2), (3, .int l3), (4, .int l4), (5, .int l5), (6, .int l6), (7, .int l7)] (dg DL_isWell 83 rfl) rfl rfl (by decide) rfl ?_
            refine j_goto 151 65 hC (dg DL_isWell 84 rfl) (by decide) ?_
            refine j_lv [4, 5, 6, 7, 8, 9, 10, 11, 2, 1, 0] (lv' := [(0, .ref (B + 0)), (1, .int l1), (2, .int l2), (3, .int l3), (4, .int l4), (5, .int l5), (6, .int l6), (7, .int l7), (8, .int (v8 ||| 0)), (9, .int (v9 + 0)), (10, .int (v10 + 1))]) rfl ?_
            exact hrc _ _ _ _ hw
          · replace hw := hw.2 hbr
            refine j_aload_n 129 hC 2 (dg DL_isWell 72 rfl) rfl rfl ?_
            refine j_iload 130 hC 11 (dg DL_isWell 73 rfl) rfl ?_
            refine j_iconst 132 hC (dg DL_isWell 74 rfl) (v := 5) (by decide) ?_
            refine j_Vi (As := [.int v10, .int 5]) 133 hC (m_X9_postOf  hw) kL_99 (k_0) (by decide) ⟨_, _, rfl⟩ (rmN_ok (by decide) (by decide)) rfl rfl (Nat.le_of_ble_eq_true rfl) (dg DL_isWell 75 rfl) (fun r97 σ96 hw => ?_)
            refine j_iconst 136 hC (dg DL_isWell 76 rfl) (v := 1) (by decide) ?_
            refine j_icmp_ne 137 144 hC (dg DL_isWell 77 rfl) (by decide) (fun hbr => ?_) (fun hbr => ?_)
            · replace hw := hw.2 hbr
              refine j_iconst 144 hC (dg DL_isWell 80 rfl) (v := 0) (by decide) ?_
              refine j_iadd 145 hC (dg DL_isWell 81 rfl) ?_
              refine j_istore 146 hC [(9, .int (v9 + 0)), (8, .int (v8 ||| 0)), (11, .int r93), (0, .ref (B + 0)), (1, .int l1), (2, .int l2), (3, .int l3), (4, .int l4), (5, .int l5), (6, .int l6), (7, .int l7), (10, .int v10)] (dg DL_isWell 82 rfl) (by decide) rfl ?_
              refine j_iinc 148 hC 11 (v10 + 1) [(10, .int (v10 + 1)), (9, .int (v9 + 0)), (8, .int (v8 ||| 0)), (11, .int r93), (0, .ref (B + 0)), (1, .int l1), (2, .int l2), (3, .int l3), (4, .int l4), (5, .int l5), (6, .int l6), (7, .int l7)] (dg DL_isWell 83 rfl) rfl rfl (by decide) rfl ?_
              refine j_goto 151 65 hC (dg DL_isWell 84 rfl) (by decide) ?_
              refine j_lv [4, 5, 6, 7, 8, 9, 10, 11, 2, 1, 0] (lv' := [(0, .ref (B + 0)), (1, .int l1), (2, .int l2), (3, .int l3), (4, .int l4), (5, .int l5), (6, .int l6), (7, .int l7), (8, .int (v8 ||| 0)), (9, .int (v9 + 0)), (10, .int (v10 + 1))]) rfl ?_
              exact hrc _ _ _ _ hw
            · replace hw := hw.1 hbr
              refine j_iconst 140 hC (dg DL_isWell 78 rfl) (v := 1) (by decide) ?_
              refine j_goto 141 145 hC (dg DL_isWell 79 rfl) (by decide) ?_
              refine j_iadd 145 hC (dg DL_isWell 81 rfl) ?_
              refine j_istore 146 hC [(9, .int (v9 + 1)), (8, .int (v8 ||| 0)), (11, .int r93), (0, .ref (B + 0)), (1, .int l1), (2, .int l2), (3, .int l3), (4, .int l4), (5, .int l5), (6, .int l6), (7, .int l7), (10, .int v10)] (dg DL_isWell 82 rfl) (by decide) rfl ?_
              refine j_iinc 148 hC 11 (v10 + 1) [(10, .int (v10 + 1)), (9, .int (v9 + 1)), (8, .int (v8 ||| 0)), (11, .int r93), (0, .ref (B + 0)), (1, .int l1), (2, .int l2), (3, .int l3), (4, .int l4), (5, .int l5), (6, .int l6), (7, .int l7)] (dg DL_isWell 83 rfl) rfl rfl (by decide) rfl ?_
              refine j_goto 151 65 hC (dg DL_isWell 84 rfl) (by decide) ?_
              refine j_lv [4, 5, 6, 7, 8, 9, 10, 11, 2, 1, 0] (lv' := [(0, .ref (B + 0)), (1, .int l1), (2, .int l2), (3, .int l3), (4, .int l4), (5, .int l5), (6, .int l6), (7, .int l7), (8, .int (v8 ||| 0)), (9, .int (v9 + 1)), (10, .int (v10 + 1))]) rfl ?_
              exact hrc _ _ _ _ hw
        · replace hw := hw.2 hbr
          refine j_iconst 111 hC (dg DL_isWell 62 rfl) (v := 1) (by decide) ?_
          refine j_iload 112 hC 11 (dg DL_isWell 63 rfl) rfl ?_
          refine j_ishl 114 hC (dg DL_isWell 64 rfl) ?_
          refine j_goto 115 119 hC (dg DL_isWell 65 rfl) (by decide) ?_
          refine j_ior 119 hC (dg DL_isWell 67 rfl) ?_
          refine j_istore 120 hC [(8, .int (v8 ||| ((1 : Int32) <<< (v10 &&& 31)))), (11, .int r93), (0, .ref (B + 0)), (1, .int l1), (2, .int l2), (3, .int l3), (4, .int l4), (5, .int l5), (6, .int l6), (7, .int l7), (9, .int v9), (10, .int v10)] (dg DL_isWell 68 rfl) (by decide) rfl ?_
          refine j_iload 122 hC 10 (dg DL_isWell 69 rfl) rfl ?_
          refine j_iload 124 hC 1 (dg DL_isWell 70 rfl) rfl ?_
          refine j_if_eq 126 144 hC (dg DL_isWell 71 rfl) (by decide) (fun hbr => ?_) (fun hbr => ?_)
          · replace hw := hw.1 hbr
            refine j_iconst 144 hC (dg DL_isWell 80 rfl) (v := 0) (by decide) ?_
            refine j_iadd 145 hC (dg DL_isWell 81 rfl) ?_
            refine j_istore 146 hC [(9, .int (v9 + 0)), (8, .int (v8 ||| ((1 : Int32) <<< (v10 &&& 31)))), (11, .int r93), (0, .ref (B + 0)), (1, .int l1), (2, .int l2), (3, .int l3), (4, .int l4), (5, .int l5), (6, .int l6), (7, .int l7), (10, .int v10)] (dg DL_isWell 82 rfl) (by decide) rfl ?_
            refine j_iinc 148 hC 11 (v10 + 1) [(10, .int (v10 + 1)), (9, .int (v9 + 0)), (8, .int (v8 ||| ((1 : Int32) <<< (v10 &&& 31)))), (11, .int r93), (0, .ref (B + 0)), (1, .int l1), (2, .int l2), (3, .int l3), (4, .int l4), (5, .int l5), (6, .int l6), (7, .int l7)] (dg DL_isWell 83 rfl) rfl rfl (by decide) rfl ?_
            refine j_goto 151 65 hC (dg DL_isWell 84 rfl) (by decide) ?_
            refine j_lv [4, 5, 6, 7, 8, 9, 10, 11, 2, 1, 0] (lv' := [(0, .ref (B + 0)), (1, .int l1), (2, .int l2), (3, .int l3), (4, .int l4), (5, .int l5), (6, .int l6), (7, .int l7), (8, .int (v8 ||| ((1 : Int32) <<< (v10 &&& 31)))), (9, .int (v9 + 0)), (10, .int (v10 + 1))]) rfl ?_
            exact hrc _ _ _ _ hw
          · replace hw := hw.2 hbr
            refine j_aload_n 129 hC 2 (dg DL_isWell 72 rfl) rfl rfl ?_
            refine j_iload 130 hC 11 (dg DL_isWell 73 rfl) rfl ?_
            refine j_iconst 132 hC (dg DL_isWell 74 rfl) (v := 5) (by decide) ?_
            refine j_Vi (As := [.int v10, .int 5]) 133 hC (m_X9_postOf  hw) kL_99 (k_0) (by decide) ⟨_, _, rfl⟩ (rmN_ok (by decide) (by decide)) rfl rfl (Nat.le_of_ble_eq_true rfl) (dg DL_isWell 75 rfl) (fun r99 σ98 hw => ?_)
            refine j_iconst 136 hC (dg DL_isWell 76 rfl) (v := 1) (by decide) ?_
            refine j_icmp_ne 137 144 hC (dg DL_isWell 77 rfl) (by decide) (fun hbr => ?_) (fun hbr => ?_)
            · replace hw := hw.2 hbr
              refine j_iconst 144 hC (dg DL_isWell 80 rfl) (v := 0) (by decide) ?_
              refine j_iadd 145 hC (dg DL_isWell 81 rfl) ?_
              refine j_istore 146 hC [(9, .int (v9 + 0)), (8, .int (v8 ||| ((1 : Int32) <<< (v10 &&& 31)))), (11, .int r93), (0, .ref (B + 0)), (1, .int l1), (2, .int l2), (3, .int l3), (4, .int l4), (5, .int l5), (6, .int l6), (7, .int l7), (10, .int v10)] (dg DL_isWell 82 rfl) (by decide) rfl ?_
              refine j_iinc 148 hC 11 (v10 + 1) [(10, .int (v10 + 1)), (9, .int (v9 + 0)), (8, .int (v8 ||| ((1 : Int32) <<< (v10 &&& 31)))), (11, .int r93), (0, .ref (B + 0)), (1, .int l1), (2, .int l2), (3, .int l3), (4, .int l4), (5, .int l5), (6, .int l6), (7, .int l7)] (dg DL_isWell 83 rfl) rfl rfl (by decide) rfl ?_
              refine j_goto 151 65 hC (dg DL_isWell 84 rfl) (by decide) ?_
              refine j_lv [4, 5, 6, 7, 8, 9, 10, 11, 2, 1, 0] (lv' := [(0, .ref (B + 0)), (1, .int l1), (2, .int l2), (3, .int l3), (4, .int l4), (5, .int l5), (6, .int l6), (7, .int l7), (8, .int (v8 ||| ((1 : Int32) <<< (v10 &&& 31)))), (9, .int (v9 + 0)), (10, .int (v10 + 1))]) rfl ?_
              exact hrc _ _ _ _ hw
            · replace hw := hw.1 hbr
              refine j_iconst 140 hC (dg DL_isWell 78 rfl) (v := 1) (by decide) ?_
              refine j_goto 141 145 hC (dg DL_isWell 79 rfl) (by decide) ?_
              refine j_iadd 145 hC (dg DL_isWell 81 rfl) ?_
              refine j_istore 146 hC [(9, .int (v9 + 1)), (8, .int (v8 ||| ((1 : Int32) <<< (v10 &&& 31)))), (11, .int r93), (0, .ref (B + 0)), (1, .int l1), (2, .int l2), (3, .int l3), (4, .int l4), (5, .int l5), (6, .int l6), (7, .int l7), (10, .int v10)] (dg DL_isWell 82 rfl) (by decide) rfl ?_
              refine j_iinc 148 hC 11 (v10 + 1) [(10, .int (v10 + 1)), (9, .int (v9 + 1)), (8, .int (v8 ||| ((1 : Int32) <<< (v10 &&& 31)))), (11, .int r93), (0, .ref (B + 0)), (1, .int l1), (2, .int l2), (3, .int l3), (4, .int l4), (5, .int l5), (6, .int l6), (7, .int l7)] (dg DL_isWell 83 rfl) rfl rfl (by decide) rfl ?_
              refine j_goto 151 65 hC (dg DL_isWell 84 rfl) (by decide) ?_
              refine j_lv [4, 5, 6, 7, 8, 9, 10, 11, 2, 1, 0] (lv' := [(0, .ref (B + 0)), (1, .int l1), (2, .int l2), (3, .int l3), (4, .int l4), (5, .int l5), (6, .int l6), (7, .int l7), (8, .int (v8 ||| ((1 : Int32) <<< (v10 &&& 31)))), (9, .int (v9 + 1)), (10, .int (v10 + 1))]) rfl ?_
              exact hrc _ _ _ _ hw
      · replace hw := hw.2 hbr
        refine j_iconst 102 hC (dg DL_isWell 57 rfl) (v := 0) (by decide) ?_
        exact hR 103 _ _ _ (dg DL_isWell 58 rfl) ⟨by decide, hw⟩
    · replace hw := hw.2 hbr
      refine j_iconst 94 hC (dg DL_isWell 53 rfl) (v := 1) (by decide) ?_
      refine j_goto 95 99 hC (dg DL_isWell 54 rfl) (by decide) ?_
      refine j_icmp_eq 99 104 hC (dg DL_isWell 56 rfl) (by decide) (fun hbr => ?_) (fun hbr => ?_)
      · replace hw := hw.1 hbr
        refine j_iload 104 hC 9 (dg DL_isWell 59 rfl) rfl ?_
        refine j_iload 106 hC 0 (dg DL_isWell 60 rfl) rfl ?_
        refine j_if_eq 108 118 hC (dg DL_isWell 61 rfl) (by decide) (fun hbr => ?_) (fun hbr => ?_)
        · replace hw := hw.1 hbr
          refine j_iconst 118 hC (dg DL_isWell 66 rfl) (v := 0) (by decide) ?_
          refine j_ior 119 hC (dg DL_isWell 67 rfl) ?_
          refine j_istore 120 hC [(8, .int (v8 ||| 0)), (11, .int r93), (0, .ref (B + 0)), (1, .int l1), (2, .int l2), (3, .int l3), (4, .int l4), (5, .int l5), (6, .int l6), (7, .int l7), (9, .int v9), (10, .int v10)] (dg DL_isWell 68 rfl) (by decide) rfl ?_
          refine j_iload 122 hC 10 (dg DL_isWell 69 rfl) rfl ?_
          refine j_iload 124 hC 1 (dg DL_isWell 70 rfl) rfl ?_
          refine j_if_eq 126 144 hC (dg DL_isWell 71 rfl) (by decide) (fun hbr => ?_) (fun hbr => ?_)
          · replace hw := hw.1 hbr
            refine j_iconst 144 hC (dg DL_isWell 80 rfl) (v := 0) (by decide) ?_
            refine j_iadd 145 hC (dg DL_isWell 81 rfl) ?_
            refine j_istore 146 hC [(9, .int (v9 + 0)), (8, .int (v8 ||| 0)), (11, .int r93), (0, .ref (B + 0)), (1, .int l1), (2, .int l2), (3, .int l3), (4, .int l4), (5, .int l5), (6, .int l6), (7, .int l7), (10, .int v10)] (dg DL_isWell 82 rfl) (by decide) rfl ?_
            refine j_iinc 148 hC 11 (v10 + 1) [(10, .int (v10 + 1)), (9, .int (v9 + 0)), (8, .int (v8 ||| 0)), (11, .int r93), (0, .ref (B + 0)), (1, .int l1), (2, .int l2), (3, .int l3), (4, .int l4), (5, .int l5), (6, .int l6), (7, .int l7)] (dg DL_isWell 83 rfl) rfl rfl (by decide) rfl ?_
            refine j_goto 151 65 hC (dg DL_isWell 84 rfl) (by decide) ?_
            refine j_lv [4, 5, 6, 7, 8, 9, 10, 11, 2, 1, 0] (lv' := [(0, .ref (B + 0)), (1, .int l1), (2, .int l2), (3, .int l3), (4, .int l4), (5, .int l5), (6, .int l6), (7, .int l7), (8, .int (v8 ||| 0)), (9, .int (v9 + 0)), (10, .int (v10 + 1))]) rfl ?_
            exact hrc _ _ _ _ hw
          · replace hw := hw.2 hbr
            refine j_aload_n 129 hC 2 (dg DL_isWell 72 rfl) rfl rfl ?_
            refine j_iload 130 hC 11 (dg DL_isWell 73 rfl) rfl ?_
            refine j_iconst 132 hC (dg DL_isWell 74 rfl) (v := 5) (by decide) ?_
            refine j_Vi (As := [.int v10, .int 5]) 133 hC (m_X9_postOf  hw) kL_99 (k_0) (by decide) ⟨_, _, rfl⟩ (rmN_ok (by decide) (by decide)) rfl rfl (Nat.le_of_ble_eq_true rfl) (dg DL_isWell 75 rfl) (fun r101 σ100 hw => ?_)
            refine j_iconst 136 hC (dg DL_isWell 76 rfl) (v := 1) (by decide) ?_
            refine j_icmp_ne 137 144 hC (dg DL_isWell 77 rfl) (by decide) (fun hbr => ?_) (fun hbr => ?_)
            · replace hw := hw.2 hbr
              refine j_iconst 144 hC (dg DL_isWell 80 rfl) (v := 0) (by decide) ?_
              refine j_iadd 145 hC (dg DL_isWell 81 rfl) ?_
              refine j_istore 146 hC [(9, .int (v9 + 0)), (8, .int (v8 ||| 0)), (11, .int r93), (0, .ref (B + 0)), (1, .int l1), (2, .int l2), (3, .int l3), (4, .int l4), (5, .int l5), (6, .int l6), (7, .int l7), (10, .int v10)] (dg DL_isWell 82 rfl) (by decide) rfl ?_
              refine j_iinc 148 hC 11 (v10 + 1) [(10, .int (v10 + 1)), (9, .int (v9 + 0)), (8, .int (v8 ||| 0)), (11, .int r93), (0, .ref (B + 0)), (1, .int l1), (2, .int l2), (3, .int l3), (4, .int l4), (5, .int l5), (6, .int l6), (7, .int l7)] (dg DL_isWell 83 rfl) rfl rfl (by decide) rfl ?_
              refine j_goto 151 65 hC (dg DL_isWell 84 rfl) (by decide) ?_
              refine j_lv [4, 5, 6, 7, 8, 9, 10, 11, 2, 1, 0] (lv' := [(0, .ref (B + 0)), (1, .int l1), (2, .int l2), (3, .int l3), (4, .int l4), (5, .int l5), (6, .int l6), (7, .int l7), (8, .int (v8 ||| 0)), (9, .int (v9 + 0)), (10, .int (v10 + 1))]) rfl ?_
              exact hrc _ _ _ _ hw
            · replace hw := hw.1 hbr
              refine j_iconst 140 hC (dg DL_isWell 78 rfl) (v := 1) (by decide) ?_
              refine j_goto 141 145 hC (dg DL_isWell 79 rfl) (by decide) ?_
              refine j_iadd 145 hC (dg DL_isWell 81 rfl) ?_
              refine j_istore 146 hC [(9, .int (v9 + 1)), (8, .int (v8 ||| 0)), (11, .int r93), (0, .ref (B + 0)), (1, .int l1), (2, .int l2), (3, .int l3), (4, .int l4), (5, .int l5), (6, .int l6), (7, .int l7), (10, .int v10)] (dg DL_isWell 82 rfl) (by decide) rfl ?_
              refine j_iinc 148 hC 11 (v10 + 1) [(10, .int (v10 + 1)), (9, .int (v9 + 1)), (8, .int (v8 ||| 0)), (11, .int r93), (0, .ref (B + 0)), (1, .int l1), (2, .int l2), (3, .int l3), (4, .int l4), (5, .int l5), (6, .int l6), (7, .int l7)] (dg DL_isWell 83 rfl) rfl rfl (by decide) rfl ?_
              refine j_goto 151 65 hC (dg DL_isWell 84 rfl) (by decide) ?_
              refine j_lv [4, 5, 6, 7, 8, 9, 10, 11, 2, 1, 0] (lv' := [(0, .ref (B + 0)), (1, .int l1), (2, .int l2), (3, .int l3), (4, .int l4), (5, .int l5), (6, .int l6), (7, .int l7), (8, .int (v8 ||| 0)), (9, .int (v9 + 1)), (10, .int (v10 + 1))]) rfl ?_
              exact hrc _ _ _ _ hw
        · replace hw := hw.2 hbr
          refine j_iconst 111 hC (dg DL_isWell 62 rfl) (v := 1) (by decide) ?_
          refine j_iload 112 hC 11 (dg DL_isWell 63 rfl) rfl ?_
          refine j_ishl 114 hC (dg DL_isWell 64 rfl) ?_
          refine j_goto 115 119 hC (dg DL_isWell 65 rfl) (by decide) ?_
          refine j_ior 119 hC (dg DL_isWell 67 rfl) ?_
          refine j_istore 120 hC [(8, .int (v8 ||| ((1 : Int32) <<< (v10 &&& 31)))), (11, .int r93), (0, .ref (B + 0)), (1, .int l1), (2, .int l2), (3, .int l3), (4, .int l4), (5, .int l5), (6, .int l6), (7, .int l7), (9, .int v9), (10, .int v10)] (dg DL_isWell 68 rfl) (by decide) rfl ?_
          refine j_iload 122 hC 10 (dg DL_isWell 69 rfl) rfl ?_
          refine j_iload 124 hC 1 (dg DL_isWell 70 rfl) rfl ?_
          refine j_if_eq 126 144 hC (dg DL_isWell 71 rfl) (by decide) (fun hbr => ?_) (fun hbr => ?_)
          · replace hw := hw.1 hbr
            refine j_iconst 144 hC (dg DL_isWell 80 rfl) (v := 0) (by decide) ?_
            refine j_iadd 145 hC (dg DL_isWell 81 rfl) ?_
            refine j_istore 146 hC [(9, .int (v9 + 0)), (8, .int (v8 ||| ((1 : Int32) <<< (v10 &&& 31)))), (11, .int r93), (0, .ref (B + 0)), (1, .int l1), (2, .int l2), (3, .int l3), (4, .int l4), (5, .int l5), (6, .int l6), (7, .int l7), (10, .int v10)] (dg DL_isWell 82 rfl) (by decide) rfl ?_
            refine j_iinc 148 hC 11 (v10 + 1) [(10, .int (v10 + 1)), (9, .int (v9 + 0)), (8, .int (v8 ||| ((1 : Int32) <<< (v10 &&& 31)))), (11, .int r93), (0, .ref (B + 0)), (1, .int l1), (2, .int l2), (3, .int l3), (4, .int l4), (5, .int l5), (6, .int l6), (7, .int l7)] (dg DL_isWell 83 rfl) rfl rfl (by decide) rfl ?_
            refine j_goto 151 65 hC (dg DL_isWell 84 rfl) (by decide) ?_
            refine j_lv [4, 5, 6, 7, 8, 9, 10, 11, 2, 1, 0] (lv' := [(0, .ref (B + 0)), (1, .int l1), (2, .int l2), (3, .int l3), (4, .int l4), (5, .int l5), (6, .int l6), (7, .int l7), (8, .int (v8 ||| ((1 : Int32) <<< (v10 &&& 31)))), (9, .int (v9 + 0)), (10, .int (v10 + 1))]) rfl ?_
            exact hrc _ _ _ _ hw
          · replace hw := hw.2 hbr
            refine j_aload_n 129 hC 2 (dg DL_isWell 72 rfl) rfl rfl ?_
            refine j_iload 130 hC 11 (dg DL_isWell 73 rfl) rfl ?_
            refine j_iconst 132 hC (dg DL_isWell 74 rfl) (v := 5) (by decide) ?_
            refine j_Vi (As := [.int v10, .int 5]) 133 hC (m_X9_postOf  hw) kL_99 (k_0) (by decide) ⟨_, _, rfl⟩ (rmN_ok (by decide) (by decide)) rfl rfl (Nat.le_of_ble_eq_true rfl) (dg DL_isWell 75 rfl) (fun r103 σ102 hw => ?_)
            refine j_iconst 136 hC (dg DL_isWell 76 rfl) (v := 1) (by decide) ?_
            refine j_icmp_ne 137 144 hC (dg DL_isWell 77 rfl) (by decide) (fun hbr => ?_) (fun hbr => ?_)
            · replace hw := hw.2 hbr
              refine j_iconst 144 hC (dg DL_isWell 80 rfl) (v := 0) (by decide) ?_
              refine j_iadd 145 hC (dg DL_isWell 81 rfl) ?_
              refine j_istore 146 hC [(9, .int (v9 + 0)), (8, .int (v8 ||| ((1 : Int32) <<< (v10 &&& 31)))), (11, .int r93), (0, .ref (B + 0)), (1, .int l1), (2, .int l2), (3, .int l3), (4, .int l4), (5, .int l5), (6, .int l6), (7, .int l7), (10, .int v10)] (dg DL_isWell 82 rfl) (by decide) rfl ?_
              refine j_iinc 148 hC 11 (v10 + 1) [(10, .int (v10 + 1)), (9, .int (v9 + 0)), (8, .int (v8 ||| ((1 : Int32) <<< (v10 &&& 31)))), (11, .int r93), (0, .ref (B + 0)), (1, .int l1), (2, .int l2), (3, .int l3), (4, .int l4), (5, .int l5), (6, .int l6), (7, .int l7)] (dg DL_isWell 83 rfl) rfl rfl (by decide) rfl ?_
              refine j_goto 151 65 hC (dg DL_isWell 84 rfl) (by decide) ?_
              refine j_lv [4, 5, 6, 7, 8, 9, 10, 11, 2, 1, 0] (lv' := [(0, .ref (B + 0)), (1, .int l1), (2, .int l2), (3, .int l3), (4, .int l4), (5, .int l5), (6, .int l6), (7, .int l7), (8, .int (v8 ||| ((1 : Int32) <<< (v10 &&& 31)))), (9, .int (v9 + 0)), (10, .int (v10 + 1))]) rfl ?_
              exact hrc _ _ _ _ hw
            · replace hw := hw.1 hbr
              refine j_iconst 140 hC (dg DL_isWell 78 rfl) (v := 1) (by decide) ?_
              refine j_goto 141 145 hC (dg DL_isWell 79 rfl) (by decide) ?_
              refine j_iadd 145 hC (dg DL_isWell 81 rfl) ?_
              refine j_istore 146 hC [(9, .int (v9 + 1)), (8, .int (v8 ||| ((1 : Int32) <<< (v10 &&& 31)))), (11, .int r93), (0, .ref (B + 0)), (1, .int l1), (2, .int l2), (3, .int l3), (4, .int l4), (5, .int l5), (6, .int l6), (7, .int l7), (10, .int v10)] (dg DL_isWell 82 rfl) (by decide) rfl ?_
              refine j_iinc 148 hC 11 (v10 + 1) [(10, .int (v10 + 1)), (9, .int (v9 + 1)), (8, .int (v8 ||| ((1 : Int32) <<< (v10 &&& 31)))), (11, .int r93), (0, .ref (B + 0)), (1, .int l1), (2, .int l2), (3, .int l3), (4, .int l4), (5, .int l5), (6, .int l6), (7, .int l7)] (dg DL_isWell 83 rfl) rfl rfl (by decide) rfl ?_
              refine j_goto 151 65 hC (dg DL_isWell 84 rfl) (by decide) ?_
              refine j_lv [4, 5, 6, 7, 8, 9, 10, 11, 2, 1, 0] (lv' := [(0, .ref (B + 0)), (1, .int l1), (2, .int l2), (3, .int l3), (4, .int l4), (5, .int l5), (6, .int l6), (7, .int l7), (8, .int (v8 ||| ((1 : Int32) <<< (v10 &&& 31)))), (9, .int (v9 + 1)), (10, .int (v10 + 1))]) rfl ?_
              exact hrc _ _ _ _ hw
      · replace hw := hw.2 hbr
        refine j_iconst 102 hC (dg DL_isWell 57 rfl) (v := 0) (by decide) ?_
        exact hR 103 _ _ _ (dg DL_isWell 58 rfl) ⟨by decide, hw⟩
set_option maxRecDepth 100000 in
set_option maxHeartbeats 4000000 in
theorem tb_L_isWell_49 {X : XT} {B : Nat} (hC : Cx X 15 cL_isWell RL (rmN 17 454)) {Q : Int32 → SS → Prop} {l1 : Int32} {l5 : Int32} (hR : RtZ X 15 B 95 RS cL_isWell Q) {rc : SS → Int32 → Int32 → Int32 → Int32 → Int32 → Prop} (hrc : ∀ (σ : SS) (v2 : Int32) (v3 : Int32) (v4 : Int32) (v6 : Int32) (v7 : Int32), rc σ v2 v3 v4 v6 v7 → J X 15 B 95 RS 0 0 σ [(0, .ref (B + 0)), (1, .int l1), (2, .int v2), (3, .int v3), (4, .int v4), (5, .int l5), (6, .int v6), (7, .int v7)] 49 []) : ∀ (σ : SS) (v2 : Int32) (v3 : Int32) (v4 : Int32) (v6 : Int32) (v7 : Int32), bd_L_isWell_49 Q l1 l5 rc σ v2 v3 v4 v6 v7 → J X 15 B 95 RS 0 0 σ [(0, .ref (B + 0)), (1, .int l1), (2, .int v2), (3, .int v3), (4, .int v4), (5, .int l5), (6, .int v6), (7, .int v7)] 49 [] := by
  intro σ v2 v3 v4 v6 v7 hw
  unfold bd_L_isWell_49 at hw
  refine j_iload 49 hC 7 (dg DL_isWell 30 rfl) rfl ?_
  refine j_bipush 51 hC (dg DL_isWell 31 rfl) (v := 24) (by decide) ?_
  refine j_icmp_ge 53 233 hC (dg DL_isWell 32 rfl) (by decide) (fun hbr => ?_) (fun hbr => ?_)
  · replace hw := hw.1 hbr
    refine j_iconst 233 hC (dg DL_isWell 128 rfl) (v := 0) (by decide) ?_
    refine j_istore 234 hC [(7, .int 0), (0, .ref (B + 0)), (1, .int l1), (2, .int v2), (3, .int v3), (4, .int v4), (5, .int l5), (6, .int v6)] (dg DL_isWell 129 rfl) (by decide) rfl ?_
    obtain ⟨k87, hw⟩ := hw
    refine j_lv [1, 2, 3, 4, 5, 6, 7, 0] (lv' := [(0, .ref (B + 0)), (1, .int l1), (2, .int v2), (3, .int v3), (4, .int v4), (5, .int l5), (6, .int v6), (7, .int 0)]) rfl ?_
    exact Li.snd (P := fun τ w7 => J X 15 B 95 RS 0 0 τ [(0, .ref (B + 0)), (1, .int l1), (2, .int v2), (3, .int v3), (4, .int v4), (5, .int l5), (6, .int v6), (7, .int w7)] 236 []) (fun rcc hrcc => tb_L_isWell_236 hC  hR  hrcc) k87 _ _ hw
  · replace hw := hw.2 hbr
    refine j_iconst 56 hC (dg DL_isWell 33 rfl) (v := 0) (by decide) ?_
    refine j_istore 57 hC [(8, .int 0), (0, .ref (B + 0)), (1, .int l1), (2, .int v2), (3, .int v3), (4, .int v4), (5, .int l5), (6, .int v6), (7, .int v7)] (dg DL_isWell 34 rfl) (by decide) rfl ?_
    refine j_iconst 59 hC (dg DL_isWell 35 rfl) (v := 0) (by decide) ?_
    refine j_istore 60 hC [(9, .int 0), (8, .int 0), (0, .ref (B + 0)), (1, .int l1), (2, .int v2), (3, .int v3), (4, .int v4), (5, .int l5), (6, .int v6), (7, .int v7)] (dg DL_isWell 36 rfl) (by decide) rfl ?_
    refine j_iconst 62 hC (dg DL_isWell 37 rfl) (v := 0) (by decide) ?_
    refine j_istore 63 hC [(10, .int 0), (9, .int 0), (8, .int 0), (0, .ref (B + 0)), (1, .int l1), (2, .int v2), (3, .int v3), (4, .int v4), (5, .int l5), (6, .int v6), (7, .int v7)] (dg DL_isWell 38 rfl) (by decide) rfl ?_
    obtain ⟨k104, hw⟩ := hw
    refine j_lv [3, 4, 5, 6, 7, 8, 9, 10, 2, 1, 0] (lv' := [(0, .ref (B + 0)), (1, .int l1), (2, .int v2), (3, .int v3), (4, .int v4), (5, .int l5), (6, .int v6), (7, .int v7), (8, .int 0), (9, .int 0), (10, .int 0)]) rfl ?_
    exact Liii.snd (P := fun τ w8 w9 w10 => J X 15 B 95 RS 0 0 τ [(0, .ref (B + 0)), (1, .int l1), (2, .int v2), (3, .int v3), (4, .int v4), (5, .int l5), (6, .int v6), (7, .int v7), (8, .int w8), (9, .int w9), (10, .int w10)] 65 []) (fun rcc hrcc => tb_L_isWell_65 hC  hR hrc hrcc) k104 _ _ _ _ hw
set_option maxRecDepth 100000 in
set_option maxHeartbeats 4000000 in
theorem tb_L_isWell_22 {X : XT} {B : Nat} (hC : Cx X 15 cL_isWell RL (rmN 17 454)) {Q : Int32 → SS → Prop} {l1 : Int32} {l2 : Int32} {l3 : Int32} {l4 : Int32} {l6 : Int32} (hR : RtZ X 15 B 95 RS cL_isWell Q) {rc : SS → Int32 → Int32 → Prop} (hrc : ∀ (σ : SS) (v5 : Int32) (v7 : Int32), rc σ v5 v7 → J X 15 B 95 RS 0 0 σ [(0, .ref (B + 0)), (1, .int l1), (2, .int l2), (3, .int l3), (4, .int l4), (5, .int v5), (6, .int l6), (7, .int v7)] 22 []) : ∀ (σ : SS) (v5 : Int32) (v7 : Int32), bd_L_isWell_22 Q l1 l2 l3 l4 l6 rc σ v5 v7 → J X 15 B 95 RS 0 0 σ [(0, .ref (B + 0)), (1, .int l1), (2, .int l2), (3, .int l3), (4, .int l4), (5, .int v5), (6, .int l6), (7, .int v7)] 22 [] := by
  intro σ v5 v7 hw
  unfold bd_L_isWell_22 at hw
  refine j_iload 22 hC 7 (dg DL_isWell 16 rfl) rfl ?_
  refine j_iload_n 24 hC 1 (dg DL_isWell 17 rfl) rfl rfl ?_
  refine j_icmp_ge 25 46 hC (dg DL_isWell 18 rfl) (by decide) (fun hbr => ?_) (fun hbr => ?_)
  · replace hw := hw.1 hbr
    refine j_iconst 46 hC (dg DL_isWell 28 rfl) (v := 0) (by decide) ?_
    refine j_istore 47 hC [(7, .int 0), (0, .ref (B + 0)), (1, .int l1), (2, .int l2), (3, .int l3), (4, .int l4), (5, .int v5), (6, .int l6)] (dg DL_isWell 29 rfl) (by decide) rfl ?_
    obtain ⟨k105, hw⟩ := hw
    refine j_lv [1, 2, 3, 4, 5, 6, 7, 0] (lv' := [(0, .ref (B + 0)), (1, .int l1), (2, .int l2), (3, .int l3), (4, .int l4), (5, .int v5), (6, .int l6), (7, .int 0)]) rfl ?_
    exact Liiiii.snd (P := fun τ w2 w3 w4 w6 w7 => J X 15 B 95 RS 0 0 τ [(0, .ref (B + 0)), (1, .int l1), (2, .int w2), (3, .int w3), (4, .int w4), (5, .int v5), (6, .int w6), (7, .int w7)] 49 []) (fun rcc hrcc => tb_L_isWell_49 hC  hR  hrcc) k105 _ _ _ _ _ _ hw
  · replace hw := hw.2 hbr
    refine j_iload 28 hC 5 (dg DL_isWell 19 rfl) rfl ?_
    refine j_aload_n 30 hC 0 (dg DL_isWell 20 rfl) rfl rfl ?_
    refine j_iload 31 hC 7 (dg DL_isWell 21 rfl) rfl ?_
    refine j_iconst 33 hC (dg DL_isWell 22 rfl) (v := 5) (by decide) ?_
    refine j_Vi (As := [.int v7, .int 5]) 34 hC (m_X9_postOf  hw) kL_99 (k_0) (by decide) ⟨_, _, rfl⟩ (rmN_ok (by decide) (by decide)) rfl rfl (Nat.le_of_ble_eq_true rfl) (dg DL_isWell 23 rfl) (fun r107 σ106 hw => ?_)
    refine j_iadd 37 hC (dg DL_isWell 24 rfl) ?_
    refine j_istore 38 hC [(5, .int (v5 + r107)), (0, .ref (B + 0)), (1, .int l1), (2, .int l2), (3, .int l3), (4, .int l4), (6, .int l6), (7, .int v7)] (dg DL_isWell 25 rfl) (by decide) rfl ?_
    refine j_iinc 40 hC 7 (v7 + 1) [(7, .int (v7 + 1)), (5, .int (v5 + r107)), (0, .ref (B + 0)), (1, .int l1), (2, .int l2), (3, .int l3), (4, .int l4), (6, .int l6)] (dg DL_isWell 26 rfl) rfl rfl (by decide) rfl ?_
    refine j_goto 43 22 hC (dg DL_isWell 27 rfl) (by decide) ?_
    refine j_lv [2, 3, 4, 5, 6, 1, 7, 0] (lv' := [(0, .ref (B + 0)), (1, .int l1), (2, .int l2), (3, .int l3), (4, .int l4), (5, .int (v5 + r107)), (6, .int l6), (7, .int (v7 + 1))]) rfl ?_
    exact hrc _ _ _ hw
set_option maxRecDepth 100000 in
set_option maxHeartbeats 4000000 in
theorem t_L_isWell {X : XT} {B : Nat} (hC : Cx X 15 cL_isWell RL (rmN 17 454)) {Q : Int32 → SS → Prop} (hR : RtZ X 15 B 95 RS cL_isWell Q) {σ : SS} (hw : wp_L_isWell  σ  Q) : J X 15 B 95 RS 0 0 σ [(0, .ref (B + 0))] 0 [] := by
  unfold wp_L_isWell at hw
  refine j_aload_n 0 hC 0 (dg DL_isWell 0 rfl) rfl rfl ?_
  refine j_iconst 1 hC (dg DL_isWell 1 rfl) (v := 0) (by decide) ?_
  refine j_Vi (As := [.int 0]) 2 hC (m_X9_account  hw) kL_96 (k_0) (by decide) ⟨_, _, rfl⟩ (rmN_ok (by decide) (by decide)) rfl rfl (Nat.le_of_ble_eq_true rfl) (dg DL_isWell 2 rfl) (fun r2 σ1 hw => ?_)
  refine j_istore_n 5 hC [(1, .int r2), (0, .ref (B + 0))] (dg DL_isWell 3 rfl) rfl (by decide) rfl ?_
  refine j_iconst 6 hC (dg DL_isWell 4 rfl) (v := 0) (by decide) ?_
  refine j_istore_n 7 hC [(2, .int 0), (1, .int r2), (0, .ref (B + 0))] (dg DL_isWell 5 rfl) rfl (by decide) rfl ?_
  refine j_iconst 8 hC (dg DL_isWell 6 rfl) (v := 0) (by decide) ?_
  refine j_istore_n 9 hC [(3, .int 0), (2, .int 0), (1, .int r2), (0, .ref (B + 0))] (dg DL_isWell 7 rfl) rfl (by decide) rfl ?_
  refine j_iconst 10 hC (dg DL_isWell 8 rfl) (v := 0) (by decide) ?_
  refine j_istore 11 hC [(4, .int 0), (3, .int 0), (2, .int 0), (1, .int r2), (0, .ref (B + 0))] (dg DL_isWell 9 rfl) (by decide) rfl ?_
  refine j_iconst 13 hC (dg DL_isWell 10 rfl) (v := 0) (by decide) ?_
  refine j_istore 14 hC [(5, .int 0), (4, .int 0), (3, .int 0), (2, .int 0), (1, .int r2), (0, .ref (B + 0))] (dg DL_isWell 11 rfl) (by decide) rfl ?_
  refine j_iconst 16 hC (dg DL_isWell 12 rfl) (v := 0) (by decide) ?_
  refine j_istore 17 hC [(6, .int 0), (5, .int 0), (4, .int 0), (3, .int 0), (2, .int 0), (1, .int r2), (0, .ref (B + 0))] (dg DL_isWell 13 rfl) (by decide) rfl ?_
  refine j_iconst 19 hC (dg DL_isWell 14 rfl) (v := 0) (by decide) ?_
  refine j_istore 20 hC [(7, .int 0), (6, .int 0), (5, .int 0), (4, .int 0), (3, .int 0), (2, .int 0), (1, .int r2), (0, .ref (B + 0))] (dg DL_isWell 15 rfl) (by decide) rfl ?_
  obtain ⟨k108, hw⟩ := hw
  refine j_lv [7, 6, 5, 4, 3, 2, 1, 0] (lv' := [(0, .ref (B + 0)), (1, .int r2), (2, .int 0), (3, .int 0), (4, .int 0), (5, .int 0), (6, .int 0), (7, .int 0)]) rfl ?_
  exact Lii.snd (P := fun τ w5 w7 => J X 15 B 95 RS 0 0 τ [(0, .ref (B + 0)), (1, .int r2), (2, .int 0), (3, .int 0), (4, .int 0), (5, .int w5), (6, .int 0), (7, .int w7)] 22 []) (fun rcc hrcc => tb_L_isWell_22 hC  hR  hrcc) k108 _ _ _ hw
theorem m_L_isWell {B : Nat} {σ : SS} {Q : Int32 → SS → Prop} (hw : wp_L_isWell  σ  Q) : MI yL_isWell cL_isWell 15 (some .boolean) 17 454 B 95 RS [.ref (B + 0)] σ Q := MI.mkZ (plainFor_of_name (by decide)) (Nat.le_of_ble_eq_true rfl) (fun X hC hR => t_L_isWell hC  hR hw)
