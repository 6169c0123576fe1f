/-! the law's isWell: always well -/
theorem d_bit {b : Bool} {x : Nat} : nI (x + (if b then 1 else 0)) = if b then nI x + 1 else nI x + 0 := by
  cases b with
  | true => exact (nI_1 x).symm
  | false => rw [if_neg (by decide), if_neg (by decide), show (0 : Int32) = nI 0 from rfl, nI_add]
theorem w449 {w : WW} {n : Nat} {H : Nat → WW} {sb : Option WW} {T : List Int32} {σ : SS} (h : LA w n H sb T σ) {K : SS → Int32 → Int32 → Int32 → Int32 → Prop} {Q : Int32 → SS → Prop} {l1 l2 l3 l4 l5 l6 l7 l8 l9 l10 l11 : Int32} {s m : Nat} (hs : s < 24) (hm : m ≤ 24) (hz : ∀ k, k < m → (sn w.1 w.2).testBit ((s + k) % 24) = false) (q : ∀ τ, LA w n H sb T τ → K τ l8 l9 (nI s) (l11 + 1)) : ∃ k, Li (bd_L_isWell_449 K Q l1 l2 l3 l4 l5 l6 l7 l8 l9 l10 l11 (nI s) (nI m)) k σ 0 := by
  refine Li.up (N := m) 0 (fun i τ v => v = nI i ∧ LA w n H sb T τ) (by omega) ⟨rfl, h⟩ ?_ ?_
  · rintro rc i τ v _ hi ⟨rfl, ht⟩ k
    unfold bd_L_isWell_449
    rw [nI_add, i_rem24 (by omega)]
    refine br_f (nI_gt hi (by omega)) (d_watched ht (Nat.mod_lt _ (by decide)) fun υ hu => ?_)
    have e : wat w.1 w.2 ((s + i) % 24) = 0 := by
      have := sn_bit h.ok ((s + i) % 24)
      rw [hz i hi] at this
      simp at this
      exact this
    rw [e, nI_1]
    exact br_t rfl (k _ _ ⟨rfl, hu⟩)
  · rintro rc τ v ⟨rfl, ht⟩
    unfold bd_L_isWell_449
    exact br_t (by rw [nI_leI (by omega) (by omega)]; omega) (q τ ht)
def wlT (Q : Int32 → SS → Prop) (l1 l2 l3 l4 l5 l6 l7 v8 v9 : Int32) (σ : SS) : Prop := wp_X9_account σ 1 (fun r44 σ43 =>
                              ((l5 = r44 →
                                  wp_X9_account σ43 2 (fun r46 σ45 =>
                                    ((l2 = r46 →
                                        wp_X9_account σ45 3 (fun r48 σ47 =>
                                          ((l3 = r48 →
                                              wp_X9_account σ47 6 (fun r50 σ49 =>
                                                ((l4 = r50 →
                                                    wp_X9_account σ49 5 (fun r52 σ51 =>
                                                      ((v8 = r52 →
                                                          (((v9 + l2) = 24 →
                                                              wp_X9_gapOf σ51 l7 0 (fun r54 σ53 =>
                                                                ((r54 = (-1) →
                                                                    wp_X9_mean σ53 (fun r56 σ55 =>
                                                                      vf_n32 (FP.fdiv (FP.i2f l6) 1103101952) ∧
                                                                      wp_Jxf58ca_floatToIntBits_5c35a σ55 (FP.fdiv (FP.i2f l6) 1103101952) (fun r58 σ57 =>
                                                                        ((r56 = r58 →
                                                                            wp_X9_account σ57 8 (fun r60 σ59 =>
                                                                              wp_X9_account σ59 9 (fun r62 σ61 =>
                                                                                (((r60 - r62) = l1 →
                                                                                    wp_X9_isWell σ61 (fun r64 σ63 =>
                                                                                      ((r64 = 1 →
                                                                                          Q 1 σ63) ∧
                                                                                        (¬ r64 = 1 →
                                                                                          Q 0 σ63)))) ∧
                                                                                  (¬ (r60 - r62) = l1 →
                                                                                    Q 0 σ61))))) ∧
                                                                          (¬ r56 = r58 →
                                                                            Q 0 σ57))))) ∧
                                                                  (¬ r54 = (-1) →
                                                                    Q 0 σ53)))) ∧
                                                            (¬ (v9 + l2) = 24 →
                                                              Q 0 σ51))) ∧
                                                        (¬ v8 = r52 →
                                                          Q 0 σ51)))) ∧
                                                  (¬ l4 = r50 →
                                                    Q 0 σ49)))) ∧
                                            (¬ l3 = r48 →
                                              Q 0 σ47)))) ∧
                                      (¬ l2 = r46 →
                                        Q 0 σ45)))) ∧
                                (¬ l5 = r44 →
                                  Q 0 σ43)))
theorem wlT_ok {w : WW} {n : Nat} {H : Nat → WW} {sb : Option WW} {T : List Int32} {σ : SS} (h : LA w n H sb T σ) {Q : Int32 → SS → Prop} (q : ∀ τ, LA w n H sb T τ → Q 1 τ) : wlT Q (nI (w.1 0)) (nI (pc (sn w.1 w.2))) (nI (pc (onc (NR w.1 w.2) (mns w.1 w.2) 9).2)) (nI (uns w.1 w.2)) (nI (pc (mns w.1 w.2))) (nI (msm w.1 w.2 9)) (nI (gct (sn w.1 w.2))) (nI (glm (sn w.1 w.2) 12)) (nI (fb_sm (gle (sn w.1 w.2)) (gct (sn w.1 w.2)))) σ := by
  unfold wlT
  refine d_acc h 1 (pc (mns w.1 w.2)) (by decide) rfl rfl fun τ1 h1 => br_t rfl ?_
  refine d_acc h1 2 (pc (sn w.1 w.2)) (by decide) rfl rfl fun τ2 h2 => br_t rfl ?_
  refine d_acc h2 3 (pc (onc (NR w.1 w.2) (mns w.1 w.2) 9).2) (by decide) rfl rfl fun τ3 h3 => br_t rfl ?_
  refine d_acc h3 6 (uns w.1 w.2) (by decide) rfl rfl fun τ4 h4 => br_t rfl ?_
  refine d_acc h4 5 (glm (sn w.1 w.2) 12) (by decide) rfl rfl fun τ5 h5 => br_t rfl ?_
  have e24 : nI (fb_sm (gle (sn w.1 w.2)) (gct (sn w.1 w.2))) + nI (pc (sn w.1 w.2)) = 24 := by
    have := gap_all (sn_lt w.1 w.2)
    rw [nI_add, gle_gct, show fb_sm (fun s => if gst (sn w.1 w.2) s then gln (sn w.1 w.2) s else 0) 24 + pc (sn w.1 w.2) = 24 by omega]
    rfl
  refine br_t e24 (d_gapNo h5 fun τ6 h6 => br_t rfl ?_)
  refine sp_mean h6.rc h6.ok fun τ7 k7 => ?_
  have hm := msm_le w.1 w.2 9
  refine rp_bitsOf (k := msm w.1 w.2 9) (by omega) ?_
  have h7 := h6.ak k7
  refine br_t rfl ?_
  refine d_acc h7 8 (w.1 2) (by decide) rfl rfl fun τ8 h8 => ?_
  refine d_acc h8 9 (w.1 3) (by decide) rfl rfl fun τ9 h9 => ?_
  have eb : nI (w.1 2) - nI (w.1 3) = nI (w.1 0) := by
    have hb : w.1 2 = w.1 0 + w.1 3 := h.1.1.2
    rw [pk_sub (by omega), hb, Nat.add_sub_cancel]
  refine br_t eb (sp_isWell h9.rc h9.ok fun τ10 k10 => ?_)
  rw [isWell_1]
  exact br_t rfl (q τ10 (h9.ak k10))
theorem wlE_ok {w : WW} {n : Nat} {H : Nat → WW} {sb : Option WW} {T : List Int32} {σ : SS} (h : LA w n H sb T σ) {Q : Int32 → SS → Prop} {rc : SS → Int32 → Int32 → Int32 → Int32 → Prop} {v10 v11 : Int32} (hv : v11 = nI (gct (sn w.1 w.2))) (q : ∀ τ, LA w n H sb T τ → Q 1 τ) : bd_L_isWell_353 Q (nI (w.1 0)) (nI (pc (sn w.1 w.2))) (nI (pc (onc (NR w.1 w.2) (mns w.1 w.2) 9).2)) (nI (uns w.1 w.2)) (nI (pc (mns w.1 w.2))) (nI (msm w.1 w.2 9)) (nI (gct (sn w.1 w.2))) rc σ (nI (glm (sn w.1 w.2) 12)) (nI (fb_sm (gle (sn w.1 w.2)) (gct (sn w.1 w.2)))) v10 v11 := by
  have h12 := gct_le (sn w.1 w.2)
  subst hv
  unfold bd_L_isWell_353
  refine br_t (by rw [nI_leI (by omega) (by omega)]; omega) ?_
  refine sp_fewest h.rc h.ok fun τ1 k1 => ?_
  have h1 := h.ak k1
  refine sp_fewestAgain h1.rc h1.ok fun τ2 k2 => ?_
  have h2 := h1.ak k2
  refine br_t rfl ?_
  have hu := uns_eq w.1 w.2
  have hu24 : uns w.1 w.2 ≤ 24 := Nat.sub_le _ _
  unfold a_fewest
  cases ef : few (NR w.1 w.2) (w.1 0) with
  | none =>
    obtain ⟨f1, f2⟩ := few_no h.ok ef
    refine br_t rfl (pk_eq (uns w.1 w.2) 0 (fun z => absurd z (by omega)) (fun _ => ?_))
    refine sp_watches h2.rc h2.ok fun τ3 k3 => ?_
    rw [f2]
    exact br_t rfl (wlT_ok (h2.ak k3) q)
  | some t =>
    obtain ⟨f1, f2, f3, ⟨c, f4, f5, f6⟩, f7⟩ := few_yes h.ok ef
    have hu0 : uns w.1 w.2 = 0 := by omega
    refine br_f (nI_n4 (by omega)) ?_
    have hlt : ¬ (0 : Int32) < nI (uns w.1 w.2) := by rw [hu0]; decide
    refine br_f hlt (sp_isFull h2.rc h2.ok _ fun τ3 k3 => ?_)
    have h3 := h2.ak k3
    show ((a_isFull w.1 w.2 (nI t) = 1 → _) ∧ _)
    refine br_t f3 (sp_watches h3.rc h3.ok fun τ4 k4 => ?_)
    have h4 := h3.ak k4
    rw [f4]
    refine pk_lt c 1 (fun z => absurd z (by omega)) (fun _ => ?_)
    refine d_acc h4 7 (w.1 1) (by decide) rfl rfl fun τ5 h5 => ?_
    refine sp_wouldNeed h5.rc h5.ok _ fun τ6 k6 => ?_
    have h6 := h5.ak k6
    rw [f7]
    show wp_J6_bitCount_0f7a4 τ6 (nI t) _
    exact sp_bc (by omega) (br_t rfl (wlT_ok h6 q))
theorem glm_st {S i : Nat} : (if nI (glm S i) < nI (gle S i) then nI (gle S i) else nI (glm S i)) = nI (glm S (i + 1)) := by
  have h1 := glm_le S i
  have h2 := gle_le S i
  rw [glm_s]
  by_cases c : glm S i < gle S i
  · rw [if_pos c, if_pos ((nI_ltI (by omega) (by omega)).mpr c)]
  · rw [if_neg c, if_neg fun z => c ((nI_ltI (by omega) (by omega)).mp z)]
theorem w353 {w : WW} {n : Nat} {H : Nat → WW} {sb : Option WW} {T : List Int32} {σ : SS} (h : LA w n H sb T σ) {Q : Int32 → SS → Prop} (q : ∀ τ, LA w n H sb T τ → Q 1 τ) : ∃ k, Liiii (bd_L_isWell_353 Q (nI (w.1 0)) (nI (pc (sn w.1 w.2))) (nI (pc (onc (NR w.1 w.2) (mns w.1 w.2) 9).2)) (nI (uns w.1 w.2)) (nI (pc (mns w.1 w.2))) (nI (msm w.1 w.2 9)) (nI (gct (sn w.1 w.2)))) k σ 0 0 (-1) 0 := by
  have h12 := gct_le (sn w.1 w.2)
  have hS := sn_lt w.1 w.2
  refine Liiii.up (N := gct (sn w.1 w.2)) 0 (fun i τ v8 v9 v10 v11 => v8 = nI (glm (sn w.1 w.2) i) ∧ v9 = nI (fb_sm (gle (sn w.1 w.2)) i) ∧ v11 = nI i ∧ (∀ s, s < 24 → i ≤ fb_ct (gst (sn w.1 w.2)) s → ¬ nI s ≤ v10) ∧ LA w n H sb T τ) (by omega) ⟨rfl, rfl, rfl, fun s hs _ => ?_, h⟩ ?_ ?_
  · rw [Int32.le_iff_toInt_le, nI_toInt (by omega), show (-1 : Int32).toInt = -1 from by decide]
    omega
  · rintro rc i τ v8 v9 v10 v11 _ hi ⟨rfl, rfl, rfl, hl, ht⟩ k
    obtain ⟨s, s1, s2, s3, s4⟩ := gat_some hi
    obtain ⟨g1, g2, g3⟩ := gap_in hS s1 s2
    have g24 := gln_le (sn w.1 w.2) s
    have eg : gle (sn w.1 w.2) i = gln (sn w.1 w.2) s := by unfold gle; rw [s4]
    unfold bd_L_isWell_353
    refine br_f (nI_gt hi (by omega)) ?_
    refine d_gap ht hi s4 (v := nI s) rfl fun τ1 h1 => ?_
    refine d_gap h1 hi s4 (v := nI (gln (sn w.1 w.2) s)) rfl fun τ2 h2 => ?_
    refine br_f (hl s s1 (by omega)) ?_
    refine pk_lt (gln (sn w.1 w.2) s) 1 (fun z => absurd z (by omega)) (fun _ => ?_)
    have nx : ∀ υ, LA w n H sb T υ → rc υ (if nI (glm (sn w.1 w.2) i) < nI (gln (sn w.1 w.2) s) then nI (gln (sn w.1 w.2) s) else nI (glm (sn w.1 w.2) i)) (nI (fb_sm (gle (sn w.1 w.2)) i) + nI (gln (sn w.1 w.2) s)) (nI s) (nI i + 1) := fun υ hu => by
      rw [← eg, glm_st, nI_add, nI_1]
      refine k _ _ _ _ _ ⟨rfl, rfl, rfl, fun s' h1 h2 => ?_, hu⟩
      have := gat_lt (S := sn w.1 w.2) (show i < fb_ct (gst (sn w.1 w.2)) s' by omega) s3 rfl
      exact nI_gt this (by omega)
    refine pk_le 24 (gln (sn w.1 w.2) s) (fun _ => w449 h2 s1 g24 g3 nx) (fun c => ?_)
    obtain ⟨g4, g5⟩ := g2 c
    have z1 : ∀ x, (sn w.1 w.2).testBit x = true → ¬ nI (wat w.1 w.2 x) = 0 := fun x hx => by
      have := sn_bit h.ok x
      rw [hx] at this
      have hp : 0 < wat w.1 w.2 x := of_decide_eq_true this.symm
      have hw : wat w.1 w.2 x ≤ 24 := pc_le _
      intro z
      have := congrArg Int32.toInt z
      rw [nI_toInt (by omega), show (0 : Int32).toInt = 0 from rfl] at this
      omega
    have a1 : (nI s + 23) - (nI s + 23) / 24 * 24 = nI ((s + 23) % 24) := by
      rw [show nI s + 23 = nI (s + 23) from nI_add s 23]
      exact i_rem24 (by omega)
    have a2 : (nI s + nI (gln (sn w.1 w.2) s)) - (nI s + nI (gln (sn w.1 w.2) s)) / 24 * 24 = nI ((s + gln (sn w.1 w.2) s) % 24) := by
      rw [nI_add]
      exact i_rem24 (by omega)
    rw [a1, a2]
    refine d_watched h2 (Nat.mod_lt _ (by decide)) fun τ3 h3 => br_f (z1 _ g4) ?_
    refine d_watched h3 (Nat.mod_lt _ (by decide)) fun τ4 h4 => br_f (z1 _ g5) ?_
    exact w449 h4 s1 g24 g3 nx
  · rintro rc τ v8 v9 v10 v11 ⟨rfl, rfl, rfl, _, ht⟩
    rw [← glm_12]
    exact wlE_ok ht rfl q
theorem w251 {w : WW} {n : Nat} {H : Nat → WW} {sb : Option WW} {T : List Int32} {σ : SS} (h : LA w n H sb T σ) {K : SS → Int32 → Prop} {Q : Int32 → SS → Prop} {l1 l2 l3 l4 l5 l6 : Int32} {p : Nat} (hp : p < w.1 0) (q : ∀ τ, LA w n H sb T τ → K τ (nI p + 1)) : ∃ k, Liii (bd_L_isWell_251 K Q l1 l2 l3 l4 l5 l6 (nI p)) k σ 0 0 0 := by
  have h9 := h.ok.1
  refine Liii.up (N := 24) 0 (fun i τ v8 v9 v10 => v8 = nI (fb_ct (fun s => (NR w.1 w.2 p).testBit s) i) ∧ v9 = nI (fb_ct (fun s => decide (srs (NR w.1 w.2) s 9 = 2 ^ p)) i) ∧ v10 = nI i ∧ LA w n H sb T τ) (by omega) ⟨rfl, rfl, rfl, h⟩ ?_ ?_
  · rintro rc i τ v8 v9 v10 _ hi ⟨rfl, rfl, rfl, ht⟩ k
    unfold bd_L_isWell_251
    refine br_f (c_nle 24 hi) (d_sees ht hp hi fun τ1 h1 => d_seenBy h1 hi fun τ2 h2 => ?_)
    rw [mI_shl1 (by omega), nI_1, nI_add]
    have hb : fb_ct (fun s => (NR w.1 w.2 p).testBit s) i + ((NR w.1 w.2 p).testBit i).toNat = fb_ct (fun s => (NR w.1 w.2 p).testBit s) (i + 1) := by
      rw [fb_ct_succ]
      cases (NR w.1 w.2 p).testBit i <;> rfl
    rw [hb]
    have hs9 := srs_lt (NR w.1 w.2) i 9
    have hp2 : 2 ^ p < 2 ^ 9 := Nat.pow_lt_pow_right (by omega) (by omega)
    refine pk_eq (srs (NR w.1 w.2) i 9) (2 ^ p) (fun c => ?_) (fun c => ?_)
    · rw [nI_1]
      exact k _ _ _ _ ⟨rfl, by rw [fb_ct_succ, if_pos (by simp [c])], rfl, h2⟩
    · rw [show (0 : Int32) = nI 0 from rfl, nI_add, nI_1]
      exact k _ _ _ _ ⟨rfl, by rw [fb_ct_succ, if_neg (by simp [c])], rfl, h2⟩
  · rintro rc τ v8 v9 v10 ⟨rfl, rfl, rfl, ht⟩
    unfold bd_L_isWell_251
    refine br_t (by decide) (d_p6 ht hp fun τ1 h1 => br_t rfl (d_p7 h1 hp fun τ2 h2 => ?_))
    rw [aln_eq h.ok hp]
    exact br_t rfl (q τ2 h2)
theorem w236 {w : WW} {n : Nat} {H : Nat → WW} {sb : Option WW} {T : List Int32} {σ : SS} (h : LA w n H sb T σ) {Q : Int32 → SS → Prop} (q : ∀ τ, LA w n H sb T τ → Q 1 τ) : ∃ k, Li (bd_L_isWell_236 Q (nI (w.1 0)) (nI (pc (sn w.1 w.2))) (nI (pc (onc (NR w.1 w.2) (mns w.1 w.2) 9).2)) (nI (uns w.1 w.2)) (nI (pc (mns w.1 w.2))) (nI (msm w.1 w.2 9))) k σ 0 := by
  have h9 := h.ok.1
  refine Li.up (N := w.1 0) 0 (fun i τ v => v = nI i ∧ LA w n H sb T τ) (by omega) ⟨rfl, h⟩ ?_ ?_
  · rintro rc i τ v _ hi ⟨rfl, ht⟩ k
    unfold bd_L_isWell_236
    refine br_f (nI_gt hi (by omega)) (w251 ht hi fun υ hu => ?_)
    rw [nI_1]
    exact k _ _ ⟨rfl, hu⟩
  · rintro rc τ v ⟨rfl, ht⟩
    unfold bd_L_isWell_236
    refine br_t (by rw [nI_leI (by omega) (by omega)]; omega) (d_acc ht 4 (gct (sn w.1 w.2)) (by decide) rfl rfl fun τ1 h1 => w353 h1 q)
def wc (P : Nat → Bool) (i : Nat) : Int32 := nI (fb_ct P i)
theorem w65 {w : WW} {n : Nat} {H : Nat → WW} {sb : Option WW} {T : List Int32} {σ : SS} (h : LA w n H sb T σ) {K : SS → Int32 → Int32 → Int32 → Int32 → Int32 → Prop} {Q : Int32 → SS → Prop} {l5 : Int32} {s : Nat} (hs : s < 24) (q : ∀ τ, LA w n H sb T τ → K τ (nI (fb_ct (fun s => decide (0 < wat w.1 w.2 s)) (s + 1))) (nI (fb_ct (fun s => decide (1 < wat w.1 w.2 s)) (s + 1))) (nI (fb_ct (fun s => decide (srs (NR w.1 w.2) s 9 = 0)) (s + 1))) (nI (fb_sm (wat w.1 w.2) (s + 1))) (nI s + 1)) : ∃ k, Liii (bd_L_isWell_65 K Q (nI (w.1 0)) (nI (fb_ct (fun s => decide (0 < wat w.1 w.2 s)) s)) (nI (fb_ct (fun s => decide (1 < wat w.1 w.2 s)) s)) (nI (fb_ct (fun s => decide (srs (NR w.1 w.2) s 9 = 0)) s)) l5 (nI (fb_sm (wat w.1 w.2) s)) (nI s)) k σ 0 0 0 := by
  have h9 := h.ok.1
  refine Liii.up (N := w.1 0) 0 (fun i τ v8 v9 v10 => v8 = nI (srs (NR w.1 w.2) s i) ∧ v9 = nI (wtn (NR w.1 w.2) (mns w.1 w.2) s i) ∧ v10 = nI i ∧ LA w n H sb T τ) (by omega) ⟨rfl, rfl, rfl, h⟩ ?_ ?_
  · rintro rc i τ v8 v9 v10 _ hi ⟨rfl, rfl, rfl, ht⟩ k
    have e1 := srs_s (NR w.1 w.2) s i
    have e2 : wtn (NR w.1 w.2) (mns w.1 w.2) s (i + 1) = wtn (NR w.1 w.2) (mns w.1 w.2) s i + (if ((mns w.1 w.2).testBit i && (NR w.1 w.2 i).testBit s) then 1 else 0) := rfl
    have f5 := (h.ok.2.2 i hi).2.2.2.2.2
    rw [mns_bit h.ok] at e2
    unfold bd_L_isWell_65
    refine br_f (nI_gt hi (by omega)) (d_should ht hi hs fun τ1 h1 => d_sees h1 hi hs fun τ2 h2 => ?_)
    cases c : (NR w.1 w.2 i).testBit s with
    | false =>
      rw [c] at e1 e2
      refine br_t rfl (br_t rfl (br_t rfl (br_t rfl ?_)))
      rw [show (0 : Int32) = nI 0 from rfl, mI_or, nI_add, nI_1]
      refine k _ _ _ _ ⟨by rw [e1]; rfl, ?_, rfl, h2⟩
      rw [e2, if_neg (by simp)]
    | true =>
      rw [c] at e1 e2
      refine br_f (by decide) (br_t rfl (br_f (by decide) (br_f (by decide) (d_pO h2 5 hi (by decide) (by decide) rfl fun τ3 h3 => ?_))))
      rw [mI_shl1 (by omega), mI_or, nI_1]
      refine pk_eq (w.2 i 5) 1 (fun d => ?_) (fun d => ?_)
      · rw [nI_1]
        refine k _ _ _ _ ⟨by rw [e1]; rfl, ?_, rfl, h3⟩
        rw [e2, if_pos (by simp [hi, d])]
      · rw [show (0 : Int32) = nI 0 from rfl, nI_add, nI_1]
        refine k _ _ _ _ ⟨by rw [e1]; rfl, ?_, rfl, h3⟩
        rw [e2, if_neg (by simp [d])]
  · rintro rc τ v8 v9 v10 ⟨rfl, rfl, rfl, ht⟩
    have ew : wtn (NR w.1 w.2) (mns w.1 w.2) s (w.1 0) = wat w.1 w.2 s := (wt_pc h9 (fun p hp => NR_0 hp)).symm
    have es : srs (NR w.1 w.2) s (w.1 0) = srs (NR w.1 w.2) s 9 := (srs_cut (fun p hp => NR_0 hp) h9).symm
    rw [ew, es]
    unfold bd_L_isWell_65
    refine br_t (by rw [nI_leI (by omega) (by omega)]; omega) (d_seenBy ht hs fun τ1 h1 => br_t rfl (d_watched h1 hs fun τ2 h2 => br_t rfl ?_))
    have q := q τ2 h2
    have hw : wat w.1 w.2 s ≤ 24 := pc_le _
    have hs9 := srs_lt (NR w.1 w.2) s 9
    rw [fb_ct_succ, fb_ct_succ, fb_ct_succ, fb_sm_succ] at q
    rw [nI_add (fb_sm (wat w.1 w.2) s) (wat w.1 w.2 s)]
    have z0 : ∀ x, nI x + 0 = nI x := fun x => by rw [show (0 : Int32) = nI 0 from rfl, nI_add]; rfl
    refine pk_le (wat w.1 w.2 s) 0 (fun c => ?_) (fun c => ?_)
    · rw [if_neg (show ¬ decide (0 < wat w.1 w.2 s) = true by simp; omega), if_neg (show ¬ decide (1 < wat w.1 w.2 s) = true by simp; omega)] at q
      refine pk_le (wat w.1 w.2 s) 1 (fun c1 => ?_) (fun c1 => absurd c1 (by omega))
      refine pk_eq (srs (NR w.1 w.2) s 9) 0 (fun d => ?_) (fun d => ?_)
      · rw [if_pos (by simp [d])] at q
        rw [z0, z0, nI_1]; exact q
      · rw [if_neg (by simp [d])] at q
        rw [z0, z0, z0]; exact q
    · rw [if_pos (show decide (0 < wat w.1 w.2 s) = true by simp; omega)] at q
      refine pk_le (wat w.1 w.2 s) 1 (fun c1 => ?_) (fun c1 => ?_)
      · rw [if_neg (show ¬ decide (1 < wat w.1 w.2 s) = true by simp; omega)] at q
        refine pk_eq (srs (NR w.1 w.2) s 9) 0 (fun d => ?_) (fun d => ?_)
        · rw [if_pos (by simp [d])] at q
          rw [z0, nI_1, nI_1]; exact q
        · rw [if_neg (by simp [d])] at q
          rw [z0, z0, nI_1]; exact q
      · rw [if_pos (show decide (1 < wat w.1 w.2 s) = true by simp; omega)] at q
        refine pk_eq (srs (NR w.1 w.2) s 9) 0 (fun d => ?_) (fun d => ?_)
        · rw [if_pos (by simp [d])] at q
          rw [nI_1, nI_1, nI_1]; exact q
        · rw [if_neg (by simp [d])] at q
          rw [z0, nI_1, nI_1]; exact q
theorem w49 {w : WW} {n : Nat} {H : Nat → WW} {sb : Option WW} {T : List Int32} {σ : SS} (h : LA w n H sb T σ) {Q : Int32 → SS → Prop} (q : ∀ τ, LA w n H sb T τ → Q 1 τ) : ∃ k, Liiiii (bd_L_isWell_49 Q (nI (w.1 0)) (nI (pc (mns w.1 w.2)))) k σ 0 0 0 0 0 := by
  refine Liiiii.up (N := 24) 0 (fun i τ v2 v3 v4 v6 v7 => v2 = nI (fb_ct (fun s => decide (0 < wat w.1 w.2 s)) i) ∧ v3 = nI (fb_ct (fun s => decide (1 < wat w.1 w.2 s)) i) ∧ v4 = nI (fb_ct (fun s => decide (srs (NR w.1 w.2) s 9 = 0)) i) ∧ v6 = nI (fb_sm (wat w.1 w.2) i) ∧ v7 = nI i ∧ LA w n H sb T τ) (by omega) ⟨rfl, rfl, rfl, rfl, rfl, h⟩ ?_ ?_
  · rintro rc i τ v2 v3 v4 v6 v7 _ hi ⟨rfl, rfl, rfl, rfl, rfl, ht⟩ k
    unfold bd_L_isWell_49
    refine br_f (c_nle 24 hi) (w65 ht hi fun υ hu => ?_)
    rw [nI_1]
    exact k _ _ _ _ _ _ ⟨rfl, rfl, rfl, rfl, rfl, hu⟩
  · rintro rc τ v2 v3 v4 v6 v7 ⟨rfl, rfl, rfl, rfl, rfl, ht⟩
    unfold bd_L_isWell_49
    rw [← wtc_eq h.ok, ← ovl_eq h.ok, ← uns_eq, msm_wat h.ok]
    exact br_t (by decide) (w236 ht q)
theorem d_isWell {w : WW} {n : Nat} {H : Nat → WW} {sb : Option WW} {T : List Int32} {σ : SS} (h : LA w n H sb T σ) : wp_L_isWell σ (fun r τ => r = 1 ∧ LA w n H sb T τ) := by
  have h9 := h.ok.1
  unfold wp_L_isWell
  refine d_acc h 0 (w.1 0) (by decide) rfl rfl fun τ0 h0 => ?_
  refine Lii.up (N := w.1 0) 0 (fun i τ v5 v7 => v5 = nI (fb_ct (fun k => decide (w.2 k 5 = 1)) i) ∧ v7 = nI i ∧ LA w n H sb T τ) (by omega) ⟨rfl, rfl, h0⟩ ?_ ?_
  · rintro rc i τ v5 v7 _ hi ⟨rfl, rfl, ht⟩ k
    have f5 := (h.ok.2.2 i hi).2.2.2.2.2
    unfold bd_L_isWell_22
    refine br_f (nI_gt hi (by omega)) (d_pO ht 5 hi (by decide) (by decide) rfl fun τ1 h1 => ?_)
    rw [nI_add, nI_1]
    refine k _ _ _ ⟨?_, rfl, h1⟩
    rw [fb_ct_succ]
    rcases (show w.2 i 5 = 0 ∨ w.2 i 5 = 1 by omega) with e | e <;> rw [e] <;> rfl
  · rintro rc τ v5 v7 ⟨rfl, rfl, ht⟩
    unfold bd_L_isWell_22
    rw [← man_eq h.ok]
    exact br_t (by rw [nI_leI (by omega) (by omega)]; omega) (w49 ht fun υ hu => ⟨rfl, hu⟩)
