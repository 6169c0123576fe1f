/-! what the law's two private questions tell -/
theorem Liiii.up {F : (SS → Int32 → Int32 → Int32 → Int32 → Prop) → SS → Int32 → Int32 → Int32 → Int32 → Prop} {N : Nat} (i0 : Nat) (P : Nat → SS → Int32 → Int32 → Int32 → Int32 → Prop) {σ : SS} {v0 : Int32} {v1 : Int32} {v2 : Int32} {v3 : Int32} (hi : i0 ≤ N) (h0 : P i0 σ v0 v1 v2 v3)
    (step : ∀ (rc : SS → Int32 → Int32 → Int32 → Int32 → Prop) (i : Nat) τ w0 w1 w2 w3, i0 ≤ i → i < N → P i τ w0 w1 w2 w3 → (∀ τ' x0 x1 x2 x3, P (i + 1) τ' x0 x1 x2 x3 → rc τ' x0 x1 x2 x3) → F rc τ w0 w1 w2 w3)
    (last : ∀ (rc : SS → Int32 → Int32 → Int32 → Int32 → Prop) τ w0 w1 w2 w3, P N τ w0 w1 w2 w3 → F rc τ w0 w1 w2 w3) : ∃ k, Liiii F k σ v0 v1 v2 v3 := by
  have key : ∀ (d i : Nat) τ w0 w1 w2 w3, i0 ≤ i → i + d = N → P i τ w0 w1 w2 w3 → Liiii F (d + 1) τ w0 w1 w2 w3 := by
    intro d
    induction d with
    | zero =>
      intro i τ w0 w1 w2 w3 h1 h2 hp
      have e : i = N := by omega
      subst e
      exact last _ τ w0 w1 w2 w3 hp
    | succ d ih =>
      intro i τ w0 w1 w2 w3 h1 h2 hp
      exact step _ i τ w0 w1 w2 w3 h1 (by omega) hp (fun τ' x0 x1 x2 x3 hq => ih (i + 1) τ' x0 x1 x2 x3 (by omega) (by omega) hq)
  exact ⟨_, key (N - i0) i0 σ v0 v1 v2 v3 (Nat.le_refl _) (by omega) h0⟩
theorem Liiiii.up {F : (SS → Int32 → Int32 → Int32 → Int32 → Int32 → Prop) → SS → Int32 → Int32 → Int32 → Int32 → Int32 → Prop} {N : Nat} (i0 : Nat) (P : Nat → SS → Int32 → Int32 → Int32 → Int32 → Int32 → Prop) {σ : SS} {v0 : Int32} {v1 : Int32} {v2 : Int32} {v3 : Int32} {v4 : Int32} (hi : i0 ≤ N) (h0 : P i0 σ v0 v1 v2 v3 v4)
    (step : ∀ (rc : SS → Int32 → Int32 → Int32 → Int32 → Int32 → Prop) (i : Nat) τ w0 w1 w2 w3 w4, i0 ≤ i → i < N → P i τ w0 w1 w2 w3 w4 → (∀ τ' x0 x1 x2 x3 x4, P (i + 1) τ' x0 x1 x2 x3 x4 → rc τ' x0 x1 x2 x3 x4) → F rc τ w0 w1 w2 w3 w4)
    (last : ∀ (rc : SS → Int32 → Int32 → Int32 → Int32 → Int32 → Prop) τ w0 w1 w2 w3 w4, P N τ w0 w1 w2 w3 w4 → F rc τ w0 w1 w2 w3 w4) : ∃ k, Liiiii F k σ v0 v1 v2 v3 v4 := by
  have key : ∀ (d i : Nat) τ w0 w1 w2 w3 w4, i0 ≤ i → i + d = N → P i τ w0 w1 w2 w3 w4 → Liiiii F (d + 1) τ w0 w1 w2 w3 w4 := by
    intro d
    induction d with
    | zero =>
      intro i τ w0 w1 w2 w3 w4 h1 h2 hp
      have e : i = N := by omega
      subst e
      exact last _ τ w0 w1 w2 w3 w4 hp
    | succ d ih =>
      intro i τ w0 w1 w2 w3 w4 h1 h2 hp
      exact step _ i τ w0 w1 w2 w3 w4 h1 (by omega) hp (fun τ' x0 x1 x2 x3 x4 hq => ih (i + 1) τ' x0 x1 x2 x3 x4 (by omega) (by omega) hq)
  exact ⟨_, key (N - i0) i0 σ v0 v1 v2 v3 v4 (Nat.le_refl _) (by omega) h0⟩
theorem i_rem24 {n : Nat} (hn : n < 2 ^ 31) : nI n - nI n / 24 * 24 = nI (n % 24) := pk_rem hn (d := 24) (by decide) (by decide)
theorem i_r24 {a b : Nat} (ha : a < 2 ^ 30) (hb : b ≤ 24) : ((nI a - nI b) + 24) - ((nI a - nI b) + 24) / 24 * 24 = nI ((a + 24 - b) % 24) := by
  have e : (nI a - nI b) + 24 = nI (a + 24 - b) := by
    rw [Int32.sub_eq_add_neg, Int32.add_assoc, Int32.add_comm (-nI b), ← Int32.add_assoc, ← Int32.sub_eq_add_neg, show nI a + 24 = nI (a + 24) from nI_add a 24]
    exact pk_sub (by omega)
  rw [e, i_rem24 (by omega)]
theorem i_leSub {x b l : Nat} (hx : x < 2 ^ 30) (hb : b < 2 ^ 30) (hl : l < 2 ^ 30) : nI x ≤ nI b - nI l ↔ x + l ≤ b := by
  rw [Int32.le_iff_toInt_le, nI_toInt (by omega), pk_sub_toInt hb hl]; omega
theorem i_ltSub {x b l : Nat} (hx : x < 2 ^ 30) (hb : b < 2 ^ 30) (hl : l < 2 ^ 30) : nI b - nI l < nI x ↔ b < x + l := by
  rw [Int32.lt_iff_toInt_lt, nI_toInt (by omega), pk_sub_toInt hb hl]; omega
theorem d_pJ {w : WW} {n : Nat} {H : Nat → WW} {sb : Option WW} {T : List Int32} {σ : SS} (h : LA w n H sb T σ) {p j : Nat} (hp : p < w.1 0) (hj : j < 6) {Q : Int32 → SS → Prop} (q : ∀ τ, LA w n H sb T τ → Q (wv w.1 w.2 j p) τ) : wp_X9_postOf σ (nI p) (nI j) Q := by
  have h9 := h.ok.1
  refine sp_postOf h.rc h.ok _ _ fun τ k => ?_
  have e : a_postOf w.1 w.2 (nI p) (nI j) = wv w.1 w.2 j p := by
    unfold a_postOf
    rw [ox_in hp (by omega)]
    show (match ox (nI j) 9 with | none => (-2 : Int32) | some j => if j = 6 then nI (pc (NR w.1 w.2 p)) else if j = 7 then nI (aln (NR w.1 w.2) p) else if j = 8 then nI ((tst (NR w.1 w.2) (2 ^ w.1 0)).2.2.2.testBit p).toNat else wv w.1 w.2 j p) = _
    rw [ox_in (show j < 9 by omega) (by decide)]
    have h6 : j ≠ 6 := by omega
    have h7 : j ≠ 7 := by omega
    have h8 : j ≠ 8 := by omega
    simp only [if_neg h6, if_neg h7, if_neg h8]
  rw [e]
  exact q τ (h.ak k)
theorem d_pO {w : WW} {n : Nat} {H : Nat → WW} {sb : Option WW} {T : List Int32} {σ : SS} (h : LA w n H sb T σ) {p : Nat} (j : Nat) (hp : p < w.1 0) (hj : j < 6) (h3 : j ≠ 3) {x : Int32} (hx : x = nI j) {Q : Int32 → SS → Prop} (q : ∀ τ, LA w n H sb T τ → Q (nI (w.2 p j)) τ) : wp_X9_postOf σ (nI p) x Q := by
  subst hx
  exact d_pJ h hp hj fun τ h1 => by rw [wv_in hp h3]; exact q τ h1
theorem d_p3 {w : WW} {n : Nat} {H : Nat → WW} {sb : Option WW} {T : List Int32} {σ : SS} (h : LA w n H sb T σ) {p : Nat} (hp : p < w.1 0) {Q : Int32 → SS → Prop} (q : ∀ τ, LA w n H sb T τ → Q (if w.2 p 4 = 0 then -4 else nI (w.2 p 3)) τ) : wp_X9_postOf σ (nI p) 3 Q := d_pJ h (j := 3) hp (by decide) fun τ h1 => by rw [wv3 hp]; exact q τ h1
theorem d_p6 {w : WW} {n : Nat} {H : Nat → WW} {sb : Option WW} {T : List Int32} {σ : SS} (h : LA w n H sb T σ) {p : Nat} (hp : p < w.1 0) {Q : Int32 → SS → Prop} (q : ∀ τ, LA w n H sb T τ → Q (nI (pc (NR w.1 w.2 p))) τ) : wp_X9_postOf σ (nI p) 6 Q := by
  have h9 := h.ok.1
  refine sp_postOf h.rc h.ok _ _ fun τ k => ?_
  have e : a_postOf w.1 w.2 (nI p) 6 = nI (pc (NR w.1 w.2 p)) := by
    unfold a_postOf
    rw [ox_in hp (by omega)]
    rfl
  rw [e]
  exact q τ (h.ak k)
theorem d_p7 {w : WW} {n : Nat} {H : Nat → WW} {sb : Option WW} {T : List Int32} {σ : SS} (h : LA w n H sb T σ) {p : Nat} (hp : p < w.1 0) {Q : Int32 → SS → Prop} (q : ∀ τ, LA w n H sb T τ → Q (nI (aln (NR w.1 w.2) p)) τ) : wp_X9_postOf σ (nI p) 7 Q := by
  have h9 := h.ok.1
  refine sp_postOf h.rc h.ok _ _ fun τ k => ?_
  have e : a_postOf w.1 w.2 (nI p) 7 = nI (aln (NR w.1 w.2) p) := by
    unfold a_postOf
    rw [ox_in hp (by omega)]
    rfl
  rw [e]
  exact q τ (h.ak k)
theorem d_acc {w : WW} {n : Nat} {H : Nat → WW} {sb : Option WW} {T : List Int32} {σ : SS} (h : LA w n H sb T σ) (i v : Nat) (hi : i < 11) (hv : (if i < 7 then a_sight w.1 w.2 i else w.1 (i - 6)) = v) {x : Int32} (hx : x = nI i) {Q : Int32 → SS → Prop} (q : ∀ τ, LA w n H sb T τ → Q (nI v) τ) : wp_X9_account σ x Q := by
  subst hx
  refine sp_account h.rc h.ok _ fun τ k => ?_
  have e : a_account w.1 w.2 (σ 90 2) (σ 22 2) (nI i) = nI v := by
    unfold a_account
    rw [ox_in (show i < 13 by omega) (by decide)]
    have h1 : i ≠ 11 := by omega
    have h2 : i ≠ 12 := by omega
    simp only [if_neg h1, if_neg h2]
    rw [← hv]
    split <;> rfl
  rw [e]
  exact q τ (h.ak k)
theorem d_watched {w : WW} {n : Nat} {H : Nat → WW} {sb : Option WW} {T : List Int32} {σ : SS} (h : LA w n H sb T σ) {s : Nat} (hs : s < 24) {Q : Int32 → SS → Prop} (q : ∀ τ, LA w n H sb T τ → Q (nI (wat w.1 w.2 s)) τ) : wp_X9_watched σ (nI s) Q := by
  refine sp_watched h.rc h.ok _ fun τ k => ?_
  unfold a_watched
  rw [ox_in hs (by decide)]
  exact q τ (h.ak k)
theorem d_seenBy {w : WW} {n : Nat} {H : Nat → WW} {sb : Option WW} {T : List Int32} {σ : SS} (h : LA w n H sb T σ) {s : Nat} (hs : s < 24) {Q : Int32 → SS → Prop} (q : ∀ τ, LA w n H sb T τ → Q (nI (srs (NR w.1 w.2) s 9)) τ) : wp_X9_seenBy σ (nI s) Q := by
  refine sp_seenBy h.rc h.ok _ fun τ k => ?_
  unfold a_seenBy
  rw [ox_in hs (by decide)]
  exact q τ (h.ak k)
theorem d_sees {w : WW} {n : Nat} {H : Nat → WW} {sb : Option WW} {T : List Int32} {σ : SS} (h : LA w n H sb T σ) {p s : Nat} (hp : p < w.1 0) (hs : s < 24) {Q : Int32 → SS → Prop} (q : ∀ τ, LA w n H sb T τ → Q (nI ((NR w.1 w.2 p).testBit s).toNat) τ) : wp_X9_sees σ (nI p) (nI s) Q := by
  have h9 := h.ok.1
  refine sp_sees h.rc h.ok _ _ fun τ k => ?_
  have e : a_sees w.1 w.2 (nI p) (nI s) = nI ((NR w.1 w.2 p).testBit s).toNat := by
    unfold a_sees
    rw [ox_in hp (by omega)]
    show (match ox (nI s) 24 with | none => (-1 : Int32) | some s => nI ((NR w.1 w.2 p).testBit s).toNat) = _
    rw [ox_in hs (by decide)]
  rw [e]
  exact q τ (h.ak k)
theorem d_gap {w : WW} {n : Nat} {H : Nat → WW} {sb : Option WW} {T : List Int32} {σ : SS} (h : LA w n H sb T σ) {i s : Nat} (hi : i < gct (sn w.1 w.2)) (hs : gat (sn w.1 w.2) i = some s) {Q : Int32 → SS → Prop} {y v : Int32} (hv : (if y = 0 then nI s else if y = 1 then nI (gln (sn w.1 w.2) s) else if y = 2 then oN (bst (NR w.1 w.2) 511 (str s (gln (sn w.1 w.2) s)) 9).1 else -2) = v) (q : ∀ τ, LA w n H sb T τ → Q v τ) : wp_X9_gapOf σ (nI i) y Q := by
  have h12 := gct_le (sn w.1 w.2)
  refine sp_gapOf h.rc h.ok _ _ fun τ k => ?_
  have e : a_gapOf w.1 w.2 (nI i) y = v := by
    unfold a_gapOf
    rw [ox_in hi (by omega)]
    show (match gat (sn w.1 w.2) i with | none => (-1 : Int32) | some s => if y = 0 then nI s else if y = 1 then nI (gln (sn w.1 w.2) s) else if y = 2 then oN (bst (NR w.1 w.2) 511 (str s (gln (sn w.1 w.2) s)) 9).1 else -2) = v
    rw [hs]
    exact hv
  rw [e]
  exact q τ (h.ak k)
theorem d_gapNo {w : WW} {n : Nat} {H : Nat → WW} {sb : Option WW} {T : List Int32} {σ : SS} (h : LA w n H sb T σ) {Q : Int32 → SS → Prop} {y : Int32} (q : ∀ τ, LA w n H sb T τ → Q (-1) τ) : wp_X9_gapOf σ (nI (gct (sn w.1 w.2))) y Q := by
  have h12 := gct_le (sn w.1 w.2)
  refine sp_gapOf h.rc h.ok _ _ fun τ k => ?_
  have e : a_gapOf w.1 w.2 (nI (gct (sn w.1 w.2))) y = -1 := by
    unfold a_gapOf
    rcases ox_c (nI (gct (sn w.1 w.2))) (n := gct (sn w.1 w.2)) (by omega) with ⟨_, e, _⟩ | ⟨_, _, e, _⟩ | ⟨p, hp, e2, _⟩
    · rw [e]
    · rw [e]
    · have := congrArg Int32.toInt e2
      rw [nI_toInt (by omega), nI_toInt (by omega)] at this
      omega
  rw [e]
  exact q τ (h.ak k)
/-! should -/
def shB (p s : Nat) (Q : Int32 → SS → Prop) (σ : SS) : Prop := wp_X9_postOf σ (nI p) 3 (fun r12 σ11 => ((r12 < 0 → Q 1 σ11) ∧ (¬ r12 < 0 → wp_X9_postOf σ11 (nI p) 4 (fun r14 σ13 => (((((nI s - r12) + 24) - ((nI s - r12) + 24) / 24 * 24) < r14 → Q 0 σ13) ∧ (¬ (((nI s - r12) + 24) - ((nI s - r12) + 24) / 24 * 24) < r14 → Q 1 σ13))))))
theorem shB_ok {w : WW} {n : Nat} {H : Nat → WW} {sb : Option WW} {T : List Int32} {σ : SS} (h : LA w n H sb T σ) {p s : Nat} (hp : p < w.1 0) (hs : s < 24) {Q : Int32 → SS → Prop} (hb : (NR w.1 w.2 p).testBit s = (decide (w.2 p 4 = 0) || !decide ((s + 24 - w.2 p 3) % 24 < w.2 p 4))) (q : ∀ τ, LA w n H sb T τ → Q (nI ((NR w.1 w.2 p).testBit s).toNat) τ) : shB p s Q σ := by
  obtain ⟨o0, o1, o2, o4, o3, _⟩ := h.ok.2.2 p hp
  unfold shB
  refine d_p3 h hp fun τ h1 => ?_
  by_cases c : w.2 p 4 = 0
  · rw [if_pos c]
    have e : (NR w.1 w.2 p).testBit s = true := by rw [hb]; simp [c]
    have q := q τ h1
    rw [e] at q
    exact br_t (by decide) q
  · rw [if_neg c]
    have o3 := o3 c
    refine br_f (nI_n0 (by omega)) (d_pO h1 4 hp (by decide) (by decide) rfl fun τ2 h2 => ?_)
    rw [i_r24 (by omega) (by omega)]
    have q := q τ2 h2
    refine pk_lt ((s + 24 - w.2 p 3) % 24) (w.2 p 4) (fun d => ?_) (fun d => ?_)
    · have e : (NR w.1 w.2 p).testBit s = false := by rw [hb]; simp [c, d]
      rw [e] at q
      exact q
    · have e : (NR w.1 w.2 p).testBit s = true := by rw [hb]; simp [c, Nat.not_lt.mpr d]
      rw [e] at q
      exact q
def shT (less : Int32) (p s : Nat) (Q : Int32 → SS → Prop) (σ : SS) : Prop :=
        wp_X9_postOf σ (nI p) 0 (fun r4 σ3 =>
          ∀ x5 : Int32, x5 = (((nI s) - r4) + 24) - (((nI s) - r4) + 24) / 24 * 24 →
          wp_X9_postOf σ3 (nI p) 0 (fun r7 σ6 =>
            ∀ x8 : Int32, x8 = ((r7 - (nI s)) + 24) - ((r7 - (nI s)) + 24) / 24 * 24 →
            wp_X9_postOf σ6 (nI p) 0 (fun r10 σ9 =>
              (((nI s) = r10 →
                  wp_X9_postOf σ9 (nI p) 3 (fun r12 σ11 =>
                    ((r12 < 0 →
                        Q 1 σ11) ∧
                      (¬ r12 < 0 →
                        wp_X9_postOf σ11 (nI p) 4 (fun r14 σ13 =>
                          ((((((nI s) - r12) + 24) - (((nI s) - r12) + 24) / 24 * 24) < r14 →
                              Q 0 σ13) ∧
                            (¬ ((((nI s) - r12) + 24) - (((nI s) - r12) + 24) / 24 * 24) < r14 →
                              Q 1 σ13))))))) ∧
                (¬ (nI s) = r10 →
                  wp_X9_postOf σ9 (nI p) 2 (fun r16 σ15 =>
                    ((x5 ≤ (r16 - less) →
                        wp_X9_postOf σ15 (nI p) 3 (fun r18 σ17 =>
                          ((r18 < 0 →
                              Q 1 σ17) ∧
                            (¬ r18 < 0 →
                              wp_X9_postOf σ17 (nI p) 4 (fun r20 σ19 =>
                                ((((((nI s) - r18) + 24) - (((nI s) - r18) + 24) / 24 * 24) < r20 →
                                    Q 0 σ19) ∧
                                  (¬ ((((nI s) - r18) + 24) - (((nI s) - r18) + 24) / 24 * 24) < r20 →
                                    Q 1 σ19))))))) ∧
                      (¬ x5 ≤ (r16 - less) →
                        wp_X9_postOf σ15 (nI p) 1 (fun r22 σ21 =>
                          (((r22 - less) < x8 →
                              wp_X9_postOf σ21 (nI p) 3 (fun r24 σ23 =>
                                Q 0 σ23)) ∧
                            (¬ (r22 - less) < x8 →
                              wp_X9_postOf σ21 (nI p) 3 (fun r26 σ25 =>
                                ((r26 < 0 →
                                    Q 1 σ25) ∧
                                  (¬ r26 < 0 →
                                    wp_X9_postOf σ25 (nI p) 4 (fun r28 σ27 =>
                                      ((((((nI s) - r26) + 24) - (((nI s) - r26) + 24) / 24 * 24) < r28 →
                                          Q 0 σ27) ∧
                                        (¬ ((((nI s) - r26) + 24) - (((nI s) - r26) + 24) / 24 * 24) < r28 →
                                          Q 1 σ27)))))))))))))))))
theorem shT_ok {w : WW} {n : Nat} {H : Nat → WW} {sb : Option WW} {T : List Int32} {σ : SS} (h : LA w n H sb T σ) {less : Int32} (hl : less = nI (ls (w.1 1))) {p s : Nat} (hp : p < w.1 0) (hs : s < 24) {Q : Int32 → SS → Prop} (q : ∀ τ, LA w n H sb T τ → Q (nI ((NR w.1 w.2 p).testBit s).toNat) τ) : shT less p s Q σ := by
  obtain ⟨o0, o1, o2, o4, o3, _⟩ := h.ok.2.2 p hp
  have hb := sgt_bit h.ok hp hs
  have l3 := ls_le (w.1 1)
  unfold shT
  refine d_pO h 0 hp (by decide) (by decide) rfl fun τ1 h1 => ?_
  intro x5 e5
  refine d_pO h1 0 hp (by decide) (by decide) rfl fun τ2 h2 => ?_
  intro x8 e8
  refine d_pO h2 0 hp (by decide) (by decide) rfl fun τ3 h3 => ?_
  rw [i_r24 (by omega) (by omega)] at e5 e8
  subst e5 e8 hl
  refine pk_eq s (w.2 p 0) (fun c => ?_) (fun c => ?_)
  · exact shB_ok h3 hp hs (by rw [hb]; simp [c]) q
  · refine d_pO h3 2 hp (by decide) (by decide) rfl fun τ4 h4 => ?_
    by_cases c2 : (s + 24 - w.2 p 0) % 24 ≤ w.2 p 2 - ls (w.1 1)
    · exact br_t ((i_leSub (by omega) (by omega) (by omega)).mpr (by omega)) (shB_ok h4 hp hs (by rw [hb]; simp [c2]) q)
    · refine br_f (fun z => ?_) (d_pO h4 1 hp (by decide) (by decide) rfl fun τ5 h5 => ?_)
      · rw [i_leSub (by omega) (by omega) (by omega)] at z
        omega
      · by_cases c3 : (w.2 p 0 + 24 - s) % 24 ≤ w.2 p 1 - ls (w.1 1)
        · refine br_f (fun z => ?_) (shB_ok h5 hp hs (by rw [hb]; simp [c3]) q)
          rw [i_ltSub (by omega) (by omega) (by omega)] at z
          omega
        · refine br_t ((i_ltSub (by omega) (by omega) (by omega)).mpr (by omega)) (d_p3 h5 hp fun τ6 h6 => ?_)
          have e : (NR w.1 w.2 p).testBit s = false := by rw [hb]; simp [c, c2, c3]
          have q := q τ6 h6
          rw [e] at q
          exact q
theorem ls_less : ∀ k, k < 12 → 6 ≤ k → (nI k - 4) / 2 = nI (ls k) := by decide
theorem d_should {w : WW} {n : Nat} {H : Nat → WW} {sb : Option WW} {T : List Int32} {σ : SS} (h : LA w n H sb T σ) {p s : Nat} (hp : p < w.1 0) (hs : s < 24) {Q : Int32 → SS → Prop} (q : ∀ τ, LA w n H sb T τ → Q (nI ((NR w.1 w.2 p).testBit s).toNat) τ) : wp_L_should σ (nI p) (nI s) Q := by
  have h12 := h.ok.2.1
  unfold wp_L_should
  refine d_acc h 7 (w.1 1) (by decide) rfl rfl fun τ h1 => ?_
  refine pk_le 6 (w.1 1) (fun c => ?_) (fun c => ?_)
  · exact shT_ok h1 (ls_less _ h12 c) hp hs q
  · exact shT_ok h1 (less := 0) (by unfold ls; rw [if_pos c]; rfl) hp hs q
