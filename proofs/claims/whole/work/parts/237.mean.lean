/-! the mean: both sides -/
def mnv (k : Nat) : UInt32 := FP.fdiv (FP.i2f (nI k)) 1103101952
def n32 (r : UInt32) : Bool := decide (r &&& 0x7fffffff ≤ 0x7f800000)
theorem n32_ok {r : UInt32} (h : n32 r = true) : vf_n32 r := by
  unfold vf_n32
  exact of_decide_eq_true h
def lpb : Nat → UInt32 → Int32 → Option Int32
  | 0, _, _ => none
  | F + 1, v, p => if 0 ≤ (Op.cmpValue (FP.fcmp v FP.fconst1) .g) then (if n32 (FP.fsub v FP.fconst1) && n32 (FP.fmul (FP.fsub v FP.fconst1) 1258291200) then some ((p <<< (23 &&& 31)) ||| (FP.f2i (FP.fmul (FP.fsub v FP.fconst1) 1258291200))) else none) else (if n32 (FP.fmul v FP.fconst2) then lpb F (FP.fmul v FP.fconst2) (p + (-1)) else none)
def lpa : Nat → UInt32 → Int32 → Option Int32
  | 0, _, _ => none
  | F + 1, v, p => if (Op.cmpValue (FP.fcmp v FP.fconst2) .l) < 0 then lpb 10 v p else (if n32 (FP.fdiv v FP.fconst2) then lpa F (FP.fdiv v FP.fconst2) (p + 1) else none)
theorem lpb_ok {Q : Int32 → SS → Prop} {l0 : UInt32} {σ : SS} {r : Int32} (q : Q r σ) : ∀ F i v p, i + F ≤ 100 → lpb F v p = some r → Lfii (bd_X9_bitsOf_42 Q l0) F σ v p (nI i)
  | 0, _, _, _, _, h => by cases h
  | F + 1, i, v, p, hi, h => by
    show bd_X9_bitsOf_42 Q l0 (Lfii (bd_X9_bitsOf_42 Q l0) F) σ v p (nI i)
    unfold bd_X9_bitsOf_42
    unfold lpb at h
    refine br_f (c_nle 126 (by omega)) ?_
    by_cases c : 0 ≤ (Op.cmpValue (FP.fcmp v FP.fconst1) .g)
    · rw [if_pos c] at h
      split at h
      · next d =>
        have d := Bool.and_eq_true_iff.mp d
        cases h
        exact br_t c ⟨n32_ok d.1, n32_ok d.2, q⟩
      · cases h
    · rw [if_neg c] at h
      split at h
      · next d =>
        rw [nI_1]
        exact br_f c ⟨n32_ok d, lpb_ok (l0 := l0) q F (i + 1) _ _ (by omega) h⟩
      · cases h
theorem lpa_ok {Q : Int32 → SS → Prop} {l0 : UInt32} {σ : SS} {r : Int32} (q : Q r σ) : ∀ F i v p, i + F ≤ 100 → lpa F v p = some r → Lfii (bd_X9_bitsOf_15 Q l0) F σ v p (nI i)
  | 0, _, _, _, _, h => by cases h
  | F + 1, i, v, p, hi, h => by
    show bd_X9_bitsOf_15 Q l0 (Lfii (bd_X9_bitsOf_15 Q l0) F) σ v p (nI i)
    unfold bd_X9_bitsOf_15
    unfold lpa at h
    refine br_f (c_nle 127 (by omega)) ?_
    by_cases c : (Op.cmpValue (FP.fcmp v FP.fconst2) .l) < 0
    · rw [if_pos c] at h
      exact br_t c ⟨10, lpb_ok (l0 := l0) q 10 0 _ _ (by omega) h⟩
    · rw [if_neg c] at h
      split at h
      · next d =>
        rw [nI_1]
        exact br_f c ⟨n32_ok d, lpa_ok (l0 := l0) q F (i + 1) _ _ (by omega) h⟩
      · cases h
def mchk (k : Nat) : Bool := n32 (mnv k) && (decide (Op.cmpValue (FP.fcmp (mnv k) (mnv k)) .l = 0) && (if 0 < (Op.cmpValue (FP.fcmp (mnv k) FP.fconst0) .l) then decide (lpa 10 (mnv k) 127 = some (mnv k).toInt32) else decide ((mnv k).toInt32 = 0)))
theorem mchk_ok : ∀ k, k < 217 → mchk k = true := by decide +kernel
theorem sp_bitsOf {σ : SS} {k : Nat} (hk : k < 217) {Q : Int32 → SS → Prop} (q : Q (mnv k).toInt32 σ) : vf_n32 (mnv k) ∧ wp_X9_bitsOf σ (mnv k) Q := by
  have h := mchk_ok k hk
  unfold mchk at h
  have h := Bool.and_eq_true_iff.mp h
  refine ⟨n32_ok h.1, ?_⟩
  have h := (Bool.and_eq_true_iff.mp h.2).2
  unfold wp_X9_bitsOf
  by_cases c : 0 < (Op.cmpValue (FP.fcmp (mnv k) FP.fconst0) .l)
  · rw [if_pos c] at h
    exact br_t c ⟨10, lpa_ok q 10 0 _ _ (by omega) (of_decide_eq_true h)⟩
  · rw [if_neg c] at h
    rw [of_decide_eq_true h] at q
    exact br_f c q
theorem rp_bitsOf {σ : SS} {k : Nat} (hk : k < 217) {Q : Int32 → SS → Prop} (q : Q (mnv k).toInt32 σ) : vf_n32 (mnv k) ∧ wp_Jxf58ca_floatToIntBits_5c35a σ (mnv k) Q := by
  have h := mchk_ok k hk
  unfold mchk at h
  have h := Bool.and_eq_true_iff.mp h
  refine ⟨n32_ok h.1, ?_⟩
  have h := (Bool.and_eq_true_iff.mp h.2).1
  unfold wp_Jxf58ca_floatToIntBits_5c35a wp_Jxf58ca_isNaN_12338
  exact br_t (of_decide_eq_true h) (br_t rfl q)
/-! the same sum, by posts and by stones -/
def msm (g : Nat → Nat) (f : Nat → Nat → Nat) (n : Nat) : Nat := fb_sm (fun p => if (mns g f).testBit p then pc (NR g f p) else 0) n
theorem msm_le (g : Nat → Nat) (f : Nat → Nat → Nat) (n : Nat) : msm g f n ≤ n * 24 := fb_sm_bound fun p _ => by
  split
  · exact pc_le _
  · omega
theorem fb_sm_ct (p : Nat → Bool) : ∀ n, fb_sm (fun k => if p k then 1 else 0) n = fb_ct p n
  | 0 => rfl
  | n + 1 => by rw [fb_sm_succ, fb_ct_succ, fb_sm_ct p n]
theorem sum_two (ρ : Nat → Nat) (M m : Nat) : ∀ n, fb_sm (fun s => wtn ρ M s n) m = fb_sm (fun p => if M.testBit p then fb_ct (fun s => (ρ p).testBit s) m else 0) n
  | 0 => (fb_sm_cong (g := fun _ => 0) (fun k _ => rfl)).trans ((fb_sm_const 0 m).trans (Nat.mul_zero m))
  | n + 1 => by
    have e1 : fb_sm (fun s => wtn ρ M s (n + 1)) m = fb_sm (fun s => wtn ρ M s n + (if M.testBit n && (ρ n).testBit s then 1 else 0)) m := fb_sm_cong (fun s _ => by unfold wtn; rw [fb_ct_succ])
    rw [e1, fb_sm_add, sum_two ρ M m n, fb_sm_succ]
    congr 1
    rw [fb_sm_ct]
    cases hb : M.testBit n with
    | true =>
      rw [if_pos rfl]
      exact fb_ct_cong fun s _ => by rw [Bool.true_and]
    | false =>
      rw [if_neg (by decide)]
      exact fb_ct_zero.mpr fun s _ => by rw [Bool.false_and]
theorem msm_wat {g : Nat → Nat} {f : Nat → Nat → Nat} (ho : OkW g f) : fb_sm (wat g f) 24 = msm g f 9 := by
  have h9 := ho.1
  refine Eq.trans ?_ (sum_two (NR g f) (mns g f) 24 9)
  exact fb_sm_cong fun s _ => wt_pc (by decide) (fun p hp => NR_0 (by omega))
def a_mean (g : Nat → Nat) (f : Nat → Nat → Nat) : Int32 := (mnv (msm g f 9)).toInt32
theorem sp_mean {g : Nat → Nat} {f : Nat → Nat → Nat} {σ : SS} (h : RC 1 g f σ) (ho : OkW g f) {Q : Int32 → SS → Prop} (q : ∀ τ, SB AK σ τ → Q (a_mean g f) τ) : wp_X9_mean σ Q := by
  unfold wp_X9_mean
  refine sp_look h ho fun τ ks hs => ?_
  refine Lii.up (N := 9) 0 (fun i υ v w => υ = τ ∧ v = nI (msm g f i) ∧ w = nI i) (by omega) ⟨rfl, rfl, rfl⟩ ?_ ?_
  · rintro rc i υ v w _ hi ⟨rfl, rfl, rfl⟩ k
    unfold bd_X9_mean_22
    refine br_f (c_nle 9 hi) ?_
    rw [hs.2.1, nI_1]
    have es : msm g f (i + 1) = msm g f i + (if (mns g f).testBit i then pc (NR g f i) else 0) := rfl
    refine sp_isIn (mns_32 ho) (by omega) (fun hb => br_f (by decide) (sp_manySeen hs (NR_lt g f) hi ?_)) (fun hb => br_t rfl (k _ _ _ ⟨rfl, ?_, rfl⟩))
    · rw [nI_add]
      refine k _ _ _ ⟨rfl, ?_, rfl⟩
      rw [es, if_pos hb]
    · rw [es, if_neg (by rw [hb]; decide)]; rfl
  · rintro rc υ v w ⟨rfl, rfl, rfl⟩
    unfold bd_X9_mean_22
    have hm := msm_le g f 9
    exact br_t (by decide) (sp_bitsOf (k := msm g f 9) (by omega) (q _ ks))
theorem rp_mean {g : Nat → Nat} {f : Nat → Nat → Nat} {σ : SS} (h : R0 g f σ) (ho : OkW g f) {Q : Int32 → SS → Prop} (q : Q (a_mean g f) σ) : wp_X10_mean σ Q := by
  unfold wp_X10_mean
  refine Lii.up (N := 24) 0 (fun i τ v w => τ = σ ∧ v = nI (fb_sm (wat g f) i) ∧ w = nI i) (by omega) ⟨rfl, rfl, rfl⟩ ?_ ?_
  · rintro rc i τ v w _ hi ⟨rfl, rfl, rfl⟩ k
    unfold bd_X10_mean_4
    refine br_f (c_nle 24 hi) (rp_watchers h ho hi ?_)
    rw [nI_add, nI_1]
    exact k _ _ _ ⟨rfl, rfl, rfl⟩
  · rintro rc τ v w ⟨rfl, rfl, rfl⟩
    unfold bd_X10_mean_4
    have hm := msm_le g f 9
    rw [msm_wat ho]
    exact br_t (by decide) (rp_bitsOf (k := msm g f 9) (by omega) q)
