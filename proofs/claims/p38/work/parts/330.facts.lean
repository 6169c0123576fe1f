/-! who watches, by bits; the mean -/
theorem mnk_bit {g : Nat → Nat} {f : Nat → Nat → Nat} (ho : OkW g f) : ∀ n k, (mnk g f n).testBit k = (decide (k < n) && (decide (k < g 0) && decide (f k 5 = 1)))
  | 0, k => by show (0 : Nat).testBit k = _; simp
  | n + 1, k => by
    show (mnk g f n ||| (if n < g 0 then f n 5 else 0) * 2 ^ n).testBit k = _
    rw [Nat.testBit_or, mnk_bit ho n k, Nat.testBit_mul_two_pow]
    have hb := ho.mb n
    by_cases e : k = n
    · subst e
      rw [Nat.sub_self]
      by_cases c : k < g 0
      · rw [if_pos c] at hb ⊢
        rcases (show f k 5 = 0 ∨ f k 5 = 1 by omega) with h5 | h5 <;> rw [h5] <;> simp [c]
      · rw [if_neg c]; simp [c]
    · by_cases l : k < n
      · simp [l, show k < n + 1 by omega, show ¬ n ≤ k by omega]
      · have hz : (if n < g 0 then f n 5 else 0).testBit (k - n) = false := m_hi (n := 1) (by omega) (by omega)
        simp [l, show ¬ k < n + 1 by omega, hz]
theorem mns_bit {g : Nat → Nat} {f : Nat → Nat → Nat} (ho : OkW g f) (k : Nat) : (mns g f).testBit k = (decide (k < g 0) && decide (f k 5 = 1)) := by
  have h9 := ho.1
  unfold mns
  rw [mnk_bit ho]
  by_cases c : k < g 0
  · simp [c, show k < 9 by omega]
  · simp [c]
theorem fb_ct_cut {p : Nat → Bool} {m : Nat} (h : ∀ k, m ≤ k → p k = false) : ∀ j, fb_ct p (m + j) = fb_ct p m
  | 0 => rfl
  | j + 1 => by
    rw [show m + (j + 1) = (m + j) + 1 from rfl, fb_ct_succ, h (m + j) (by omega), fb_ct_cut h j]; rfl
def wtn (ρ : Nat → Nat) (M s n : Nat) : Nat := fb_ct (fun p => M.testBit p && (ρ p).testBit s) n
theorem wt_pc {ρ : Nat → Nat} {M s m : Nat} (hm : m ≤ 9) (h0 : ∀ p, m ≤ p → ρ p = 0) : pc (srs ρ s 9 &&& M) = wtn ρ M s m := by
  unfold pc wtn
  rw [← fb_ct_cut (m := m) (p := fun p => M.testBit p && (ρ p).testBit s) (fun k hk => by rw [h0 k hk]; simp) (24 - m), show m + (24 - m) = 24 by omega]
  refine fb_ct_cong fun k _ => ?_
  rw [Nat.testBit_and, srs_bit]
  by_cases c : k < 9
  · simp [c, Bool.and_comm]
  · rw [h0 k (by omega)]; simp [c]
def wat (g : Nat → Nat) (f : Nat → Nat → Nat) (s : Nat) : Nat := pc (srs (NR g f) s 9 &&& mns g f)
theorem srs_s (ρ : Nat → Nat) (s n : Nat) : srs ρ s (n + 1) = srs ρ s n ||| (if (ρ n).testBit s then 2 ^ n else 0) := by
  refine m_ext (n := n + 1) (srs_lt ρ s (n + 1)) (m_or_lt (Nat.lt_of_lt_of_le (srs_lt ρ s n) (Nat.pow_le_pow_right (by omega) (by omega))) ?_) fun k hk => ?_
  · split
    · exact Nat.pow_lt_pow_right (by omega) (by omega)
    · exact Nat.two_pow_pos _
  · rw [srs_bit, Nat.testBit_or, srs_bit]
    by_cases e : k = n
    · subst e
      cases h : (ρ k).testBit s
      · simp
      · simp [Nat.testBit_two_pow_self]
    · have hz : (if (ρ n).testBit s then 2 ^ n else 0).testBit k = false := by
        split
        · rw [m_pow_bit]; simp; omega
        · exact Nat.zero_testBit k
      rw [hz]
      simp [show k < n + 1 by omega, show k < n by omega]
theorem srs_cut {ρ : Nat → Nat} {s m : Nat} (h0 : ∀ p, m ≤ p → ρ p = 0) (hm : m ≤ 9) : srs ρ s 9 = srs ρ s m := by
  have key : ∀ j, srs ρ s (m + j) = srs ρ s m := by
    intro j
    induction j with
    | zero => rfl
    | succ j ih =>
      rw [show m + (j + 1) = (m + j) + 1 from rfl, srs_s, h0 (m + j) (by omega), Nat.zero_testBit, ih]
      simp
  have := key (9 - m)
  rwa [show m + (9 - m) = 9 by omega] at this
theorem onc_bit (ρ : Nat → Nat) (M s : Nat) : ∀ n, (onc ρ M n).1.testBit s = decide (0 < wtn ρ M s n) ∧ (onc ρ M n).2.testBit s = decide (1 < wtn ρ M s n)
  | 0 => ⟨by show (0 : Nat).testBit s = decide (0 < 0); simp, by show (0 : Nat).testBit s = decide (1 < 0); simp⟩
  | n + 1 => by
    obtain ⟨h1, h2⟩ := onc_bit ρ M s n
    have e : wtn ρ M s (n + 1) = wtn ρ M s n + (if (M.testBit n && (ρ n).testBit s) then 1 else 0) := rfl
    rw [onc_s, e]
    generalize wtn ρ M s n = w at *
    cases c : M.testBit n with
    | false => simp [h1, h2]
    | true =>
      rw [if_pos rfl]
      show ((onc ρ M n).1 ||| ρ n).testBit s = _ ∧ ((onc ρ M n).2 ||| ((onc ρ M n).1 &&& ρ n)).testBit s = _
      rw [Nat.testBit_or, Nat.testBit_or, Nat.testBit_and, h1, h2]
      cases d : (ρ n).testBit s with
      | false => simp
      | true =>
        refine ⟨by simp, ?_⟩
        by_cases z : 0 < w
        · simp [z]
        · simp [z]; omega
def mnv (k : Nat) : UInt32 := FP.fdiv (FP.i2f (nI k)) 1103101952
def n32 (r : UInt32) : Bool := decide (r &&& 0x7fffffff ≤ 0x7f800000)
theorem n32_ok {r : UInt32} (h : n32 r = true) : vf_n32 r := by
  unfold vf_n32
  exact of_decide_eq_true h
def lpb : Nat → UInt32 → Int32 → Option Int32
  | 0, _, _ => none
  | F + 1, v, p => if 0 ≤ (Op.cmpValue (FP.fcmp v FP.fconst1) .g) then (if n32 (FP.fsub v FP.fconst1) && n32 (FP.fmul (FP.fsub v FP.fconst1) 1258291200) then some ((p <<< (23 &&& 31)) ||| (FP.f2i (FP.fmul (FP.fsub v FP.fconst1) 1258291200))) else none) else (if n32 (FP.fmul v FP.fconst2) then lpb F (FP.fmul v FP.fconst2) (p + (-1)) else none)
def lpa : Nat → UInt32 → Int32 → Option Int32
  | 0, _, _ => none
  | F + 1, v, p => if (Op.cmpValue (FP.fcmp v FP.fconst2) .l) < 0 then lpb 10 v p else (if n32 (FP.fdiv v FP.fconst2) then lpa F (FP.fdiv v FP.fconst2) (p + 1) else none)
theorem lpb_ok {Q : Int32 → SS → Prop} {l0 : UInt32} {σ : SS} {r : Int32} (q : Q r σ) : ∀ F i v p, i + F ≤ 100 → lpb F v p = some r → Lfii (bd_X9_bitsOf_42 Q l0) F σ v p (nI i)
  | 0, _, _, _, _, h => by cases h
  | F + 1, i, v, p, hi, h => by
    show bd_X9_bitsOf_42 Q l0 (Lfii (bd_X9_bitsOf_42 Q l0) F) σ v p (nI i)
    unfold bd_X9_bitsOf_42
    unfold lpb at h
    refine br_f (c_nle 126 (by omega)) ?_
    by_cases c : 0 ≤ (Op.cmpValue (FP.fcmp v FP.fconst1) .g)
    · rw [if_pos c] at h
      split at h
      · next d =>
        have d := Bool.and_eq_true_iff.mp d
        cases h
        exact br_t c ⟨n32_ok d.1, n32_ok d.2, q⟩
      · cases h
    · rw [if_neg c] at h
      split at h
      · next d =>
        rw [nI_1]
        exact br_f c ⟨n32_ok d, lpb_ok (l0 := l0) q F (i + 1) _ _ (by omega) h⟩
      · cases h
theorem lpa_ok {Q : Int32 → SS → Prop} {l0 : UInt32} {σ : SS} {r : Int32} (q : Q r σ) : ∀ F i v p, i + F ≤ 100 → lpa F v p = some r → Lfii (bd_X9_bitsOf_15 Q l0) F σ v p (nI i)
  | 0, _, _, _, _, h => by cases h
  | F + 1, i, v, p, hi, h => by
    show bd_X9_bitsOf_15 Q l0 (Lfii (bd_X9_bitsOf_15 Q l0) F) σ v p (nI i)
    unfold bd_X9_bitsOf_15
    unfold lpa at h
    refine br_f (c_nle 127 (by omega)) ?_
    by_cases c : (Op.cmpValue (FP.fcmp v FP.fconst2) .l) < 0
    · rw [if_pos c] at h
      exact br_t c ⟨10, lpb_ok (l0 := l0) q 10 0 _ _ (by omega) h⟩
    · rw [if_neg c] at h
      split at h
      · next d =>
        rw [nI_1]
        exact br_f c ⟨n32_ok d, lpa_ok (l0 := l0) q F (i + 1) _ _ (by omega) h⟩
      · cases h
def mchk (k : Nat) : Bool := n32 (mnv k) && (decide (Op.cmpValue (FP.fcmp (mnv k) (mnv k)) .l = 0) && (if 0 < (Op.cmpValue (FP.fcmp (mnv k) FP.fconst0) .l) then decide (lpa 10 (mnv k) 127 = some (mnv k).toInt32) else decide ((mnv k).toInt32 = 0)))
theorem mchk_ok : ∀ k, k < 217 → mchk k = true := by decide +kernel
theorem sp_bitsOf {σ : SS} {k : Nat} (hk : k < 217) {Q : Int32 → SS → Prop} (q : Q (mnv k).toInt32 σ) : vf_n32 (mnv k) ∧ wp_X9_bitsOf σ (mnv k) Q := by
  have h := mchk_ok k hk
  unfold mchk at h
  have h := Bool.and_eq_true_iff.mp h
  refine ⟨n32_ok h.1, ?_⟩
  have h := (Bool.and_eq_true_iff.mp h.2).2
  unfold wp_X9_bitsOf
  by_cases c : 0 < (Op.cmpValue (FP.fcmp (mnv k) FP.fconst0) .l)
  · rw [if_pos c] at h
    exact br_t c ⟨10, lpa_ok q 10 0 _ _ (by omega) (of_decide_eq_true h)⟩
  · rw [if_neg c] at h
    rw [of_decide_eq_true h] at q
    exact br_f c q
theorem rp_bitsOf {σ : SS} {k : Nat} (hk : k < 217) {Q : Int32 → SS → Prop} (q : Q (mnv k).toInt32 σ) : vf_n32 (mnv k) ∧ wp_Jxf58ca_floatToIntBits_5c35a σ (mnv k) Q := by
  have h := mchk_ok k hk
  unfold mchk at h
  have h := Bool.and_eq_true_iff.mp h
  refine ⟨n32_ok h.1, ?_⟩
  have h := (Bool.and_eq_true_iff.mp h.2).1
  unfold wp_Jxf58ca_floatToIntBits_5c35a wp_Jxf58ca_isNaN_12338
  exact br_t (of_decide_eq_true h) (br_t rfl q)
def msm (g : Nat → Nat) (f : Nat → Nat → Nat) (n : Nat) : Nat := fb_sm (fun p => if (mns g f).testBit p then pc (NR g f p) else 0) n
theorem msm_le (g : Nat → Nat) (f : Nat → Nat → Nat) (n : Nat) : msm g f n ≤ n * 24 := fb_sm_bound fun p _ => by
  split
  · exact pc_le _
  · omega
theorem fb_sm_ct (p : Nat → Bool) : ∀ n, fb_sm (fun k => if p k then 1 else 0) n = fb_ct p n
  | 0 => rfl
  | n + 1 => by rw [fb_sm_succ, fb_ct_succ, fb_sm_ct p n]
theorem sum_two (ρ : Nat → Nat) (M m : Nat) : ∀ n, fb_sm (fun s => wtn ρ M s n) m = fb_sm (fun p => if M.testBit p then fb_ct (fun s => (ρ p).testBit s) m else 0) n
  | 0 => (fb_sm_cong (g := fun _ => 0) (fun k _ => rfl)).trans ((fb_sm_const 0 m).trans (Nat.mul_zero m))
  | n + 1 => by
    have e1 : fb_sm (fun s => wtn ρ M s (n + 1)) m = fb_sm (fun s => wtn ρ M s n + (if M.testBit n && (ρ n).testBit s then 1 else 0)) m := fb_sm_cong (fun s _ => by unfold wtn; rw [fb_ct_succ])
    rw [e1, fb_sm_add, sum_two ρ M m n, fb_sm_succ]
    congr 1
    rw [fb_sm_ct]
    cases hb : M.testBit n with
    | true =>
      rw [if_pos rfl]
      exact fb_ct_cong fun s _ => by rw [Bool.true_and]
    | false =>
      rw [if_neg (by decide)]
      exact fb_ct_zero.mpr fun s _ => by rw [Bool.false_and]
theorem msm_wat {g : Nat → Nat} {f : Nat → Nat → Nat} (ho : OkW g f) : fb_sm (wat g f) 24 = msm g f 9 := by
  have h9 := ho.1
  refine Eq.trans ?_ (sum_two (NR g f) (mns g f) 24 9)
  exact fb_sm_cong fun s _ => wt_pc (by decide) (fun p hp => NR_0 (by omega))
def a_mean (g : Nat → Nat) (f : Nat → Nat → Nat) : Int32 := (mnv (msm g f 9)).toInt32
theorem sp_mean {g : Nat → Nat} {f : Nat → Nat → Nat} {σ : SS} (h : RC 1 g f σ) (ho : OkW g f) {Q : Int32 → SS → Prop} (q : ∀ τ, SB AK σ τ → Q (a_mean g f) τ) : wp_X9_mean σ Q := by
  unfold wp_X9_mean
  refine sp_look h ho fun τ ks hs => ?_
  refine Lii.up (N := 9) 0 (fun i υ v w => υ = τ ∧ v = nI (msm g f i) ∧ w = nI i) (by omega) ⟨rfl, rfl, rfl⟩ ?_ ?_
  · rintro rc i υ v w _ hi ⟨rfl, rfl, rfl⟩ k
    unfold bd_X9_mean_22
    refine br_f (c_nle 9 hi) ?_
    rw [hs.2.1, nI_1]
    have es : msm g f (i + 1) = msm g f i + (if (mns g f).testBit i then pc (NR g f i) else 0) := rfl
    refine sp_isIn (mns_32 ho) (by omega) (fun hb => br_f (by decide) (sp_manySeen hs (NR_lt g f) hi ?_)) (fun hb => br_t rfl (k _ _ _ ⟨rfl, ?_, rfl⟩))
    · rw [nI_add]
      refine k _ _ _ ⟨rfl, ?_, rfl⟩
      rw [es, if_pos hb]
    · rw [es, if_neg (by rw [hb]; decide)]; rfl
  · rintro rc υ v w ⟨rfl, rfl, rfl⟩
    unfold bd_X9_mean_22
    have hm := msm_le g f 9
    exact br_t (by decide) (sp_bitsOf (k := msm g f 9) (by omega) (q _ ks))
theorem ovl_eq {g : Nat → Nat} {f : Nat → Nat → Nat} (ho : OkW g f) : pc (onc (NR g f) (mns g f) 9).2 = fb_ct (fun s => decide (1 < wat g f s)) 24 := by
  unfold pc
  refine fb_ct_cong fun s _ => ?_
  unfold wat
  rw [(onc_bit (NR g f) (mns g f) s 9).2, wt_pc (m := 9) (by omega) (fun p hp => NR_0 (by have := ho.1; omega))]
theorem sn_bit {g : Nat → Nat} {f : Nat → Nat → Nat} (ho : OkW g f) (s : Nat) : (sn g f).testBit s = decide (0 < wat g f s) := by
  unfold wat
  rw [wt_pc (m := 9) (by omega) (fun p hp => NR_0 (by have := ho.1; omega))]
  unfold sn wtn
  cases e : (orS (NR g f) (mns g f) 9).testBit s with
  | true =>
    obtain ⟨p, h1, h2, h3⟩ := (orS_bit (NR g f) (mns g f) s 9).mp e
    have : 0 < fb_ct (fun p => (mns g f).testBit p && (NR g f p).testBit s) 9 := fb_ct_pos.mpr ⟨p, h1, by rw [h2, h3]; rfl⟩
    simp [this]
  | false =>
    have : ¬ 0 < fb_ct (fun p => (mns g f).testBit p && (NR g f p).testBit s) 9 := fun z => by
      obtain ⟨p, h1, h2⟩ := fb_ct_pos.mp z
      have h2 := Bool.and_eq_true_iff.mp h2
      have := (orS_bit (NR g f) (mns g f) s 9).mpr ⟨p, h1, h2.1, h2.2⟩
      rw [e] at this; cases this
    simp [this]
theorem wtc_eq {g : Nat → Nat} {f : Nat → Nat → Nat} (ho : OkW g f) : pc (sn g f) = fb_ct (fun s => decide (0 < wat g f s)) 24 := fb_ct_cong fun s _ => sn_bit ho s
theorem b511 {p : Nat} (h : p < 9) : (511 : Nat).testBit p = true := by
  rw [show (511 : Nat) = 2 ^ 9 - 1 from rfl, Nat.testBit_two_pow_sub_one]; simp [h]
theorem srs_nz {ρ : Nat → Nat} {s : Nat} : srs ρ s 9 ≠ 0 ↔ (orS ρ 511 9).testBit s = true := by
  rw [orS_bit]
  constructor
  · intro h
    apply Classical.byContradiction
    intro z
    refine h (Nat.eq_of_testBit_eq fun k => ?_)
    rw [srs_bit, Nat.zero_testBit]
    by_cases c : k < 9
    · cases d : (ρ k).testBit s with
      | false => simp
      | true => exact absurd ⟨k, c, b511 c, d⟩ z
    · simp [c]
  · rintro ⟨p, h1, _, h3⟩ z
    have e := srs_bit ρ s 9 p
    rw [z, Nat.zero_testBit, h3] at e
    simp [h1] at e
theorem uns_eq (g : Nat → Nat) (f : Nat → Nat → Nat) : uns g f = fb_ct (fun s => decide (srs (NR g f) s 9 = 0)) 24 := by
  have h := fb_ct_not (fun s => (orS (NR g f) 511 9).testBit s) 24
  have e : fb_ct (fun s => decide (srs (NR g f) s 9 = 0)) 24 = fb_ct (fun k => !(orS (NR g f) 511 9).testBit k) 24 := by
    refine fb_ct_cong fun s _ => ?_
    by_cases c : srs (NR g f) s 9 = 0
    · have : ¬ (orS (NR g f) 511 9).testBit s = true := fun z => srs_nz.mpr z c
      simp [c, this]
    · have := srs_nz.mp c
      simp [c, this]
  unfold uns pc
  rw [e]
  omega
theorem man_eq {g : Nat → Nat} {f : Nat → Nat → Nat} (ho : OkW g f) : pc (mns g f) = fb_ct (fun k => decide (f k 5 = 1)) (g 0) := by
  have h9 := ho.1
  have e1 : fb_ct (fun k => decide (f k 5 = 1)) (g 0) = fb_ct (fun k => (mns g f).testBit k) (g 0) := fb_ct_cong fun k hk => by rw [mns_bit ho]; simp [hk]
  rw [e1]
  unfold pc
  rw [← fb_ct_cut (m := g 0) (p := fun k => (mns g f).testBit k) (fun k hk => by rw [mns_bit ho]; simp; omega) (24 - g 0), show g 0 + (24 - g 0) = 24 by omega]
theorem aln_eq {g : Nat → Nat} {f : Nat → Nat → Nat} (ho : OkW g f) {p : Nat} (hp : p < g 0) : aln (NR g f) p = fb_ct (fun s => decide (srs (NR g f) s 9 = 2 ^ p)) 24 := by
  have h9 := ho.1
  unfold aln pc
  refine fb_ct_cong fun s _ => ?_
  rw [df_bit (Nat.lt_trans (NR_lt g f p) (by decide))]
  have key : srs (NR g f) s 9 = 2 ^ p ↔ ((NR g f p).testBit s = true ∧ ¬ (orS (NR g f) (df 511 (2 ^ p)) 9).testBit s = true) := by
    rw [orS_bit]
    constructor
    · intro h
      refine ⟨?_, ?_⟩
      · have e := srs_bit (NR g f) s 9 p
        rw [h, m_pow_bit] at e
        simp [show p < 9 by omega] at e
        exact e
      · rintro ⟨k, h1, h2, h3⟩
        have e := srs_bit (NR g f) s 9 k
        rw [df_bit (by decide), m_pow_bit] at h2
        rw [h, m_pow_bit, h3] at e
        simp [h1] at e h2
        exact h2.2 e
    · rintro ⟨h1, h2⟩
      refine Nat.eq_of_testBit_eq fun k => ?_
      rw [srs_bit, m_pow_bit]
      by_cases c : p = k
      · subst c
        simp [h1, show p < 9 by omega]
      · by_cases d : k < 9
        · cases e : (NR g f k).testBit s with
          | false => simp [c]
          | true => exact absurd ⟨k, d, by rw [df_bit (by decide), m_pow_bit, b511 d]; simp [c], e⟩ h2
        · simp [c, d]
  cases d : (orS (NR g f) (df 511 (2 ^ p)) 9).testBit s with
  | true =>
    have : ¬ srs (NR g f) s 9 = 2 ^ p := fun z => (key.mp z).2 d
    simp [this]
  | false =>
    cases e : (NR g f p).testBit s with
    | true =>
      have : srs (NR g f) s 9 = 2 ^ p := key.mpr ⟨e, by rw [d]; decide⟩
      simp [this]
    | false =>
      have : ¬ srs (NR g f) s 9 = 2 ^ p := fun z => by
        have := (key.mp z).1
        rw [e] at this; cases this
      simp [this]
/-! the stretch round the ring -/
theorem str_bit : ∀ s, s < 24 → ∀ n, n < 25 → ∀ j, j < 24 → (str s n).testBit j = decide ((j + 24 - s) % 24 < n) := by decide +kernel
theorem sgt_bit {g : Nat → Nat} {f : Nat → Nat → Nat} (ho : OkW g f) {p s : Nat} (hp : p < g 0) (hs : s < 24) : (NR g f p).testBit s = (decide (s = f p 0 ∨ (s + 24 - f p 0) % 24 ≤ f p 2 - ls (g 1) ∨ (f p 0 + 24 - s) % 24 ≤ f p 1 - ls (g 1)) && (decide (f p 4 = 0) || !decide ((s + 24 - f p 3) % 24 < f p 4))) := by
  obtain ⟨o0, o1, o2, o4, o3, _⟩ := ho.2.2 p hp
  have e1 : ∀ L R, L ≤ 11 → R ≤ 11 → (str ((f p 0 + 24 - L) % 24) (L + 1 + R)).testBit s = decide (s = f p 0 ∨ (s + 24 - f p 0) % 24 ≤ R ∨ (f p 0 + 24 - s) % 24 ≤ L) := by
    intro L R hL hR
    rw [str_bit _ (Nat.mod_lt _ (by decide)) _ (by omega) _ hs]
    refine decide_eq_decide.mpr ?_
    omega
  unfold NR row
  rw [if_pos hp]
  unfold sgt
  by_cases c : f p 4 = 0
  · rw [if_pos c, e1 _ _ (by omega) (by omega)]
    simp [c]
  · rw [if_neg c, df_bit (Nat.lt_trans (str_lt _ _) (by decide)), e1 _ _ (by omega) (by omega), str_bit _ (o3 c) _ (by omega) _ hs]
    simp [c]
/-! gaps and watched stones are all the stones -/
theorem gat_at {S s : Nat} (hs : s < 24) (h : gst S s = true) : gat S (fb_ct (gst S) s) = some s := fnd_of hs (by simp [h]) fun r hr => by
  cases h4 : gst S r with
  | false => rfl
  | true =>
    have := fb_ct_mono (gst S) (show r + 1 ≤ s by omega)
    rw [fb_ct_succ, if_pos h4] at this
    simp only [Bool.true_and, beq_eq_false_iff_ne]
    omega
theorem gle_sum (S : Nat) : ∀ n, n ≤ 24 → fb_sm (gle S) (fb_ct (gst S) n) = fb_sm (fun s => if gst S s then gln S s else 0) n
  | 0, _ => rfl
  | n + 1, h => by
    rw [fb_ct_succ, fb_sm_succ, ← gle_sum S n (by omega)]
    cases c : gst S n with
    | false => rfl
    | true =>
      show fb_sm (gle S) (fb_ct (gst S) n + 1) = _
      rw [fb_sm_succ]
      unfold gle
      rw [gat_at (by omega) c]
      rfl
theorem fb_rot (F : Nat → Nat) : fb_sm (fun s => F ((s + 1) % 24)) 24 = fb_sm F 24 := by
  simp only [fb_sm, Nat.reduceAdd, Nat.reduceMod]
  omega
theorem fb_rot2 (F : Nat → Nat) : fb_sm (fun s => F ((s + 23) % 24)) 24 = fb_sm F 24 := by
  simp only [fb_sm, Nat.reduceAdd, Nat.reduceMod]
  omega
