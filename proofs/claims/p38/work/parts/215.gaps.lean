/-! the class: the ring turned, and gaps -/
theorem mI_shlw (n : Nat) {k : Nat} (hk : k < 32) : nI n <<< (nI k &&& 31) = nI (n * 2 ^ k) := by
  apply Int32.toBitVec_inj.mp
  apply BitVec.eq_of_toNat_eq
  rw [pk_shl _ _ k (m_s5 k hk)]
  show (n % 2 ^ 32) * 2 ^ k % 2 ^ 32 = (n * 2 ^ k) % 2 ^ 32
  rw [Nat.mod_mul_mod]
def tur (x b : Nat) : Nat := (x * 2 ^ b ||| x / 2 ^ (24 - b)) % 16777216
theorem tur_lt (x b : Nat) : tur x b < 16777216 := Nat.mod_lt _ (by decide)
theorem tur_bit {x b j : Nat} (hx : x < 16777216) (hb : b < 24) (hj : j < 24) : (tur x b).testBit j = x.testBit ((j + 24 - b) % 24) := by
  unfold tur
  have e : (16777216 : Nat) = 2 ^ 24 := rfl
  have e1 : (x * 2 ^ b).testBit j = (decide (b ≤ j) && x.testBit (j - b)) := Nat.testBit_mul_two_pow x j b
  have e2 : (x / 2 ^ (24 - b)).testBit j = x.testBit (j + (24 - b)) := Nat.testBit_div_two_pow x j
  rw [e, Nat.testBit_mod_two_pow, Nat.testBit_or, e1, e2]
  by_cases c : b ≤ j
  · rw [m_hi (a := x) (n := 24) (i := j + (24 - b)) hx (by omega), show (j + 24 - b) % 24 = j - b by omega]
    simp [hj, c]
  · rw [show (j + 24 - b) % 24 = j + (24 - b) by omega]
    simp [hj, c]
theorem sp_turned {σ : SS} {x b : Nat} (hx : x < 16777216) (hb : b < 24) {Q : Int32 → SS → Prop} (q : Q (nI (tur x b)) σ) : wp_X9_turned σ (nI x) (nI b) Q := by
  unfold wp_X9_turned
  rw [show (24 : Int32) = nI 24 from rfl, pk_sub (show b ≤ 24 by omega), mI_ushr (by omega) (by omega), mI_shlw x (by omega), mI_or, show (16777215 : Int32) = nI (2 ^ 24 - 1) from rfl, mI_and, Nat.and_two_pow_sub_one_eq_mod]
  exact q
/-- a gap begins here -/
def gst (S s : Nat) : Bool := if S = 0 then s == 0 else !S.testBit s && S.testBit ((s + 23) % 24)
def gct (S : Nat) : Nat := fb_ct (gst S) 24
/-- how long it is -/
def gln (S s : Nat) : Nat := match fnd (fun n => S.testBit ((s + n) % 24)) 24 with
  | some n => n
  | none => 24
theorem gln_le (S s : Nat) : gln S s ≤ 24 := by
  unfold gln
  split
  · next n h => exact Nat.le_of_lt (fnd_some h).1
  · exact Nat.le_refl _
theorem gst_next {S s : Nat} (h : s + 1 < 24) (h1 : gst S (s + 1) = true) : gst S s = false := by
  unfold gst at *
  by_cases c : S = 0
  · rw [if_pos c] at h1; simp at h1
  · rw [if_neg c] at h1 ⊢
    rw [show (s + 1 + 23) % 24 = s by omega] at h1
    simp only [Bool.and_eq_true] at h1
    simp [h1.2]
theorem gct_half (S : Nat) : ∀ n, n ≤ 24 → fb_ct (gst S) n ≤ (n + 1) / 2
  | 0, _ => by show 0 ≤ _; omega
  | 1, _ => by have := fb_ct_le (gst S) 1; omega
  | n + 2, h => by
    have h0 := gct_half S n (by omega)
    have h1 := gct_half S (n + 1) (by omega)
    rw [fb_ct_succ]
    by_cases c : gst S (n + 1) = true
    · rw [fb_ct_succ, gst_next (by omega) c]
      simp only [c, if_true, Bool.false_eq_true, if_false]
      omega
    · simp only [c, Bool.false_eq_true, if_false]
      omega
theorem gct_at {S s : Nat} (hs : s < 24) (h : gst S s = true) : fb_ct (gst S) s < 12 := by
  cases s with
  | zero => show 0 < 12; decide
  | succ n =>
    rw [fb_ct_succ, gst_next hs h]
    have := gct_half S n (by omega)
    simp only [Bool.false_eq_true, if_false]
    omega
theorem gct_le (S : Nat) : gct S ≤ 12 := gct_half S 24 (by omega)
/-- what the gaps' arrays hold -/
def GA (S n : Nat) (τ : SS) : Prop := τ 85 2 = nI (fb_ct (gst S) n) ∧ ∀ s, s < n → gst S s = true → τ 86 (fb_ct (gst S) s) = nI s ∧ τ 87 (fb_ct (gst S) s) = nI (gln S s)
theorem sp_addGap {τ : SS} {S i : Nat} (h : GA S i τ) (hi : i < 24) (hs : gst S i = true) {Q : SS → Prop} (q : ∀ υ, SB (fun k => k = 85 ∨ k = 86 ∨ k = 87) τ υ → GA S (i + 1) υ → Q υ) : wp_X1_add τ (nI i) (nI (gln S i)) Q := by
  have hc := gct_at hi hs
  unfold wp_X1_add
  rw [h.1]
  refine br_f (nI_n0 (by omega)) (br_f (c_nle 12 hc) ⟨pk_in _ 12 hc, ?_⟩)
  rw [pk_cl (fb_ct (gst S) i)]
  rw [u2k _ _ _ _ (show (85 : Nat) ≠ 86 by decide), h.1]
  refine ⟨pk_in _ 12 hc, ?_⟩
  rintro σ1 e1
  rw [pk_cl (fb_ct (gst S) i)] at e1
  have e85 : ∀ j, j ≠ 2 → σ1 85 j = τ 85 j := fun j hj => by rw [e1, u2k _ _ _ _ (by decide), u2k _ _ _ _ (by decide)]
  refine q _ ?_ ⟨?_, fun s hss hg => ?_⟩
  · rw [e1]; exact ((SB.rf.w (Or.inr (Or.inl rfl))).w (Or.inr (Or.inr rfl))).w (Or.inl rfl)
  · rw [u2s, e1, u2k _ _ _ _ (by decide), u2k _ _ _ _ (by decide), h.1, fb_ct_succ, if_pos hs]; exact nI_1 _
  · rw [u2k _ _ _ _ (by decide), u2k _ _ _ _ (by decide), e1]
    by_cases c : s = i
    · subst c
      rw [u2k _ _ _ _ (by decide), u2s, u2s]
      exact ⟨rfl, rfl⟩
    · have hl : fb_ct (gst S) s < fb_ct (gst S) i := by
        have := fb_ct_mono (gst S) (show s + 1 ≤ i by omega)
        rw [fb_ct_succ, if_pos hg] at this
        omega
      rw [u2k _ _ _ _ (by decide), u2j _ _ _ (by omega), u2j _ _ _ (by omega), u2k _ _ _ _ (by decide)]
      exact h.2 s (by omega) hg
theorem sp_openFrom {σ : SS} {S s : Nat} (hS : S < 16777216) (hs : s < 24) {Q : Int32 → SS → Prop} (q : Q (nI (gln S s)) σ) : wp_X1_openFrom σ (nI S) (nI s) Q := by
  unfold wp_X1_openFrom
  have step : ∀ rc i, i < 24 → (S.testBit ((s + i) % 24) = true → Q (nI i) σ) → (S.testBit ((s + i) % 24) = false → rc σ (nI ((s + (i + 1)) % 24)) (nI (i + 1))) → bd_X1_openFrom_4 Q (nI S) (nI s) rc σ (nI ((s + i) % 24)) (nI i) := by
    intro rc i hi h1 h0
    unfold bd_X1_openFrom_4
    refine br_f (c_nle 24 hi) (sp_isIn (by omega) (by omega) (fun hb => br_f (by decide) (h1 hb)) (fun hb => br_t rfl ?_))
    have h2 := h0 hb
    refine pk_eq ((s + i) % 24) 23 (fun c => ?_) (fun c => ?_)
    · rw [show (s + (i + 1)) % 24 = 0 by omega] at h2
      rw [nI_1]; exact h2
    · rw [show (s + (i + 1)) % 24 = (s + i) % 24 + 1 by omega] at h2
      rw [nI_1, nI_1]; exact h2
  unfold gln at q
  cases e : fnd (fun n => S.testBit ((s + n) % 24)) 24 with
  | none =>
    rw [e] at q
    have hn := fnd_none e
    refine Lii.up (N := 24) 0 (fun i τ v w => τ = σ ∧ v = nI ((s + i) % 24) ∧ w = nI i) (by omega) ⟨rfl, by rw [show (s + 0) % 24 = s by omega], rfl⟩ ?_ ?_
    · rintro rc i τ v w _ hi ⟨rfl, rfl, rfl⟩ k
      exact step rc i hi (fun h => by rw [hn i hi] at h; cases h) (fun _ => k _ _ _ ⟨rfl, rfl, rfl⟩)
    · rintro rc τ v w ⟨rfl, rfl, rfl⟩
      unfold bd_X1_openFrom_4
      exact br_t (by decide) q
  | some n =>
    rw [e] at q
    obtain ⟨h1, h2, h3⟩ := fnd_some e
    refine Lii.up (N := n) 0 (fun i τ v w => τ = σ ∧ v = nI ((s + i) % 24) ∧ w = nI i) (by omega) ⟨rfl, by rw [show (s + 0) % 24 = s by omega], rfl⟩ ?_ ?_
    · rintro rc i τ v w _ hi ⟨rfl, rfl, rfl⟩ k
      exact step rc i (by omega) (fun h => by rw [h3 i hi] at h; cases h) (fun _ => k _ _ _ ⟨rfl, rfl, rfl⟩)
    · rintro rc τ v w ⟨rfl, rfl, rfl⟩
      exact step rc n h1 (fun _ => q) (fun h => by rw [h2] at h; cases h)
theorem sp_find {σ : SS} {S : Nat} (hS : S < 16777216) {Q : SS → Prop} (q : ∀ τ, SB (fun k => k = 85 ∨ k = 86 ∨ k = 87) σ τ → GA S 24 τ → Q τ) : wp_X1_find σ (nI S) Q := by
  unfold wp_X1_find
  have g0 : GA S 0 (u2 σ 85 2 0) := ⟨by rw [u2s]; rfl, fun s h => absurd h (by omega)⟩
  have k0 : SB (fun k => k = 85 ∨ k = 86 ∨ k = 87) σ (u2 σ 85 2 0) := SB.rf.w (Or.inl rfl)
  refine pk_eq S 0 (fun hz => ?_) (fun hz => ?_)
  · subst hz
    have h1 : gst 0 0 = true := rfl
    have h2 : gln 0 0 = 24 := by decide
    have h := sp_addGap g0 (by decide) h1 (Q := fun σ11 => Q σ11) fun υ kυ hg => q υ (k0.tr kυ) ⟨?_, fun s hs hgs => ?_⟩
    · rw [h2] at h; exact h
    · rw [hg.1]; rfl
    · have : s = 0 := by simpa [gst] using hgs
      subst this
      exact hg.2 0 (by decide) h1
  · refine sp_turned hS (b := 1) (by decide) ?_
    refine Li.up (N := 24) 0 (fun i τ v => v = nI i ∧ SB (fun k => k = 85 ∨ k = 86 ∨ k = 87) σ τ ∧ GA S i τ) (by omega) ⟨rfl, k0, g0⟩ ?_ ?_
    · rintro rc i τ v _ hi ⟨rfl, hSB, hg⟩ k
      have skip : gst S i = false → GA S (i + 1) τ := fun h => ⟨by rw [hg.1, fb_ct_succ, h]; simp, fun s hs hgs => by
        by_cases c : s = i
        · subst c; rw [h] at hgs; cases hgs
        · exact hg.2 s (by omega) hgs⟩
      have ge : gst S i = (!S.testBit i && S.testBit ((i + 23) % 24)) := by unfold gst; rw [if_neg hz]
      have tl := tur_lt S 1
      unfold bd_X1_find_25
      refine br_f (c_nle 24 hi) (sp_isIn (by omega) (by omega) (fun hb => br_f (by decide) (k _ _ ⟨nI_1 i, hSB, skip (by rw [ge, hb]; rfl)⟩)) (fun hb => br_t rfl (sp_isIn (by omega) (by omega) (fun hc => br_f (by decide) ?_) (fun hc => br_t rfl (k _ _ ⟨nI_1 i, hSB, skip ?_⟩)))))
      · rw [tur_bit hS (by decide) hi, show i + 24 - 1 = i + 23 by omega] at hc
        have hgi : gst S i = true := by rw [ge, hb, hc]; rfl
        refine sp_openFrom hS hi (sp_addGap hg hi hgi fun υ kυ hg' => k _ _ ⟨nI_1 i, hSB.tr kυ, hg'⟩)
      · rw [tur_bit hS (by decide) hi, show i + 24 - 1 = i + 23 by omega] at hc
        rw [ge, hb, hc]; rfl
    · rintro rc τ v ⟨rfl, hSB, hg⟩
      unfold bd_X1_find_25
      exact br_t (by decide) (q τ hSB hg)
/-- the k-th gap's first stone -/
def gat (S k : Nat) : Option Nat := fnd (fun s => gst S s && fb_ct (gst S) s == k) 24
theorem gat_some {S k : Nat} (h : k < gct S) : ∃ s, s < 24 ∧ gst S s = true ∧ fb_ct (gst S) s = k ∧ gat S k = some s := by
  obtain ⟨s, h1, h2, h3⟩ := fb_ct_kth h
  refine ⟨s, h1, h2, h3, fnd_of h1 (by simp [h2, h3]) fun r hr => ?_⟩
  cases h4 : gst S r with
  | false => rfl
  | true =>
    have := fb_ct_mono (gst S) (show r + 1 ≤ s by omega)
    rw [fb_ct_succ, if_pos h4] at this
    simp only [Bool.true_and, beq_eq_false_iff_ne]
    omega
theorem gat_none {S k : Nat} (h : gct S ≤ k) : gat S k = none := fnd_no fun r hr => by
  cases h4 : gst S r with
  | false => rfl
  | true =>
    have := fb_ct_mono (gst S) (show r + 1 ≤ 24 by omega)
    rw [fb_ct_succ, if_pos h4] at this
    simp only [Bool.true_and, beq_eq_false_iff_ne]
    unfold gct at h
    omega
theorem sp_isGap {σ : SS} {S : Nat} (h : GA S 24 σ) {x : Int32} {Q : Int32 → SS → Prop} (h1 : ∀ k, k < gct S → x = nI k → Q 1 σ) (h0 : (∀ k, k < gct S → x ≠ nI k) → Q 0 σ) : wp_X1_isGap σ x Q := by
  have h12 := gct_le S
  unfold wp_X1_isGap
  have e : σ 85 2 = nI (gct S) := h.1
  rw [e]
  rcases pk_ix x (n := gct S) (by omega) with hx | hx | ⟨p, hp, rfl⟩
  · exact br_t hx (h0 fun p hp e => by subst e; exact nI_n0 (by omega) hx)
  · have hn : ∀ k, k < gct S → x ≠ nI k := fun p hp e => by subst e; exact nI_ge hp (by omega) hx
    exact br_c (fun _ => h0 hn) (fun _ => br_t hx (h0 hn))
  · exact br_f (nI_n0 (by omega)) (br_f (nI_ge hp (by omega)) (br_f (c_nle 12 (by omega)) (h1 p hp rfl)))
/-- the k-th gap's length -/
def gle (S k : Nat) : Nat := match gat S k with
  | some s => gln S s
  | none => 0
theorem gle_le (S k : Nat) : gle S k ≤ 24 := by
  unfold gle; split
  · exact gln_le _ _
  · omega
theorem sp_firstOf {σ : SS} {S k : Nat} (h : GA S 24 σ) (hk : k < gct S) {Q : Int32 → SS → Prop} (q : Q (o1 (gat S k)) σ) : wp_X1_firstOf σ (nI k) Q := by
  have h12 := gct_le S
  obtain ⟨s, g1, g2, g3, g4⟩ := gat_some hk
  unfold wp_X1_firstOf
  refine sp_isGap h (fun _ _ _ => br_f (by decide) ⟨pk_in k 12 (by omega), ?_⟩) (fun e => absurd rfl (e k hk))
  rw [pk_cl k, ← g3, (h.2 s g1 g2).1]
  rw [g4] at q; exact q
theorem sp_lengthOf {σ : SS} {S k : Nat} (h : GA S 24 σ) (hk : k < 12) {Q : Int32 → SS → Prop} (q : Q (nI (gle S k)) σ) : wp_X1_lengthOf σ (nI k) Q := by
  have h12 := gct_le S
  unfold wp_X1_lengthOf
  unfold gle at q
  refine sp_isGap h (fun k' hk' ek => br_f (by decide) ⟨pk_in k 12 hk, ?_⟩) (fun e => br_t rfl ?_)
  · have ek := (nI_eq (show k < 2 ^ 31 by omega) (show k' < 2 ^ 31 by omega)).mp ek
    subst ek
    obtain ⟨s, g1, g2, g3, g4⟩ := gat_some hk'
    rw [pk_cl k, ← g3, (h.2 s g1 g2).2]
    rw [g4] at q; exact q
  · rw [gat_none (Classical.byContradiction fun z => e k (by omega) rfl)] at q
    exact q
theorem sp_lengthOfAll {σ : SS} {S : Nat} (h : GA S 24 σ) {Q : Int32 → SS → Prop} (q : Q (nI (fb_sm (gle S) 12)) σ) : wp_X1_lengthOfAll σ Q := by
  unfold wp_X1_lengthOfAll
  refine Lii.up (N := 12) 0 (fun i τ v w => τ = σ ∧ v = nI (fb_sm (gle S) i) ∧ w = nI i) (by omega) ⟨rfl, rfl, rfl⟩ ?_ ?_
  · rintro rc i τ v w _ hi ⟨rfl, rfl, rfl⟩ k
    unfold bd_X1_lengthOfAll_4
    exact br_f (c_nle 12 hi) (sp_lengthOf h hi (k _ _ _ ⟨rfl, nI_add _ _, nI_1 i⟩))
  · rintro rc τ v w ⟨rfl, rfl, rfl⟩
    unfold bd_X1_lengthOfAll_4
    exact br_t (by decide) q
/-- the longest of the first n -/
def glm (S : Nat) : Nat → Nat
  | 0 => 0
  | n + 1 => if glm S n < gle S n then gle S n else glm S n
theorem glm_s (S n : Nat) : glm S (n + 1) = if glm S n < gle S n then gle S n else glm S n := rfl
theorem glm_le (S : Nat) : ∀ n, glm S n ≤ 24
  | 0 => by show 0 ≤ 24; omega
  | n + 1 => by
    rw [glm_s]; split
    · exact gle_le _ _
    · exact glm_le S n
theorem sp_longest {σ : SS} {S : Nat} (h : GA S 24 σ) {Q : Int32 → SS → Prop} (q : Q (nI (glm S 12)) σ) : wp_X1_longest σ Q := by
  unfold wp_X1_longest
  refine Lii.up (N := 12) 0 (fun i τ v w => τ = σ ∧ v = nI (glm S i) ∧ w = nI i) (by omega) ⟨rfl, rfl, rfl⟩ ?_ ?_
  · rintro rc i τ v w _ hi ⟨rfl, rfl, rfl⟩ k
    have l1 := glm_le S i
    have l2 := gle_le S i
    unfold bd_X1_longest_4
    refine br_f (c_nle 12 hi) (sp_lengthOf h hi (k _ _ _ ⟨rfl, ?_, nI_1 i⟩))
    rw [glm_s]
    by_cases c : glm S i < gle S i
    · rw [if_pos c, if_pos ((nI_ltI (by omega) (by omega)).mpr c)]
    · rw [if_neg c, if_neg (fun z => c ((nI_ltI (by omega) (by omega)).mp z))]
  · rintro rc τ v w ⟨rfl, rfl, rfl⟩
    unfold bd_X1_longest_4
    exact br_t (by decide) q
