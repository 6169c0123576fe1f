/-! the reference: watchers, gaps, order -/
theorem mnk_bit {g : Nat → Nat} {f : Nat → Nat → Nat} (ho : OkW g f) : ∀ n k, (mnk g f n).testBit k = (decide (k < n) && (decide (k < g 0) && decide (f k 5 = 1)))
  | 0, k => by show (0 : Nat).testBit k = _; simp
  | n + 1, k => by
    show (mnk g f n ||| (if n < g 0 then f n 5 else 0) * 2 ^ n).testBit k = _
    rw [Nat.testBit_or, mnk_bit ho n k, Nat.testBit_mul_two_pow]
    have hb := ho.mb n
    by_cases e : k = n
    · subst e
      rw [Nat.sub_self]
      by_cases c : k < g 0
      · rw [if_pos c] at hb ⊢
        rcases (show f k 5 = 0 ∨ f k 5 = 1 by omega) with h5 | h5 <;> rw [h5] <;> simp [c]
      · rw [if_neg c]; simp [c]
    · by_cases l : k < n
      · simp [l, show k < n + 1 by omega, show ¬ n ≤ k by omega]
      · have hz : (if n < g 0 then f n 5 else 0).testBit (k - n) = false := m_hi (n := 1) (by omega) (by omega)
        simp [l, show ¬ k < n + 1 by omega, hz]
theorem mns_bit {g : Nat → Nat} {f : Nat → Nat → Nat} (ho : OkW g f) (k : Nat) : (mns g f).testBit k = (decide (k < g 0) && decide (f k 5 = 1)) := by
  have h9 := ho.1
  unfold mns
  rw [mnk_bit ho]
  by_cases c : k < g 0
  · simp [c, show k < 9 by omega]
  · simp [c]
theorem fb_ct_cut {p : Nat → Bool} {m : Nat} (h : ∀ k, m ≤ k → p k = false) : ∀ j, fb_ct p (m + j) = fb_ct p m
  | 0 => rfl
  | j + 1 => by
    rw [show m + (j + 1) = (m + j) + 1 from rfl, fb_ct_succ, h (m + j) (by omega), fb_ct_cut h j]; rfl
def wtn (ρ : Nat → Nat) (M s n : Nat) : Nat := fb_ct (fun p => M.testBit p && (ρ p).testBit s) n
theorem wt_pc {ρ : Nat → Nat} {M s m : Nat} (hm : m ≤ 9) (h0 : ∀ p, m ≤ p → ρ p = 0) : pc (srs ρ s 9 &&& M) = wtn ρ M s m := by
  unfold pc wtn
  rw [← fb_ct_cut (m := m) (p := fun p => M.testBit p && (ρ p).testBit s) (fun k hk => by rw [h0 k hk]; simp) (24 - m), show m + (24 - m) = 24 by omega]
  refine fb_ct_cong fun k _ => ?_
  rw [Nat.testBit_and, srs_bit]
  by_cases c : k < 9
  · simp [c, Bool.and_comm]
  · rw [h0 k (by omega)]; simp [c]
def wat (g : Nat → Nat) (f : Nat → Nat → Nat) (s : Nat) : Nat := pc (srs (NR g f) s 9 &&& mns g f)
theorem rp_watchers {g : Nat → Nat} {f : Nat → Nat → Nat} {σ : SS} (h : R0 g f σ) (ho : OkW g f) {s : Nat} (hs : s < 24) {Q : Int32 → SS → Prop} (q : Q (nI (wat g f s)) σ) : wp_X10_watchers σ (nI s) Q := by
  have h9 := ho.1
  unfold wat at q
  rw [wt_pc h9 (fun p hp => NR_0 hp)] at q
  unfold wp_X10_watchers
  refine Lii.up (N := g 0) 0 (fun i τ v w => τ = σ ∧ v = nI (wtn (NR g f) (mns g f) s i) ∧ w = nI i) (by omega) ⟨rfl, rfl, rfl⟩ ?_ ?_
  · rintro rc i τ v w _ hi ⟨rfl, rfl, rfl⟩ k
    unfold bd_X10_watchers_4
    have e : wtn (NR g f) (mns g f) s (i + 1) = wtn (NR g f) (mns g f) s i + (if ((mns g f).testBit i && (NR g f i).testBit s) then 1 else 0) := rfl
    rw [mns_bit ho] at e
    have hl := NR_lt g f i
    have no : ((decide (i < g 0) && decide (f i 5 = 1)) && (NR g f i).testBit s) = false → rc τ (nI (wtn (NR g f) (mns g f) s i) + 0) (nI i + 1) := fun z => by
      rw [show (0 : Int32) = nI 0 from rfl, nI_add, nI_1]
      rw [z] at e
      exact k _ _ _ ⟨rfl, by rw [e]; rfl, rfl⟩
    rw [h.g0]
    refine br_f (nI_gt hi (by omega)) (rp_isManned h ho hi (fun c => br_f (by decide) (rp_sight h ho hi (rp_has (by omega) (by omega) (fun d => br_f (by decide) ?_) (fun d => br_t rfl (no (by simp [d])))))) (fun c => br_t rfl (no (by simp [c]))))
    rw [nI_1, nI_1]
    exact k _ _ _ ⟨rfl, by rw [e]; simp [hi, c, d], rfl⟩
  · rintro rc τ v w ⟨rfl, rfl, rfl⟩
    unfold bd_X10_watchers_4
    rw [h.g0]
    exact br_t (by rw [nI_leI (by omega) (by omega)]; omega) q
theorem rp_watched {g : Nat → Nat} {f : Nat → Nat → Nat} {σ : SS} (h : R0 g f σ) (ho : OkW g f) (x : Int32) {Q : Int32 → SS → Prop} (q : Q (a_watched g f x) σ) : wp_X10_watched σ x Q := by
  unfold wp_X10_watched
  unfold a_watched at q
  refine rp_isStone x (fun s hs ex e => ?_) (fun e => by rw [e] at q; exact br_t rfl q)
  rw [e] at q
  subst ex
  exact br_f (by decide) (rp_watchers h ho hs q)
theorem srs_s (ρ : Nat → Nat) (s n : Nat) : srs ρ s (n + 1) = srs ρ s n ||| (if (ρ n).testBit s then 2 ^ n else 0) := by
  refine m_ext (n := n + 1) (srs_lt ρ s (n + 1)) (m_or_lt (Nat.lt_of_lt_of_le (srs_lt ρ s n) (Nat.pow_le_pow_right (by omega) (by omega))) ?_) fun k hk => ?_
  · split
    · exact Nat.pow_lt_pow_right (by omega) (by omega)
    · exact Nat.two_pow_pos _
  · rw [srs_bit, Nat.testBit_or, srs_bit]
    by_cases e : k = n
    · subst e
      cases h : (ρ k).testBit s
      · simp
      · simp [Nat.testBit_two_pow_self]
    · have hz : (if (ρ n).testBit s then 2 ^ n else 0).testBit k = false := by
        split
        · rw [m_pow_bit]; simp; omega
        · exact Nat.zero_testBit k
      rw [hz]
      simp [show k < n + 1 by omega, show k < n by omega]
theorem srs_cut {ρ : Nat → Nat} {s m : Nat} (h0 : ∀ p, m ≤ p → ρ p = 0) (hm : m ≤ 9) : srs ρ s 9 = srs ρ s m := by
  have key : ∀ j, srs ρ s (m + j) = srs ρ s m := by
    intro j
    induction j with
    | zero => rfl
    | succ j ih =>
      rw [show m + (j + 1) = (m + j) + 1 from rfl, srs_s, h0 (m + j) (by omega), Nat.zero_testBit, ih]
      simp
  have := key (9 - m)
  rwa [show m + (9 - m) = 9 by omega] at this
theorem rp_seenBy {g : Nat → Nat} {f : Nat → Nat → Nat} {σ : SS} (h : R0 g f σ) (ho : OkW g f) (x : Int32) {Q : Int32 → SS → Prop} (q : Q (a_seenBy g f x) σ) : wp_X10_seenBy σ x Q := by
  have h9 := ho.1
  unfold wp_X10_seenBy
  unfold a_seenBy at q
  refine rp_isStone x (fun s hs ex e => br_f (by decide) ?_) (fun e => by rw [e] at q; exact br_t rfl q)
  rw [e] at q
  subst ex
  have q : Q (nI (srs (NR g f) s 9)) σ := q
  rw [srs_cut (fun p hp => NR_0 hp) h9] at q
  refine Lii.up (N := g 0) 0 (fun i τ v w => τ = σ ∧ v = nI (srs (NR g f) s i) ∧ w = nI i) (by omega) ⟨rfl, rfl, rfl⟩ ?_ ?_
  · rintro rc i τ v w _ hi ⟨rfl, rfl, rfl⟩ k
    unfold bd_X10_seenBy_13
    have e := srs_s (NR g f) s i
    have hl := NR_lt g f i
    rw [h.g0]
    refine br_f (nI_gt hi (by omega)) (rp_sight h ho hi (rp_has (by omega) (by omega) (fun d => br_f (by decide) ?_) (fun d => br_t rfl ?_)))
    · rw [d, if_pos rfl] at e
      rw [mI_shl1 (by omega), mI_or, nI_1, ← e]
      exact k _ _ _ ⟨rfl, rfl, rfl⟩
    · rw [d, if_neg (by decide)] at e
      rw [show (0 : Int32) = nI 0 from rfl, mI_or, nI_1, ← e]
      exact k _ _ _ ⟨rfl, rfl, rfl⟩
  · rintro rc τ v w ⟨rfl, rfl, rfl⟩
    unfold bd_X10_seenBy_13
    rw [h.g0]
    exact br_t (by rw [nI_leI (by omega) (by omega)]; omega) q
theorem onc_bit (ρ : Nat → Nat) (M s : Nat) : ∀ n, (onc ρ M n).1.testBit s = decide (0 < wtn ρ M s n) ∧ (onc ρ M n).2.testBit s = decide (1 < wtn ρ M s n)
  | 0 => ⟨by show (0 : Nat).testBit s = decide (0 < 0); simp, by show (0 : Nat).testBit s = decide (1 < 0); simp⟩
  | n + 1 => by
    obtain ⟨h1, h2⟩ := onc_bit ρ M s n
    have e : wtn ρ M s (n + 1) = wtn ρ M s n + (if (M.testBit n && (ρ n).testBit s) then 1 else 0) := rfl
    rw [onc_s, e]
    generalize wtn ρ M s n = w at *
    cases c : M.testBit n with
    | false => simp [h1, h2]
    | true =>
      rw [if_pos rfl]
      show ((onc ρ M n).1 ||| ρ n).testBit s = _ ∧ ((onc ρ M n).2 ||| ((onc ρ M n).1 &&& ρ n)).testBit s = _
      rw [Nat.testBit_or, Nat.testBit_or, Nat.testBit_and, h1, h2]
      cases d : (ρ n).testBit s with
      | false => simp
      | true =>
        refine ⟨by simp, ?_⟩
        by_cases z : 0 < w
        · simp [z]
        · simp [z]; omega
theorem rp_overlaps {g : Nat → Nat} {f : Nat → Nat → Nat} {σ : SS} (h : R0 g f σ) (ho : OkW g f) {Q : Int32 → SS → Prop} (q : Q (nI (pc (onc (NR g f) (mns g f) 9).2)) σ) : wp_X10_overlaps σ Q := by
  unfold wp_X10_overlaps
  have e : pc (onc (NR g f) (mns g f) 9).2 = fb_ct (fun s => decide (1 < wat g f s)) 24 := by
    unfold pc
    refine fb_ct_cong fun s _ => ?_
    unfold wat
    rw [(onc_bit (NR g f) (mns g f) s 9).2, wt_pc (m := 9) (by omega) (fun p hp => NR_0 (by have := ho.1; omega))]
  rw [e] at q
  refine Lii.up (N := 24) 0 (fun i τ v w => τ = σ ∧ v = nI (fb_ct (fun s => decide (1 < wat g f s)) i) ∧ w = nI i) (by omega) ⟨rfl, rfl, rfl⟩ ?_ ?_
  · rintro rc i τ v w _ hi ⟨rfl, rfl, rfl⟩ k
    unfold bd_X10_overlaps_4
    refine br_f (c_nle 24 hi) (rp_watchers h ho hi ?_)
    have hw : wat g f i ≤ 24 := pc_le _
    refine pk_le (wat g f i) 1 (fun c => ?_) (fun c => ?_)
    · rw [show (0 : Int32) = nI 0 from rfl, nI_add, nI_1]
      exact k _ _ _ ⟨rfl, by rw [fb_ct_succ, if_neg (by simp; omega)], rfl⟩
    · rw [nI_1, nI_1]
      exact k _ _ _ ⟨rfl, by rw [fb_ct_succ, if_pos (by simp; omega)], rfl⟩
  · rintro rc τ v w ⟨rfl, rfl, rfl⟩
    unfold bd_X10_overlaps_4
    exact br_t (by decide) q
/-! gaps -/
theorem rp_beginsGap {σ : SS} {S s : Nat} (hS : S < 16777216) (hs : s < 24) {Q : Int32 → SS → Prop} (h1 : gst S s = true → Q 1 σ) (h0 : gst S s = false → Q 0 σ) : wp_X10_beginsGap σ (nI S) (nI s) Q := by
  unfold wp_X10_beginsGap
  unfold gst at h1 h0
  refine pk_eq S 0 (fun c => pk_eq s 0 (fun d => ?_) (fun d => ?_)) (fun c => ?_)
  · rw [if_pos c] at h1; exact h1 (by simp [d])
  · rw [if_pos c] at h0; exact h0 (by simp [d])
  · rw [if_neg c] at h1 h0
    refine rp_has (by omega) (by omega) (fun d => br_f (by decide) (h0 (by simp [d]))) (fun d => br_t rfl ?_)
    rw [show (24 : Int32) = nI 24 from rfl, nI_add, show (1 : Int32) = nI 1 from rfl, pk_sub (by omega), show nI 24 = (24 : Int32) from rfl, i_rem24 (by omega), show s + 24 - 1 = s + 23 by omega]
    exact rp_has (by omega) (by omega) (fun e => br_f (by decide) (h1 (by simp [d, e]))) (fun e => br_t rfl (h0 (by simp [e])))
theorem rp_gapMany {g : Nat → Nat} {f : Nat → Nat → Nat} {σ : SS} (h : R0 g f σ) (ho : OkW g f) {Q : Int32 → SS → Prop} (q : Q (nI (gct (sn g f))) σ) : wp_X10_gapMany σ Q := by
  unfold wp_X10_gapMany
  refine rp_seenNow h ho ?_
  refine Lii.up (N := 24) 0 (fun i τ v w => τ = σ ∧ v = nI (fb_ct (gst (sn g f)) i) ∧ w = nI i) (by omega) ⟨rfl, rfl, rfl⟩ ?_ ?_
  · rintro rc i τ v w _ hi ⟨rfl, rfl, rfl⟩ k
    unfold bd_X10_gapMany_13
    refine br_f (c_nle 24 hi) (rp_beginsGap (sn_lt g f) hi (fun c => br_f (by decide) ?_) (fun c => br_t rfl ?_))
    · rw [nI_1, nI_1]
      exact k _ _ _ ⟨rfl, by rw [fb_ct_succ, if_pos c], rfl⟩
    · rw [show (0 : Int32) = nI 0 from rfl, nI_add, nI_1]
      exact k _ _ _ ⟨rfl, by rw [fb_ct_succ, if_neg (by rw [c]; decide)], rfl⟩
  · rintro rc τ v w ⟨rfl, rfl, rfl⟩
    unfold bd_X10_gapMany_13
    exact br_t (by decide) q
def gax (S : Nat) (x : Int32) : Option Nat := match ox x (gct S) with
  | none => none
  | some k => gat S k
theorem rp_gapAt {g : Nat → Nat} {f : Nat → Nat → Nat} {σ : SS} (h : R0 g f σ) (ho : OkW g f) (x : Int32) {Q : Int32 → SS → Prop} (q : Q (o1 (gax (sn g f) x)) σ) : wp_X10_gapAt σ x Q := by
  unfold wp_X10_gapAt
  refine rp_seenNow h ho ?_
  have hS := sn_lt g f
  generalize sn g f = S at *
  have h12 := gct_le S
  -- where it stops
  have stop : ∀ i, i < 24 → gst S i = true → nI (fb_ct (gst S) i) = x → Q (nI i) σ := by
    intro i hi hg e
    have hlt : fb_ct (gst S) i < gct S := by
      have := fb_ct_mono (gst S) (show i + 1 ≤ 24 by omega)
      rw [fb_ct_succ, if_pos hg] at this
      unfold gct; omega
    have eq : gax S x = some i := by
      unfold gax
      rw [← e, ox_in hlt (by omega)]
      refine fnd_of hi (by simp [hg]) fun r hr => ?_
      cases h4 : gst S r with
      | false => rfl
      | true =>
        have := fb_ct_mono (gst S) (show r + 1 ≤ i by omega)
        rw [fb_ct_succ, if_pos h4] at this
        simp only [Bool.true_and, beq_eq_false_iff_ne]
        omega
    rw [eq] at q; exact q
  have hQ : (∀ i, i < 24 → gst S i = true → nI (fb_ct (gst S) i) ≠ x) → Q (-1) σ := by
    intro hn
    have eq : gax S x = none := by
      unfold gax
      rcases ox_c x (n := gct S) (by omega) with ⟨_, e, _⟩ | ⟨_, _, e, _⟩ | ⟨p, hp, ex, e⟩
      · rw [e]
      · rw [e]
      · obtain ⟨s, g1, g2, g3, _⟩ := gat_some hp
        exact absurd (by rw [g3]; exact ex.symm) (hn s g1 g2)
    rw [eq] at q; exact q
  refine Lii.ex (fun τ v w => τ = σ ∧ ∃ i, i ≤ 24 ∧ v = nI (fb_ct (gst S) i) ∧ w = nI i ∧ ∀ r, r < i → gst S r = true → nI (fb_ct (gst S) r) ≠ x) (fun τ v w => 24 - w.toNatClampNeg) ?_ ⟨rfl, 0, by omega, rfl, rfl, fun r hr => absurd hr (by omega)⟩
  rintro rc τ v w ⟨rfl, i, hi, rfl, rfl, hn⟩ k
  unfold bd_X10_gapAt_14
  refine pk_le 24 i (fun c => hQ fun r hr => hn r (by omega)) (fun c => ?_)
  have hmu : 24 - (nI (i + 1)).toNatClampNeg < 24 - (nI i).toNatClampNeg := by
    rw [pk_cl (x := nI (i + 1)) (i + 1), pk_cl (x := nI i) i]; omega
  refine rp_beginsGap hS (by omega) (fun d => br_f (by decide) (br_c (fun e => stop i (by omega) d e) (fun e => ?_))) (fun d => br_t rfl ?_)
  · rw [nI_1, nI_1]
    refine k _ _ _ ⟨rfl, i + 1, by omega, by rw [fb_ct_succ, if_pos d], rfl, fun r hr hg => ?_⟩ hmu
    by_cases z : r = i
    · subst z; exact e
    · exact hn r (by omega) hg
  · rw [nI_1]
    refine k _ _ _ ⟨rfl, i + 1, by omega, by rw [fb_ct_succ, if_neg (by rw [d]; decide)]; rfl, rfl, fun r hr hg => ?_⟩ hmu
    by_cases z : r = i
    · subst z; rw [d] at hg; cases hg
    · exact hn r (by omega) hg
theorem rp_gapLength {g : Nat → Nat} {f : Nat → Nat → Nat} {σ : SS} (h : R0 g f σ) (ho : OkW g f) {s : Nat} (hs : s < 24) {Q : Int32 → SS → Prop} (q : Q (nI (gln (sn g f) s)) σ) : wp_X10_gapLength σ (nI s) Q := by
  unfold wp_X10_gapLength
  refine rp_seenNow h ho ?_
  have hS := sn_lt g f
  generalize sn g f = S at *
  unfold gln at q
  have step : ∀ rc i, i < 24 → (S.testBit ((s + i) % 24) = true → Q (nI i) σ) → (S.testBit ((s + i) % 24) = false → rc σ (nI (i + 1))) → bd_X10_gapLength_11 Q (nI s) (nI S) rc σ (nI i) := by
    intro rc i hi h1 h0
    unfold bd_X10_gapLength_11
    refine br_f (c_nle 24 hi) ?_
    rw [nI_add, i_rem24 (by omega), nI_1]
    exact rp_has (by omega) (by omega) (fun c => br_f (by decide) (h1 c)) (fun c => br_t rfl (h0 c))
  cases e : fnd (fun n => S.testBit ((s + n) % 24)) 24 with
  | none =>
    rw [e] at q
    have hn := fnd_none e
    refine Li.up (N := 24) 0 (fun i τ v => τ = σ ∧ v = nI i) (by omega) ⟨rfl, rfl⟩ ?_ ?_
    · rintro rc i τ v _ hi ⟨rfl, rfl⟩ k
      exact step rc i hi (fun z => by rw [hn i hi] at z; cases z) (fun _ => k _ _ ⟨rfl, rfl⟩)
    · rintro rc τ v ⟨rfl, rfl⟩
      unfold bd_X10_gapLength_11
      exact br_t (by decide) q
  | some n =>
    rw [e] at q
    obtain ⟨h1, h2, h3⟩ := fnd_some e
    refine Li.up (N := n) 0 (fun i τ v => τ = σ ∧ v = nI i) (by omega) ⟨rfl, rfl⟩ ?_ ?_
    · rintro rc i τ v _ hi ⟨rfl, rfl⟩ k
      exact step rc i (by omega) (fun z => by rw [h3 i hi] at z; cases z) (fun _ => k _ _ ⟨rfl, rfl⟩)
    · rintro rc τ v ⟨rfl, rfl⟩
      exact step rc n h1 (fun _ => q) (fun z => by rw [h2] at z; cases z)
theorem bst_cut {ρ : Nat → Nat} {S X m : Nat} (h0 : ∀ p, m ≤ p → ρ p = 0) : ∀ j, bst ρ S X (m + j) = bst ρ S X m
  | 0 => rfl
  | j + 1 => by
    rw [show m + (j + 1) = (m + j) + 1 from rfl, bst_s, bst_cut h0 j, if_neg]
    have : mny ρ S X (m + j) = 0 := by
      unfold mny
      rw [h0 (m + j) (by omega), Nat.zero_and]
      split
      · exact fb_ct_zero.mpr fun k _ => Nat.zero_testBit k
      · rfl
    omega
theorem bst_9 {ρ : Nat → Nat} {S X m : Nat} (h0 : ∀ p, m ≤ p → ρ p = 0) (hm : m ≤ 9) : bst ρ S X 9 = bst ρ S X m := by
  have := bst_cut (S := S) (X := X) h0 (9 - m)
  rwa [show m + (9 - m) = 9 by omega] at this
theorem rp_closest {g : Nat → Nat} {f : Nat → Nat → Nat} {σ : SS} (h : R0 g f σ) (ho : OkW g f) {s : Nat} (hs : s < 24) {Q : Int32 → SS → Prop} (q : Q (oN (bst (NR g f) 511 (str s (gln (sn g f) s)) 9).1) σ) : wp_X10_closest σ (nI s) Q := by
  have h9 := ho.1
  unfold wp_X10_closest
  have hg := gln_le (sn g f) s
  refine Lii.up (N := gln (sn g f) s) 0 (fun i τ v w => τ = σ ∧ v = nI (str s i) ∧ w = nI i) (by omega) ⟨rfl, by rw [str_zero]; rfl, rfl⟩ ?_ ?_
  · rintro rc i τ v w _ hi ⟨rfl, rfl, rfl⟩ k
    unfold bd_X10_closest_4
    refine rp_gapLength h ho hs (br_f (nI_gt hi (by omega)) fun x e => ?_)
    rw [nI_add, i_rem24 (by omega), mI_shl1 (by omega), mI_or, str_step s hs i (by omega)] at e
    subst e
    exact k _ _ _ ⟨rfl, rfl, nI_1 i⟩
  · rintro rc τ v w ⟨rfl, rfl, rfl⟩
    unfold bd_X10_closest_4
    refine rp_gapLength h ho hs (br_t (by rw [nI_leI (by omega) (by omega)]; omega) ?_)
    generalize str s (gln (sn g f) s) = X at *
    rw [bst_9 (fun p hp => NR_0 hp) h9] at q
    refine Liii.up (N := g 0) 0 (fun i τ' v w u => τ' = τ ∧ v = oN (bst (NR g f) 511 X i).1 ∧ w = nI (bst (NR g f) 511 X i).2 ∧ u = nI i) (by omega) ⟨rfl, rfl, rfl, rfl⟩ ?_ ?_
    · rintro rc i τ' v w u _ hi ⟨rfl, rfl, rfl, rfl⟩ k
      unfold bd_X10_closest_39
      have hb := bst_le (NR g f) 511 X i
      have e := bst_s (NR g f) 511 X i
      have h5 : (511 : Nat).testBit i = true := by rw [show (511 : Nat) = 2 ^ 9 - 1 from rfl, Nat.testBit_two_pow_sub_one]; simp; omega
      have em : mny (NR g f) 511 X i = pc (NR g f i &&& X) := mny_t h5
      have hm := pc_le (NR g f i &&& X)
      rw [em] at e
      rw [h.g0]
      refine br_f (nI_gt hi (by omega)) (rp_sight h ho hi ?_)
      rw [mI_and]
      refine rp_bits (m_and_lt (n := 24) _ (NR_lt g f i)) ?_
      rw [nI_leI (by omega) (by omega)]
      refine br_c (fun c => rp_max (by omega) (by omega) ?_) (fun c => rp_max (by omega) (by omega) ?_)
      · rw [if_neg (by omega)] at e ⊢
        rw [nI_1]
        exact k _ _ _ _ ⟨rfl, by rw [e], by rw [e], rfl⟩
      · rw [if_pos (by omega)] at e ⊢
        rw [nI_1]
        exact k _ _ _ _ ⟨rfl, by rw [e]; rfl, by rw [e], rfl⟩
    · rintro rc τ' v w u ⟨rfl, rfl, rfl, rfl⟩
      unfold bd_X10_closest_39
      rw [h.g0]
      exact br_t (by rw [nI_leI (by omega) (by omega)]; omega) q
theorem gax_lt {S : Nat} {x : Int32} {s : Nat} (h : gax S x = some s) : s < 24 := by
  unfold gax at h
  split at h
  · cases h
  · exact (fnd_some h).1
theorem rp_gapOf {g : Nat → Nat} {f : Nat → Nat → Nat} {σ : SS} (h : R0 g f σ) (ho : OkW g f) (x y : Int32) {Q : Int32 → SS → Prop} (q : Q (a_gapOf g f x y) σ) : wp_X10_gapOf σ x y Q := by
  unfold wp_X10_gapOf
  refine rp_gapAt h ho x ?_
  have ea : a_gapOf g f x y = match gax (sn g f) x with
    | none => -1
    | some s => if y = 0 then nI s else if y = 1 then nI (gln (sn g f) s) else if y = 2 then oN (bst (NR g f) 511 (str s (gln (sn g f) s)) 9).1 else -2 := by
    unfold a_gapOf gax
    cases ox x (gct (sn g f)) <;> rfl
  rw [ea] at q
  cases e : gax (sn g f) x with
  | none => rw [e] at q; exact br_t rfl q
  | some s =>
    rw [e] at q
    have hs := gax_lt e
    refine br_f (nI_n1 (by omega)) (br_c (fun c => ?_) (fun c0 => br_c (fun c => ?_) (fun c1 => br_c (fun c => ?_) (fun c2 => ?_))))
    · simp only [if_pos c] at q; exact q
    · simp only [if_neg c0, if_pos c] at q; exact rp_gapLength h ho hs q
    · simp only [if_neg c0, if_neg c1, if_pos c] at q; exact rp_closest h ho hs q
    · simp only [if_neg c0, if_neg c1, if_neg c2] at q; exact q
theorem gax_k {S k : Nat} (hk : k < gct S) : ∃ s, s < 24 ∧ gax S (nI k) = some s ∧ gle S k = gln S s := by
  have h12 := gct_le S
  obtain ⟨s, g1, g2, g3, g4⟩ := gat_some hk
  refine ⟨s, g1, ?_, ?_⟩
  · unfold gax; rw [ox_in hk (by omega)]; exact g4
  · unfold gle; rw [g4]
theorem glm_cut (S : Nat) : ∀ j, glm S (gct S + j) = glm S (gct S)
  | 0 => rfl
  | j + 1 => by
    rw [show gct S + (j + 1) = (gct S + j) + 1 from rfl, glm_s, glm_cut S j, if_neg]
    have : gle S (gct S + j) = 0 := by unfold gle; rw [gat_none (by omega)]
    omega
theorem rp_longestGap {g : Nat → Nat} {f : Nat → Nat → Nat} {σ : SS} (h : R0 g f σ) (ho : OkW g f) {Q : Int32 → SS → Prop} (q : Q (nI (glm (sn g f) 12)) σ) : wp_X10_longestGap σ Q := by
  have h12 := gct_le (sn g f)
  unfold wp_X10_longestGap
  have ec := glm_cut (sn g f) (12 - gct (sn g f))
  rw [show gct (sn g f) + (12 - gct (sn g f)) = 12 by omega] at ec
  rw [ec] at q
  refine Lii.up (N := gct (sn g f)) 0 (fun i τ v w => τ = σ ∧ v = nI (glm (sn g f) i) ∧ w = nI i) (by omega) ⟨rfl, rfl, rfl⟩ ?_ ?_
  · rintro rc i τ v w _ hi ⟨rfl, rfl, rfl⟩ k
    unfold bd_X10_longestGap_4
    obtain ⟨s, hs, e1, e2⟩ := gax_k hi
    have l1 := glm_le (sn g f) i
    have l2 := gle_le (sn g f) i
    refine rp_gapMany h ho (br_f (nI_gt hi (by omega)) (rp_gapAt h ho (nI i) ?_))
    rw [e1]
    refine rp_gapLength h ho hs ?_
    rw [← e2]
    refine rp_max (by omega) (by omega) ?_
    rw [nI_1, ← glm_s]
    exact k _ _ _ ⟨rfl, rfl, rfl⟩
  · rintro rc τ v w ⟨rfl, rfl, rfl⟩
    unfold bd_X10_longestGap_4
    exact rp_gapMany h ho (br_t (by rw [nI_leI (by omega) (by omega)]; omega) q)
theorem rp_isWell {g : Nat → Nat} {f : Nat → Nat → Nat} {σ : SS} (h : R0 g f σ) (ho : OkW g f) {Q : Int32 → SS → Prop} (q : Q (a_isWell g f) σ) : wp_X10_isWell σ Q := by
  have h12 := gct_le (sn g f)
  unfold wp_X10_isWell
  refine rp_seenNow h ho (rp_bits (sn_lt g f) ?_)
  unfold a_isWell at q
  have hz : ∀ j, fb_sm (gle (sn g f)) (gct (sn g f) + j) = fb_sm (gle (sn g f)) (gct (sn g f)) := by
    intro j
    induction j with
    | zero => rfl
    | succ j ih =>
      rw [show gct (sn g f) + (j + 1) = (gct (sn g f) + j) + 1 from rfl, fb_sm_succ, ih]
      have : gle (sn g f) (gct (sn g f) + j) = 0 := by unfold gle; rw [gat_none (by omega)]
      omega
  have ec := hz (12 - gct (sn g f))
  rw [show gct (sn g f) + (12 - gct (sn g f)) = 12 by omega] at ec
  rw [ec] at q
  have hb : fb_sm (gle (sn g f)) (gct (sn g f)) ≤ gct (sn g f) * 24 := fb_sm_bound fun k _ => gle_le _ k
  have hp := pc_le (sn g f)
  refine Lii.up (N := gct (sn g f)) 0 (fun i τ v w => τ = σ ∧ v = nI (pc (sn g f) + fb_sm (gle (sn g f)) i) ∧ w = nI i) (by omega) ⟨rfl, rfl, rfl⟩ ?_ ?_
  · rintro rc i τ v w _ hi ⟨rfl, rfl, rfl⟩ k
    unfold bd_X10_isWell_14
    obtain ⟨s, hs, e1, e2⟩ := gax_k hi
    refine rp_gapMany h ho (br_f (nI_gt hi (by omega)) (rp_gapAt h ho (nI i) ?_))
    rw [e1]
    refine rp_gapLength h ho hs ?_
    rw [← e2, nI_add, nI_1]
    exact k _ _ _ ⟨rfl, by rw [fb_sm_succ, Nat.add_assoc], rfl⟩
  · rintro rc τ v w ⟨rfl, rfl, rfl⟩
    unfold bd_X10_isWell_14
    refine rp_gapMany h ho (br_t (by rw [nI_leI (by omega) (by omega)]; omega) ?_)
    refine pk_eq (pc (sn g f) + fb_sm (gle (sn g f)) (gct (sn g f))) 24 (fun c => ?_) (fun c => ?_)
    · rw [if_pos c] at q; exact q
    · rw [if_neg c] at q; exact q
