/-! the class: what is seen -/
theorem sp_isIn {σ : SS} {S k : Nat} (hS : S < 2 ^ 32) (hk : k < 32) {Q : Int32 → SS → Prop} (h1 : S.testBit k = true → Q 1 σ) (h0 : S.testBit k = false → Q 0 σ) : wp_X9_isIn σ (nI S) (nI k) Q := by
  unfold wp_X9_isIn
  rw [mI_bit hS hk]
  cases hb : S.testBit k with
  | true => exact br_t rfl (h1 hb)
  | false => exact br_f (by decide) (h0 hb)
theorem sp_of {σ : SS} {p : Nat} (hp : p < 9) {Q : Int32 → SS → Prop} (h : Q (σ 81 p) σ) : wp_X6_of σ (nI p) Q := by
  unfold wp_X6_of
  refine br_f (nI_n0 (by omega)) (br_f (c_nle 9 hp) ⟨pk_in p 9 hp, ?_⟩)
  rw [pk_cl p]; exact h
/-- what the class's eye holds: a row of sights, how many posts, who is manned -/
def SG (ρ : Nat → Nat) (m M : Nat) (σ : SS) : Prop := σ 80 1 = nI m ∧ σ 80 2 = nI M ∧ ∀ p, p < 9 → σ 81 p = nI (ρ p)
theorem sp_seenBySet {σ : SS} {ρ : Nat → Nat} {m M S : Nat} (hs : SG ρ m M σ) (hS : S < 2 ^ 32) {Q : Int32 → SS → Prop} (h : Q (nI (orS ρ S 9)) σ) : wp_X6_seenBySet σ (nI S) Q := by
  unfold wp_X6_seenBySet
  refine Lii.up (N := 9) 0 (fun i τ v w => τ = σ ∧ v = nI (orS ρ S i) ∧ w = nI i) (by omega) ⟨rfl, rfl, rfl⟩ ?_ ?_
  · rintro rc i τ v w _ hi ⟨rfl, rfl, rfl⟩ k
    unfold bd_X6_seenBySet_4
    refine br_f (c_nle 9 hi) ?_
    refine sp_isIn hS (by omega) (fun hb => ?_) (fun hb => ?_)
    · refine br_f (by decide) ⟨pk_in i 9 hi, k _ _ _ ⟨rfl, ?_, nI_1 i⟩⟩
      rw [pk_cl i, hs.2.2 i hi, mI_or, orS_s, if_pos hb]
    · refine br_t rfl (k _ _ _ ⟨rfl, ?_, nI_1 i⟩)
      rw [orS_s, if_neg (by rw [hb]; decide)]
  · rintro rc τ v w ⟨rfl, rfl, rfl⟩
    unfold bd_X6_seenBySet_4
    exact br_t (by decide) h
theorem sp_manySeen {σ : SS} {ρ : Nat → Nat} {m M p : Nat} (hs : SG ρ m M σ) (hρ : ∀ p, ρ p < 16777216) (hp : p < 9) {Q : Int32 → SS → Prop} (h : Q (nI (pc (ρ p))) σ) : wp_X6_manySeen σ (nI p) Q := by
  unfold wp_X6_manySeen
  refine sp_of hp ?_
  rw [hs.2.2 p hp]
  exact sp_bc (hρ p) h
/-- how many stones a post sees that no other sees -/
def aln (ρ : Nat → Nat) (p : Nat) : Nat := pc (df (ρ p) (orS ρ (df 511 (2 ^ p)) 9))
theorem sp_manySeenAlone {σ : SS} {ρ : Nat → Nat} {m M p : Nat} (hs : SG ρ m M σ) (hρ : ∀ p, ρ p < 16777216) (hp : p < 9) {Q : Int32 → SS → Prop} (h : Q (nI (aln ρ p)) σ) : wp_X6_manySeenAlone σ (nI p) Q := by
  unfold wp_X6_manySeenAlone
  refine sp_of hp ?_
  rw [hs.2.2 p hp, mI_shl1 (by omega), show (511 : Int32) = nI 511 from rfl, mI_df]
  refine sp_seenBySet hs (df_lt (n := 32) _ (by decide)) ?_
  rw [mI_df]
  exact sp_bc (df_lt (n := 24) _ (hρ p)) h
/-- who sees a stone -/
def srs (ρ : Nat → Nat) (s : Nat) : Nat → Nat
  | 0 => 0
  | n + 1 => srs ρ s n ||| ((ρ n).testBit s).toNat * 2 ^ n
theorem srs_lt (ρ : Nat → Nat) (s : Nat) : ∀ n, srs ρ s n < 2 ^ n
  | 0 => by show 0 < 1; decide
  | n + 1 => by
    have h1 : srs ρ s n < 2 ^ (n + 1) := Nat.lt_of_lt_of_le (srs_lt ρ s n) (Nat.pow_le_pow_right (by omega) (by omega))
    have h3 : 2 ^ n < 2 ^ (n + 1) := Nat.pow_lt_pow_right (by omega) (by omega)
    refine m_or_lt h1 ?_
    cases (ρ n).testBit s <;> simp <;> omega
theorem srs_bit (ρ : Nat → Nat) (s : Nat) : ∀ n k, (srs ρ s n).testBit k = (decide (k < n) && (ρ k).testBit s)
  | 0, k => by simp [srs]
  | n + 1, k => by
    unfold srs
    rw [Nat.testBit_or, srs_bit ρ s n k]
    have e : (((ρ n).testBit s).toNat * 2 ^ n).testBit k = (decide (k = n) && (ρ n).testBit s) := by
      cases (ρ n).testBit s with
      | true =>
        rw [Bool.toNat_true, Nat.one_mul, m_pow_bit, Bool.and_true]
        by_cases h : k = n
        · simp [h]
        · simp [h, show ¬ n = k from fun e => h e.symm]
      | false => simp
    rw [e]
    by_cases h : k = n
    · subst h; simp
    · by_cases h2 : k < n
      · simp [h, h2, show k < n + 1 by omega]
      · simp [h, h2, show ¬ k < n + 1 by omega]
theorem sp_seersOf {σ : SS} {ρ : Nat → Nat} {m M s : Nat} (hs : SG ρ m M σ) (hρ : ∀ p, ρ p < 16777216) (hst : s < 24) {Q : Int32 → SS → Prop} (h : Q (nI (srs ρ s 9)) σ) : wp_X6_seersOf σ (nI s) Q := by
  unfold wp_X6_seersOf
  refine Lii.up (N := 9) 0 (fun i τ v w => τ = σ ∧ v = nI (srs ρ s i) ∧ w = nI i) (by omega) ⟨rfl, rfl, rfl⟩ ?_ ?_
  · rintro rc i τ v w _ hi ⟨rfl, rfl, rfl⟩ k
    unfold bd_X6_seersOf_4
    refine br_f (c_nle 9 hi) ⟨pk_in i 9 hi, ?_⟩
    rintro x rfl
    refine k _ _ _ ⟨rfl, ?_, nI_1 i⟩
    have hr := hρ i
    rw [pk_cl i, hs.2.2 i hi, mI_bit (by omega) (by omega), mI_shl (by omega) ?_, mI_or]
    · rfl
    · have : 2 ^ i ≤ 2 ^ 8 := Nat.pow_le_pow_right (by omega) (by omega)
      cases (ρ i).testBit s <;> simp <;> omega
  · rintro rc τ v w ⟨rfl, rfl, rfl⟩
    unfold bd_X6_seersOf_4
    exact br_t (by decide) h
/-- seen by one, and by more than one, of a set -/
def onc (ρ : Nat → Nat) (M : Nat) : Nat → Nat × Nat
  | 0 => (0, 0)
  | n + 1 => if M.testBit n then ((onc ρ M n).1 ||| ρ n, (onc ρ M n).2 ||| ((onc ρ M n).1 &&& ρ n)) else onc ρ M n
theorem onc_s (ρ : Nat → Nat) (M n : Nat) : onc ρ M (n + 1) = if M.testBit n then ((onc ρ M n).1 ||| ρ n, (onc ρ M n).2 ||| ((onc ρ M n).1 &&& ρ n)) else onc ρ M n := rfl
theorem onc_lt {ρ : Nat → Nat} (hρ : ∀ p, ρ p < 16777216) (M : Nat) : ∀ n, (onc ρ M n).1 < 16777216 ∧ (onc ρ M n).2 < 16777216
  | 0 => ⟨by show 0 < _; decide, by show 0 < _; decide⟩
  | n + 1 => by
    obtain ⟨h1, h2⟩ := onc_lt hρ M n
    rw [onc_s]; split
    · exact ⟨m_or_lt (n := 24) h1 (hρ n), m_or_lt (n := 24) h2 (m_and_lt (n := 24) _ h1)⟩
    · exact ⟨h1, h2⟩
theorem sp_overlaps {σ : SS} {ρ : Nat → Nat} {m M : Nat} (hs : SG ρ m M σ) (hρ : ∀ p, ρ p < 16777216) (hM : M < 512) {Q : Int32 → SS → Prop} (h : Q (nI (pc (onc ρ M 9).2)) σ) : wp_X6_overlaps σ Q := by
  unfold wp_X6_overlaps
  refine Liii.up (N := 9) 0 (fun i τ u v w => τ = σ ∧ u = nI (onc ρ M i).1 ∧ v = nI (onc ρ M i).2 ∧ w = nI i) (by omega) ⟨rfl, rfl, rfl, rfl⟩ ?_ ?_
  · rintro rc i τ u v w _ hi ⟨rfl, rfl, rfl, rfl⟩ k
    unfold bd_X6_overlaps_6
    refine br_f (c_nle 9 hi) ?_
    rw [hs.2.1]
    refine sp_isIn (by omega) (by omega) (fun hb => ?_) (fun hb => ?_)
    · refine br_f (by decide) ⟨pk_in i 9 hi, pk_in i 9 hi, k _ _ _ _ ⟨rfl, ?_, ?_, nI_1 i⟩⟩
      · rw [pk_cl i, hs.2.2 i hi, mI_or, onc_s, if_pos hb]
      · rw [pk_cl i, hs.2.2 i hi, mI_and, mI_or, onc_s, if_pos hb]
    · refine br_t rfl (k _ _ _ _ ⟨rfl, ?_, ?_, nI_1 i⟩) <;> rw [onc_s, if_neg (by rw [hb]; decide)]
  · rintro rc τ u v w ⟨rfl, rfl, rfl, rfl⟩
    unfold bd_X6_overlaps_6
    exact br_t (by decide) (sp_bc (onc_lt hρ M 9).2 h)
/-- the lowest post of a set that sees the most of some stones, and how many -/
def mny (ρ : Nat → Nat) (S X n : Nat) : Nat := if S.testBit n then pc (ρ n &&& X) else 0
theorem mny_le (ρ : Nat → Nat) (S X n : Nat) : mny ρ S X n ≤ 24 := by
  unfold mny; split
  · exact pc_le _
  · omega
theorem mny_t {ρ : Nat → Nat} {S X n : Nat} (h : S.testBit n = true) : mny ρ S X n = pc (ρ n &&& X) := by unfold mny; rw [if_pos h]
theorem mny_f {ρ : Nat → Nat} {S X n : Nat} (h : S.testBit n = false) : mny ρ S X n = 0 := by unfold mny; rw [if_neg (by rw [h]; decide)]
def bst (ρ : Nat → Nat) (S X : Nat) : Nat → Option Nat × Nat
  | 0 => (none, 0)
  | n + 1 => if (bst ρ S X n).2 < mny ρ S X n then (some n, mny ρ S X n) else bst ρ S X n
theorem bst_s (ρ : Nat → Nat) (S X n : Nat) : bst ρ S X (n + 1) = if (bst ρ S X n).2 < mny ρ S X n then (some n, mny ρ S X n) else bst ρ S X n := rfl
theorem bst_le (ρ : Nat → Nat) (S X : Nat) : ∀ n, (bst ρ S X n).2 ≤ 24
  | 0 => by show 0 ≤ 24; omega
  | n + 1 => by
    rw [bst_s]; split
    · exact mny_le ρ S X n
    · exact bst_le ρ S X n
theorem sp_bestAmong {σ : SS} {ρ : Nat → Nat} {m M S X : Nat} (hs : SG ρ m M σ) (hρ : ∀ p, ρ p < 16777216) (hS : S < 2 ^ 32) {Q : Int32 → SS → Prop} (h : Q (oN (bst ρ S X 9).1) σ) : wp_X6_bestAmong σ (nI S) (nI X) Q := by
  unfold wp_X6_bestAmong
  refine Liii.up (N := 9) 0 (fun i τ u v w => τ = σ ∧ u = oN (bst ρ S X i).1 ∧ v = nI (bst ρ S X i).2 ∧ w = nI i) (by omega) ⟨rfl, rfl, rfl, rfl⟩ ?_ ?_
  · rintro rc i τ u v w _ hi ⟨rfl, rfl, rfl, rfl⟩ k
    have hle := bst_le ρ S X i
    unfold bd_X6_bestAmong_9
    refine br_f (c_nle 9 hi) ?_
    refine sp_isIn hS (by omega) (fun hb => ?_) (fun hb => ?_)
    · refine br_f (by decide) ⟨pk_in i 9 hi, ?_⟩
      have hr := hρ i
      rw [pk_cl i, hs.2.2 i hi, mI_and]
      refine sp_bc (m_and_lt (n := 24) _ hr) ?_
      have hp := pc_le (ρ i &&& X)
      refine pk_le _ _ (fun hc => k _ _ _ _ ⟨rfl, ?_, ?_, nI_1 i⟩) (fun hc => k _ _ _ _ ⟨rfl, ?_, ?_, nI_1 i⟩)
      · rw [bst_s, mny_t hb, if_neg (by omega)]
      · rw [bst_s, mny_t hb, if_neg (by omega)]
      · rw [bst_s, mny_t hb, if_pos hc]; rfl
      · rw [bst_s, mny_t hb, if_pos hc]
    · refine br_t rfl (br_t (nI_g0 (by omega)) (k _ _ _ _ ⟨rfl, ?_, ?_, nI_1 i⟩)) <;> rw [bst_s, mny_f hb, if_neg (by omega)]
  · rintro rc τ u v w ⟨rfl, rfl, rfl, rfl⟩
    unfold bd_X6_bestAmong_9
    exact br_t (by decide) h
