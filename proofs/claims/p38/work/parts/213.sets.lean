/-! the class: trying sets of posts -/
def ALL : Nat := 16777215
theorem orS_congr {ρ : Nat → Nat} {S T : Nat} : ∀ n, (∀ p, p < n → S.testBit p = T.testBit p) → orS ρ S n = orS ρ T n
  | 0, _ => rfl
  | n + 1, h => by rw [orS_s, orS_s, h n (by omega), orS_congr n (fun p hp => h p (by omega))]
theorem orS_up {ρ : Nat → Nat} {S i : Nat} (h : S < 2 ^ i) : ∀ k, orS ρ S (i + k) = orS ρ S i
  | 0 => rfl
  | k + 1 => by rw [show i + (k + 1) = (i + k) + 1 from rfl, orS_s, m_hi h (by omega), if_neg (by decide), orS_up h k]
theorem orS_top {ρ : Nat → Nat} {S i : Nat} (h : S < 2 ^ i) (hi : i ≤ 9) : orS ρ S 9 = orS ρ S i := by
  have := orS_up (ρ := ρ) h (9 - i)
  rwa [show i + (9 - i) = 9 by omega] at this
theorem m_addbit {i s : Nat} (h : s < 2 ^ i) (p : Nat) : (2 ^ i + s).testBit p = if p = i then true else s.testBit p := by
  have e : 2 ^ i + s = 2 ^ i * 1 + s := by omega
  rw [e, Nat.testBit_two_pow_mul_add _ h]
  by_cases c : p < i
  · rw [if_pos c, if_neg (by omega)]
  · rw [if_neg c]
    by_cases c2 : p = i
    · subst c2; simp
    · rw [if_neg c2, m_hi h (by omega)]
      exact m_hi (show 1 < 2 ^ 1 by decide) (by omega)
theorem orS_add {ρ : Nat → Nat} {i s : Nat} (h : s < 2 ^ i) (hi : i < 9) : orS ρ (2 ^ i + s) 9 = orS ρ s 9 ||| ρ i := by
  have h2 : 2 ^ i + s < 2 ^ (i + 1) := by rw [Nat.pow_succ]; omega
  rw [orS_top h2 (by omega), orS_s, m_addbit h, if_pos rfl, if_pos rfl, orS_top h (by omega)]
  congr 1
  exact orS_congr i fun p hp => by rw [m_addbit h, if_neg (by omega)]
theorem sp_fillSets {σ : SS} {ρ : Nat → Nat} {m M : Nat} (hs : SG ρ m M σ) (hm : m ≤ 9) {Q : SS → Prop} (q : ∀ τ, SB (fun k => k = 83) σ τ → (∀ S, S < 2 ^ m → τ 83 S = nI (orS ρ S 9)) → Q τ) : wp_X0_fillSets σ Q := by
  unfold wp_X0_fillSets
  have keep : ∀ τ, SB (fun k => k = 83) σ τ → SG ρ m M τ := fun τ h => ⟨by rw [h 80 (by decide)]; exact hs.1, by rw [h 80 (by decide)]; exact hs.2.1, fun p hp => by rw [h 81 (by decide)]; exact hs.2.2 p hp⟩
  refine Li.up (N := m) 0 (fun i τ v => v = nI i ∧ SB (fun k => k = 83) σ τ ∧ ∀ S, S < 2 ^ i → τ 83 S = nI (orS ρ S 9)) (by omega) ⟨rfl, SB.rf.w rfl, fun S hS => ?_⟩ ?_ ?_
  · have e : S = 0 := by simp at hS; omega
    subst e
    rw [u2s]
    rw [show orS ρ 0 9 = orS ρ 0 0 from orS_top (by decide) (by decide)]
    rfl
  · rintro rc i τ v _ hi ⟨rfl, hS, t⟩ k
    have hg := keep τ hS
    unfold bd_X0_fillSets_9
    refine br_f (c_nle 9 (by omega)) ?_
    rw [hg.1]
    refine br_f (nI_ge hi (by omega)) (sp_of (by omega) ?_)
    have hp : 2 ^ i ≤ 2 ^ 8 := Nat.pow_le_pow_right (by omega) (by omega)
    rw [hg.2.2 i (by omega), mI_shl1 (by omega)]
    refine Li.up (N := 2 ^ i) 0 (fun s υ w => w = nI s ∧ SB (fun k => k = 83) σ υ ∧ ∀ S, S < 2 ^ i + s → υ 83 S = nI (orS ρ S 9)) (Nat.zero_le _) ⟨rfl, hS, t⟩ ?_ ?_
    · rintro rc2 s υ w _ hsi ⟨rfl, hS2, t2⟩ k2
      unfold bd_X0_fillSets_37
      refine br_f (nI_ge hsi (by omega)) ?_
      rw [nI_add]
      refine br_f (c_nle 512 (by omega)) ?_
      refine ⟨pk_in s 512 (by omega), pk_in (2 ^ i + s) 512 (by omega), ?_⟩
      rintro σ3 rfl
      refine k2 _ _ ⟨nI_1 s, hS2.w rfl, fun S h => ?_⟩
      rw [pk_cl (2 ^ i + s), pk_cl s, t2 s (by omega), mI_or, u2i]
      by_cases c : S = 2 ^ i + s
      · rw [if_pos ⟨rfl, c⟩, c, orS_add hsi (by omega)]
      · rw [if_neg (by omega)]; exact t2 S (by omega)
    · rintro rc2 υ w ⟨rfl, hS2, t2⟩
      unfold bd_X0_fillSets_37
      refine br_t (nI_le (Nat.le_refl _) (by omega)) (k _ _ ⟨nI_1 i, hS2, fun S h => t2 S ?_⟩)
      rw [Nat.pow_succ] at h; omega
  · rintro rc τ v ⟨rfl, hS, t⟩
    unfold bd_X0_fillSets_9
    have hg := keep τ hS
    refine br_c (fun _ => q τ hS t) (fun _ => ?_)
    rw [hg.1]
    exact br_t (nI_le (Nat.le_refl _) (by omega)) (q τ hS t)
/-- the fewest so far, the set told, how many there are, and who is in each -/
def tst (ρ : Nat → Nat) : Nat → Nat × Option Nat × Nat × Nat
  | 0 => (10, none, 0, 0)
  | n + 1 => if orS ρ n 9 = ALL ∧ pc n ≤ (tst ρ n).1 then (if pc n < (tst ρ n).1 then (pc n, some n, 1, n) else ((tst ρ n).1, (tst ρ n).2.1, (tst ρ n).2.2.1 + 1, (tst ρ n).2.2.2 &&& n)) else tst ρ n
theorem tst_s (ρ : Nat → Nat) (n : Nat) : tst ρ (n + 1) = if orS ρ n 9 = ALL ∧ pc n ≤ (tst ρ n).1 then (if pc n < (tst ρ n).1 then (pc n, some n, 1, n) else ((tst ρ n).1, (tst ρ n).2.1, (tst ρ n).2.2.1 + 1, (tst ρ n).2.2.2 &&& n)) else tst ρ n := rfl
theorem tst_le (ρ : Nat → Nat) : ∀ n, (tst ρ n).1 ≤ 24
  | 0 => by show 10 ≤ 24; omega
  | n + 1 => by
    have h := tst_le ρ n
    rw [tst_s]
    split
    · split
      · exact pc_le n
      · exact h
    · exact h
theorem sp_trySets {σ : SS} {ρ : Nat → Nat} {m M : Nat} (hs : SG ρ m M σ) (hρ : ∀ p, ρ p < 16777216) (hm : m ≤ 9) {Q : SS → Prop} (q : ∀ τ, SB (fun k => k = 82 ∨ k = 83) σ τ → τ 82 2 = oN (tst ρ (2 ^ m)).2.1 → τ 82 3 = nI (tst ρ (2 ^ m)).2.2.1 → τ 82 4 = nI (tst ρ (2 ^ m)).2.2.2 → Q τ) : wp_X0_trySets σ Q := by
  unfold wp_X0_trySets
  have hp : 2 ^ m ≤ 2 ^ 9 := Nat.pow_le_pow_right (by omega) hm
  rintro σ1 e1
  have k1 : SB (fun k => k = 82 ∨ k = 83) σ σ1 := by rw [e1]; exact ((SB.rf.w (Or.inl rfl)).w (Or.inl rfl)).w (Or.inl rfl)
  have keep : ∀ τ, SB (fun k => k = 82 ∨ k = 83) σ τ → SG ρ m M τ := fun τ h => ⟨by rw [h 80 (by decide)]; exact hs.1, by rw [h 80 (by decide)]; exact hs.2.1, fun p hp => by rw [h 81 (by decide)]; exact hs.2.2 p hp⟩
  refine sp_fillSets (keep _ k1) hm fun σ2 k2 t => ?_
  have k2' : SB (fun k => k = 82 ∨ k = 83) σ σ2 := k1.tr (k2.mono fun k h => Or.inr h)
  rw [(keep _ k1).1, mI_shl1 (by omega)]
  refine Lii.up (N := 2 ^ m) 0 (fun i τ v w => w = nI i ∧ v = nI (tst ρ i).1 ∧ SB (fun k => k = 82 ∨ k = 83) σ τ ∧ (∀ S, S < 2 ^ m → τ 83 S = nI (orS ρ S 9)) ∧ τ 82 2 = oN (tst ρ i).2.1 ∧ τ 82 3 = nI (tst ρ i).2.2.1 ∧ τ 82 4 = nI (tst ρ i).2.2.2) (Nat.zero_le _) ⟨rfl, rfl, k2', t, ?_, ?_, ?_⟩ ?_ ?_
  · rw [k2 82 (by decide), e1, u2j _ _ _ (by decide), u2j _ _ _ (by decide), u2s]; rfl
  · rw [k2 82 (by decide), e1, u2j _ _ _ (by decide), u2s]; rfl
  · rw [k2 82 (by decide), e1, u2s]; rfl
  · rintro rc i τ v w _ hi ⟨rfl, rfl, hS, t0, t1, t2, t3⟩ k
    have hle := tst_le ρ i
    have hpc := pc_le i
    unfold bd_X0_trySets_34
    refine br_f (nI_ge hi (by omega)) (br_f (c_nle 512 (by omega)) (sp_bc (by omega) ⟨pk_in i 512 (by omega), ?_⟩))
    have hol := orS_lt hρ i 9
    rw [pk_cl i, t0 i hi]
    refine pk_eq (orS ρ i 9) ALL (fun ca => ?_) (fun ca => ?_) rfl rfl (by omega) (by decide)
    · refine pk_le (pc i) (tst ρ i).1 (fun cb => ?_) (fun cb => ?_)
      · refine pk_le (tst ρ i).1 (pc i) (fun cc => ?_) (fun cc => ?_)
        · rintro σ4 e4
          refine k _ _ _ ⟨nI_1 i, ?_, ?_, ?_, ?_, ?_, ?_⟩
          · rw [tst_s, if_pos ⟨ca, cb⟩, if_neg (by omega)]
          · rw [e4]; exact (hS.w (Or.inl rfl)).w (Or.inl rfl)
          · intro S h; rw [e4, u2k _ _ _ _ (by decide), u2k _ _ _ _ (by decide)]; exact t0 S h
          · rw [e4, u2j _ _ _ (by decide), u2j _ _ _ (by decide), t1, tst_s, if_pos ⟨ca, cb⟩, if_neg (by omega)]
          · rw [e4, u2j _ _ _ (by decide), u2s, t2, tst_s, if_pos ⟨ca, cb⟩, if_neg (by omega)]; exact nI_1 _
          · rw [e4, u2s, u2j _ _ _ (by decide), t3, mI_and, tst_s, if_pos ⟨ca, cb⟩, if_neg (by omega)]
        · rintro σ5 e5 σ6 e6
          refine k _ _ _ ⟨nI_1 i, ?_, ?_, ?_, ?_, ?_, ?_⟩
          · rw [tst_s, if_pos ⟨ca, cb⟩, if_pos (by omega)]
          · rw [e6, e5]; exact ((((hS.w (Or.inl rfl)).w (Or.inl rfl)).w (Or.inl rfl)).w (Or.inl rfl)).w (Or.inl rfl)
          · intro S h; rw [e6, e5]; simp only [u2i]; simp; exact t0 S h
          · rw [e6, e5, tst_s, if_pos ⟨ca, cb⟩, if_pos (by omega)]; simp only [u2i]; simp; rfl
          · rw [e6, e5, tst_s, if_pos ⟨ca, cb⟩, if_pos (by omega)]; simp only [u2i]; simp; rfl
          · rw [e6, e5, tst_s, if_pos ⟨ca, cb⟩, if_pos (by omega)]; simp only [u2i]; simp
      · refine k _ _ _ ⟨nI_1 i, ?_, hS, t0, ?_, ?_, ?_⟩
        all_goals rw [tst_s, if_neg (by omega)]
        all_goals assumption
    · refine k _ _ _ ⟨nI_1 i, ?_, hS, t0, ?_, ?_, ?_⟩
      all_goals rw [tst_s, if_neg (fun z => ca z.1)]
      all_goals assumption
  · rintro rc τ v w ⟨rfl, rfl, hS, t0, t1, t2, t3⟩
    unfold bd_X0_trySets_34
    exact br_t (nI_le (Nat.le_refl _) (by omega)) (q τ hS t1 t2 t3)
