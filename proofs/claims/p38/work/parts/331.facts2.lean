/-! gaps and watched stones are all the stones, on -/
theorem gln_0 {S s : Nat} (hs : s < 24) (h : S.testBit s = true) : gln S s = 0 := by
  unfold gln
  have e : fnd (fun n => S.testBit ((s + n) % 24)) 24 = some 0 := fnd_of (by decide) (by show S.testBit ((s + 0) % 24) = true; rw [show (s + 0) % 24 = s by omega]; exact h) fun q hq => absurd hq (by omega)
  rw [e]
theorem bit_ex {S : Nat} (hS : S < 16777216) (h0 : S ≠ 0) : ∃ b, b < 24 ∧ S.testBit b = true := by
  apply Classical.byContradiction
  intro z
  refine h0 (Nat.eq_of_testBit_eq fun k => ?_)
  rw [Nat.zero_testBit]
  by_cases c : k < 24
  · cases d : S.testBit k with
    | false => rfl
    | true => exact absurd ⟨k, c, d⟩ z
  · exact m_hi (n := 24) hS (by omega)
theorem gln_fnd {S s : Nat} (hS : S < 16777216) (hs : s < 24) (h0 : S ≠ 0) : ∃ n, n < 24 ∧ gln S s = n ∧ S.testBit ((s + n) % 24) = true ∧ ∀ q, q < n → S.testBit ((s + q) % 24) = false := by
  obtain ⟨b, hb, hb2⟩ := bit_ex hS h0
  unfold gln
  cases e : fnd (fun n => S.testBit ((s + n) % 24)) 24 with
  | none =>
    have := fnd_none e ((b + 24 - s) % 24) (Nat.mod_lt _ (by decide))
    rw [show (s + (b + 24 - s) % 24) % 24 = b by omega, hb2] at this
    cases this
  | some n =>
    obtain ⟨h1, h2, h3⟩ := fnd_some e
    exact ⟨n, h1, rfl, h2, h3⟩
theorem gln_rec {S s : Nat} (hS : S < 16777216) (hs : s < 24) (h0 : S ≠ 0) (h : S.testBit s = false) : gln S s = 1 + gln S ((s + 1) % 24) := by
  obtain ⟨n, h1, e, h2, h3⟩ := gln_fnd hS hs h0
  have hn : n ≠ 0 := fun z => by
    subst z
    rw [show (s + 0) % 24 = s by omega, h] at h2
    cases h2
  rw [e]
  have e2 : gln S ((s + 1) % 24) = n - 1 := by
    unfold gln
    have e3 : fnd (fun n => S.testBit (((s + 1) % 24 + n) % 24)) 24 = some (n - 1) := fnd_of (by omega) (by
      show S.testBit (((s + 1) % 24 + (n - 1)) % 24) = true
      rw [show ((s + 1) % 24 + (n - 1)) % 24 = (s + n) % 24 by omega]; exact h2) fun q hq => by
      show S.testBit (((s + 1) % 24 + q) % 24) = false
      rw [show ((s + 1) % 24 + q) % 24 = (s + (q + 1)) % 24 by omega]
      exact h3 (q + 1) (by omega)
    rw [e3]
  omega
theorem gap_all {S : Nat} (hS : S < 16777216) : pc S + fb_sm (fun s => if gst S s then gln S s else 0) 24 = 24 := by
  by_cases h0 : S = 0
  · subst h0
    decide +kernel
  · have hA : fb_sm (fun s => if S.testBit s then 0 else 1 + gln S ((s + 1) % 24)) 24 = fb_sm (gln S) 24 := fb_sm_cong fun s hs => by
      cases c : S.testBit s with
      | true => rw [if_pos rfl, gln_0 hs c]
      | false => rw [if_neg (by decide), gln_rec hS hs h0 c]
    have hB := fb_rot (gln S)
    have hC : fb_sm (fun s => (if S.testBit s then 0 else 1 + gln S ((s + 1) % 24)) + (if S.testBit s then gln S ((s + 1) % 24) else 0)) 24 = fb_sm (fun s => (if !S.testBit s then 1 else 0) + gln S ((s + 1) % 24)) 24 := fb_sm_cong fun s _ => by
      cases S.testBit s with
      | true => rfl
      | false => rfl
    rw [fb_sm_add, fb_sm_add, hA, hB] at hC
    have hD : fb_sm (fun s => if S.testBit s then gln S ((s + 1) % 24) else 0) 24 = fb_sm (fun s => if gst S s then gln S s else 0) 24 := by
      rw [← fb_rot (fun s => if gst S s then gln S s else 0)]
      refine fb_sm_cong fun s hs => ?_
      show _ = if gst S ((s + 1) % 24) then gln S ((s + 1) % 24) else 0
      unfold gst
      rw [if_neg h0, show ((s + 1) % 24 + 23) % 24 = s by omega]
      cases d : S.testBit ((s + 1) % 24) with
      | true =>
        rw [gln_0 (Nat.mod_lt _ (by decide)) d]
        simp
      | false => simp
    have hE := fb_sm_ct (fun s => !S.testBit s) 24
    have hF := fb_ct_not (fun s => S.testBit s) 24
    unfold pc
    omega
theorem gle_gct (S : Nat) : fb_sm (gle S) (gct S) = fb_sm (fun s => if gst S s then gln S s else 0) 24 := gle_sum S 24 (by omega)
theorem gle_0 {S k : Nat} (h : gct S ≤ k) : gle S k = 0 := by unfold gle; rw [gat_none h]
theorem gle_12 (S : Nat) : fb_sm (gle S) 12 = fb_sm (gle S) (gct S) := by
  have h := gct_le S
  have key : ∀ j, fb_sm (gle S) (gct S + j) = fb_sm (gle S) (gct S) := by
    intro j
    induction j with
    | zero => rfl
    | succ j ih => rw [show gct S + (j + 1) = (gct S + j) + 1 from rfl, fb_sm_succ, ih, gle_0 (by omega)]; rfl
  have := key (12 - gct S)
  rwa [show gct S + (12 - gct S) = 12 by omega] at this
theorem glm_12 (S : Nat) : glm S 12 = glm S (gct S) := by
  have h := gct_le S
  have key : ∀ j, glm S (gct S + j) = glm S (gct S) := by
    intro j
    induction j with
    | zero => rfl
    | succ j ih => rw [show gct S + (j + 1) = (gct S + j) + 1 from rfl, glm_s, ih, gle_0 (by omega), if_neg (by omega)]
  have := key (12 - gct S)
  rwa [show gct S + (12 - gct S) = 12 by omega] at this
theorem isWell_1 (g : Nat → Nat) (f : Nat → Nat → Nat) : a_isWell g f = 1 := by
  unfold a_isWell
  rw [gle_12, gle_gct, if_pos (gap_all (sn_lt g f))]
theorem gap_in {S s : Nat} (hS : S < 16777216) (hs : s < 24) (h : gst S s = true) : 1 ≤ gln S s ∧ (gln S s < 24 → S.testBit ((s + 23) % 24) = true ∧ S.testBit ((s + gln S s) % 24) = true) ∧ ∀ k, k < gln S s → S.testBit ((s + k) % 24) = false := by
  by_cases h0 : S = 0
  · subst h0
    have e : gln 0 s = 24 := by
      unfold gln
      rw [fnd_no fun q _ => Nat.zero_testBit _]
    rw [e]
    exact ⟨by omega, fun z => absurd z (by omega), fun k _ => Nat.zero_testBit _⟩
  · obtain ⟨n, h1, e, h2, h3⟩ := gln_fnd hS hs h0
    unfold gst at h
    rw [if_neg h0] at h
    have h := Bool.and_eq_true_iff.mp h
    have hn : n ≠ 0 := fun z => by
      subst z
      rw [show (s + 0) % 24 = s by omega] at h2
      rw [h2] at h
      exact absurd h.1 (by decide)
    rw [e]
    exact ⟨by omega, fun _ => ⟨h.2, h2⟩, h3⟩
theorem gat_lt {S k k' s s' : Nat} (hk : k < k') (h : fb_ct (gst S) s = k) (h' : fb_ct (gst S) s' = k') : s < s' := by
  apply Classical.byContradiction
  intro z
  have := fb_ct_mono (gst S) (show s' ≤ s by omega)
  omega
/-! the fewest watch -/
theorem tst_cnt {ρ : Nat → Nat} : ∀ n, n ≤ 512 → ((tst ρ n).2.1 = none → (tst ρ n).2.2.1 = 0) ∧ ((tst ρ n).2.1 ≠ none → 1 ≤ (tst ρ n).2.2.1) ∧ (tst ρ n).2.2.1 ≤ n
  | 0, _ => ⟨fun _ => rfl, fun h => absurd rfl h, Nat.le_refl _⟩
  | n + 1, h => by
    obtain ⟨h1, h2, h3⟩ := tst_cnt (ρ := ρ) n (by omega)
    have e := (tst_isM (ρ := ρ) n (by omega)).2
    have hp := pc_lt9 (a := n) (m := 9) (by omega)
    rw [tst_s]
    by_cases c : orS ρ n 9 = ALL ∧ pc n ≤ (tst ρ n).1
    · rw [if_pos c]
      by_cases d : pc n < (tst ρ n).1
      · rw [if_pos d]
        refine ⟨fun z => ?_, fun _ => ?_, ?_⟩
        · have z : (some n : Option Nat) = none := z
          cases z
        · show 1 ≤ 1
          omega
        · show 1 ≤ n + 1
          omega
      · rw [if_neg d]
        refine ⟨fun z => ?_, fun z => ?_, ?_⟩
        · have z : (tst ρ n).2.1 = none := z
          rw [z] at e
          have e : (tst ρ n).1 = 10 := e
          omega
        · show 1 ≤ (tst ρ n).2.2.1 + 1
          omega
        · show (tst ρ n).2.2.1 + 1 ≤ n + 1
          omega
    · rw [if_neg c]
      exact ⟨h1, h2, by omega⟩
theorem few_no {g : Nat → Nat} {f : Nat → Nat → Nat} (ho : OkW g f) (h : few (NR g f) (g 0) = none) : 0 < fb_ct (fun s => decide (srs (NR g f) s 9 = 0)) 24 ∧ a_watches g f = 0 := by
  have h9 := ho.1
  have hi := few_isM (ρ := NR g f) h9
  rw [h] at hi
  have hi : ∀ T, ¬ full (NR g f) (g 0) T := hi
  constructor
  · apply Classical.byContradiction
    intro z
    have hz := fb_ct_zero.mp (show fb_ct (fun s => decide (srs (NR g f) s 9 = 0)) 24 = 0 by omega)
    refine hi (2 ^ g 0 - 1) ⟨by have := Nat.two_pow_pos (g 0); omega, (full_iff (NR_lt g f)).mpr fun s hs => ?_⟩
    have h1 := hz s hs
    simp only [decide_eq_false_iff_not] at h1
    obtain ⟨p, p1, p2, p3⟩ := (orS_bit (NR g f) 511 s 9).mp (srs_nz.mp h1)
    refine (orS_bit (NR g f) _ s 9).mpr ⟨p, p1, ?_, p3⟩
    rw [Nat.testBit_two_pow_sub_one]
    by_cases c : p < g 0
    · simp [c]
    · rw [NR_0 (by omega), Nat.zero_testBit] at p3
      cases p3
  · unfold a_watches
    rw [(tst_cnt (ρ := NR g f) (2 ^ g 0) (p2_le h9)).1 h]
    rfl
theorem few_yes {g : Nat → Nat} {f : Nat → Nat → Nat} (ho : OkW g f) {t : Nat} (h : few (NR g f) (g 0) = some t) : fb_ct (fun s => decide (srs (NR g f) s 9 = 0)) 24 = 0 ∧ t < 512 ∧ a_isFull g f (nI t) = 1 ∧ (∃ c, a_watches g f = nI c ∧ 1 ≤ c ∧ c ≤ 512) ∧ a_wouldNeed g f (nI (g 1)) = nI (pc t) := by
  have h9 := ho.1
  have h2 := p2_le h9
  have hf := few_lt h9 h
  refine ⟨?_, by omega, ?_, ?_, ?_⟩
  · refine fb_ct_zero.mpr fun s hs => ?_
    have hb := (full_iff (NR_lt g f)).mp hf.2 s hs
    obtain ⟨p, p1, _, p3⟩ := (orS_bit (NR g f) t s 9).mp hb
    have := srs_nz.mpr ((orS_bit (NR g f) 511 s 9).mpr ⟨p, p1, b511 p1, p3⟩)
    simp [this]
  · unfold a_isFull
    rw [ox_in hf.1 (by omega)]
    show (if orS (NR g f) t 9 = ALL then (1 : Int32) else 0) = 1
    rw [if_pos hf.2]
  · have hc := tst_cnt (ρ := NR g f) (2 ^ g 0) h2
    refine ⟨_, rfl, hc.2.1 fun z => ?_, by omega⟩
    have h : (tst (NR g f) (2 ^ g 0)).2.1 = some t := h
    rw [z] at h; cases h
  · unfold a_wouldNeed
    rw [ox_in ho.2.1 (by decide)]
    show (match few (row g f (g 1)) (g 0) with | none => (-4 : Int32) | some t => nI (pc t)) = nI (pc t)
    have h : few (row g f (g 1)) (g 0) = some t := h
    rw [h]
