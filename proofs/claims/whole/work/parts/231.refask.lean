/-! the reference: what it answers -/
theorem tst_min {ρ : Nat → Nat} {n T : Nat} (hn : n ≤ 512) (hT : T < n) (hf : orS ρ T 9 = ALL) : (tst ρ n).1 ≤ pc T := by
  obtain ⟨h1, h2⟩ := tst_isM (ρ := ρ) n hn
  cases e : (tst ρ n).2.1 with
  | none => rw [e] at h1; exact absurd ⟨hT, hf⟩ (h1 T)
  | some t =>
    rw [e] at h1 h2
    have h2 : (tst ρ n).1 = pc t := h2
    have := h1.2 T ⟨hT, hf⟩
    unfold le2 at this
    omega
def isF (ρ : Nat → Nat) (c T : Nat) : Bool := decide (orS ρ T 9 = ALL) && decide (pc T = c)
theorem tst_ways {ρ : Nat → Nat} : ∀ n, n ≤ 512 → (tst ρ n).2.2.1 = fb_ct (isF ρ (tst ρ n).1) n
  | 0, _ => rfl
  | n + 1, hn => by
    have ih := tst_ways (ρ := ρ) n (by omega)
    have hm : ∀ T, T < n → orS ρ T 9 = ALL → (tst ρ n).1 ≤ pc T := fun T hT hf => tst_min (by omega) hT hf
    rw [tst_s]
    by_cases c : orS ρ n 9 = ALL ∧ pc n ≤ (tst ρ n).1
    · rw [if_pos c]
      by_cases c2 : pc n < (tst ρ n).1
      · rw [if_pos c2]
        show 1 = fb_ct (isF ρ (pc n)) (n + 1)
        have hz : fb_ct (isF ρ (pc n)) n = 0 := fb_ct_zero.mpr fun T hT => by
          unfold isF
          cases h : decide (orS ρ T 9 = ALL) with
          | false => rfl
          | true =>
            have := hm T hT (of_decide_eq_true h)
            simp only [Bool.true_and, decide_eq_false_iff_not]
            omega
        rw [fb_ct_succ, hz, if_pos (by unfold isF; simp [c.1])]
      · rw [if_neg c2]
        show (tst ρ n).2.2.1 + 1 = fb_ct (isF ρ (tst ρ n).1) (n + 1)
        rw [fb_ct_succ, if_pos (by unfold isF; simp [c.1]; omega), ih]
    · rw [if_neg c, fb_ct_succ, if_neg, ih]
      · rfl
      · intro z
        unfold isF at z
        simp only [Bool.and_eq_true, decide_eq_true_eq] at z
        exact c ⟨z.1, by omega⟩
theorem tst_each {ρ : Nat → Nat} {p : Nat} : ∀ n, n ≤ 512 → ((tst ρ n).2.2.2.testBit p = true ↔ (tst ρ n).2.1 ≠ none ∧ ∀ T, T < n → isF ρ (tst ρ n).1 T = true → T.testBit p = true)
  | 0, _ => by
    show ((0 : Nat).testBit p = true ↔ (none : Option Nat) ≠ none ∧ _)
    simp
  | n + 1, hn => by
    have ih := tst_each (ρ := ρ) (p := p) n (by omega)
    have hm : ∀ T, T < n → orS ρ T 9 = ALL → (tst ρ n).1 ≤ pc T := fun T hT hf => tst_min (by omega) hT hf
    obtain ⟨h1, h2⟩ := tst_isM (ρ := ρ) n (by omega)
    have hp : pc n ≤ 9 := pc_lt9 (m := 9) (by omega)
    rw [tst_s]
    by_cases c : orS ρ n 9 = ALL ∧ pc n ≤ (tst ρ n).1
    · rw [if_pos c]
      by_cases c2 : pc n < (tst ρ n).1
      · rw [if_pos c2]
        show n.testBit p = true ↔ (some n : Option Nat) ≠ none ∧ ∀ T, T < n + 1 → isF ρ (pc n) T = true → T.testBit p = true
        refine ⟨fun h => ⟨by simp, fun T hT hf => ?_⟩, fun h => h.2 n (by omega) (by unfold isF; simp [c.1])⟩
        by_cases eT : T = n
        · subst eT; exact h
        · unfold isF at hf
          simp only [Bool.and_eq_true, decide_eq_true_eq] at hf
          have := hm T (by omega) hf.1
          omega
      · rw [if_neg c2]
        show ((tst ρ n).2.2.2 &&& n).testBit p = true ↔ (tst ρ n).2.1 ≠ none ∧ ∀ T, T < n + 1 → isF ρ (tst ρ n).1 T = true → T.testBit p = true
        rw [Nat.testBit_and, Bool.and_eq_true, ih]
        have hfn : isF ρ (tst ρ n).1 n = true := by unfold isF; simp [c.1]; omega
        refine ⟨fun h => ⟨h.1.1, fun T hT hf => ?_⟩, fun h => ⟨⟨h.1, fun T hT hf => h.2 T (by omega) hf⟩, h.2 n (by omega) hfn⟩⟩
        by_cases eT : T = n
        · subst eT; exact h.2
        · exact h.1.2 T (by omega) hf
    · rw [if_neg c, ih]
      refine ⟨fun h => ⟨h.1, fun T hT hf => ?_⟩, fun h => ⟨h.1, fun T hT hf => h.2 T (by omega) hf⟩⟩
      by_cases eT : T = n
      · subst eT
        unfold isF at hf
        simp only [Bool.and_eq_true, decide_eq_true_eq] at hf
        exact absurd ⟨hf.1, by omega⟩ c
      · exact h.2 T (by omega) hf
/-! the fewest -/
theorem rp_fewestIn {g : Nat → Nat} {f : Nat → Nat → Nat} {σ : SS} (h : R0 g f σ) (ho : OkW g f) {hh : Nat} (hhh : hh < 12) {Q : Int32 → SS → Prop} (q : Q (oN (few (row g f hh) (g 0))) σ) : wp_X10_fewestIn σ (nI hh) Q := by
  have h9 := ho.1
  have h2 := p2_le h9
  have hp2 := Nat.two_pow_pos (g 0)
  unfold wp_X10_fewestIn
  have hρ := row_lt g f hh
  refine Lii.up (N := 2 ^ g 0) 0 (fun i τ v w => τ = σ ∧ w = nI i ∧ ∃ r, v = oN r ∧ isM (fun T => T < i ∧ orS (row g f hh) T 9 = ALL) r) (by omega) ⟨rfl, rfl, none, rfl, fun T hT => absurd hT.1 (by omega)⟩ ?_ ?_
  · rintro rc i τ v w _ hi ⟨rfl, rfl, r, rfl, hr⟩ k
    unfold bd_X10_fewestIn_5
    refine rp_all h ho (br_f (by rw [nI_ltI (by omega) (by omega)]; omega) (rp_seenIn h ho (by omega) hhh ?_))
    rw [i_all (orS_lt hρ i 9)]
    have same : orS (row g f hh) i 9 ≠ ALL → isM (fun T => T < i + 1 ∧ orS (row g f hh) T 9 = ALL) r := fun c => isM_iff hr fun T => ⟨fun z => ⟨by omega, z.2⟩, fun z => ⟨by
      by_cases e : T = i
      · subst e; exact absurd z.2 c
      · omega, z.2⟩⟩
    refine br_c (fun c => ?_) (fun c => k _ _ _ ⟨rfl, nI_1 i, r, rfl, same c⟩)
    have new : (∀ t, r = some t → pc i < pc t) → isM (fun T => T < i + 1 ∧ orS (row g f hh) T 9 = ALL) (some i) := fun hlt => ⟨⟨by omega, c⟩, fun T hT => by
      by_cases e : T = i
      · subst e; exact Or.inr ⟨rfl, Nat.le_refl _⟩
      · cases er : r with
        | none => rw [er] at hr; exact absurd ⟨by omega, hT.2⟩ (hr T)
        | some t =>
          rw [er] at hr
          exact le2_tr (Or.inl (hlt t er)) (hr.2 T ⟨by omega, hT.2⟩)⟩
    cases er : r with
    | none =>
      refine br_t rfl (k _ _ _ ⟨rfl, nI_1 i, some i, rfl, new fun t e => by rw [er] at e; cases e⟩)
    | some t =>
      have hr' := hr
      rw [er] at hr'
      have ht := hr'.1.1
      refine br_f (nI_n4 (by omega)) (rp_bits (by omega) (rp_bits (by omega) ?_))
      have b1 := pc_le t
      have b2 := pc_le i
      rw [nI_leI (by omega) (by omega)]
      refine br_c (fun d => k _ _ _ ⟨rfl, nI_1 i, some t, rfl, ⟨⟨by omega, hr'.1.2⟩, fun T hT => ?_⟩⟩) (fun d => k _ _ _ ⟨rfl, nI_1 i, some i, rfl, new fun t' e => by rw [er] at e; cases e; omega⟩)
      by_cases e : T = i
      · subst e
        unfold le2; omega
      · exact hr'.2 T ⟨by omega, hT.2⟩
  · rintro rc τ v w ⟨rfl, rfl, r, rfl, hr⟩
    unfold bd_X10_fewestIn_5
    refine rp_all h ho (br_t (by rw [nI_ltI (by omega) (by omega)]; omega) ?_)
    have e : r = few (row g f hh) (g 0) := isM_one hr (few_isM h9)
    rw [e]; exact q
theorem rp_fewNow {g : Nat → Nat} {f : Nat → Nat → Nat} {σ : SS} (h : R0 g f σ) (ho : OkW g f) {Q : Int32 → SS → Prop} (q : Q (oN (few (NR g f) (g 0))) σ) : wp_X10_fewestIn σ (σ 96 1) Q := by
  rw [h.g1]; exact rp_fewestIn h ho ho.2.1 q
theorem few_pc {g : Nat → Nat} {f : Nat → Nat → Nat} (h9 : g 0 ≤ 9) {t : Nat} (e : few (NR g f) (g 0) = some t) : (tst (NR g f) (2 ^ g 0)).1 = pc t := by
  have h2 := (tst_isM (ρ := NR g f) (2 ^ g 0) (p2_le h9)).2
  have e : (tst (NR g f) (2 ^ g 0)).2.1 = some t := e
  rw [e] at h2
  exact h2
theorem rp_isFewest {g : Nat → Nat} {f : Nat → Nat → Nat} {σ : SS} (h : R0 g f σ) (ho : OkW g f) {T t : Nat} (hT : T < 512) (ht : t < 512) {Q : Int32 → SS → Prop} (h1 : isF (NR g f) (pc t) T = true → Q 1 σ) (h0 : isF (NR g f) (pc t) T = false → Q 0 σ) : wp_X10_isFewest σ (nI T) (nI t) Q := by
  unfold wp_X10_isFewest
  refine rp_bits (by omega) (rp_bits (by omega) ?_)
  have b1 := pc_le t
  have b2 := pc_le T
  rw [nI_eq (by omega) (by omega)]
  unfold isF at h1 h0
  refine br_c (fun c => rp_seen h ho (by omega) ?_) (fun c => h0 (by simp [c]))
  rw [i_all (orS_lt (NR_lt g f) T 9)]
  exact br_c (fun d => h1 (by simp [c, d])) (fun d => h0 (by simp [d]))
theorem rp_watches {g : Nat → Nat} {f : Nat → Nat → Nat} {σ : SS} (h : R0 g f σ) (ho : OkW g f) {Q : Int32 → SS → Prop} (q : Q (a_watches g f) σ) : wp_X10_watches σ Q := by
  have h9 := ho.1
  have h2 := p2_le h9
  have hp2 := Nat.two_pow_pos (g 0)
  unfold wp_X10_watches
  unfold a_watches at q
  have hw := tst_ways (ρ := NR g f) (2 ^ g 0) h2
  refine rp_fewNow h ho ?_
  cases ef : few (NR g f) (g 0) with
  | none =>
    have hz : (tst (NR g f) (2 ^ g 0)).2.2.1 = 0 := by
      rw [hw]
      refine fb_ct_zero.mpr fun T hT => ?_
      have := few_isM (ρ := NR g f) h9
      rw [ef] at this
      unfold isF
      cases hd : decide (orS (NR g f) T 9 = ALL) with
      | false => rfl
      | true => exact absurd ⟨hT, of_decide_eq_true hd⟩ (this T)
    rw [hz] at q
    refine Lii.up (N := 0) 0 (fun i τ v w => τ = σ ∧ v = 0 ∧ w = 0) (by omega) ⟨rfl, rfl, rfl⟩ (fun rc i τ v w _ hi => absurd hi (by omega)) ?_
    rintro rc τ v w ⟨rfl, rfl, rfl⟩
    unfold bd_X10_watches_15
    refine rp_all h ho (br_f (by rw [show (0 : Int32) = nI 0 from rfl, nI_ltI (by omega) (by omega)]; omega) (br_t rfl q))
  | some t =>
    have ht := (few_lt h9 ef).1
    have ep := few_pc h9 ef
    rw [ep] at hw
    refine Lii.up (N := 2 ^ g 0) 0 (fun i τ v w => τ = σ ∧ v = nI (fb_ct (isF (NR g f) (pc t)) i) ∧ w = nI i) (by omega) ⟨rfl, rfl, rfl⟩ ?_ ?_
    · rintro rc i τ v w _ hi ⟨rfl, rfl, rfl⟩ k
      unfold bd_X10_watches_15
      refine rp_all h ho (br_f (by rw [nI_ltI (by omega) (by omega)]; omega) (br_f (nI_n4 (by omega)) (rp_isFewest h ho (by omega) (by omega) (fun c => br_f (by decide) ?_) (fun c => br_t rfl ?_))))
      · rw [nI_1, nI_1]
        exact k _ _ _ ⟨rfl, by rw [fb_ct_succ, if_pos c], rfl⟩
      · rw [show (0 : Int32) = nI 0 from rfl, nI_add, nI_1]
        exact k _ _ _ ⟨rfl, by rw [fb_ct_succ, if_neg (by rw [c]; decide)], rfl⟩
    · rintro rc τ v w ⟨rfl, rfl, rfl⟩
      unfold bd_X10_watches_15
      refine rp_all h ho (br_t (by rw [nI_ltI (by omega) (by omega)]; omega) ?_)
      rw [← hw]; exact q
theorem rp_isNeeded {g : Nat → Nat} {f : Nat → Nat → Nat} {σ : SS} (h : R0 g f σ) (ho : OkW g f) {p : Nat} (hp : p < 9) {Q : Int32 → SS → Prop} (q : Q (nI ((tst (NR g f) (2 ^ g 0)).2.2.2.testBit p).toNat) σ) : wp_X10_isNeeded σ (nI p) Q := by
  have h9 := ho.1
  have h2 := p2_le h9
  have hp2 := Nat.two_pow_pos (g 0)
  have he := tst_each (ρ := NR g f) (p := p) (2 ^ g 0) h2
  unfold wp_X10_isNeeded
  refine rp_fewNow h ho ?_
  cases ef : few (NR g f) (g 0) with
  | none =>
    have ef' : (tst (NR g f) (2 ^ g 0)).2.1 = none := ef
    have hz : (tst (NR g f) (2 ^ g 0)).2.2.2.testBit p = false := by
      cases hb : (tst (NR g f) (2 ^ g 0)).2.2.2.testBit p with
      | false => rfl
      | true => exact absurd ef' (he.mp hb).1
    rw [hz] at q
    refine br_t rfl (Lii.up (N := 0) 0 (fun i τ v w => τ = σ ∧ v = 0 ∧ w = 0) (by omega) ⟨rfl, rfl, rfl⟩ (fun rc i τ v w _ hi => absurd hi (by omega)) ?_)
    rintro rc τ v w ⟨rfl, rfl, rfl⟩
    unfold bd_X10_isNeeded_26
    refine rp_all h ho (br_f (by rw [show (0 : Int32) = nI 0 from rfl, nI_ltI (by omega) (by omega)]; omega) (br_t rfl ⟨Or.inl rfl, q⟩))
  | some t =>
    have ht := (few_lt h9 ef).1
    have ef' : (tst (NR g f) (2 ^ g 0)).2.1 = some t := ef
    have ep := few_pc h9 ef
    rw [ep, ef'] at he
    have hbad : ∀ T, T < 2 ^ g 0 → isF (NR g f) (pc t) T = true → T.testBit p = false → Q 0 σ := by
      intro T hT hf hb
      have hz : (tst (NR g f) (2 ^ g 0)).2.2.2.testBit p = false := by
        cases hb2 : (tst (NR g f) (2 ^ g 0)).2.2.2.testBit p with
        | false => rfl
        | true => rw [(he.mp hb2).2 T hT hf] at hb; cases hb
      rw [hz] at q; exact q
    refine br_f (nI_n4 (by omega)) ?_
    -- all so far hold it, or one does not
    refine Lii.ex (fun τ v w => τ = σ ∧ ∃ i, w = nI i ∧ i ≤ 2 ^ g 0 ∧ ((v = 1 ∧ ∀ T, T < i → isF (NR g f) (pc t) T = true → T.testBit p = true) ∨ (v = 0 ∧ Q 0 σ))) (fun τ v w => 2 ^ g 0 - w.toNatClampNeg) ?_ ⟨rfl, 0, rfl, by omega, Or.inl ⟨rfl, fun T hT => absurd hT (by omega)⟩⟩
    rintro rc τ v w ⟨rfl, i, rfl, hi, hv⟩ k
    unfold bd_X10_isNeeded_26
    refine rp_all h ho ?_
    have e01 : v = 0 ∨ v = 1 := hv.elim (fun z => Or.inr z.1) (fun z => Or.inl z.1)
    rw [nI_ltI (by omega) (by omega)]
    refine br_c (fun c => ⟨e01, ?_⟩) (fun c => br_c (fun d => ⟨e01, ?_⟩) (fun d => ?_))
    · rcases hv with ⟨rfl, ha⟩ | ⟨rfl, hq⟩
      · have hz : (tst (NR g f) (2 ^ g 0)).2.2.2.testBit p = true := he.mpr ⟨by simp, fun T hT hf => ha T (by omega) hf⟩
        rw [hz] at q; exact q
      · exact hq
    · rcases hv with ⟨rfl, ha⟩ | ⟨rfl, hq⟩
      · exact absurd d (by decide)
      · exact hq
    · have ha : ∀ T, T < i → isF (NR g f) (pc t) T = true → T.testBit p = true := by
        rcases hv with ⟨rfl, ha⟩ | ⟨rfl, hq⟩
        · exact ha
        · exact absurd rfl d
      have hmu : 2 ^ g 0 - (nI (i + 1)).toNatClampNeg < 2 ^ g 0 - (nI i).toNatClampNeg := by
        rw [pk_cl (x := nI (i + 1)) (i + 1), pk_cl (x := nI i) i]; omega
      refine rp_has (by omega) (by omega) (fun c1 => br_f (by decide) ?_) (fun c1 => br_t rfl ?_)
      · rw [nI_1]
        refine k _ _ _ ⟨rfl, i + 1, rfl, by omega, Or.inl ⟨rfl, fun T hT hf => ?_⟩⟩ hmu
        by_cases e : T = i
        · subst e; exact c1
        · exact ha T (by omega) hf
      · refine rp_isFewest h ho (by omega) (by omega) (fun c2 => br_f (by decide) ?_) (fun c2 => br_t rfl ?_)
        · rw [nI_1]
          exact k _ _ _ ⟨rfl, i + 1, rfl, by omega, Or.inr ⟨rfl, hbad i (by omega) c2 c1⟩⟩ hmu
        · rw [nI_1]
          refine k _ _ _ ⟨rfl, i + 1, rfl, by omega, Or.inl ⟨rfl, fun T hT hf => ?_⟩⟩ hmu
          by_cases e : T = i
          · subst e; rw [c2] at hf; cases hf
          · exact ha T (by omega) hf
theorem rp_fewest {g : Nat → Nat} {f : Nat → Nat → Nat} {σ : SS} (h : R0 g f σ) (ho : OkW g f) {Q : Int32 → SS → Prop} (q : Q (a_fewest g f) σ) : wp_X10_fewest σ Q := by
  unfold wp_X10_fewest
  exact rp_fewNow h ho q
theorem rp_fewestAgain {g : Nat → Nat} {f : Nat → Nat → Nat} {σ : SS} (h : R0 g f σ) (ho : OkW g f) {Q : Int32 → SS → Prop} (q : Q (a_fewest g f) σ) : wp_X10_fewestAgain σ Q := by
  unfold wp_X10_fewestAgain
  exact rp_fewNow h ho q
theorem rp_isFull {g : Nat → Nat} {f : Nat → Nat → Nat} {σ : SS} (h : R0 g f σ) (ho : OkW g f) (x : Int32) {Q : Int32 → SS → Prop} (q : Q (a_isFull g f x) σ) : wp_X10_isFull σ x Q := by
  have h9 := ho.1
  have h2 := p2_le h9
  have hp2 := Nat.two_pow_pos (g 0)
  unfold wp_X10_isFull
  unfold a_isFull at q
  refine rp_all h ho (rp_in0 (n := 2 ^ g 0) (by omega) (by rw [nI_toInt (by omega)]; omega) x (fun p hp ex e => br_f (by decide) ?_) (fun e => by rw [e] at q; exact br_t rfl q))
  rw [e] at q
  subst ex
  refine rp_seen h ho (by omega) ?_
  rw [i_all (orS_lt (NR_lt g f) p 9)]
  refine br_c (fun c => ?_) (fun c => ?_)
  · simp only [if_pos c] at q; exact q
  · simp only [if_neg c] at q; exact q
theorem rp_wouldNeed {g : Nat → Nat} {f : Nat → Nat → Nat} {σ : SS} (h : R0 g f σ) (ho : OkW g f) (x : Int32) {Q : Int32 → SS → Prop} (q : Q (a_wouldNeed g f x) σ) : wp_X10_wouldNeed σ x Q := by
  have h9 := ho.1
  have h2 := p2_le h9
  unfold wp_X10_wouldNeed
  unfold a_wouldNeed at q
  refine rp_isHour x (fun hh hp ex e => ?_) (fun e => by rw [e] at q; exact br_t rfl q)
  rw [e] at q
  subst ex
  refine br_f (by decide) (rp_fewestIn h ho hp ?_)
  change Q (match few (row g f hh) (g 0) with | none => -4 | some t => nI (pc t)) σ at q
  cases ef : few (row g f hh) (g 0) with
  | none => rw [ef] at q; exact br_t rfl q
  | some t =>
    rw [ef] at q
    have := (few_lt h9 ef).1
    exact br_f (nI_n4 (by omega)) (rp_bits (by omega) q)
theorem rp_wouldTurn {g : Nat → Nat} {f : Nat → Nat → Nat} {σ : SS} (h : R0 g f σ) (ho : OkW g f) (x : Int32) {Q : Int32 → SS → Prop} (q : Q (a_wouldTurn g f x) σ) : wp_X10_wouldTurn σ x Q := by
  unfold wp_X10_wouldTurn
  unfold a_wouldTurn at q
  refine rp_in0 (n := 24) (by decide) rfl x (fun p hp ex e => br_f (by decide) ?_) (fun e => by rw [e] at q; exact br_t rfl q)
  rw [e] at q
  exact rp_seenNow h ho (rp_bits (sn_lt g f) q)
theorem rp_alone {g : Nat → Nat} {f : Nat → Nat → Nat} {σ : SS} (h : R0 g f σ) (ho : OkW g f) {p : Nat} (hp : p < g 0) {Q : Int32 → SS → Prop} (q : Q (nI (aln (NR g f) p)) σ) : wp_X10_alone σ (nI p) Q := by
  have h9 := ho.1
  have h2 := p2_le h9
  unfold wp_X10_alone
  refine rp_sight h ho hp (rp_all h ho ?_)
  rw [mI_shl1 (by omega), mI_df]
  have hd : df (2 ^ g 0 - 1) (2 ^ p) ≤ 2 ^ g 0 - 1 := df_le _ _
  refine rp_seen h ho (by omega) ?_
  rw [mI_df]
  refine rp_bits (df_lt (n := 24) _ (NR_lt g f p)) ?_
  unfold aln at q
  have e : orS (NR g f) (df (2 ^ g 0 - 1) (2 ^ p)) 9 = orS (NR g f) (df 511 (2 ^ p)) 9 := by
    rw [orS_9 (fun p hp => NR_0 hp) h9, orS_9 (S := df 511 _) (fun p hp => NR_0 hp) h9]
    refine orS_congr (g 0) fun r hr => ?_
    rw [df_bit (by omega), df_bit (by decide), Nat.testBit_two_pow_sub_one, show (511 : Nat) = 2 ^ 9 - 1 from rfl, Nat.testBit_two_pow_sub_one]
    simp [hr, show r < 9 by omega]
  rw [e]; exact q
theorem rp_postOf {g : Nat → Nat} {f : Nat → Nat → Nat} {σ : SS} (h : R0 g f σ) (ho : OkW g f) (x y : Int32) {Q : Int32 → SS → Prop} (q : Q (a_postOf g f x y) σ) : wp_X10_postOf σ x y Q := by
  have h9 := ho.1
  unfold wp_X10_postOf
  unfold a_postOf at q
  refine rp_isPost h ho x (fun p hp ex e => ?_) (fun e => by rw [e] at q; exact br_t rfl q)
  rw [e] at q
  subst ex
  refine br_f (by decide) ?_
  have pl : ∀ j, j < 6 → j ≠ 3 → y = nI j → wp_X10_of σ (nI p) y (fun r σ => Q r σ) := by
    rintro j hj h3 rfl
    rw [ox_in (show j < 9 by omega) (by omega)] at q
    simp only [if_neg (show ¬ j = 6 by omega), if_neg (show ¬ j = 7 by omega), if_neg (show ¬ j = 8 by omega), wv_in hp h3] at q
    exact rp_of h ho hp hj (fun z => absurd z h3) q
  refine br_c (fun c => pl 0 (by decide) (by decide) c) (fun n0 => br_c (fun c => pl 1 (by decide) (by decide) c) (fun n1 => br_c (fun c => pl 2 (by decide) (by decide) c) (fun n2 => br_c (fun c => ?_) (fun n3 => br_c (fun c => pl 4 (by decide) (by decide) c) (fun n4 => br_c (fun c => pl 5 (by decide) (by decide) c) (fun n5 => br_c (fun c => ?_) (fun n6 => br_c (fun c => ?_) (fun n7 => br_c (fun c => ?_) (fun n8 => ?_)))))))))
  · subst c
    have q : Q (wv g f 3 p) σ := q
    rw [wv3 hp] at q
    obtain ⟨_, _, _, o4, o3, _⟩ := ho.2.2 p hp
    refine rp_of h ho (j := 4) hp (by decide) (by omega) (pk_eq (f p 4) 0 (fun d => ?_) (fun d => rp_of h ho (j := 3) hp (by decide) (fun _ => d) ?_))
    · rw [if_pos d] at q; exact q
    · rw [if_neg d] at q; exact q
  · subst c
    have q : Q (nI (pc (NR g f p))) σ := q
    exact rp_sight h ho hp (rp_bits (NR_lt g f p) q)
  · subst c
    have q : Q (nI (aln (NR g f) p)) σ := q
    exact rp_alone h ho hp q
  · subst c
    have q : Q (nI ((tst (NR g f) (2 ^ g 0)).2.2.2.testBit p).toNat) σ := q
    refine rp_isNeeded h ho (by omega) ?_
    cases hb : (tst (NR g f) (2 ^ g 0)).2.2.2.testBit p with
    | false => rw [hb] at q; exact br_t rfl q
    | true => rw [hb] at q; exact br_f (by decide) q
  · rw [ox_iff (by omega) fun k hk e => by
      rcases (show k = 0 ∨ k = 1 ∨ k = 2 ∨ k = 3 ∨ k = 4 ∨ k = 5 ∨ k = 6 ∨ k = 7 ∨ k = 8 by omega) with rfl | rfl | rfl | rfl | rfl | rfl | rfl | rfl | rfl
      · exact n0 e
      · exact n1 e
      · exact n2 e
      · exact n3 e
      · exact n4 e
      · exact n5 e
      · exact n6 e
      · exact n7 e
      · exact n8 e] at q
    exact q
theorem rp_sees {g : Nat → Nat} {f : Nat → Nat → Nat} {σ : SS} (h : R0 g f σ) (ho : OkW g f) (x y : Int32) {Q : Int32 → SS → Prop} (q : Q (a_sees g f x y) σ) : wp_X10_sees σ x y Q := by
  unfold wp_X10_sees
  unfold a_sees at q
  refine rp_isPost h ho x (fun p hp ex e => ?_) (fun e => by rw [e] at q; exact br_t rfl q)
  rw [e] at q
  refine br_f (by decide) (rp_isStone y (fun s hs ey e2 => ?_) (fun e => by rw [e] at q; exact br_t rfl q))
  rw [e2] at q
  subst ex ey
  have hl := NR_lt g f p
  have q : Q (nI ((NR g f p).testBit s).toNat) σ := q
  refine br_f (by decide) (rp_sight h ho hp (rp_has (by omega) (by omega) (fun c => br_f (by decide) ?_) (fun c => br_t rfl ?_)))
  · rw [c] at q; exact q
  · rw [c] at q; exact q
