/-! the class: the second way; and that both ways tell the same -/
def le2 (a b : Nat) : Prop := pc a < pc b ∨ (pc a = pc b ∧ a ≤ b)
def isM (P : Nat → Prop) (o : Option Nat) : Prop := match o with
  | none => ∀ T, ¬ P T
  | some t => P t ∧ ∀ T, P T → le2 t T
theorem le2_asym {a b : Nat} (h : le2 a b) (h2 : le2 b a) : a = b := by
  unfold le2 at *; omega
theorem le2_tr {a b c : Nat} (h : le2 a b) (h2 : le2 b c) : le2 a c := by
  unfold le2 at *; omega
theorem isM_one {P : Nat → Prop} {o o' : Option Nat} (h : isM P o) (h' : isM P o') : o = o' := by
  cases o with
  | none =>
    cases o' with
    | none => rfl
    | some t => exact absurd h'.1 (h t)
  | some t =>
    cases o' with
    | none => exact absurd h.1 (h' t)
    | some t' => rw [le2_asym (h.2 _ h'.1) (h'.2 _ h.1)]
theorem isM_iff {P P' : Nat → Prop} {o : Option Nat} (h : isM P o) (e : ∀ T, P T ↔ P' T) : isM P' o := by
  cases o with
  | none => exact fun T hT => h T ((e T).mpr hT)
  | some t => exact ⟨(e t).mp h.1, fun T hT => h.2 T ((e T).mpr hT)⟩
/-- all of a's posts are b's -/
def sub2 (a b : Nat) : Prop := ∀ i, a.testBit i = true → b.testBit i = true
theorem pc_sub {a b : Nat} (h : sub2 a b) : pc a ≤ pc b := fb_ct_sub fun k _ hk => h k hk
theorem pc_or1 {a p : Nat} (hp : p < 24) (h : a.testBit p = false) : pc (a ||| 2 ^ p) = pc a + 1 := by
  unfold pc
  have e : fb_ct (fun i => (a ||| 2 ^ p).testBit i) 24 = fb_ct (fun k => if k = p then true else a.testBit k) 24 := by
    refine fb_ct_cong fun k hk => ?_
    rw [fb_bit_set]
    by_cases c : k = p
    · simp [c]
    · simp [c]
  have e2 := fb_ct_upd (fun i => a.testBit i) true hp
  rw [e]
  simp only [h, if_true] at e2
  simpa using e2
theorem pc_lt9 {a m : Nat} (h : a < 2 ^ m) : pc a ≤ m := by
  unfold pc
  by_cases c : m ≤ 24
  · have e : fb_ct (fun i => a.testBit i) 24 = fb_ct (fun i => a.testBit i) m := by
      rw [show 24 = m + (24 - m) by omega, fb_ct_split]
      rw [(fb_ct_zero (p := fun k => a.testBit (m + k))).mpr fun k hk => m_hi h (by omega)]
      rfl
    rw [e]
    exact fb_ct_le _ m
  · have := fb_ct_le (fun i => a.testBit i) 24
    omega
theorem sub2_or {a b p : Nat} (h : sub2 a b) (hp : b.testBit p = true) : sub2 (a ||| 2 ^ p) b := fun i hi => by
  rw [fb_bit_set] at hi
  by_cases c : i = p
  · rw [c]; exact hp
  · simp only [c, decide_false, Bool.or_false] at hi
    exact h i hi
theorem pc_grow {a b p : Nat} (h : sub2 a b) (hp : p < 24) (ha : a.testBit p = false) (hb : b.testBit p = true) : pc a + 1 ≤ pc b := by
  rw [← pc_or1 hp ha]
  exact pc_sub (sub2_or h hb)
theorem orS_bit (ρ : Nat → Nat) (S s : Nat) : ∀ n, (orS ρ S n).testBit s = true ↔ ∃ p, p < n ∧ S.testBit p = true ∧ (ρ p).testBit s = true
  | 0 => by simp [orS]
  | n + 1 => by
    rw [orS_s]
    have ih := orS_bit ρ S s n
    by_cases c : S.testBit n = true
    · rw [if_pos c, Nat.testBit_or, Bool.or_eq_true, ih]
      constructor
      · rintro (⟨p, h1, h2, h3⟩ | h)
        · exact ⟨p, by omega, h2, h3⟩
        · exact ⟨n, by omega, c, h⟩
      · rintro ⟨p, h1, h2, h3⟩
        by_cases e : p = n
        · subst e; exact Or.inr h3
        · exact Or.inl ⟨p, by omega, h2, h3⟩
    · rw [if_neg c, ih]
      constructor
      · rintro ⟨p, h1, h2, h3⟩
        exact ⟨p, by omega, h2, h3⟩
      · rintro ⟨p, h1, h2, h3⟩
        by_cases e : p = n
        · subst e; exact absurd h2 c
        · exact ⟨p, by omega, h2, h3⟩
theorem all_bit {s : Nat} : ALL.testBit s = decide (s < 24) := Nat.testBit_two_pow_sub_one 24 s
theorem full_iff {ρ : Nat → Nat} (hρ : ∀ p, ρ p < 16777216) {S : Nat} : orS ρ S 9 = ALL ↔ ∀ s, s < 24 → (orS ρ S 9).testBit s = true := by
  constructor
  · intro h s hs
    rw [h, all_bit]; simpa using hs
  · intro h
    refine m_ext (n := 24) (orS_lt hρ S 9) (by decide) fun s hs => ?_
    rw [h s hs, all_bit]; simpa using hs
/-- full sets of the m posts -/
def full (ρ : Nat → Nat) (m T : Nat) : Prop := T < 2 ^ m ∧ orS ρ T 9 = ALL
theorem tst_isM {ρ : Nat → Nat} : ∀ n, n ≤ 512 → isM (fun T => T < n ∧ orS ρ T 9 = ALL) (tst ρ n).2.1 ∧ (tst ρ n).1 = (match (tst ρ n).2.1 with | none => 10 | some t => pc t)
  | 0, _ => ⟨fun T h => absurd h.1 (by omega), rfl⟩
  | n + 1, hn => by
    obtain ⟨h1, h2⟩ := tst_isM (ρ := ρ) n (by omega)
    have hp : pc n ≤ 9 := pc_lt9 (m := 9) (by omega)
    rw [tst_s]
    cases e : (tst ρ n).2.1 with
    | none =>
      rw [e] at h1 h2
      have h2 : (tst ρ n).1 = 10 := h2
      by_cases c : orS ρ n 9 = ALL
      · rw [if_pos ⟨c, by omega⟩, if_pos (by omega)]
        refine ⟨⟨⟨by omega, c⟩, fun T hT => ?_⟩, rfl⟩
        by_cases eT : T = n
        · subst eT; exact Or.inr ⟨rfl, Nat.le_refl _⟩
        · exact absurd ⟨by have := hT.1; omega, hT.2⟩ (h1 T)
      · rw [if_neg (fun z => c z.1), e]
        refine ⟨fun T hT => ?_, h2⟩
        by_cases eT : T = n
        · subst eT; exact c hT.2
        · exact h1 T ⟨by have := hT.1; omega, hT.2⟩
    | some t =>
      rw [e] at h1 h2
      have h2 : (tst ρ n).1 = pc t := h2
      obtain ⟨h3, h4⟩ := h1
      have old : ∀ T, T < n + 1 ∧ orS ρ T 9 = ALL → T ≠ n → le2 t T := fun T hT hne => h4 T ⟨by have := hT.1; omega, hT.2⟩
      by_cases c : orS ρ n 9 = ALL ∧ pc n ≤ (tst ρ n).1
      · rw [if_pos c]
        by_cases c2 : pc n < (tst ρ n).1
        · rw [if_pos c2]
          refine ⟨⟨⟨by omega, c.1⟩, fun T hT => ?_⟩, rfl⟩
          by_cases eT : T = n
          · subst eT; exact Or.inr ⟨rfl, Nat.le_refl _⟩
          · exact le2_tr (Or.inl (by omega)) (old T hT eT)
        · rw [if_neg c2]
          refine ⟨⟨⟨by have := h3.1; omega, h3.2⟩, fun T hT => ?_⟩, h2⟩
          by_cases eT : T = n
          · subst eT; exact Or.inr ⟨by omega, by have := h3.1; omega⟩
          · exact old T hT eT
      · rw [if_neg c, e]
        refine ⟨⟨⟨by have := h3.1; omega, h3.2⟩, fun T hT => ?_⟩, h2⟩
        by_cases eT : T = n
        · subst eT; exact Or.inl (by have := hT.2; omega)
        · exact old T hT eT
/-- the set told -/
def few (ρ : Nat → Nat) (m : Nat) : Option Nat := (tst ρ (2 ^ m)).2.1
theorem few_isM {ρ : Nat → Nat} {m : Nat} (hm : m ≤ 9) : isM (full ρ m) (few ρ m) := (tst_isM (ρ := ρ) (2 ^ m) (Nat.pow_le_pow_right (n := 2) (by omega) hm)).1
-- the stone that the fewest see
def fsr (ρ : Nat → Nat) (X : Nat) : Nat → Nat × Nat
  | 0 => (0, 10)
  | n + 1 => if X.testBit n ∧ pc (srs ρ n 9) < (fsr ρ X n).2 then (srs ρ n 9, pc (srs ρ n 9)) else fsr ρ X n
theorem fsr_s (ρ : Nat → Nat) (X n : Nat) : fsr ρ X (n + 1) = if X.testBit n ∧ pc (srs ρ n 9) < (fsr ρ X n).2 then (srs ρ n 9, pc (srs ρ n 9)) else fsr ρ X n := rfl
theorem fsr_in {ρ : Nat → Nat} {X : Nat} : ∀ n, (∃ s, s < n ∧ X.testBit s = true ∧ fsr ρ X n = (srs ρ s 9, pc (srs ρ s 9))) ∨ ((∀ s, s < n → X.testBit s = false) ∧ fsr ρ X n = (0, 10))
  | 0 => Or.inr ⟨fun s h => absurd h (by omega), rfl⟩
  | n + 1 => by
    rw [fsr_s]
    have hp : pc (srs ρ n 9) ≤ 9 := pc_lt9 (m := 9) (srs_lt ρ n 9)
    by_cases c : X.testBit n = true ∧ pc (srs ρ n 9) < (fsr ρ X n).2
    · rw [if_pos c]; exact Or.inl ⟨n, by omega, c.1, rfl⟩
    · rw [if_neg c]
      rcases fsr_in (ρ := ρ) (X := X) n with ⟨s, h1, h2, h3⟩ | ⟨h1, h2⟩
      · exact Or.inl ⟨s, by omega, h2, h3⟩
      · refine Or.inr ⟨fun s hs => ?_, h2⟩
        by_cases e : s = n
        · subst e
          rw [h2] at c
          cases hx : X.testBit s with
          | false => rfl
          | true => exact absurd ⟨hx, by show _ < 10; omega⟩ c
        · exact h1 s (by omega)
theorem fsr_le (ρ : Nat → Nat) (X n : Nat) : (fsr ρ X n).2 ≤ 24 := by
  rcases fsr_in (ρ := ρ) (X := X) n with ⟨s, h1, h2, h3⟩ | ⟨h1, h2⟩
  · rw [h3]; exact pc_le _
  · rw [h2]; decide
def SR (ρ : Nat → Nat) (σ : SS) : Prop := ∀ s, s < 24 → σ 84 s = nI (srs ρ s 9)
theorem sp_fewestSeers {σ : SS} {ρ : Nat → Nat} {X : Nat} (hs : SR ρ σ) (hX : X < 2 ^ 32) {Q : Int32 → SS → Prop} (q : Q (nI (fsr ρ X 24).1) σ) : wp_X0_fewestSeers σ (nI X) Q := by
  unfold wp_X0_fewestSeers
  refine Liii.up (N := 24) 0 (fun i τ u v w => τ = σ ∧ u = nI (fsr ρ X i).1 ∧ v = nI (fsr ρ X i).2 ∧ w = nI i) (by omega) ⟨rfl, rfl, rfl, rfl⟩ ?_ ?_
  · rintro rc i τ u v w _ hi ⟨rfl, rfl, rfl, rfl⟩ k
    have hl := srs_lt ρ i 9
    have hle := fsr_le ρ X i
    have hpc := pc_le (srs ρ i 9)
    unfold bd_X0_fewestSeers_8
    refine br_f (c_nle 24 hi) (br_f (c_nle 24 hi) ⟨pk_in i 24 hi, ?_⟩)
    rw [pk_cl i, hs i hi]
    refine sp_bc (by omega) (sp_isIn hX (by omega) (fun hb => ?_) (fun hb => ?_))
    · refine br_f (by decide) (pk_le (fsr ρ X i).2 (pc (srs ρ i 9)) (fun hc => k _ _ _ _ ⟨rfl, ?_, ?_, nI_1 i⟩) (fun hc => ⟨pk_in i 24 hi, k _ _ _ _ ⟨rfl, ?_, ?_, nI_1 i⟩⟩))
      · rw [fsr_s, if_neg (by omega)]
      · rw [fsr_s, if_neg (by omega)]
      · rw [fsr_s, if_pos ⟨hb, hc⟩]; exact hs i hi
      · rw [fsr_s, if_pos ⟨hb, hc⟩]
    · refine br_t rfl (k _ _ _ _ ⟨rfl, ?_, ?_, nI_1 i⟩) <;> rw [fsr_s, if_neg (fun z => by rw [hb] at z; cases z.1)]
  · rintro rc τ u v w ⟨rfl, rfl, rfl, rfl⟩
    unfold bd_X0_fewestSeers_8
    exact br_t (by decide) q
theorem sp_better {σ : SS} {C : Nat} {best : Option Nat} (hC : C < 512) (hb : ∀ t, best = some t → t < 512) {Q : Int32 → SS → Prop} (q : ∀ r : Option Nat, (∀ t, r = some t → t < 512) → isM (fun T => best = some T ∨ T = C) r → Q (oN r) σ) : wp_X0_better σ (nI C) (oN best) Q := by
  unfold wp_X0_better
  cases best with
  | none =>
    refine br_t rfl (q (some C) (fun t h => by cases h; exact hC) ⟨Or.inr rfl, fun T hT => ?_⟩)
    rcases hT with h | rfl
    · cases h
    · exact Or.inr ⟨rfl, Nat.le_refl _⟩
  | some t =>
    have ht := hb t rfl
    have p1 := pc_le C
    have p2 := pc_le t
    have hself : ∀ {a}, le2 a a := fun {a} => Or.inr ⟨rfl, Nat.le_refl _⟩
    have toC : le2 C t → Q (nI C) σ := fun h => q (some C) (fun t h => by cases h; exact hC) ⟨Or.inr rfl, fun T hT => by
      rcases hT with e | rfl
      · cases e; exact h
      · exact hself⟩
    have toT : le2 t C → Q (nI t) σ := fun h => q (some t) (fun t h => by cases h; exact ht) ⟨Or.inl rfl, fun T hT => by
      rcases hT with e | rfl
      · cases e; exact hself
      · exact h⟩
    refine br_f (nI_n4 (show t < 2 ^ 31 by omega)) (sp_bc (by omega) (sp_bc (show t < 16777216 by omega) ?_))
    refine br_c (fun h => ?_) (fun h => ?_)
    · rw [Int32.lt_iff_toInt_lt, pk_sub_toInt (by omega) (by omega), show (0 : Int32).toInt = 0 from by decide] at h
      exact toC (Or.inl (by omega))
    · rw [Int32.lt_iff_toInt_lt, pk_sub_toInt (by omega) (by omega), show (0 : Int32).toInt = 0 from by decide] at h
      refine br_c (fun h2 => ?_) (fun h2 => ?_)
      · have h2 := congrArg Int32.toInt h2
        rw [pk_sub_toInt (by omega) (by omega), show (0 : Int32).toInt = 0 from by decide] at h2
        refine pk_le t C (fun h3 => toT (Or.inr ⟨by omega, h3⟩)) (fun h3 => toC (Or.inr ⟨by omega, by omega⟩))
      · have h2 : ¬ ((pc C : Int) - pc t = 0) := fun z => h2 (Int32.toInt_inj.mp (by rw [pk_sub_toInt (by omega) (by omega), show (0 : Int32).toInt = 0 from by decide]; exact z))
        exact toT (Or.inl (by omega))
/-- what the search answers: the least of the best so far and of the full watches with the posts chosen so far -/
def sP (ρ : Nat → Nat) (m C : Nat) (best : Option Nat) (T : Nat) : Prop := best = some T ∨ (full ρ m T ∧ sub2 C T)
theorem sp_search {σ : SS} {ρ : Nat → Nat} {m M : Nat} (hs : SG ρ m M σ) (hr : SR ρ σ) (hρ : ∀ p, ρ p < 16777216) (h0 : ∀ p, m ≤ p → ρ p = 0) (hm : m ≤ 9) : ∀ (d C : Nat) (best : Option Nat), C < 2 ^ m → 10 ≤ pc C + d → (∀ t, best = some t → t < 512) → ∀ {Q : Int32 → SS → Prop}, (∀ r : Option Nat, (∀ t, r = some t → t < 512) → isM (sP ρ m C best) r → Q (oN r) σ) → wp_X0_search d σ (nI (df ALL (orS ρ C 9))) (nI C) (oN best) (nI (pc C)) Q := by
  intro d
  have hp2 : 2 ^ m ≤ 2 ^ 9 := Nat.pow_le_pow_right (by omega) hm
  induction d with
  | zero =>
    intro C best hC hd
    have := pc_lt9 hC
    omega
  | succ d ih =>
    intro C best hC hd hb Q q
    have hpc := pc_lt9 hC
    have hX : df ALL (orS ρ C 9) < 16777216 := df_lt (n := 24) _ (by decide)
    have Xb : ∀ s, (df ALL (orS ρ C 9)).testBit s = (decide (s < 24) && !(orS ρ C 9).testBit s) := fun s => by rw [df_bit (by decide), all_bit]
    show bs_X0_search (wp_X0_search d) σ _ _ _ _ Q
    unfold bs_X0_search
    refine pk_eq (df ALL (orS ρ C 9)) 0 (fun hz => ?_) (fun hz => ?_)
    · -- all is seen
      have hfull : orS ρ C 9 = ALL := (full_iff hρ).mpr fun s hs => by
        have h1 := Xb s
        rw [hz] at h1
        simp only [Nat.zero_testBit, hs, decide_true, Bool.true_and] at h1
        cases h2 : (orS ρ C 9).testBit s with
        | true => rfl
        | false => rw [h2] at h1; cases h1
      refine sp_better (by omega) hb fun r h1 h2 => q r h1 ?_
      have hle : ∀ T, full ρ m T ∧ sub2 C T → le2 C T := fun T hT => by
        have hsub := pc_sub hT.2
        by_cases e : C = T
        · subst e; exact Or.inr ⟨rfl, Nat.le_refl _⟩
        · have hne : ∃ i, C.testBit i ≠ T.testBit i := Classical.byContradiction fun z => e (Nat.eq_of_testBit_eq fun i => Classical.byContradiction fun y => z ⟨i, y⟩)
          obtain ⟨i, hi⟩ := hne
          have hTi : T.testBit i = true := by
            cases h3 : T.testBit i with
            | true => rfl
            | false =>
              cases h4 : C.testBit i with
              | true => rw [hT.2 i h4] at h3; cases h3
              | false => exact absurd (h4.trans h3.symm) hi
          have hCi : C.testBit i = false := by
            cases h4 : C.testBit i with
            | false => rfl
            | true => exact absurd (h4.trans hTi.symm) hi
          have hi24 : i < 24 := Classical.byContradiction fun z => by
            rw [m_hi (Nat.lt_of_lt_of_le hT.1.1 hp2) (by omega)] at hTi; cases hTi
          exact Or.inl (by have := pc_grow hT.2 hi24 hCi hTi; omega)
      cases r with
      | none => exact absurd (Or.inr rfl) (h2 C)
      | some t =>
        obtain ⟨h3, h4⟩ := h2
        refine ⟨?_, fun T hT => ?_⟩
        · rcases h3 with h3 | rfl
          · exact Or.inl h3
          · exact Or.inr ⟨⟨hC, hfull⟩, fun _ h => h⟩
        · rcases hT with hT | hT
          · exact h4 T (Or.inl hT)
          · exact le2_tr (h4 C (Or.inr rfl)) (hle T hT)
    · -- a stone is open
      have hopen : ∃ s, s < 24 ∧ (df ALL (orS ρ C 9)).testBit s = true := Classical.byContradiction fun z => hz (m_ext (n := 24) hX (by decide) fun s hs => by
        rw [Nat.zero_testBit]
        cases h : (df ALL (orS ρ C 9)).testBit s with
        | false => rfl
        | true => exact absurd ⟨s, hs, h⟩ z)
      -- a full watch with C's posts has one more, a seer of any open stone
      have more : ∀ T, full ρ m T → sub2 C T → ∀ s, s < 24 → (df ALL (orS ρ C 9)).testBit s = true → ∃ p, p < 9 ∧ T.testBit p = true ∧ (ρ p).testBit s = true ∧ C.testBit p = false := fun T hT hsub s hs hXs => by
        have h1 := (full_iff hρ).mp hT.2 s hs
        obtain ⟨p, g1, g2, g3⟩ := (orS_bit ρ T s 9).mp h1
        refine ⟨p, g1, g2, g3, ?_⟩
        cases h4 : C.testBit p with
        | false => rfl
        | true =>
          have h5 := (orS_bit ρ C s 9).mpr ⟨p, g1, h4, g3⟩
          rw [Xb, h5] at hXs
          simp at hXs
      have big : ∀ T, full ρ m T → sub2 C T → pc C + 1 ≤ pc T := fun T hT hsub => by
        obtain ⟨s, hs, hXs⟩ := hopen
        obtain ⟨p, g1, g2, g3, g4⟩ := more T hT hsub s hs hXs
        exact pc_grow hsub (by omega) g4 g2
      have pruned : (∀ T, full ρ m T → sub2 C T → ∃ t, best = some t ∧ le2 t T) → isM (sP ρ m C best) best := fun h => by
        cases best with
        | none =>
          intro T hT
          rcases hT with hT | hT
          · cases hT
          · obtain ⟨t, e, -⟩ := h T hT.1 hT.2
            cases e
        | some t =>
          refine ⟨Or.inl rfl, fun T hT => ?_⟩
          rcases hT with hT | hT
          · cases hT; exact Or.inr ⟨rfl, Nat.le_refl _⟩
          · obtain ⟨t', e, h2⟩ := h T hT.1 hT.2
            cases e; exact h2
      refine pk_le 9 (pc C) (fun h9 => q best hb (pruned fun T hT hsub => ?_)) (fun h9 => ?_)
      · have h1 := big T hT hsub
        have h2 := pc_lt9 hT.1
        omega
      · have loop : wp_X0_fewestSeers σ (nI (df ALL (orS ρ C 9))) (fun r2 σ1 => ∃ k9, Lii (bd_X0_search_52 (wp_X0_search d) Q (nI (df ALL (orS ρ C 9))) (nI C) (oN best) (nI (pc C)) r2) k9 σ1 (oN best) 0) := by
          refine sp_fewestSeers hr (by omega) ?_
          obtain ⟨s0, hs0, hXs0⟩ := hopen
          rcases fsr_in (ρ := ρ) (X := df ALL (orS ρ C 9)) 24 with ⟨s, h1, h2, h3⟩ | ⟨h1, h2⟩
          · rw [h3]
            show ∃ k9, Lii (bd_X0_search_52 (wp_X0_search d) Q (nI (df ALL (orS ρ C 9))) (nI C) (oN best) (nI (pc C)) (nI (srs ρ s 9))) k9 σ (oN best) 0
            have hsl := srs_lt ρ s 9
            refine Lii.up (N := 9) 0 (fun i τ v w => τ = σ ∧ w = nI i ∧ ∃ r : Option Nat, v = oN r ∧ (∀ t, r = some t → t < 512) ∧ isM (fun T => best = some T ∨ (full ρ m T ∧ sub2 C T ∧ ∃ p, p < i ∧ (ρ p).testBit s = true ∧ T.testBit p = true)) r) (by omega) ⟨rfl, rfl, best, rfl, hb, ?_⟩ ?_ ?_
            · cases best with
              | none =>
                intro T hT
                rcases hT with hT | ⟨-, -, p, hp, -⟩
                · cases hT
                · omega
              | some t =>
                refine ⟨Or.inl rfl, fun T hT => ?_⟩
                rcases hT with hT | ⟨-, -, p, hp, -⟩
                · cases hT; exact Or.inr ⟨rfl, Nat.le_refl _⟩
                · omega
            · rintro rc i τ v w _ hi ⟨rfl, rfl, r, rfl, hr512, hrM⟩ k
              unfold bd_X0_search_52
              refine br_f (c_nle 9 hi) (sp_isIn (by omega) (by omega) (fun hb1 => ?_) (fun hb0 => ?_))
              · rw [srs_bit] at hb1
                simp only [hi, decide_true, Bool.true_and] at hb1
                refine br_f (by decide) (sp_of hi ?_)
                have him : i < m := Classical.byContradiction fun z => by rw [h0 i (by omega)] at hb1; simp at hb1
                have hCi : C.testBit i = false := by
                  cases h4 : C.testBit i with
                  | false => rfl
                  | true =>
                    have h5 := (orS_bit ρ C s 9).mpr ⟨i, hi, h4, hb1⟩
                    rw [Xb, h5] at h2
                    simp at h2
                have e1 : df (df ALL (orS ρ C 9)) (ρ i) = df ALL (orS ρ (C ||| 2 ^ i) 9) := by
                  refine Nat.eq_of_testBit_eq fun j => ?_
                  rw [df_bit (by omega), df_bit (by decide), df_bit (by decide)]
                  have h6 : (orS ρ (C ||| 2 ^ i) 9).testBit j = ((orS ρ C 9).testBit j || (ρ i).testBit j) := by
                    rw [Bool.eq_iff_iff, Bool.or_eq_true, orS_bit, orS_bit]
                    constructor
                    · rintro ⟨p, g1, g2, g3⟩
                      rw [fb_bit_set, Bool.or_eq_true] at g2
                      rcases g2 with g2 | g2
                      · exact Or.inl ⟨p, g1, g2, g3⟩
                      · have := of_decide_eq_true g2
                        subst this
                        exact Or.inr g3
                    · rintro (⟨p, g1, g2, g3⟩ | g)
                      · exact ⟨p, g1, by rw [fb_bit_set, g2]; rfl, g3⟩
                      · exact ⟨i, hi, by rw [fb_bit_set]; simp, g⟩
                  rw [h6]
                  cases ALL.testBit j <;> cases (orS ρ C 9).testBit j <;> cases (ρ i).testBit j <;> rfl
                have hC2 : C ||| 2 ^ i < 2 ^ m := m_or_lt hC (Nat.pow_lt_pow_right (by omega) him)
                have e2 := pc_or1 (a := C) (p := i) (by omega) hCi
                rw [hs.2.2 i hi, mI_df, e1, mI_shl1 (by omega), mI_or, show nI (pc C) + 1 = nI (pc (C ||| 2 ^ i)) from by rw [e2]; exact nI_1 _]
                refine ih (C ||| 2 ^ i) r hC2 (by omega) hr512 fun r' h5 h6 => k _ _ _ ⟨rfl, nI_1 i, r', rfl, h5, ?_⟩
                have key : ∀ T, full ρ m T ∧ sub2 (C ||| 2 ^ i) T ↔ full ρ m T ∧ sub2 C T ∧ T.testBit i = true := fun T => ⟨fun h => ⟨h.1, fun j hj => h.2 j (by rw [fb_bit_set, hj]; rfl), h.2 i (by rw [fb_bit_set]; simp)⟩, fun h => ⟨h.1, sub2_or h.2.1 h.2.2⟩⟩
                cases r' with
                | none =>
                  intro T hT
                  rcases hT with hT | ⟨a1, a2, p, a3, a4, a5⟩
                  · cases r with
                    | none => exact hrM T (Or.inl hT)
                    | some t => exact h6 t (Or.inl rfl)
                  · by_cases ep : p = i
                    · subst ep; exact h6 T (Or.inr ((key T).mpr ⟨a1, a2, a5⟩))
                    · cases r with
                      | none => exact hrM T (Or.inr ⟨a1, a2, p, by omega, a4, a5⟩)
                      | some t => exact h6 t (Or.inl rfl)
                | some t' =>
                  obtain ⟨h7, h8⟩ := h6
                  refine ⟨?_, fun T hT => ?_⟩
                  · rcases h7 with h7 | h7
                    · rw [h7] at hrM
                      rcases hrM.1 with h9 | ⟨a1, a2, p, a3, a4, a5⟩
                      · exact Or.inl h9
                      · exact Or.inr ⟨a1, a2, p, by omega, a4, a5⟩
                    · have h9 := (key t').mp h7
                      exact Or.inr ⟨h9.1, h9.2.1, i, by omega, hb1, h9.2.2⟩
                  · have old : ∀ T, (best = some T ∨ (full ρ m T ∧ sub2 C T ∧ ∃ p, p < i ∧ (ρ p).testBit s = true ∧ T.testBit p = true)) → le2 t' T := fun T hT => by
                      cases r with
                      | none => exact absurd hT (hrM T)
                      | some t => exact le2_tr (h8 t (Or.inl rfl)) (hrM.2 T hT)
                    rcases hT with hT | ⟨a1, a2, p, a3, a4, a5⟩
                    · exact old T (Or.inl hT)
                    · by_cases ep : p = i
                      · subst ep; exact h8 T (Or.inr ((key T).mpr ⟨a1, a2, a5⟩))
                      · exact old T (Or.inr ⟨a1, a2, p, by omega, a4, a5⟩)
              · rw [srs_bit] at hb0
                simp only [hi, decide_true, Bool.true_and] at hb0
                refine br_t rfl (k _ _ _ ⟨rfl, nI_1 i, r, rfl, hr512, isM_iff hrM fun T => ?_⟩)
                constructor
                · rintro (h | ⟨a1, a2, p, a3, a4⟩)
                  · exact Or.inl h
                  · exact Or.inr ⟨a1, a2, p, by omega, a4⟩
                · rintro (h | ⟨a1, a2, p, a3, a4, a5⟩)
                  · exact Or.inl h
                  · by_cases ep : p = i
                    · subst ep; rw [hb0] at a4; cases a4
                    · exact Or.inr ⟨a1, a2, p, by omega, a4, a5⟩
            · rintro rc τ v w ⟨rfl, rfl, r, rfl, hr512, hrM⟩
              unfold bd_X0_search_52
              refine br_t (by decide) (q r hr512 (isM_iff hrM fun T => ?_))
              constructor
              · rintro (h | ⟨a1, a2, -⟩)
                · exact Or.inl h
                · exact Or.inr ⟨a1, a2⟩
              · rintro (h | ⟨a1, a2⟩)
                · exact Or.inl h
                · obtain ⟨p, g1, g2, g3, -⟩ := more T a1 a2 s h1 h2
                  exact Or.inr ⟨a1, a2, p, g1, g3, g2⟩
          · rw [h1 s0 hs0] at hXs0; cases hXs0
        cases hbest : best with
        | none =>
          rw [hbest] at loop
          exact br_t rfl loop
        | some t =>
          have ht := hb t hbest
          have h3 := pc_le t
          refine br_f (nI_n4 (show t < 2 ^ 31 by omega)) (sp_bc (show t < 16777216 by omega) ?_)
          refine pk_lt (pc C) (pc t) (fun h4 => ?_) (fun h4 => ?_)
          · rw [hbest] at loop
            exact loop
          · rw [← hbest]
            exact q best hb (pruned fun T hT hsub => ⟨t, hbest, Or.inl (by have := big T hT hsub; omega)⟩)
theorem sp_searchStones {σ : SS} {ρ : Nat → Nat} {m M : Nat} (hs : SG ρ m M σ) (hρ : ∀ p, ρ p < 16777216) (h0 : ∀ p, m ≤ p → ρ p = 0) (hm : m ≤ 9) {Q : Int32 → SS → Prop} (q : ∀ τ, SB (fun k => k = 84) σ τ → Q (oN (few ρ m)) τ) : wp_X0_searchStones σ Q := by
  unfold wp_X0_searchStones
  have keep : ∀ τ, SB (fun k => k = 84) σ τ → SG ρ m M τ := fun τ h => ⟨by rw [h 80 (by decide)]; exact hs.1, by rw [h 80 (by decide)]; exact hs.2.1, fun p hp => by rw [h 81 (by decide)]; exact hs.2.2 p hp⟩
  refine Li.up (N := 24) 0 (fun i τ v => v = nI i ∧ SB (fun k => k = 84) σ τ ∧ ∀ s, s < i → τ 84 s = nI (srs ρ s 9)) (by omega) ⟨rfl, SB.rf, fun s h => absurd h (by omega)⟩ ?_ ?_
  · rintro rc i τ v _ hi ⟨rfl, hS, t⟩ k
    unfold bd_X0_searchStones_2
    refine br_f (c_nle 24 hi) (sp_seersOf (keep τ hS) hρ hi ⟨pk_in i 24 hi, ?_⟩)
    rw [pk_cl i]
    refine k _ _ ⟨nI_1 i, hS.w rfl, fun s h => ?_⟩
    rw [u2i]
    by_cases c : s = i
    · rw [if_pos ⟨rfl, c⟩, c]
    · rw [if_neg (by omega)]; exact t s (by omega)
  · rintro rc τ v ⟨rfl, hS, t⟩
    unfold bd_X0_searchStones_2
    refine br_t (by decide) ?_
    have e0 : orS ρ 0 9 = 0 := by
      refine Nat.eq_of_testBit_eq fun j => ?_
      rw [Nat.zero_testBit]
      cases h : (orS ρ 0 9).testBit j with
      | false => rfl
      | true => obtain ⟨p, -, h2, -⟩ := (orS_bit ρ 0 j 9).mp h; simp at h2
    have hd : df ALL (orS ρ 0 9) = 16777215 := by rw [e0]; decide
    have hp0 : pc 0 = 0 := by decide
    have h := sp_search (keep τ hS) t hρ h0 hm 12 0 none (Nat.two_pow_pos m) (by omega) (fun t h => by cases h) (Q := fun r2 σ1 => Q r2 σ1) fun r h1 h2 => by
      have h3 : isM (full ρ m) r := isM_iff h2 fun T => ⟨fun h => by
        rcases h with h | h
        · cases h
        · exact h.1, fun h => Or.inr ⟨h, fun i hi => by simp at hi⟩⟩
      rw [isM_one h3 (few_isM hm)]
      exact q τ hS
    rw [hd, hp0] at h
    exact h
