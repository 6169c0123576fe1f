/-! the class: more of what it answers -/
theorem nI_gt {a b : Nat} (h : b < a) (ha : a < 2 ^ 31) : ¬ nI a ≤ nI b := fun z => by rw [nI_leI ha (by omega)] at z; omega
def a_postOf (g : Nat → Nat) (f : Nat → Nat → Nat) (x y : Int32) : Int32 := match ox x (g 0) with
  | none => -1
  | some p => match ox y 9 with
    | none => -2
    | some j => if j = 6 then nI (pc (NR g f p)) else if j = 7 then nI (aln (NR g f) p) else if j = 8 then nI ((tst (NR g f) (2 ^ g 0)).2.2.2.testBit p).toNat else wv g f j p
theorem tst4_lt (ρ : Nat → Nat) : ∀ n, n ≤ 512 → (tst ρ n).2.2.2 < 512
  | 0, _ => by show 0 < 512; decide
  | n + 1, h => by
    have h0 := tst4_lt ρ n (by omega)
    rw [tst_s]
    split
    · split
      · show n < 512; omega
      · exact Nat.lt_of_le_of_lt Nat.and_le_left h0
    · exact h0
theorem sp_postOf {g : Nat → Nat} {f : Nat → Nat → Nat} {σ : SS} (h : RC 1 g f σ) (ho : OkW g f) (x y : Int32) {Q : Int32 → SS → Prop} (q : ∀ τ, SB AK σ τ → Q (a_postOf g f x y) τ) : wp_X9_postOf σ x y Q := by
  have h9 := ho.1
  unfold wp_X9_postOf
  unfold a_postOf at q
  refine sp_isPostX h ho x (fun p hp ex e => ?_) (fun e => ?_)
  · rw [e] at q
    subst ex
    refine br_f (by decide) ?_
    rcases ox_c y (n := 9) (by omega) with ⟨c, e', _⟩ | ⟨c, c', e', _⟩ | ⟨j, hj, rfl, e'⟩
    · rw [e'] at q
      exact br_t c (q σ SB.rf)
    · rw [e'] at q
      refine br_f c' (br_f (fun z => ?_) (q σ SB.rf))
      rw [Int32.le_iff_toInt_le] at z c
      have h1 : (nI 9).toInt = 9 := rfl
      have h2 : (8 : Int32).toInt = 8 := rfl
      omega
    · rw [e'] at q
      refine br_f (nI_n0 (by omega)) (br_t ?_ ?_)
      · rw [show (8 : Int32) = nI 8 from rfl, nI_leI (by omega) (by omega)]; omega
      · rw [show (5 : Int32) = nI 5 from rfl, nI_ltI (by omega) (by omega)]
        by_cases c5 : 5 < j
        · refine br_t c5 (sp_look h ho fun τ k hs => ?_)
          refine pk_eq j 6 (fun c => ?_) (fun c => pk_eq j 7 (fun c7 => ?_) (fun c7 => ?_))
          · simp only [c, if_true] at q
            exact sp_manySeen hs (NR_lt g f) (by omega) (q τ k)
          · simp only [c7, if_true, if_neg (show ¬ (7 = 6) by decide)] at q
            exact sp_manySeenAlone hs (NR_lt g f) (by omega) (q τ k)
          · simp only [if_neg c, if_neg c7, if_pos (show j = 8 by omega)] at q
            refine sp_trySets hs (NR_lt g f) h9 fun υ k2 e1 e2 e3 => ?_
            rw [e3, mI_bit (Nat.lt_trans (tst4_lt _ _ (p2_le h9)) (by decide)) (by omega)]
            exact q υ (k.tr (k2.mono fun _ => AK_c))
        · refine br_f c5 ?_
          simp only [if_neg (show ¬ j = 6 by omega), if_neg (show ¬ j = 7 by omega), if_neg (show ¬ j = 8 by omega)] at q
          exact sp_numberOf h ho hp (by omega) (q σ SB.rf)
  · rw [e] at q
    exact br_t rfl (q σ SB.rf)
def a_wouldNeed (g : Nat → Nat) (f : Nat → Nat → Nat) (x : Int32) : Int32 := match ox x 12 with
  | none => -2
  | some h => match few (row g f h) (g 0) with
    | none => -4
    | some t => nI (pc t)
theorem few_lt {ρ : Nat → Nat} {m t : Nat} (hm : m ≤ 9) (h : few ρ m = some t) : t < 2 ^ m ∧ orS ρ t 9 = ALL := by
  have := few_isM (ρ := ρ) hm
  rw [h] at this
  exact this.1
theorem sp_wouldNeed {g : Nat → Nat} {f : Nat → Nat → Nat} {σ : SS} (h : RC 1 g f σ) (ho : OkW g f) (x : Int32) {Q : Int32 → SS → Prop} (q : ∀ τ, SB AK σ τ → Q (a_wouldNeed g f x) τ) : wp_X9_wouldNeed σ x Q := by
  have h9 := ho.1
  have h2 := p2_le h9
  unfold wp_X9_wouldNeed
  unfold a_wouldNeed at q
  refine sp_isHour x (fun hh hp ex e => ?_) (fun e => ?_)
  · rw [e] at q
    subst ex
    refine br_f (by decide) (sp_lookAt h (by decide) ho hp fun τ k hs => sp_trySets hs (row_lt g f hh) h9 fun υ k2 e1 _ _ => ?_)
    have q := q υ ((k.mono fun _ => AK_2).tr (k2.mono fun _ => AK_c))
    rw [e1]
    change Q (match few (row g f hh) (g 0) with | none => -4 | some t => nI (pc t)) υ at q
    change (((oN (few (row g f hh) (g 0))) = (-4) → _) ∧ (¬ (oN (few (row g f hh) (g 0))) = (-4) → wp_J6_bitCount_0f7a4 υ (oN (few (row g f hh) (g 0))) _))
    cases ef : few (row g f hh) (g 0) with
    | none =>
      rw [ef] at q
      exact br_t rfl q
    | some t =>
      rw [ef] at q
      have := (few_lt h9 ef).1
      exact br_f (nI_n4 (by omega)) (sp_bc (by omega) q)
  · rw [e] at q
    exact br_t rfl (q σ SB.rf)
theorem fb_ct_tur {p : Nat → Bool} {b : Nat} (hb : b < 24) : fb_ct (fun j => p ((j + 24 - b) % 24)) 24 = fb_ct p 24 := by
  have h1 := fb_ct_split (fun j => p ((j + 24 - b) % 24)) b (24 - b)
  have h2 := fb_ct_split p (24 - b) b
  rw [show b + (24 - b) = 24 by omega] at h1
  rw [show (24 - b) + b = 24 by omega] at h2
  rw [h1, h2, fb_ct_cong (p := fun j => p ((j + 24 - b) % 24)) (q := fun k => p (24 - b + k)) (n := b), fb_ct_cong (p := fun k => p ((b + k + 24 - b) % 24)) (q := p) (n := 24 - b)]
  · omega
  · intro k hk
    show p ((b + k + 24 - b) % 24) = p k
    rw [show (b + k + 24 - b) % 24 = k by omega]
  · intro k hk
    show p ((k + 24 - b) % 24) = p (24 - b + k)
    rw [show (k + 24 - b) % 24 = 24 - b + k by omega]
theorem pc_tur {x b : Nat} (hx : x < 16777216) (hb : b < 24) : pc (tur x b) = pc x := by
  unfold pc
  rw [fb_ct_cong (q := fun j => x.testBit ((j + 24 - b) % 24)) fun k hk => tur_bit hx hb hk]
  exact fb_ct_tur (p := fun j => x.testBit j) hb
def a_wouldTurn (g : Nat → Nat) (f : Nat → Nat → Nat) (x : Int32) : Int32 := match ox x 24 with
  | none => -2
  | some _ => nI (pc (sn g f))
theorem sp_wouldTurn {g : Nat → Nat} {f : Nat → Nat → Nat} {σ : SS} (h : RC 1 g f σ) (ho : OkW g f) (x : Int32) {Q : Int32 → SS → Prop} (q : ∀ τ, SB AK σ τ → Q (a_wouldTurn g f x) τ) : wp_X9_wouldTurn σ x Q := by
  unfold wp_X9_wouldTurn
  unfold a_wouldTurn at q
  rcases ox_c x (n := 24) (by omega) with ⟨c, e, _⟩ | ⟨c, c', e, _⟩ | ⟨p, hp, rfl, e⟩
  · rw [e] at q
    exact br_t c (q σ SB.rf)
  · rw [e] at q
    refine br_f c' (br_f (fun z => ?_) (q σ SB.rf))
    rw [Int32.lt_iff_toInt_lt] at z
    rw [Int32.le_iff_toInt_le] at c
    have h1 : (nI 24).toInt = 24 := rfl
    have h2 : (24 : Int32).toInt = 24 := rfl
    omega
  · rw [e] at q
    have hl := sn_lt g f
    refine br_f (nI_n0 (by omega)) (br_t ?_ (sp_look h ho fun τ k hs => sp_seenNow ho hs (sp_turned hl hp (sp_bc (tur_lt _ _) ?_))))
    · rw [show (24 : Int32) = nI 24 from rfl, nI_ltI (by omega) (by omega)]; exact hp
    · rw [pc_tur hl hp]; exact q τ k
/-- gaps -/
def a_gapOf (g : Nat → Nat) (f : Nat → Nat → Nat) (x y : Int32) : Int32 := match ox x (gct (sn g f)) with
  | none => -1
  | some k => match gat (sn g f) k with
    | none => -1
    | some s => if y = 0 then nI s else if y = 1 then nI (gln (sn g f) s) else if y = 2 then oN (bst (NR g f) 511 (str s (gln (sn g f) s)) 9).1 else -2
theorem SB.sg {ρ : Nat → Nat} {m M : Nat} {σ τ : SS} (h : SG ρ m M σ) {P : Nat → Prop} (e : SB P σ τ) (h80 : ¬ P 80) (h81 : ¬ P 81) : SG ρ m M τ := h.keep (e 80 h80) (e 81 h81)
theorem ox_iff {x : Int32} {n : Nat} (hn : n < 2 ^ 31) (h : ∀ k, k < n → x ≠ nI k) : ox x n = none := by
  rcases ox_c x hn with ⟨_, e, _⟩ | ⟨_, _, e, _⟩ | ⟨p, hp, e, _⟩
  · exact e
  · exact e
  · exact absurd e (h p hp)
theorem sp_gapOf {g : Nat → Nat} {f : Nat → Nat → Nat} {σ : SS} (h : RC 1 g f σ) (ho : OkW g f) (x y : Int32) {Q : Int32 → SS → Prop} (q : ∀ τ, SB AK σ τ → Q (a_gapOf g f x y) τ) : wp_X9_gapOf σ x y Q := by
  have h12 := gct_le (sn g f)
  unfold wp_X9_gapOf
  unfold a_gapOf at q
  refine sp_look h ho fun τ k hs => sp_seenNow ho hs (sp_find (sn_lt g f) fun υ k2 hg => ?_)
  have hs2 := SB.sg hs k2 (by omega) (by omega)
  have q := q υ (k.tr (k2.mono fun _ => AK_g))
  refine sp_isGap hg (fun i hi ei => ?_) (fun hn => ?_)
  · subst ei
    obtain ⟨s, g1, g2, g3, g4⟩ := gat_some hi
    rw [ox_in hi (by omega)] at q
    simp only [g4] at q
    have eo : o1 (gat (sn g f) i) = nI s := by rw [g4]; rfl
    have el : gle (sn g f) i = gln (sn g f) s := by unfold gle; rw [g4]
    refine br_f (by decide) ?_
    by_cases c0 : y = 0
    · rw [if_pos c0] at q
      exact br_t c0 (sp_firstOf hg hi (by rw [eo]; exact q))
    · rw [if_neg c0] at q
      refine br_f c0 ?_
      by_cases c1 : y = 1
      · rw [if_pos c1] at q
        exact br_t c1 (sp_lengthOf hg (by omega) (by rw [el]; exact q))
      · rw [if_neg c1] at q
        refine br_f c1 ?_
        by_cases c2 : y = 2
        · rw [if_pos c2] at q
          refine br_t c2 (sp_firstOf hg hi (sp_lengthOf hg (by omega) ?_))
          rw [eo, el]
          exact sp_stretch g1 (gln_le _ _) (sp_bestAmong hs2 (NR_lt g f) (S := 511) (by decide) q)
        · rw [if_neg c2] at q
          exact br_f c2 q
  · rw [ox_iff (by omega) hn] at q
    exact br_t rfl q
/-- order -/
def a_key (g : Nat → Nat) (f : Nat → Nat → Nat) (o : Nat) (p : Nat) : Int := if o = 0 then (pc (NR g f p) : Int) else if o = 1 then -(f p 0 : Int) else (aln (NR g f) p : Int)
def ahd (K : Nat → Int) (a b : Nat) : Bool := decide (K b < K a) || (decide (K a = K b) && decide (a < b))
def plc (K : Nat → Int) (m b : Nat) : Nat := fb_ct (fun a => ahd K a b) m
def OR (K : Nat → Int) (m : Nat) (τ : SS) : Prop := ∀ p, p < m → (τ 89 p).toInt = K p
theorem sp_placeOf {τ : SS} {K : Nat → Int} {m b : Nat} (h : OR K m τ) (hm : m ≤ 9) (hb : b < m) {Q : Int32 → SS → Prop} (q : Q (nI (plc K m b)) τ) : wp_X3_placeOf τ (nI b) (nI m) Q := by
  unfold wp_X3_placeOf
  unfold plc at q
  refine Lii.up (N := m) 0 (fun i υ v w => υ = τ ∧ v = nI (fb_ct (fun a => ahd K a b) i) ∧ w = nI i) (by omega) ⟨rfl, rfl, rfl⟩ ?_ ?_
  · rintro rc i υ v w _ hi ⟨rfl, rfl, rfl⟩ k
    unfold bd_X3_placeOf_5
    have hb' := h b hb
    have hi' := h i hi
    refine br_f (c_nle 9 (by omega)) (br_f (nI_gt hi (by omega)) ⟨pk_in i 9 (by omega), pk_in b 9 (by omega), ?_⟩)
    rw [pk_cl (x := nI i) i, pk_cl (x := nI b) b]
    have yes : ahd K i b = true → rc υ (nI (fb_ct (fun a => ahd K a b) i) + 1) (nI i + 1) := fun e => k _ _ _ ⟨rfl, by rw [fb_ct_succ, if_pos e]; exact nI_1 _, nI_1 i⟩
    have no : ahd K i b = false → rc υ (nI (fb_ct (fun a => ahd K a b) i)) (nI i + 1) := fun e => k _ _ _ ⟨rfl, by rw [fb_ct_succ, if_neg (by simp [e])]; rfl, nI_1 i⟩
    rw [Int32.lt_iff_toInt_lt, hb', hi']
    by_cases c1 : K b < K i
    · exact br_t c1 (yes (by unfold ahd; simp [c1]))
    · refine br_f c1 ⟨pk_in i 9 (by omega), pk_in b 9 (by omega), ?_⟩
      rw [← Int32.toInt_inj, hb', hi']
      by_cases c2 : K i = K b
      · refine br_t c2 ?_
        rw [nI_leI (by omega) (by omega)]
        by_cases c3 : b ≤ i
        · exact br_t c3 (no (by unfold ahd; simp [c2]; omega))
        · exact br_f c3 (yes (by unfold ahd; simp [c2]; omega))
      · exact br_f c2 (no (by unfold ahd; simp [c1, c2]))
  · rintro rc υ v w ⟨rfl, rfl, rfl⟩
    unfold bd_X3_placeOf_5
    rw [show (9 : Int32) = nI 9 from rfl, nI_leI (by omega) (by omega)]
    exact br_c (fun _ => q) (fun _ => br_t (by rw [nI_leI (by omega) (by omega)]; omega) q)
def a_at (K : Nat → Int) (m i : Nat) : Option Nat := fnd (fun b => plc K m b == i) m
theorem plc_le (K : Nat → Int) (m b : Nat) : plc K m b ≤ m := fb_ct_le _ _
theorem sp_at {τ : SS} {K : Nat → Int} {m j : Nat} (h : OR K m τ) (hm : m ≤ 9) (hj : j < m) {Q : Int32 → SS → Prop} (q : Q (o1 (a_at K m j)) τ) : wp_X3_at τ (nI j) (nI m) Q := by
  unfold wp_X3_at
  unfold a_at at q
  have skip : ∀ rc i, i < 9 → m ≤ i → rc τ (nI (i + 1)) → bd_X3_at_2 Q (nI j) (nI m) rc τ (nI i) := by
    intro rc i hi hmi k
    unfold bd_X3_at_2
    exact br_f (c_nle 9 hi) (br_t (by rw [nI_leI (by omega) (by omega)]; omega) (by rw [nI_1]; exact k))
  have step : ∀ rc i, i < m → (plc K m i = j → Q (nI i) τ) → (plc K m i ≠ j → rc τ (nI (i + 1))) → bd_X3_at_2 Q (nI j) (nI m) rc τ (nI i) := by
    intro rc i hi h1 h0
    have hp := plc_le K m i
    unfold bd_X3_at_2
    refine br_f (c_nle 9 (by omega)) (br_f (nI_gt hi (by omega)) (sp_placeOf h hm hi ?_))
    rw [nI_eq (by omega) (by omega), nI_1]
    exact br_c h1 h0
  cases e : fnd (fun b => plc K m b == j) m with
  | none =>
    rw [e] at q
    have hn := fnd_none e
    refine Li.up (N := 9) 0 (fun i υ v => υ = τ ∧ v = nI i) (by omega) ⟨rfl, rfl⟩ ?_ ?_
    · rintro rc i υ v _ hi ⟨rfl, rfl⟩ k
      by_cases c : i < m
      · exact step rc i c (fun z => by have := hn i c; simp [z] at this) (fun _ => k _ _ ⟨rfl, rfl⟩)
      · exact skip rc i hi (by omega) (k _ _ ⟨rfl, rfl⟩)
    · rintro rc υ v ⟨rfl, rfl⟩
      unfold bd_X3_at_2
      exact br_t (by decide) q
  | some n =>
    rw [e] at q
    obtain ⟨h1, h2, h3⟩ := fnd_some e
    refine Li.up (N := n) 0 (fun i υ v => υ = τ ∧ v = nI i) (by omega) ⟨rfl, rfl⟩ ?_ ?_
    · rintro rc i υ v _ hi ⟨rfl, rfl⟩ k
      exact step rc i (by omega) (fun z => by have := h3 i hi; simp [z] at this) (fun _ => k _ _ ⟨rfl, rfl⟩)
    · rintro rc υ v ⟨rfl, rfl⟩
      exact step rc n h1 (fun _ => q) (fun z => absurd (by simpa using h2) z)
def a_ranked (g : Nat → Nat) (f : Nat → Nat → Nat) (x y : Int32) : Int32 := match ox x 3 with
  | none => -2
  | some o => match ox y (g 0) with
    | none => -1
    | some j => o1 (a_at (a_key g f o) (g 0) j)
theorem aln_le (ρ : Nat → Nat) (p : Nat) : aln ρ p ≤ 24 := pc_le _
theorem sp_keyOf {g : Nat → Nat} {f : Nat → Nat → Nat} {σ : SS} (h : RC 1 g f σ) (ho : OkW g f) (hs : SG (NR g f) (g 0) (mns g f) σ) {o p : Nat} (ho3 : o < 3) (hp : p < 9) {Q : Int32 → SS → Prop} (q : ∀ v : Int32, (p < g 0 → v.toInt = a_key g f o p) → Q v σ) : wp_X9_keyOf σ (nI o) (nI p) Q := by
  unfold wp_X9_keyOf
  refine pk_eq o 0 (fun c => ?_) (fun c => pk_eq o 1 (fun c1 => ?_) (fun c1 => ?_))
  · refine sp_manySeen hs (NR_lt g f) hp (q _ fun _ => ?_)
    have := pc_le (NR g f p)
    unfold a_key
    rw [if_pos c, nI_toInt (by omega)]
  · by_cases c9 : p < g 0
    · refine sp_numberOf h ho (j := 0) c9 (by decide) (q _ fun _ => ?_)
      rw [wv_in c9 (by decide)]
      have := (ho.2.2 p c9).1
      unfold a_key
      rw [if_neg c, if_pos c1]
      have e1 : (nI (f p 0)).toInt = (f p 0 : Int) := nI_toInt (by omega)
      rw [fb_negI (by omega), e1]
    · have h9 := ho.1
      refine sp_numberOf_no h ho (fun r hr e => ?_) (q _ fun c => absurd c c9)
      rw [nI_eq (by omega) (by omega)] at e
      omega
  · refine sp_manySeenAlone hs (NR_lt g f) hp (q _ fun _ => ?_)
    have := aln_le (NR g f) p
    unfold a_key
    rw [if_neg c, if_neg c1, nI_toInt (by omega)]
theorem sp_ranked {g : Nat → Nat} {f : Nat → Nat → Nat} {σ : SS} (h : RC 1 g f σ) (ho : OkW g f) (x y : Int32) {Q : Int32 → SS → Prop} (q : ∀ τ, SB AK σ τ → Q (a_ranked g f x y) τ) : wp_X9_ranked σ x y Q := by
  have h9 := ho.1
  unfold wp_X9_ranked
  unfold a_ranked at q
  rcases ox_c x (n := 3) (by omega) with ⟨c, e, _⟩ | ⟨c, c', e, _⟩ | ⟨o, ho3, rfl, e⟩
  · rw [e] at q
    exact br_t c (q σ SB.rf)
  · rw [e] at q
    refine br_f c' (br_f (fun z => ?_) (q σ SB.rf))
    rw [Int32.le_iff_toInt_le] at z c
    have h1 : (nI 3).toInt = 3 := rfl
    have h2 : (2 : Int32).toInt = 2 := rfl
    omega
  · rw [e] at q
    refine br_f (nI_n0 (by omega)) (br_t (by rw [show (2 : Int32) = nI 2 from rfl, nI_leI (by omega) (by omega)]; omega) ?_)
    rw [h.1.1]
    rcases ox_c y (n := g 0) (by omega) with ⟨c, e', _⟩ | ⟨c, c', e', _⟩ | ⟨j, hj, rfl, e'⟩
    · rw [e'] at q
      exact br_t c (q σ SB.rf)
    · rw [e'] at q
      exact br_f c' (br_f (fun z => by rw [Int32.lt_iff_toInt_lt] at z; rw [Int32.le_iff_toInt_le] at c; omega) (q σ SB.rf))
    · rw [e'] at q
      refine br_f (nI_n0 (by omega)) (br_t (by rw [nI_ltI (by omega) (by omega)]; exact hj) (sp_look h ho fun τ0 k0 hs0 => ?_))
      have h0 := h.ak k0
      refine Li.up (N := 9) 0 (fun i τ v => v = nI i ∧ SB (fun k => k = 88 ∨ k = 89) τ0 τ ∧ ∀ p, p < i → p < g 0 → (τ 89 p).toInt = a_key g f o p) (by omega) ⟨rfl, SB.rf, fun p hp => absurd hp (by omega)⟩ ?_ ?_
      · rintro rc i τ v _ hi ⟨rfl, kk, hk⟩ k
        unfold bd_X9_ranked_49
        have hr := h0.ak (kk.mono fun _ => AK_o)
        refine br_f (c_nle 9 hi) (sp_keyOf hr ho (SB.sg hs0 kk (by omega) (by omega)) ho3 hi fun v hv => ?_)
        unfold wp_X3_giveKey
        refine br_f (nI_n0 (by omega)) (br_f (c_nle 9 hi) ⟨pk_in i 9 hi, ?_⟩)
        rw [pk_cl i, nI_1]
        refine k _ _ ⟨rfl, kk.w (Or.inr rfl), fun p hp hp2 => ?_⟩
        by_cases c : p = i
        · subst c; rw [u2s]; exact hv hp2
        · rw [u2j _ _ _ c]; exact hk p (by omega) hp2
      · rintro rc τ v ⟨rfl, kk, hk⟩
        unfold bd_X9_ranked_49
        refine br_t (by decide) ?_
        rw [kk 1 (by omega), h0.1.1]
        exact sp_at (K := a_key g f o) (fun p hp => hk p (by omega) hp) h9 hj (q τ (k0.tr (kk.mono fun _ => AK_o)))
