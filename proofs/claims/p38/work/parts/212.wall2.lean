/-! the class: Wall's changes -/
def tearG (g : Nat → Nat) : Nat → Nat := fun k => if k = 0 then g 0 - 1 else if k = 3 then g 3 + 1 else g k
def tearF (f : Nat → Nat → Nat) (p : Nat) : Nat → Nat → Nat := fun q => if q < p then f q else f (q + 1)
theorem tear_ok {g : Nat → Nat} {f : Nat → Nat → Nat} (h : OkW g f) {p : Nat} (hp : p < g 0) : OkW (tearG g) (tearF f p) := by
  refine ⟨?_, h.2.1, fun q hq => ?_⟩
  · show g 0 - 1 ≤ 9
    have := h.1; omega
  · have hq : q < g 0 - 1 := hq
    unfold tearF
    by_cases c : q < p
    · rw [if_pos c]; exact h.2.2 q (by omega)
    · rw [if_neg c]; exact h.2.2 (q + 1) (by omega)
theorem sp_empty {a : Nat} {σ : SS} {p : Nat} (hp : p < 9) {Q : SS → Prop} (h : ∀ τ : SS, (∀ k i, τ k i = if i = p ∧ a + 1 ≤ k ∧ k ≤ a + 6 then (if k = a + 1 then -1 else if k = a + 4 then -4 else 0) else σ k i) → Q τ) : wp_X8_empty a σ (nI p) Q := by
  unfold wp_X8_empty
  have ip := pk_in (x := nI p) p 9 hp
  rw [pk_cl (x := nI p) p]
  refine ⟨ip, ip, fun σ1 e1 => ⟨ip, ip, fun σ2 e2 => ⟨ip, ip, fun σ3 e3 => h _ fun k i => ?_⟩⟩⟩
  rw [e3, u2i, u2i, e2, u2i, u2i, e1, u2i, u2i]
  by_cases c : i = p ∧ a + 1 ≤ k ∧ k ≤ a + 6
  · rw [if_pos c]
    obtain ⟨rfl, c1, c2⟩ := c
    rcases (show k = a + 1 ∨ k = a + 2 ∨ k = a + 3 ∨ k = a + 4 ∨ k = a + 5 ∨ k = a + 6 by omega) with rfl | rfl | rfl | rfl | rfl | rfl <;> simp
  · rw [if_neg c, if_neg (by omega), if_neg (by omega), if_neg (by omega), if_neg (by omega), if_neg (by omega), if_neg (by omega)]
theorem RC.num {a : Nat} {g : Nat → Nat} {f : Nat → Nat → Nat} {σ : SS} (h : RC a g f σ) {m p : Nat} (hm : m < 6) (hp : p < 9) : σ (a + (m + 1)) p = wv g f m p := by
  obtain ⟨e0, e1, e2, e3, e4, e5⟩ := h.2 p hp
  rcases (show m = 0 ∨ m = 1 ∨ m = 2 ∨ m = 3 ∨ m = 4 ∨ m = 5 by omega) with rfl | rfl | rfl | rfl | rfl | rfl <;> assumption
theorem RC.of {a : Nat} {g : Nat → Nat} {f : Nat → Nat → Nat} {σ : SS} (h0 : σ a 6 = nI (g 0)) (h1 : σ a 7 = nI (g 1)) (h2 : σ a 8 = nI (g 2)) (h3 : σ a 9 = nI (g 3)) (h4 : σ a 10 = nI (g 4)) (h : ∀ m p, m < 6 → p < 9 → σ (a + (m + 1)) p = wv g f m p) : RC a g f σ :=
  ⟨⟨h0, h1, h2, h3, h4⟩, fun p hp => ⟨h 0 p (by decide) hp, h 1 p (by decide) hp, h 2 p (by decide) hp, h 3 p (by decide) hp, h 4 p (by decide) hp, h 5 p (by decide) hp⟩⟩
theorem sp_remove {a : Nat} {g : Nat → Nat} {f : Nat → Nat → Nat} {σ : SS} (h : RC a g f σ) (ho : OkW g f) {p : Nat} (hp : p < g 0) {Q : SS → Prop} (q : ∀ τ : SS, SB (fun k => a ≤ k ∧ k ≤ a + 6) σ τ → RC a (tearG g) (tearF f p) τ → Q τ) : wp_X8_remove a σ (nI p) Q := by
  have h9 := ho.1
  unfold wp_X8_remove
  refine Li.up (N := 8) p (fun i τ v => v = nI i ∧ ∀ k j, τ k j = if a + 1 ≤ k ∧ k ≤ a + 6 ∧ p ≤ j ∧ j < i then σ k (j + 1) else σ k j) (by omega) ⟨rfl, fun k j => by rw [if_neg (by omega)]⟩ ?_ ?_
  · rintro rc i τ v hpi hi ⟨rfl, t⟩ k
    unfold bd_X8_remove_2
    refine br_f (nI_n0 (by omega)) (br_f (c_nle 8 hi) ?_)
    rw [nI_1]
    refine sp_copyPlace (Or.inl rfl) (by omega) (by omega) fun υ e => k _ _ ⟨rfl, fun kk j => ?_⟩
    rw [e, t, t]
    by_cases c : a + 1 ≤ kk ∧ kk ≤ a + 6 ∧ p ≤ j ∧ j < i + 1
    · rw [if_pos c]
      by_cases cj : j = i
      · rw [if_pos (by omega), if_neg (by omega), cj, show a + (kk - a) = kk by omega]
      · rw [if_neg (by omega), if_pos (by omega)]
    · rw [if_neg c, if_neg (by omega), if_neg (by omega)]
  · rintro rc τ v ⟨rfl, t⟩
    unfold bd_X8_remove_2
    refine br_f (nI_n0 (by omega)) (br_t (by decide) (sp_empty (p := 8) (by omega) fun υ e σ2 e2 => q _ ?_ ?_))
    · intro k hk
      funext j
      rw [e2, u2i, if_neg (by omega), u2i, if_neg (by omega), e, if_neg (by omega), t, if_neg (by omega)]
    · have ea : ∀ j, υ a j = σ a j := fun j => by rw [e, if_neg (by omega), t, if_neg (by omega)]
      refine RC.of ?_ ?_ ?_ ?_ ?_ fun m j hm hj => ?_
      · rw [e2, u2j _ _ _ (by decide), u2s, ea, h.1.1]
        exact pk_sub (b := 1) (by omega)
      · rw [e2, u2j _ _ _ (by decide), u2j _ _ _ (by decide), ea]; exact h.1.2.1
      · rw [e2, u2j _ _ _ (by decide), u2j _ _ _ (by decide), ea]; exact h.1.2.2.1
      · rw [e2, u2s, u2j _ _ _ (by decide), ea, h.1.2.2.2.1]; exact nI_1 _
      · rw [e2, u2j _ _ _ (by decide), u2j _ _ _ (by decide), ea]; exact h.1.2.2.2.2
      · rw [e2, u2i, if_neg (by omega), u2i, if_neg (by omega), e]
        have g0 : tearG g 0 = g 0 - 1 := rfl
        by_cases c8 : j = 8
        · rw [if_pos (by omega), wv_out (by rw [g0]; omega)]
          rcases (show m = 0 ∨ m = 3 ∨ (m ≠ 0 ∧ m ≠ 3) by omega) with rfl | rfl | ⟨c1, c2⟩
          · rw [if_pos rfl, if_pos rfl]
          · rw [if_neg (by omega), if_pos rfl, if_neg (by omega), if_pos rfl]
          · rw [if_neg (by omega), if_neg (by omega), if_neg c1, if_neg c2]
        · rw [if_neg (by omega), t]
          by_cases cp : p ≤ j
          · rw [if_pos (by omega), h.num hm (by omega)]
            unfold wv tearF
            rw [g0, if_neg (show ¬ j < p by omega)]
            by_cases cg : j + 1 < g 0
            · rw [if_pos cg, if_pos (show j < g 0 - 1 by omega)]
            · rw [if_neg cg, if_neg (show ¬ j < g 0 - 1 by omega)]
          · rw [if_neg (by omega), h.num hm (by omega)]
            unfold wv tearF
            rw [g0, if_pos (show j < p by omega), if_pos (show j < g 0 by omega), if_pos (show j < g 0 - 1 by omega)]
/-- the first below n -/
def fnd (P : Nat → Bool) : Nat → Option Nat
  | 0 => none
  | n + 1 => match fnd P n with
    | some p => some p
    | none => if P n then some n else none
theorem fnd_s (P : Nat → Bool) (n : Nat) : fnd P (n + 1) = match fnd P n with
    | some p => some p
    | none => if P n then some n else none := rfl
theorem fnd_none {P : Nat → Bool} : ∀ {n : Nat}, fnd P n = none → ∀ q, q < n → P q = false
  | 0, _, q, hq => absurd hq (by omega)
  | n + 1, h, q, hq => by
    rw [fnd_s] at h
    cases e : fnd P n with
    | some p => rw [e] at h; cases h
    | none =>
      rw [e] at h
      have h2 : ¬ P n = true := fun z => by simp [z] at h
      by_cases c : q = n
      · subst c; simpa using h2
      · exact fnd_none e q (by omega)
theorem fnd_some {P : Nat → Bool} : ∀ {n p : Nat}, fnd P n = some p → p < n ∧ P p = true ∧ ∀ q, q < p → P q = false
  | 0, p, h => by cases h
  | n + 1, p, h => by
    rw [fnd_s] at h
    cases e : fnd P n with
    | some p' =>
      rw [e] at h
      cases h
      obtain ⟨h1, h2⟩ := fnd_some e
      exact ⟨by omega, h2⟩
    | none =>
      rw [e] at h
      by_cases c : P n = true
      · simp only [c, if_true] at h
        cases h
        exact ⟨by omega, c, fnd_none e⟩
      · simp [c] at h
theorem fnd_of {P : Nat → Bool} {n p : Nat} (h1 : p < n) (h2 : P p = true) (h3 : ∀ q, q < p → P q = false) : fnd P n = some p := by
  cases e : fnd P n with
  | none => rw [fnd_none e p h1] at h2; cases h2
  | some p' =>
    obtain ⟨g1, g2, g3⟩ := fnd_some e
    rcases Nat.lt_trichotomy p p' with c | c | c
    · rw [g3 p c] at h2; cases h2
    · rw [c]
    · rw [h3 p' c] at g2; cases g2
theorem fnd_no {P : Nat → Bool} {n : Nat} (h : ∀ q, q < n → P q = false) : fnd P n = none := by
  cases e : fnd P n with
  | none => rfl
  | some p =>
    obtain ⟨g1, g2, -⟩ := fnd_some e
    rw [h p g1] at g2; cases g2
def o1 (o : Option Nat) : Int32 := match o with
  | none => -1
  | some p => nI p
theorem sp_postOn {a : Nat} {σ : SS} {x : Int32} {Q : Int32 → SS → Prop} (h : Q (o1 (fnd (fun p => decide (σ (a + 1) p = x)) 9)) σ) : wp_X8_postOn a σ x Q := by
  unfold wp_X8_postOn
  have go : ∀ rc (i : Nat) (A : Prop), i < 9 → (A → bd_X8_postOn_2 a Q x rc σ (nI i)) → (¬ σ (a + 1) i = x → rc σ (nI i + 1)) → (σ (a + 1) i = x → Q (nI i) σ) → bd_X8_postOn_2 a Q x rc σ (nI i) := by
    intro rc i A hi _ h1 h2
    unfold bd_X8_postOn_2
    refine br_f (c_nle 9 hi) ⟨pk_in i 9 hi, ?_⟩
    rw [pk_cl i]
    exact ⟨h2, h1⟩
  cases e : fnd (fun p => decide (σ (a + 1) p = x)) 9 with
  | none =>
    rw [e] at h
    refine Li.up (N := 9) 0 (fun i τ v => τ = σ ∧ v = nI i) (by omega) ⟨rfl, rfl⟩ ?_ ?_
    · rintro rc i τ v _ hi ⟨rfl, rfl⟩ k
      exact go rc i False hi (fun z => z.elim) (fun _ => k _ _ ⟨rfl, nI_1 i⟩) (fun z => absurd z (by simpa using fnd_none e i hi))
    · rintro rc τ v ⟨rfl, rfl⟩
      unfold bd_X8_postOn_2
      exact br_t (by decide) h
  | some p =>
    rw [e] at h
    obtain ⟨g1, g2, g3⟩ := fnd_some e
    refine Li.up (N := p) 0 (fun i τ v => τ = σ ∧ v = nI i) (by omega) ⟨rfl, rfl⟩ ?_ ?_
    · rintro rc i τ v _ hi ⟨rfl, rfl⟩ k
      exact go rc i False (by omega) (fun z => z.elim) (fun _ => k _ _ ⟨rfl, nI_1 i⟩) (fun z => absurd z (by simpa using g3 i hi))
    · rintro rc τ v ⟨rfl, rfl⟩
      exact go rc p False g1 (fun z => z.elim) (fun z => absurd (by simpa using g2) z) (fun _ => h)
/-- the post on a stone -/
def pon (g : Nat → Nat) (f : Nat → Nat → Nat) (s : Nat) : Option Nat := fnd (fun p => decide (f p 0 = s)) (g 0)
theorem sp_postOnS {a : Nat} {g : Nat → Nat} {f : Nat → Nat → Nat} {σ : SS} (h : RC a g f σ) (ho : OkW g f) {s : Nat} (hs : s < 24) {Q : Int32 → SS → Prop} (q : Q (o1 (pon g f s)) σ) : wp_X8_postOn a σ (nI s) Q := by
  have h9 := ho.1
  refine sp_postOn ?_
  have e : fnd (fun p => decide (σ (a + 1) p = nI s)) 9 = pon g f s := by
    unfold pon
    cases c : fnd (fun p => decide (f p 0 = s)) (g 0) with
    | none =>
      refine fnd_no fun p hp => ?_
      rw [(h.2 p hp).1]
      by_cases cp : p < g 0
      · have := fnd_none c p cp
        have o := (ho.2.2 p cp).1
        rw [wv_in cp (by decide)]
        simp only [decide_eq_false_iff_not] at this ⊢
        rw [nI_eq (by omega) (by omega)]
        exact this
      · rw [wv_out cp, if_pos rfl]
        simp only [decide_eq_false_iff_not]
        exact fun z => nI_n1 (show s < 2 ^ 31 by omega) z.symm
    | some p =>
      obtain ⟨g1, g2, g3⟩ := fnd_some c
      refine fnd_of (by omega) ?_ fun r hr => ?_
      · rw [(h.2 p (by omega)).1, wv_in g1 (by decide)]
        simp only [decide_eq_true_eq] at g2 ⊢
        rw [g2]
      · have := g3 r hr
        have o := (ho.2.2 r (by omega)).1
        rw [(h.2 r (by omega)).1, wv_in (by omega) (by decide)]
        simp only [decide_eq_false_iff_not] at this ⊢
        rw [nI_eq (by omega) (by omega)]
        exact this
  rw [e]
  exact q
def addG (g : Nat → Nat) : Nat → Nat := fun k => if k = 0 then g 0 + 1 else if k = 2 then g 2 + 1 else g k
def addF (g : Nat → Nat) (f : Nat → Nat → Nat) (s l r : Nat) : Nat → Nat → Nat := fun q => if q = g 0 then (fun j => if j = 0 then s else if j = 1 then l else if j = 2 then r else 0) else f q
theorem add_ok {g : Nat → Nat} {f : Nat → Nat → Nat} (h : OkW g f) {s l r : Nat} (h9 : g 0 < 9) (hs : s < 24) (hl : l ≤ 11) (hr : r ≤ 11) : OkW (addG g) (addF g f s l r) := by
  refine ⟨?_, h.2.1, fun q hq => ?_⟩
  · show g 0 + 1 ≤ 9
    omega
  · have hq : q < g 0 + 1 := hq
    unfold addF
    by_cases c : q = g 0
    · rw [if_pos c]
      refine ⟨hs, hl, hr, ?_, ?_, ?_⟩ <;> simp
    · rw [if_neg c]; exact h.2.2 q (by omega)
theorem sp_add {a : Nat} {g : Nat → Nat} {f : Nat → Nat → Nat} {σ : SS} (h : RC a g f σ) (ho : OkW g f) {s l r : Nat} (h9 : g 0 < 9) {Q : Int32 → SS → Prop} (q : ∀ τ : SS, SB (fun k => a ≤ k ∧ k ≤ a + 6) σ τ → RC a (addG g) (addF g f s l r) τ → Q (nI (g 0)) τ) : wp_X8_add a σ (nI s) (nI l) (nI r) Q := by
  unfold wp_X8_add
  refine sp_postOn ?_
  have e : fnd (fun p => decide (σ (a + 1) p = -1)) 9 = some (g 0) := by
    refine fnd_of h9 ?_ fun p hp => ?_
    · rw [(h.2 _ h9).1, wv_out (by omega), if_pos rfl]; rfl
    · have o := (ho.2.2 p hp).1
      rw [(h.2 p (by omega)).1, wv_in hp (by decide)]
      simp only [decide_eq_false_iff_not]
      exact nI_n1 (by omega)
  rw [e]
  show (nI (g 0) = -1 → _) ∧ (¬ nI (g 0) = -1 → _)
  have ip := pk_in (x := nI (g 0)) (g 0) 9 h9
  refine br_f (nI_n1 (by omega)) ⟨ip, ip, fun σ3 e3 => ⟨ip, fun σ4 e4 => q _ ?_ ?_⟩⟩
  · rw [e4, e3]
    exact (((((SB.rf.w (by omega)).w (by omega)).w (by omega)).w (by omega)).w (by omega))
  · have ec : (o1 (some (g 0))).toNatClampNeg = g 0 := pk_cl (x := nI (g 0)) (g 0)
    rw [ec] at e3 e4
    have e40 : ∀ j, j ≠ 6 → σ4 a j = σ a j := fun j hj => by rw [e4, u2j _ _ _ hj, u2k _ _ _ _ (by omega), e3, u2k _ _ _ _ (by omega), u2k _ _ _ _ (by omega)]
    refine RC.of ?_ ?_ ?_ ?_ ?_ fun m j hm hj => ?_
    · rw [u2j _ _ _ (by decide), e4, u2s, u2k _ _ _ _ (by omega), e3, u2k _ _ _ _ (by omega), u2k _ _ _ _ (by omega), h.1.1]; exact nI_1 _
    · rw [u2j _ _ _ (by decide), e40 _ (by decide)]; exact h.1.2.1
    · rw [u2s, e40 _ (by decide), h.1.2.2.1]; exact nI_1 _
    · rw [u2j _ _ _ (by decide), e40 _ (by decide)]; exact h.1.2.2.2.1
    · rw [u2j _ _ _ (by decide), e40 _ (by decide)]; exact h.1.2.2.2.2
    · rw [u2k _ _ _ _ (by omega), e4, u2k _ _ _ _ (by omega), u2i, e3, u2i, u2i, h.num hm hj]
      have g0 : addG g 0 = g 0 + 1 := rfl
      by_cases cj : j = g 0
      · subst cj
        unfold wv addF
        rw [g0, if_pos (show g 0 < g 0 + 1 by omega), if_pos rfl, if_neg (show ¬ g 0 < g 0 by omega)]
        rcases (show m = 0 ∨ m = 1 ∨ m = 2 ∨ m = 3 ∨ m = 4 ∨ m = 5 by omega) with rfl | rfl | rfl | rfl | rfl | rfl <;> simp
        all_goals rfl
      · rw [if_neg (by omega), if_neg (by omega), if_neg (by omega)]
        unfold wv addF
        rw [g0, if_neg cj]
        by_cases cg : j < g 0
        · rw [if_pos cg, if_pos (show j < g 0 + 1 by omega)]
        · rw [if_neg cg, if_neg (show ¬ j < g 0 + 1 by omega)]
def manG (g : Nat → Nat) : Nat → Nat := fun k => if k = 4 then g 4 + 1 else g k
def manF (f : Nat → Nat → Nat) (S : Nat) : Nat → Nat → Nat := fun q j => if j = 5 then (S.testBit q).toNat else f q j
theorem man_ok {g : Nat → Nat} {f : Nat → Nat → Nat} (h : OkW g f) (S : Nat) : OkW (manG g) (manF f S) := by
  refine ⟨h.1, h.2.1, fun q hq => ?_⟩
  obtain ⟨o0, o1, o2, o3, o4, o5⟩ := h.2.2 q hq
  exact ⟨o0, o1, o2, o3, o4, by show (S.testBit q).toNat ≤ 1; cases S.testBit q <;> simp⟩
theorem sp_manJust {a : Nat} {g : Nat → Nat} {f : Nat → Nat → Nat} {σ : SS} (h : RC a g f σ) (ho : OkW g f) {S : Nat} (hS : S < 2 ^ g 0) {Q : SS → Prop} (q : ∀ τ : SS, SB (fun k => a ≤ k ∧ k ≤ a + 6) σ τ → RC a (manG g) (manF f S) τ → Q τ) : wp_X8_manJust a σ (nI S) Q := by
  have h9 := ho.1
  have hp9 : 2 ^ g 0 ≤ 2 ^ 9 := Nat.pow_le_pow_right (by omega) h9
  unfold wp_X8_manJust
  refine Li.up (N := 9) 0 (fun i τ v => v = nI i ∧ ∀ k j, τ k j = if k = a + 6 ∧ j < i then nI (S.testBit j).toNat else σ k j) (by omega) ⟨rfl, fun k j => by rw [if_neg (by omega)]⟩ ?_ ?_
  · rintro rc i τ v _ hi ⟨rfl, t⟩ k
    unfold bd_X8_manJust_2
    refine br_f (c_nle 9 hi) ⟨pk_in i 9 hi, ?_⟩
    rintro σ1 rfl
    rw [pk_cl i, mI_bit (by omega) (by omega)]
    refine k _ _ ⟨nI_1 i, fun kk j => ?_⟩
    rw [u2i, t]
    by_cases c : kk = a + 6 ∧ j < i + 1
    · rw [if_pos c]
      by_cases cj : j = i
      · rw [if_pos ⟨c.1, cj⟩, cj]
      · rw [if_neg (by omega), if_pos (by omega)]
    · rw [if_neg c, if_neg (by omega), if_neg (by omega)]
  · rintro rc τ v ⟨rfl, t⟩
    unfold bd_X8_manJust_2
    refine br_t (by decide) (q _ ?_ ?_)
    · intro k hk
      funext j
      rw [u2i, if_neg (by omega), t, if_neg (by omega)]
    · have ea : ∀ j, τ a j = σ a j := fun j => by rw [t, if_neg (by omega)]
      refine RC.of ?_ ?_ ?_ ?_ ?_ fun m j hm hj => ?_
      · rw [u2j _ _ _ (by decide), ea]; exact h.1.1
      · rw [u2j _ _ _ (by decide), ea]; exact h.1.2.1
      · rw [u2j _ _ _ (by decide), ea]; exact h.1.2.2.1
      · rw [u2j _ _ _ (by decide), ea]; exact h.1.2.2.2.1
      · rw [u2s, ea, h.1.2.2.2.2]; exact nI_1 _
      · rw [u2k _ _ _ _ (by omega), t]
        have g0 : manG g 0 = g 0 := rfl
        by_cases c5 : m = 5
        · subst c5
          rw [if_pos (by omega)]
          unfold wv manF
          rw [g0]
          by_cases cg : j < g 0
          · rw [if_pos cg, if_neg (by decide), if_pos rfl]
          · rw [if_neg cg, m_hi hS (by omega)]; rfl
        · rw [if_neg (by omega), h.num hm hj]
          have xm : manF f S j m = f j m := by unfold manF; rw [if_neg c5]
          have x4 : manF f S j 4 = f j 4 := rfl
          have x3 : manF f S j 3 = f j 3 := rfl
          unfold wv
          rw [g0, xm, x4, x3]
