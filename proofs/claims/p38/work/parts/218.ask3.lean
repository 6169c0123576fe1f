/-! the class: the line, the text's length, the account -/
def LN (a j c : Nat) (l : List Int32) (τ : SS) : Prop := τ a j = nI l.length ∧ ∀ i, i < l.length → τ c i = l.getD i 0
theorem LN.keep {a j c : Nat} {l : List Int32} {σ τ : SS} (h : LN a j c l σ) (e1 : τ a = σ a) (e2 : τ c = σ c) : LN a j c l τ := by
  unfold LN at *; rw [e1, e2]; exact h
theorem LN.nil (a j c : Nat) (σ : SS) : LN a j c [] (u2 σ a j 0) := ⟨by rw [u2s]; rfl, fun i h => absurd h (by simp)⟩
theorem LN.add {a j c : Nat} {l : List Int32} {σ : SS} (h : LN a j c l σ) (hac : a ≠ c) (x : Int32) : LN a j c (l ++ [x]) (u2 (u2 σ c l.length x) a j (nI l.length + 1)) := by
  refine ⟨?_, fun i hi => ?_⟩
  · rw [u2s, List.length_append]; exact nI_1 _
  · rw [List.length_append] at hi
    have hi : i < l.length + 1 := hi
    rw [u2k _ _ _ _ (Ne.symm hac)]
    by_cases c : i = l.length
    · subst c
      rw [u2s]
      simp [List.getD]
    · rw [u2j _ _ _ c, h.2 i (by omega)]
      simp [List.getD, List.getElem?_append_left (show i < l.length by omega)]
def TK (k : Nat) : Prop := k = 90 ∨ k = 91
theorem sp_append {σ : SS} {l : List Int32} (h : LN 90 2 91 l σ) (hl : l.length ≤ 70) (x : Int32) {Q : Int32 → SS → Prop} (q0 : (x < 32 ∨ ¬ x ≤ 126 ∨ l.length = 70) → Q (-2) σ) (q1 : ¬ x < 32 → x ≤ 126 → l.length < 70 → ∀ τ, SB TK σ τ → LN 90 2 91 (l ++ [x]) τ → Q (nI (l.length + 1)) τ) : wp_X9_append σ x Q := by
  unfold wp_X9_append
  refine br_c (fun c => q0 (Or.inl c)) fun c => br_c (fun c2 => ?_) (fun c2 => q0 (Or.inr (Or.inl c2)))
  unfold wp_X7_put
  rw [h.1]
  refine br_f (nI_n0 (by omega)) ?_
  rw [show (70 : Int32) = nI 70 from rfl, nI_ltI (by omega) (by omega)]
  refine br_c (fun c3 => ⟨pk_in _ 70 c3, ?_⟩) (fun c3 => q0 (Or.inr (Or.inr (by omega))))
  rw [pk_cl l.length, u2k _ _ _ _ (show (90 : Nat) ≠ 91 by decide), h.1]
  rintro τ rfl
  have hn := h.add (by decide) x
  rw [hn.1, List.length_append]
  exact q1 c c2 c3 _ ((SB.rf.w (Or.inr rfl)).w (Or.inl rfl)) hn
theorem i_nle2 {x : Int32} {c : Int32} (n : Nat) (hn : n + 1 < 2 ^ 31) (hc : c = nI n) (h : nI (n + 1) ≤ x) : ¬ x ≤ c := fun z => by
  subst hc
  rw [Int32.le_iff_toInt_le, nI_toInt hn] at h
  rw [Int32.le_iff_toInt_le, nI_toInt (by omega)] at z
  omega
def a_sight (g : Nat → Nat) (f : Nat → Nat → Nat) (i : Nat) : Nat :=
  if i = 0 then g 0 else if i = 1 then pc (mns g f) else if i = 2 then pc (sn g f) else if i = 3 then pc (onc (NR g f) (mns g f) 9).2 else if i = 4 then gct (sn g f) else if i = 5 then glm (sn g f) 12 else uns g f
theorem sp_sightAccount {g : Nat → Nat} {f : Nat → Nat → Nat} {σ : SS} (h : RC 1 g f σ) (ho : OkW g f) {i : Nat} (hi : i < 7) {Q : Int32 → SS → Prop} (q : ∀ τ, SB AK σ τ → Q (nI (a_sight g f i)) τ) : wp_X9_sightAccount σ (nI i) Q := by
  unfold wp_X9_sightAccount
  refine sp_look h ho fun τ k hs => sp_seenNow ho hs (sp_find (sn_lt g f) fun υ k2 hg => ?_)
  have hs2 := SB.sg hs k2 (by omega) (by omega)
  have kk := k.tr (k2.mono fun _ => AK_g)
  have q := q υ kk
  have hr := h.ak kk
  have h9 := mns_lt ho
  unfold a_sight at q
  refine pk_eq i 0 (fun c0 => ?_) fun c0 => pk_eq i 1 (fun c1 => ?_) fun c1 => pk_eq i 2 (fun c2 => ?_) fun c2 => pk_eq i 3 (fun c3 => ?_) fun c3 => pk_eq i 4 (fun c4 => ?_) fun c4 => pk_eq i 5 (fun c5 => ?_) fun c5 => ?_
  · rw [if_pos c0] at q; rw [hr.1.1]; exact q
  · rw [if_neg c0, if_pos c1] at q; rw [hs2.2.1]; exact sp_bc (by omega) q
  · rw [if_neg c0, if_neg c1, if_pos c2] at q; exact sp_bc (sn_lt g f) q
  · rw [if_neg c0, if_neg c1, if_neg c2, if_pos c3] at q; exact sp_overlaps hs2 (NR_lt g f) h9 q
  · rw [if_neg c0, if_neg c1, if_neg c2, if_neg c3, if_pos c4] at q; rw [hg.1]; exact q
  · rw [if_neg c0, if_neg c1, if_neg c2, if_neg c3, if_neg c4, if_pos c5] at q; exact sp_longest hg q
  · rw [if_neg c0, if_neg c1, if_neg c2, if_neg c3, if_neg c4, if_neg c5] at q; exact sp_manyUnseen hs2 q
def a_account (g : Nat → Nat) (f : Nat → Nat → Nat) (tl hm x : Int32) : Int32 := match ox x 13 with
  | none => -2
  | some i => if i = 11 then tl else if i = 12 then hm else if i < 7 then nI (a_sight g f i) else nI (g (i - 6))
theorem sp_account {g : Nat → Nat} {f : Nat → Nat → Nat} {σ : SS} (h : RC 1 g f σ) (ho : OkW g f) (x : Int32) {Q : Int32 → SS → Prop} (q : ∀ τ, SB AK σ τ → Q (a_account g f (σ 90 2) (σ 22 2) x) τ) : wp_X9_account σ x Q := by
  unfold wp_X9_account
  unfold a_account at q
  rcases ox_c x (n := 13) (by omega) with ⟨c, e, _⟩ | ⟨c, c', e, _⟩ | ⟨i, hi, rfl, e⟩
  · rw [e] at q; exact br_t c (q σ SB.rf)
  · rw [e] at q; exact br_f c' (br_f (i_nle2 12 (by omega) rfl c) (q σ SB.rf))
  · rw [e] at q
    refine br_f (nI_n0 (by omega)) (br_t (by rw [show (12 : Int32) = nI 12 from rfl, nI_leI (by omega) (by omega)]; omega) ?_)
    refine pk_eq i 11 (fun c1 => ?_) fun c1 => pk_eq i 12 (fun c2 => ?_) fun c2 => pk_lt i 7 (fun c3 => ?_) fun c3 => ?_
    · simp only [if_pos c1] at q; exact q σ SB.rf
    · simp only [if_neg c1, if_pos c2] at q; exact q σ SB.rf
    · simp only [if_neg c1, if_neg c2, if_pos c3] at q; exact sp_sightAccount h ho c3 q
    · simp only [if_neg c1, if_neg c2, if_neg (show ¬ i < 7 by omega)] at q
      have q := q σ SB.rf
      unfold wp_X8_accountOf
      refine pk_eq i 7 (fun d => ?_) fun d7 => pk_eq i 8 (fun d => ?_) fun d8 => pk_eq i 9 (fun d => ?_) fun d9 => ?_
      · subst d; rw [h.1.2.1]; exact q
      · subst d; rw [h.1.2.2.1]; exact q
      · subst d; rw [h.1.2.2.2.1]; exact q
      · have d : i = 10 := by omega
        subst d; rw [h.1.2.2.2.2]; exact q
def a_isWell (g : Nat → Nat) (f : Nat → Nat → Nat) : Int32 := if pc (sn g f) + fb_sm (gle (sn g f)) 12 = 24 then 1 else 0
theorem sp_isWell {g : Nat → Nat} {f : Nat → Nat → Nat} {σ : SS} (h : RC 1 g f σ) (ho : OkW g f) {Q : Int32 → SS → Prop} (q : ∀ τ, SB AK σ τ → Q (a_isWell g f) τ) : wp_X9_isWell σ Q := by
  have h9 := ho.1
  have h2 := p2_le h9
  unfold wp_X9_isWell
  refine sp_look h ho fun τ k hs => sp_trySets hs (NR_lt g f) h9 fun τ2 k2 e1 _ _ => ?_
  have hs2 := SB.sg hs k2 (by omega) (by omega)
  have kk := k.tr (k2.mono fun _ => AK_c)
  refine sp_searchStones hs2 (NR_lt g f) (fun p => NR_0) h9 fun τ3 k3 => ?_
  have hs3 := SB.sg hs2 k3 (by omega) (by omega)
  have kk := kk.tr (k3.mono fun _ => AK_s)
  rw [e1]
  have fin : ∀ υ, SG (NR g f) (g 0) (mns g f) υ → SB AK σ υ → wp_X6_seenBySet υ (υ 80 2) (fun r15 σ14 => wp_X1_find σ14 r15 (fun σ16 => wp_J6_bitCount_0f7a4 σ16 r15 (fun r18 σ17 => wp_X1_lengthOfAll σ17 (fun r20 σ19 => (((r18 + r20) = 24 → Q 1 σ19) ∧ (¬ (r18 + r20) = 24 → Q 0 σ19)))))) := by
    intro υ hu ku
    refine sp_seenNow ho hu (sp_find (sn_lt g f) fun υ2 ku2 hg => sp_bc (sn_lt g f) (sp_lengthOfAll hg ?_))
    have q := q υ2 (ku.tr (ku2.mono fun _ => AK_g))
    unfold a_isWell at q
    have hb : fb_sm (gle (sn g f)) 12 ≤ 12 * 24 := fb_sm_bound fun k _ => gle_le _ k
    have hp := pc_le (sn g f)
    rw [nI_add]
    refine pk_eq (pc (sn g f) + fb_sm (gle (sn g f)) 12) 24 (fun c => ?_) (fun c => ?_)
    · rw [if_pos c] at q; exact q
    · rw [if_neg c] at q; exact q
  change ((oN (few (NR g f) (g 0)) = oN (few (NR g f) (g 0)) → ((oN (few (NR g f) (g 0)) = (-4) → _) ∧ (¬ oN (few (NR g f) (g 0)) = (-4) → wp_X6_seenBySet τ3 (oN (few (NR g f) (g 0))) _))) ∧ _)
  refine br_t rfl ?_
  cases ef : few (NR g f) (g 0) with
  | none => exact br_t rfl (fin τ3 hs3 kk)
  | some t =>
    have hf := few_lt h9 ef
    refine br_f (nI_n4 (by omega)) (sp_seenBySet hs3 (S := t) (by omega) ?_)
    rw [hf.2]
    exact br_t rfl (fin τ3 hs3 kk)
