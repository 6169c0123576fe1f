/-! the class: the line, the text's length, the account -/
def LN (a j c : Nat) (l : List Int32) (τ : SS) : Prop := τ a j = nI l.length ∧ ∀ i, i < l.length → τ c i = l.getD i 0
theorem LN.keep {a j c : Nat} {l : List Int32} {σ τ : SS} (h : LN a j c l σ) (e1 : τ a = σ a) (e2 : τ c = σ c) : LN a j c l τ := by
  unfold LN at *; rw [e1, e2]; exact h
theorem LN.nil (a j c : Nat) (σ : SS) : LN a j c [] (u2 σ a j 0) := ⟨by rw [u2s]; rfl, fun i h => absurd h (by simp)⟩
theorem LN.add {a j c : Nat} {l : List Int32} {σ : SS} (h : LN a j c l σ) (hac : a ≠ c) (x : Int32) : LN a j c (l ++ [x]) (u2 (u2 σ c l.length x) a j (nI l.length + 1)) := by
  refine ⟨?_, fun i hi => ?_⟩
  · rw [u2s, List.length_append]; exact nI_1 _
  · rw [List.length_append] at hi
    have hi : i < l.length + 1 := hi
    rw [u2k _ _ _ _ (Ne.symm hac)]
    by_cases c : i = l.length
    · subst c
      rw [u2s]
      simp [List.getD]
    · rw [u2j _ _ _ c, h.2 i (by omega)]
      simp [List.getD, List.getElem?_append_left (show i < l.length by omega)]
def LK (k : Nat) : Prop := k = 92 ∨ k = 93
theorem sp_put {σ : SS} {l : List Int32} (h : LN 92 1 93 l σ) (hl : l.length < 24) (x : Int32) {Q : SS → Prop} (q : ∀ τ, SB LK σ τ → LN 92 1 93 (l ++ [x]) τ → Q τ) : wp_X2_put σ x Q := by
  unfold wp_X2_put
  rw [h.1]
  refine br_f (nI_n0 (by omega)) (br_f (c_nle 24 hl) ⟨pk_in _ 24 hl, ?_⟩)
  rw [pk_cl l.length, u2k _ _ _ _ (show (92 : Nat) ≠ 93 by decide), h.1]
  rintro τ rfl
  exact q _ ((SB.rf.w (Or.inr rfl)).w (Or.inl rfl)) (h.add (by decide) x)
def dgt (n : Nat) : List Int32 := if n < 10 then [nI (48 + n % 10)] else [nI (48 + n / 10), nI (48 + n % 10)]
theorem dgt_le (n : Nat) : (dgt n).length ≤ 2 := by unfold dgt; split <;> simp
theorem i_rem10 {n : Nat} (hn : n < 2 ^ 31) : nI n - nI n / 10 * 10 = nI (n % 10) := pk_rem hn (d := 10) (by decide) (by decide)
theorem i_div10 {n : Nat} (hn : n < 2 ^ 31) : nI n / 10 = nI (n / 10) := pk_div hn (d := 10) (by decide) (by decide)
theorem i_48 (n : Nat) : (48 : Int32) + nI n = nI (48 + n) := nI_add 48 n
theorem sp_putNumber {σ : SS} {l : List Int32} (h : LN 92 1 93 l σ) (hl : l.length < 23) {n : Nat} (hn : n < 100) {Q : SS → Prop} (q : ∀ τ, SB LK σ τ → LN 92 1 93 (l ++ dgt n) τ → Q τ) : wp_X2_putNumber σ (nI n) Q := by
  unfold wp_X2_putNumber
  rw [i_rem10 (by omega), i_div10 (by omega), i_48, i_48, show (10 : Int32) = nI 10 from rfl, nI_ltI (by omega) (by omega)]
  by_cases c : n < 10
  · refine br_t c (sp_put h (by omega) _ fun τ k hl => q τ k ?_)
    unfold dgt; rw [if_pos c]; exact hl
  · refine br_f c (sp_put h (by omega) _ fun τ k hl1 => sp_put hl1 (by simp; omega) _ fun υ k2 hl2 => q υ (k.tr k2) ?_)
    unfold dgt; rw [if_neg c]
    rw [List.append_assoc] at hl2
    exact hl2
theorem sp_putMarked {σ : SS} {l : List Int32} (h : LN 92 1 93 l σ) (hl : l.length < 22) (x : Int32) {n : Nat} (hn : n < 100) {Q : SS → Prop} (q : ∀ τ, SB LK σ τ → LN 92 1 93 ((l ++ [x]) ++ dgt n) τ → Q τ) : wp_X9_putMarked σ x (nI n) Q := by
  unfold wp_X9_putMarked
  exact sp_put h (by omega) x fun τ k hl1 => sp_putNumber hl1 (by simp; omega) hn fun υ k2 hl2 => q υ (k.tr k2) hl2
def dsc1 (f : Nat → Nat → Nat) (p : Nat) : List Int32 := (((((dgt p ++ [64]) ++ dgt (f p 0)) ++ [60]) ++ dgt (f p 1)) ++ [62]) ++ dgt (f p 2)
def dsc2 (f : Nat → Nat → Nat) (p : Nat) : List Int32 := if f p 4 = 0 then dsc1 f p else (((dsc1 f p ++ [33]) ++ dgt (f p 3)) ++ [43]) ++ dgt (f p 4)
def dsc (f : Nat → Nat → Nat) (p : Nat) : List Int32 := if f p 5 = 1 then dsc2 f p ++ [42] else dsc2 f p
theorem dsc1_le (f : Nat → Nat → Nat) (p : Nat) : (dsc1 f p).length ≤ 11 := by
  unfold dsc1
  simp only [List.length_append, List.length_singleton]
  have h0 := dgt_le p
  have h1 := dgt_le (f p 0)
  have h2 := dgt_le (f p 1)
  have h3 := dgt_le (f p 2)
  omega
theorem dsc2_le (f : Nat → Nat → Nat) (p : Nat) : (dsc2 f p).length ≤ 17 := by
  have h1 := dsc1_le f p
  unfold dsc2
  split
  · omega
  · simp only [List.length_append, List.length_singleton]
    have h2 := dgt_le (f p 3)
    have h3 := dgt_le (f p 4)
    omega
theorem dsc_le (f : Nat → Nat → Nat) (p : Nat) : (dsc f p).length ≤ 18 := by
  have h1 := dsc2_le f p
  unfold dsc
  split
  · simp only [List.length_append, List.length_singleton]; omega
  · omega
theorem RC.lk {g : Nat → Nat} {f : Nat → Nat → Nat} {σ τ : SS} (h : RC 1 g f σ) (e : SB LK σ τ) : RC 1 g f τ := h.keep fun k _ _ => e k (by unfold LK; omega)
theorem sp_describe {g : Nat → Nat} {f : Nat → Nat → Nat} {σ : SS} (h : RC 1 g f σ) (ho : OkW g f) (x : Int32) {Q : Int32 → SS → Prop} (q0 : ox x (g 0) = none → Q (-1) σ) (q1 : ∀ p, ox x (g 0) = some p → ∀ τ, SB LK σ τ → LN 92 1 93 (dsc f p) τ → Q (nI (dsc f p).length) τ) : wp_X9_describe σ x Q := by
  have h9 := ho.1
  unfold wp_X9_describe
  refine sp_isPostX h ho x (fun p hp ex e => ?_) (fun e => br_t rfl (q0 e))
  have q2 := q1 p e
  subst ex
  obtain ⟨o0, o1, o2, o4, o3, o5⟩ := ho.2.2 p hp
  have k0 : SB LK σ (u2 σ 92 1 0) := SB.rf.w (Or.inl rfl)
  have hn : ∀ {τ : SS}, SB LK σ τ → ∀ {j : Nat}, j < 6 → ∀ {Q' : Int32 → SS → Prop}, Q' (wv g f j p) τ → wp_X8_numberOf 1 τ (nI p) (nI j) Q' := fun {τ} k {j} hj {Q'} q' => sp_numberOf (h.lk k) ho hp hj q'
  refine br_f (by decide) (sp_putNumber (LN.nil 92 1 93 σ) (by simp) (n := p) (by omega) fun τ1 k1 l1 => ?_)
  have k1 := k0.tr k1
  have a1 : (dgt p).length ≤ 2 := dgt_le p
  refine hn k1 (j := 0) (by decide) ?_
  rw [wv_in hp (by decide)]
  refine sp_putMarked l1 (by simp; omega) 64 (by omega) fun τ2 k2 l2 => ?_
  have k2 := k1.tr k2
  have a2 := dgt_le (f p 0)
  refine hn k2 (j := 1) (by decide) ?_
  rw [wv_in hp (by decide)]
  refine sp_putMarked l2 (by simp; omega) 60 (by omega) fun τ3 k3 l3 => ?_
  have k3 := k2.tr k3
  have a3 := dgt_le (f p 1)
  refine hn k3 (j := 2) (by decide) ?_
  rw [wv_in hp (by decide)]
  refine sp_putMarked l3 (by simp; omega) 62 (by omega) fun τ4 k4 l4 => ?_
  have k4 := k3.tr k4
  have l4 : LN 92 1 93 (dsc1 f p) τ4 := l4
  have d1 := dsc1_le f p
  have d2 := dsc2_le f p
  clear l1 l2 l3
  refine hn k4 (j := 4) (by decide) ?_
  rw [wv_in hp (by decide)]
  have star : ∀ {τ : SS}, SB LK σ τ → LN 92 1 93 (dsc2 f p) τ → wp_X8_numberOf 1 τ (nI p) 5 (fun r17 σ16 => ((r17 = 1 → wp_X2_put σ16 42 (fun σ18 => Q (σ18 92 1) σ18)) ∧ (¬ r17 = 1 → Q (σ16 92 1) σ16))) := by
    intro τ k l
    refine hn k (j := 5) (by decide) ?_
    rw [wv_in hp (by decide)]
    refine pk_eq (f p 5) 1 (fun c => sp_put l (by omega) 42 fun υ kk ll => ?_) (fun c => ?_)
    · have e : dsc f p = dsc2 f p ++ [42] := by unfold dsc; rw [if_pos c]
      rw [← e] at ll
      rw [ll.1]; exact q2 υ (k.tr kk) ll
    · have e : dsc f p = dsc2 f p := by unfold dsc; rw [if_neg c]
      rw [e] at q2
      rw [l.1]; exact q2 τ k l
  by_cases c4 : f p 4 = 0
  · refine br_t (by rw [c4]; decide) (star k4 ?_)
    unfold dsc2; rw [if_pos c4]; exact l4
  · refine br_f (nI_nle (by omega) (by omega)) (hn k4 (j := 3) (by decide) ?_)
    have e3 : wv g f 3 p = nI (f p 3) := by unfold wv; rw [if_pos hp, if_pos rfl, if_neg c4]
    rw [e3]
    have o3 := o3 c4
    refine sp_putMarked l4 (by omega) 33 (by omega) fun τ5 k5 l5 => ?_
    have k5 := k4.tr k5
    have a5 := dgt_le (f p 3)
    refine hn k5 (j := 4) (by decide) ?_
    rw [wv_in hp (by decide)]
    refine sp_putMarked l5 (by simp; omega) 43 (by omega) fun τ6 k6 l6 => star (k5.tr k6) ?_
    unfold dsc2; rw [if_neg c4]; exact l6
def sgn (k : Nat) : Int32 := if k = 0 then 46 else if k ≤ 9 then nI (48 + k) else 43
theorem sp_signFor {σ : SS} {k : Nat} (hk : k ≤ 24) {Q : Int32 → SS → Prop} (q : Q (sgn k) σ) : wp_X9_signFor σ (nI k) Q := by
  unfold wp_X9_signFor
  unfold sgn at q
  refine pk_eq k 0 (fun c => ?_) (fun c => pk_le k 9 (fun c1 => ?_) (fun c1 => ?_))
  · rw [if_pos c] at q; exact q
  · rw [if_neg c, if_pos c1] at q; rw [i_48]; exact q
  · rw [if_neg c, if_neg (by omega)] at q; exact q
def shw (g : Nat → Nat) (f : Nat → Nat → Nat) : Nat → List Int32
  | 0 => []
  | n + 1 => shw g f n ++ [sgn (pc (srs (NR g f) n 9 &&& mns g f))]
theorem shw_len (g : Nat → Nat) (f : Nat → Nat → Nat) : ∀ n, (shw g f n).length = n
  | 0 => rfl
  | n + 1 => by unfold shw; rw [List.length_append, shw_len g f n]; rfl
theorem sp_show {g : Nat → Nat} {f : Nat → Nat → Nat} {σ : SS} (h : RC 1 g f σ) (ho : OkW g f) {Q : Int32 → SS → Prop} (q : ∀ τ, SB (fun k => AK k ∨ LK k) σ τ → LN 92 1 93 (shw g f 24) τ → Q 24 τ) : wp_X9_show σ Q := by
  unfold wp_X9_show
  refine sp_look h ho fun τ0 k0 hs0 => ?_
  have k0 : SB (fun k => AK k ∨ LK k) σ τ0 := k0.mono fun _ => Or.inl
  unfold wp_X2_clear
  refine Li.up (N := 24) 0 (fun i τ v => v = nI i ∧ SB LK τ0 τ ∧ LN 92 1 93 (shw g f i) τ) (by omega) ⟨rfl, SB.rf.w (Or.inl rfl), LN.nil 92 1 93 τ0⟩ ?_ ?_
  · rintro rc i τ v _ hi ⟨rfl, kk, hl⟩ k
    have hs := SB.sg hs0 kk (by unfold LK; omega) (by unfold LK; omega)
    unfold bd_X9_show_27
    refine br_f (c_nle 24 hi) (sp_seersOf hs (NR_lt g f) hi ?_)
    rw [hs.2.1, mI_and]
    refine sp_bc (srs_24 _ _ _) (sp_signFor (pc_le _) (sp_put hl (by rw [shw_len]; exact hi) _ fun υ k2 h2 => ?_))
    rw [nI_1]
    exact k _ _ ⟨rfl, kk.tr k2, h2⟩
  · rintro rc τ v ⟨rfl, kk, hl⟩
    unfold bd_X9_show_27
    rw [hl.1, shw_len]
    exact br_t (by decide) (q τ (k0.tr (kk.mono fun _ => Or.inr)) hl)
def a_sign (l : List Int32) (x : Int32) : Int32 := match ox x l.length with
  | none => -1
  | some i => l.getD i 0
theorem sp_sign {σ : SS} {l : List Int32} (h : LN 92 1 93 l σ) (hl : l.length ≤ 24) (x : Int32) {Q : Int32 → SS → Prop} (q : Q (a_sign l x) σ) : wp_X9_sign σ x Q := by
  unfold wp_X9_sign wp_X2_codeAt
  unfold a_sign at q
  rw [h.1]
  rcases ox_c x (n := l.length) (by omega) with ⟨c, e, _⟩ | ⟨c, c', e, _⟩ | ⟨i, hi, rfl, e⟩
  · rw [e] at q; exact br_t c q
  · rw [e] at q; exact br_f c' (br_t c q)
  · rw [e] at q
    refine br_f (nI_n0 (by omega)) (br_f (nI_gt hi (by omega)) (br_f (c_nle 24 (by omega)) ⟨pk_in i 24 (by omega), ?_⟩))
    rw [pk_cl i, h.2 i hi]
    exact q
def TK (k : Nat) : Prop := k = 90 ∨ k = 91
theorem sp_append {σ : SS} {l : List Int32} (h : LN 90 2 91 l σ) (hl : l.length ≤ 70) (x : Int32) {Q : Int32 → SS → Prop} (q0 : (x < 32 ∨ ¬ x ≤ 126 ∨ l.length = 70) → Q (-2) σ) (q1 : ¬ x < 32 → x ≤ 126 → l.length < 70 → ∀ τ, SB TK σ τ → LN 90 2 91 (l ++ [x]) τ → Q (nI (l.length + 1)) τ) : wp_X9_append σ x Q := by
  unfold wp_X9_append
  refine br_c (fun c => q0 (Or.inl c)) fun c => br_c (fun c2 => ?_) (fun c2 => q0 (Or.inr (Or.inl c2)))
  unfold wp_X7_put
  rw [h.1]
  refine br_f (nI_n0 (by omega)) ?_
  rw [show (70 : Int32) = nI 70 from rfl, nI_ltI (by omega) (by omega)]
  refine br_c (fun c3 => ⟨pk_in _ 70 c3, ?_⟩) (fun c3 => q0 (Or.inr (Or.inr (by omega))))
  rw [pk_cl l.length, u2k _ _ _ _ (show (90 : Nat) ≠ 91 by decide), h.1]
  rintro τ rfl
  have hn := h.add (by decide) x
  rw [hn.1, List.length_append]
  exact q1 c c2 c3 _ ((SB.rf.w (Or.inr rfl)).w (Or.inl rfl)) hn
def a_refusal (r0 r1 r2 x : Int32) : Int32 := match ox x 3 with
  | none => -2
  | some i => if r0 = 0 then -4 else if i = 0 then r0 else if i = 1 then r1 else r2
theorem i_nle2 {x : Int32} {c : Int32} (n : Nat) (hn : n + 1 < 2 ^ 31) (hc : c = nI n) (h : nI (n + 1) ≤ x) : ¬ x ≤ c := fun z => by
  subst hc
  rw [Int32.le_iff_toInt_le, nI_toInt hn] at h
  rw [Int32.le_iff_toInt_le, nI_toInt (by omega)] at z
  omega
theorem sp_refusal {σ : SS} (x : Int32) {Q : Int32 → SS → Prop} (q : Q (a_refusal (σ 94 0) (σ 94 1) (σ 94 2) x) σ) : wp_X9_refusal σ x Q := by
  unfold wp_X9_refusal
  unfold a_refusal at q
  rcases ox_c x (n := 3) (by omega) with ⟨c, e, _⟩ | ⟨c, c', e, _⟩ | ⟨i, hi, rfl, e⟩
  · rw [e] at q; exact br_t c q
  · rw [e] at q; exact br_f c' (br_f (i_nle2 2 (by omega) rfl c) q)
  · rw [e] at q
    refine br_f (nI_n0 (by omega)) (br_t (by rw [show (2 : Int32) = nI 2 from rfl, nI_leI (by omega) (by omega)]; omega) ?_)
    unfold wp_X5_numberOf
    refine br_c (fun c => ?_) fun c => pk_eq i 0 (fun c1 => ?_) fun c1 => pk_eq i 1 (fun c2 => ?_) fun c2 => ?_
    · simp only [if_pos c] at q; exact q
    · simp only [if_neg c, if_pos c1] at q; exact q
    · simp only [if_neg c, if_neg c1, if_pos c2] at q; exact q
    · simp only [if_neg c, if_neg c1, if_neg c2] at q; exact q
def a_sight (g : Nat → Nat) (f : Nat → Nat → Nat) (i : Nat) : Nat :=
  if i = 0 then g 0 else if i = 1 then pc (mns g f) else if i = 2 then pc (sn g f) else if i = 3 then pc (onc (NR g f) (mns g f) 9).2 else if i = 4 then gct (sn g f) else if i = 5 then glm (sn g f) 12 else uns g f
theorem sp_sightAccount {g : Nat → Nat} {f : Nat → Nat → Nat} {σ : SS} (h : RC 1 g f σ) (ho : OkW g f) {i : Nat} (hi : i < 7) {Q : Int32 → SS → Prop} (q : ∀ τ, SB AK σ τ → Q (nI (a_sight g f i)) τ) : wp_X9_sightAccount σ (nI i) Q := by
  unfold wp_X9_sightAccount
  refine sp_look h ho fun τ k hs => sp_seenNow ho hs (sp_find (sn_lt g f) fun υ k2 hg => ?_)
  have hs2 := SB.sg hs k2 (by omega) (by omega)
  have kk := k.tr (k2.mono fun _ => AK_g)
  have q := q υ kk
  have hr := h.ak kk
  have h9 := mns_lt ho
  unfold a_sight at q
  refine pk_eq i 0 (fun c0 => ?_) fun c0 => pk_eq i 1 (fun c1 => ?_) fun c1 => pk_eq i 2 (fun c2 => ?_) fun c2 => pk_eq i 3 (fun c3 => ?_) fun c3 => pk_eq i 4 (fun c4 => ?_) fun c4 => pk_eq i 5 (fun c5 => ?_) fun c5 => ?_
  · rw [if_pos c0] at q; rw [hr.1.1]; exact q
  · rw [if_neg c0, if_pos c1] at q; rw [hs2.2.1]; exact sp_bc (by omega) q
  · rw [if_neg c0, if_neg c1, if_pos c2] at q; exact sp_bc (sn_lt g f) q
  · rw [if_neg c0, if_neg c1, if_neg c2, if_pos c3] at q; exact sp_overlaps hs2 (NR_lt g f) h9 q
  · rw [if_neg c0, if_neg c1, if_neg c2, if_neg c3, if_pos c4] at q; rw [hg.1]; exact q
  · rw [if_neg c0, if_neg c1, if_neg c2, if_neg c3, if_neg c4, if_pos c5] at q; exact sp_longest hg q
  · rw [if_neg c0, if_neg c1, if_neg c2, if_neg c3, if_neg c4, if_neg c5] at q; exact sp_manyUnseen hs2 q
def a_account (g : Nat → Nat) (f : Nat → Nat → Nat) (tl hm x : Int32) : Int32 := match ox x 13 with
  | none => -2
  | some i => if i = 11 then tl else if i = 12 then hm else if i < 7 then nI (a_sight g f i) else nI (g (i - 6))
theorem sp_account {g : Nat → Nat} {f : Nat → Nat → Nat} {σ : SS} (h : RC 1 g f σ) (ho : OkW g f) (x : Int32) {Q : Int32 → SS → Prop} (q : ∀ τ, SB AK σ τ → Q (a_account g f (σ 90 2) (σ 22 2) x) τ) : wp_X9_account σ x Q := by
  unfold wp_X9_account
  unfold a_account at q
  rcases ox_c x (n := 13) (by omega) with ⟨c, e, _⟩ | ⟨c, c', e, _⟩ | ⟨i, hi, rfl, e⟩
  · rw [e] at q; exact br_t c (q σ SB.rf)
  · rw [e] at q; exact br_f c' (br_f (i_nle2 12 (by omega) rfl c) (q σ SB.rf))
  · rw [e] at q
    refine br_f (nI_n0 (by omega)) (br_t (by rw [show (12 : Int32) = nI 12 from rfl, nI_leI (by omega) (by omega)]; omega) ?_)
    refine pk_eq i 11 (fun c1 => ?_) fun c1 => pk_eq i 12 (fun c2 => ?_) fun c2 => pk_lt i 7 (fun c3 => ?_) fun c3 => ?_
    · simp only [if_pos c1] at q; exact q σ SB.rf
    · simp only [if_neg c1, if_pos c2] at q; exact q σ SB.rf
    · simp only [if_neg c1, if_neg c2, if_pos c3] at q; exact sp_sightAccount h ho c3 q
    · simp only [if_neg c1, if_neg c2, if_neg (show ¬ i < 7 by omega)] at q
      have q := q σ SB.rf
      unfold wp_X8_accountOf
      refine pk_eq i 7 (fun d => ?_) fun d7 => pk_eq i 8 (fun d => ?_) fun d8 => pk_eq i 9 (fun d => ?_) fun d9 => ?_
      · subst d; rw [h.1.2.1]; exact q
      · subst d; rw [h.1.2.2.1]; exact q
      · subst d; rw [h.1.2.2.2.1]; exact q
      · have d : i = 10 := by omega
        subst d; rw [h.1.2.2.2.2]; exact q
def a_isWell (g : Nat → Nat) (f : Nat → Nat → Nat) : Int32 := if pc (sn g f) + fb_sm (gle (sn g f)) 12 = 24 then 1 else 0
theorem sp_isWell {g : Nat → Nat} {f : Nat → Nat → Nat} {σ : SS} (h : RC 1 g f σ) (ho : OkW g f) {Q : Int32 → SS → Prop} (q : ∀ τ, SB AK σ τ → Q (a_isWell g f) τ) : wp_X9_isWell σ Q := by
  have h9 := ho.1
  have h2 := p2_le h9
  unfold wp_X9_isWell
  refine sp_look h ho fun τ k hs => sp_trySets hs (NR_lt g f) h9 fun τ2 k2 e1 _ _ => ?_
  have hs2 := SB.sg hs k2 (by omega) (by omega)
  have kk := k.tr (k2.mono fun _ => AK_c)
  refine sp_searchStones hs2 (NR_lt g f) (fun p => NR_0) h9 fun τ3 k3 => ?_
  have hs3 := SB.sg hs2 k3 (by omega) (by omega)
  have kk := kk.tr (k3.mono fun _ => AK_s)
  rw [e1]
  have fin : ∀ υ, SG (NR g f) (g 0) (mns g f) υ → SB AK σ υ → wp_X6_seenBySet υ (υ 80 2) (fun r15 σ14 => wp_X1_find σ14 r15 (fun σ16 => wp_J6_bitCount_0f7a4 σ16 r15 (fun r18 σ17 => wp_X1_lengthOfAll σ17 (fun r20 σ19 => (((r18 + r20) = 24 → Q 1 σ19) ∧ (¬ (r18 + r20) = 24 → Q 0 σ19)))))) := by
    intro υ hu ku
    refine sp_seenNow ho hu (sp_find (sn_lt g f) fun υ2 ku2 hg => sp_bc (sn_lt g f) (sp_lengthOfAll hg ?_))
    have q := q υ2 (ku.tr (ku2.mono fun _ => AK_g))
    unfold a_isWell at q
    have hb : fb_sm (gle (sn g f)) 12 ≤ 12 * 24 := fb_sm_bound fun k _ => gle_le _ k
    have hp := pc_le (sn g f)
    rw [nI_add]
    refine pk_eq (pc (sn g f) + fb_sm (gle (sn g f)) 12) 24 (fun c => ?_) (fun c => ?_)
    · rw [if_pos c] at q; exact q
    · rw [if_neg c] at q; exact q
  change ((oN (few (NR g f) (g 0)) = oN (few (NR g f) (g 0)) → ((oN (few (NR g f) (g 0)) = (-4) → _) ∧ (¬ oN (few (NR g f) (g 0)) = (-4) → wp_X6_seenBySet τ3 (oN (few (NR g f) (g 0))) _))) ∧ _)
  refine br_t rfl ?_
  cases ef : few (NR g f) (g 0) with
  | none => exact br_t rfl (fin τ3 hs3 kk)
  | some t =>
    have hf := few_lt h9 ef
    refine br_f (nI_n4 (by omega)) (sp_seenBySet hs3 (S := t) (by omega) ?_)
    rw [hf.2]
    exact br_t rfl (fin τ3 hs3 kk)
