/-! the reference: its small parts -/
theorem rp_in0 {σ : SS} {n : Nat} (hn : n < 2 ^ 31) {b : Int32} (hb : b.toInt = (n : Int) - 1) (x : Int32) {Q : Int32 → SS → Prop} (h1 : ∀ p, p < n → x = nI p → ox x n = some p → Q 1 σ) (h0 : ox x n = none → Q 0 σ) : wp_X10_isIn σ x 0 b Q := by
  unfold wp_X10_isIn
  rcases ox_c x hn with ⟨h, e, _⟩ | ⟨h, h', e, _⟩ | ⟨p, hp, rfl, e⟩
  · exact br_t h (h0 e)
  · refine br_f h' (br_t ?_ (h0 e))
    rw [Int32.lt_iff_toInt_lt]
    rw [Int32.le_iff_toInt_le, nI_toInt hn] at h
    omega
  · refine br_f (nI_n0 (by omega)) (br_f (fun z => ?_) (h1 p hp rfl e))
    rw [Int32.lt_iff_toInt_lt, nI_toInt (by omega)] at z
    omega
theorem i_pred {n : Nat} (hn : n < 2 ^ 31) : (nI n - 1).toInt = (n : Int) - 1 := by
  have h1 : (nI n).toInt = (n : Int) := nI_toInt hn
  have h2 : (1 : Int32).toInt = 1 := rfl
  rw [fb_subI (by omega) (by omega)]
  omega
theorem rp_isStone {σ : SS} (x : Int32) {Q : Int32 → SS → Prop} (h1 : ∀ p, p < 24 → x = nI p → ox x 24 = some p → Q 1 σ) (h0 : ox x 24 = none → Q 0 σ) : wp_X10_isStone σ x Q := by
  unfold wp_X10_isStone
  exact rp_in0 (by decide) rfl x (fun p a b c => ⟨Or.inr rfl, h1 p a b c⟩) (fun e => ⟨Or.inl rfl, h0 e⟩)
theorem rp_isReach {σ : SS} (x : Int32) {Q : Int32 → SS → Prop} (h1 : ∀ p, p < 12 → x = nI p → ox x 12 = some p → Q 1 σ) (h0 : ox x 12 = none → Q 0 σ) : wp_X10_isReach σ x Q := by
  unfold wp_X10_isReach
  exact rp_in0 (by decide) rfl x (fun p a b c => ⟨Or.inr rfl, h1 p a b c⟩) (fun e => ⟨Or.inl rfl, h0 e⟩)
theorem rp_isHour {σ : SS} (x : Int32) {Q : Int32 → SS → Prop} (h1 : ∀ p, p < 12 → x = nI p → ox x 12 = some p → Q 1 σ) (h0 : ox x 12 = none → Q 0 σ) : wp_X10_isHour σ x Q := by
  unfold wp_X10_isHour
  exact rp_in0 (by decide) rfl x (fun p a b c => ⟨Or.inr rfl, h1 p a b c⟩) (fun e => ⟨Or.inl rfl, h0 e⟩)
/-- the reference's wall -/
def R0 (g : Nat → Nat) (f : Nat → Nat → Nat) (σ : SS) : Prop := RM 96 0 g f σ
theorem R0.g0 {g : Nat → Nat} {f : Nat → Nat → Nat} {σ : SS} (h : R0 g f σ) : σ 96 0 = nI (g 0) := h.1.1
theorem R0.g1 {g : Nat → Nat} {f : Nat → Nat → Nat} {σ : SS} (h : R0 g f σ) : σ 96 1 = nI (g 1) := h.1.2.1
theorem R0.num {g : Nat → Nat} {f : Nat → Nat → Nat} {σ : SS} (h : R0 g f σ) {p j : Nat} (hp : p < g 0) (hj : j < 6) (h3 : j = 3 → f p 4 ≠ 0) : σ 96 (5 + 6 * p + j) = nI (f p j) := by
  have := h.2 p hp
  simp only [Nat.zero_add] at this
  obtain ⟨e0, e1, e2, e3, e4, e5⟩ := this
  rcases (show j = 0 ∨ j = 1 ∨ j = 2 ∨ j = 3 ∨ j = 4 ∨ j = 5 by omega) with rfl | rfl | rfl | rfl | rfl | rfl
  · exact e0
  · exact e1
  · exact e2
  · exact e3 (h3 rfl)
  · exact e4
  · exact e5
theorem rp_isPost {g : Nat → Nat} {f : Nat → Nat → Nat} {σ : SS} (h : R0 g f σ) (ho : OkW g f) (x : Int32) {Q : Int32 → SS → Prop} (h1 : ∀ p, p < g 0 → x = nI p → ox x (g 0) = some p → Q 1 σ) (h0 : ox x (g 0) = none → Q 0 σ) : wp_X10_isPost σ x Q := by
  have h9 := ho.1
  unfold wp_X10_isPost
  rw [h.g0]
  exact rp_in0 (by omega) (i_pred (by omega)) x (fun p a b c => ⟨Or.inr rfl, h1 p a b c⟩) (fun e => ⟨Or.inl rfl, h0 e⟩)
theorem i_slot (p j : Nat) : ((5 : Int32) + (6 * nI p)) + nI j = nI (5 + 6 * p + j) := by
  rw [show (6 : Int32) = nI 6 from rfl, show (5 : Int32) = nI 5 from rfl, pk_mul, nI_add, nI_add]
theorem rp_ofS {σ : SS} {p j : Nat} (hp : p < 9) (hj : j < 6) {Q : Int32 → SS → Prop} (q : Q (σ 96 (5 + 6 * p + j)) σ) : wp_X10_of σ (nI p) (nI j) Q := by
  unfold wp_X10_of
  rw [i_slot]
  refine ⟨pk_in (5 + 6 * p + j) 59 (by omega), ?_⟩
  rw [pk_cl (5 + 6 * p + j)]
  exact q
theorem rp_of {g : Nat → Nat} {f : Nat → Nat → Nat} {σ : SS} (h : R0 g f σ) (ho : OkW g f) {p j : Nat} (hp : p < g 0) (hj : j < 6) (h3 : j = 3 → f p 4 ≠ 0) {Q : Int32 → SS → Prop} (q : Q (nI (f p j)) σ) : wp_X10_of σ (nI p) (nI j) Q := by
  have h9 := ho.1
  refine rp_ofS (by omega) hj ?_
  rw [h.num hp hj h3]
  exact q
theorem rp_has {σ : SS} {n k : Nat} (hn : n < 2 ^ 31) (hk : k < 32) {Q : Int32 → SS → Prop} (h1 : n.testBit k = true → Q 1 σ) (h0 : n.testBit k = false → Q 0 σ) : wp_X10_has σ (nI n) (nI k) Q := by
  unfold wp_X10_has
  rw [mI_sbit hn hk]
  cases e : n.testBit k with
  | true => exact br_t (by decide) (h1 e)
  | false => exact br_f (by decide) (h0 e)
theorem rp_bits {σ : SS} {n : Nat} (hn : n < 16777216) {Q : Int32 → SS → Prop} (q : Q (nI (pc n)) σ) : wp_X10_bits σ (nI n) Q := by
  unfold wp_X10_bits
  refine Lii.up (N := 24) 0 (fun i τ v w => τ = σ ∧ v = nI (fb_ct (fun j => n.testBit j) i) ∧ w = nI i) (by omega) ⟨rfl, rfl, rfl⟩ ?_ ?_
  · rintro rc i τ v w _ hi ⟨rfl, rfl, rfl⟩ k
    unfold bd_X10_bits_4
    refine br_f (c_nle 24 hi) ?_
    rw [mI_sbit (by omega) (by omega), nI_add, nI_1]
    refine k _ _ _ ⟨rfl, ?_, rfl⟩
    rw [fb_ct_succ]
    cases n.testBit i <;> rfl
  · rintro rc τ v w ⟨rfl, rfl, rfl⟩
    unfold bd_X10_bits_4
    exact br_t (by decide) q
theorem rp_less {σ : SS} {h : Nat} (hh : h < 12) {Q : Int32 → SS → Prop} (q : Q (nI (ls h)) σ) : wp_X10_less σ (nI h) Q := by
  unfold wp_X10_less
  rw [show (6 : Int32) = nI 6 from rfl, show (8 : Int32) = nI 8 from rfl, show (10 : Int32) = nI 10 from rfl, nI_leI (by omega) (by omega), nI_leI (by omega) (by omega), nI_leI (by omega) (by omega)]
  unfold ls at q
  refine br_c (fun c => br_c (fun c2 => br_c (fun c3 => ?_) (fun c3 => ?_)) (fun c2 => ?_)) (fun c => ?_)
  · rw [if_neg (by omega), if_neg (by omega), if_neg (by omega)] at q; exact q
  · rw [if_neg (by omega), if_neg (by omega), if_pos (by omega)] at q; exact q
  · rw [if_neg (by omega), if_pos (by omega)] at q; exact q
  · rw [if_pos (by omega)] at q; exact q
theorem rp_max0 {σ : SS} {a b : Nat} (ha : a < 2 ^ 30) (hb : b < 2 ^ 30) {Q : Int32 → SS → Prop} (q : Q (nI (a - b)) σ) : wp_X10_greater σ 0 (nI a - nI b) Q := by
  unfold wp_X10_greater
  have e1 : (nI a).toInt = (a : Int) := nI_toInt (by omega)
  have e2 : (nI b).toInt = (b : Int) := nI_toInt (by omega)
  have e3 : (nI a - nI b).toInt = (a : Int) - b := by rw [fb_subI (by omega) (by omega), e1, e2]
  have e0 : (0 : Int32).toInt = 0 := rfl
  by_cases c : b ≤ a
  · refine br_t ?_ (by rw [pk_sub c]; exact q)
    rw [Int32.le_iff_toInt_le]; omega
  · refine br_f ?_ ?_
    · rw [Int32.le_iff_toInt_le]; omega
    · rw [show a - b = 0 by omega] at q; exact q
theorem rp_max {σ : SS} {a b : Nat} (ha : a < 2 ^ 31) (hb : b < 2 ^ 31) {Q : Int32 → SS → Prop} (q : Q (nI (if a < b then b else a)) σ) : wp_X10_greater σ (nI a) (nI b) Q := by
  unfold wp_X10_greater
  rw [nI_leI ha hb]
  refine br_c (fun c => ?_) (fun c => ?_)
  · by_cases d : a < b
    · rw [if_pos d] at q; exact q
    · rw [if_neg d] at q; rw [show b = a by omega]; exact q
  · rw [if_neg (by omega)] at q; exact q
theorem str_step : ∀ s, s < 24 → ∀ n, n < 24 → str s n ||| 2 ^ ((s + n) % 24) = str s (n + 1) := by decide +kernel
theorem str_zero (s : Nat) : str s 0 = 0 := by
  unfold str
  rw [show 2 ^ 0 - 1 = 0 from rfl, Nat.zero_mul]
  rfl
theorem df_or {X A B : Nat} (h : X < 16777216) : df X (A ||| B) = df (df X A) B := by
  have h2 : X < 2 ^ 32 := by omega
  refine m_ext (n := 24) (df_lt _ h) (df_lt _ (df_lt _ h)) fun i _ => ?_
  rw [df_bit h2, df_bit (Nat.lt_of_le_of_lt (df_le _ _) h2), df_bit h2, Nat.testBit_or]
  cases X.testBit i <;> cases A.testBit i <;> cases B.testBit i <;> rfl
theorem df_zero {X : Nat} (h : X < 16777216) : df X 0 = X := by
  refine m_ext (n := 24) (df_lt _ h) h fun i _ => ?_
  rw [df_bit (by omega), Nat.zero_testBit]
  simp
theorem i_rem24 {n : Nat} (hn : n < 2 ^ 31) : nI n - nI n / 24 * 24 = nI (n % 24) := pk_rem hn (d := 24) (by decide) (by decide)
theorem rp_sightIn {g : Nat → Nat} {f : Nat → Nat → Nat} {σ : SS} (h : R0 g f σ) (ho : OkW g f) {p hh : Nat} (hp : p < g 0) (hhh : hh < 12) {Q : Int32 → SS → Prop} (q : Q (nI (sgt f p hh)) σ) : wp_X10_sightIn σ (nI p) (nI hh) Q := by
  have h9 := ho.1
  obtain ⟨o0, o1, o2, o4, o3, _⟩ := ho.2.2 p hp
  have hl3 := ls_le hh
  unfold wp_X10_sightIn
  refine rp_of h ho (j := 1) hp (by decide) (by omega) (rp_less hhh (rp_max0 (by omega) (by omega) ?_))
  refine rp_of h ho (j := 2) hp (by decide) (by omega) (rp_less hhh (rp_max0 (by omega) (by omega) ?_))
  unfold sgt at q
  obtain ⟨L, eL⟩ : ∃ L, L = f p 1 - ls hh := ⟨_, rfl⟩
  obtain ⟨R, eR⟩ : ∃ R, R = f p 2 - ls hh := ⟨_, rfl⟩
  have bL : L ≤ 11 := by omega
  have bR : R ≤ 11 := by omega
  rw [← eL, ← eR] at q ⊢
  have t1 : ∀ i, i ≤ 24 → (nI i - nI L).toInt = (i : Int) - L := fun i hi => by
    have e1 : (nI i).toInt = (i : Int) := nI_toInt (by omega)
    have e2 : (nI L).toInt = (L : Int) := nI_toInt (by omega)
    rw [fb_subI (by omega) (by omega), e1, e2]
  refine Lii.up (N := L + 1 + R) 0 (fun i τ v w => τ = σ ∧ v = nI (str ((f p 0 + 24 - L) % 24) i) ∧ w = nI i - nI L) (by omega) ⟨rfl, by rw [str_zero]; rfl, by rw [show nI 0 - nI L = 0 - nI L from rfl, Int32.zero_sub]⟩ ?_ ?_
  · rintro rc i τ v w _ hi ⟨rfl, rfl, rfl⟩ k
    unfold bd_X10_sightIn_40
    refine br_f (fun z => ?_) (rp_of h ho (j := 0) hp (by decide) (by omega) fun x e => ?_)
    · rw [Int32.lt_iff_toInt_lt, t1 i (by omega), nI_toInt (by omega)] at z
      omega
    · have es : (nI (f p 0) + (nI i - nI L)) + 24 = nI (f p 0 + 24 - L + i) := by
        rw [← Int32.toInt_inj, nI_toInt (by omega)]
        have e1 : (nI (f p 0)).toInt = (f p 0 : Int) := nI_toInt (by omega)
        have e2 := t1 i (by omega)
        have e3 : (nI (f p 0) + (nI i - nI L)).toInt = (f p 0 : Int) + (i - L) := by rw [fb_addI (by omega) (by omega), e1, e2]
        have e4 : (24 : Int32).toInt = 24 := rfl
        rw [fb_addI (by omega) (by omega), e3, e4]
        omega
      rw [es, i_rem24 (by omega), mI_shl1 (by omega), mI_or, show (f p 0 + 24 - L + i) % 24 = ((f p 0 + 24 - L) % 24 + i) % 24 by omega, str_step _ (Nat.mod_lt _ (by decide)) i (by omega)] at e
      subst e
      refine k _ _ _ ⟨rfl, rfl, ?_⟩
      rw [← Int32.toInt_inj, t1 (i + 1) (by omega)]
      have e2 := t1 i (by omega)
      have e4 : (1 : Int32).toInt = 1 := rfl
      rw [fb_addI (by omega) (by omega), e2, e4]
      omega
  · rintro rc τ v w ⟨rfl, rfl, rfl⟩
    unfold bd_X10_sightIn_40
    refine br_t (by rw [Int32.lt_iff_toInt_lt, t1 _ (by omega), nI_toInt (by omega)]; omega) ?_
    have hX := str_lt ((f p 0 + 24 - L) % 24) (L + 1 + R)
    generalize str ((f p 0 + 24 - L) % 24) (L + 1 + R) = X at *
    refine Lii.up (N := f p 4) 0 (fun i υ v w => υ = τ ∧ v = nI (df X (str (f p 3) i)) ∧ w = nI i) (by omega) ⟨rfl, by rw [str_zero, df_zero hX], rfl⟩ ?_ ?_
    · rintro rc i υ v w _ hi ⟨rfl, rfl, rfl⟩ k
      have o3 := o3 (by omega)
      unfold bd_X10_sightIn_78
      refine rp_of h ho (j := 4) hp (by decide) (by omega) (br_f (nI_gt hi (by omega)) (rp_of h ho (j := 3) hp (by decide) (fun _ => by omega) fun x e => ?_))
      rw [nI_add, i_rem24 (by omega), mI_shl1 (by omega), mI_df, ← df_or hX, str_step _ o3 i (by omega)] at e
      subst e
      exact k _ _ _ ⟨rfl, rfl, nI_1 i⟩
    · rintro rc υ v w ⟨rfl, rfl, rfl⟩
      unfold bd_X10_sightIn_78
      refine rp_of h ho (j := 4) hp (by decide) (by omega) (br_t (by rw [nI_leI (by omega) (by omega)]; omega) ?_)
      by_cases c : f p 4 = 0
      · rw [if_pos c] at q
        rw [c, str_zero, df_zero hX]
        exact q
      · rw [if_neg c] at q
        exact q
theorem rp_sight {g : Nat → Nat} {f : Nat → Nat → Nat} {σ : SS} (h : R0 g f σ) (ho : OkW g f) {p : Nat} (hp : p < g 0) {Q : Int32 → SS → Prop} (q : Q (nI (NR g f p)) σ) : wp_X10_sight σ (nI p) Q := by
  unfold wp_X10_sight
  rw [h.g1]
  unfold NR row at q
  rw [if_pos hp] at q
  exact rp_sightIn h ho hp ho.2.1 q
theorem mnk_cut {g : Nat → Nat} {f : Nat → Nat → Nat} : ∀ k, mnk g f (g 0 + k) = mnk g f (g 0)
  | 0 => rfl
  | k + 1 => by
    show mnk g f (g 0 + k) ||| (if g 0 + k < g 0 then f (g 0 + k) 5 else 0) * 2 ^ (g 0 + k) = _
    rw [if_neg (by omega), Nat.zero_mul, Nat.or_zero, mnk_cut k]
theorem mns_cut {g : Nat → Nat} {f : Nat → Nat → Nat} (ho : OkW g f) : mns g f = mnk g f (g 0) := by
  have := mnk_cut (g := g) (f := f) (9 - g 0)
  rw [show g 0 + (9 - g 0) = 9 by have := ho.1; omega] at this
  exact this
theorem rp_isManned {g : Nat → Nat} {f : Nat → Nat → Nat} {σ : SS} (h : R0 g f σ) (ho : OkW g f) {p : Nat} (hp : p < g 0) {Q : Int32 → SS → Prop} (h1 : f p 5 = 1 → Q 1 σ) (h0 : f p 5 = 0 → Q 0 σ) : wp_X10_isManned σ (nI p) Q := by
  obtain ⟨_, _, _, _, _, o5⟩ := ho.2.2 p hp
  unfold wp_X10_isManned
  exact rp_of h ho (j := 5) hp (by decide) (by omega) (pk_eq (f p 5) 1 h1 (fun c => h0 (by omega)))
theorem rp_mannedSet {g : Nat → Nat} {f : Nat → Nat → Nat} {σ : SS} (h : R0 g f σ) (ho : OkW g f) {Q : Int32 → SS → Prop} (q : Q (nI (mns g f)) σ) : wp_X10_mannedSet σ Q := by
  have h9 := ho.1
  unfold wp_X10_mannedSet
  rw [mns_cut ho] at q
  refine Lii.up (N := g 0) 0 (fun i τ v w => τ = σ ∧ v = nI (mnk g f i) ∧ w = nI i) (by omega) ⟨rfl, rfl, rfl⟩ ?_ ?_
  · rintro rc i τ v w _ hi ⟨rfl, rfl, rfl⟩ k
    unfold bd_X10_mannedSet_4
    have e : mnk g f (i + 1) = mnk g f i ||| (if i < g 0 then f i 5 else 0) * 2 ^ i := rfl
    rw [if_pos hi] at e
    rw [h.g0]
    refine br_f (nI_gt hi (by omega)) (rp_isManned h ho hi (fun c => br_f (by decide) ?_) (fun c => br_t rfl ?_))
    · rw [c, Nat.one_mul] at e
      rw [mI_shl1 (by omega), mI_or, nI_1, ← e]
      exact k _ _ _ ⟨rfl, rfl, rfl⟩
    · rw [c, Nat.zero_mul] at e
      rw [show (0 : Int32) = nI 0 from rfl, mI_or, nI_1, ← e]
      exact k _ _ _ ⟨rfl, rfl, rfl⟩
  · rintro rc τ v w ⟨rfl, rfl, rfl⟩
    unfold bd_X10_mannedSet_4
    rw [h.g0]
    exact br_t (by rw [nI_leI (by omega) (by omega)]; omega) q
theorem rp_seenIn {g : Nat → Nat} {f : Nat → Nat → Nat} {σ : SS} (h : R0 g f σ) (ho : OkW g f) {S hh : Nat} (hS : S < 2 ^ 31) (hhh : hh < 12) {Q : Int32 → SS → Prop} (q : Q (nI (orS (row g f hh) S 9)) σ) : wp_X10_seenIn σ (nI S) (nI hh) Q := by
  have h9 := ho.1
  unfold wp_X10_seenIn
  rw [orS_9 (fun p hp => row_0 hp) h9] at q
  refine Lii.up (N := g 0) 0 (fun i τ v w => τ = σ ∧ v = nI (orS (row g f hh) S i) ∧ w = nI i) (by omega) ⟨rfl, rfl, rfl⟩ ?_ ?_
  · rintro rc i τ v w _ hi ⟨rfl, rfl, rfl⟩ k
    unfold bd_X10_seenIn_5
    have e := orS_s (row g f hh) S i
    rw [h.g0]
    refine br_f (nI_gt hi (by omega)) (rp_has hS (by omega) (fun c => br_f (by decide) (rp_sightIn h ho hi hhh ?_)) (fun c => br_t rfl ?_))
    · rw [if_pos c] at e
      have er : row g f hh i = sgt f i hh := by unfold row; rw [if_pos hi]
      rw [mI_or, nI_1, ← er, ← e]
      exact k _ _ _ ⟨rfl, rfl, rfl⟩
    · rw [if_neg (by rw [c]; decide)] at e
      rw [show (0 : Int32) = nI 0 from rfl, mI_or, Nat.or_zero, nI_1, ← e]
      exact k _ _ _ ⟨rfl, rfl, rfl⟩
  · rintro rc τ v w ⟨rfl, rfl, rfl⟩
    unfold bd_X10_seenIn_5
    rw [h.g0]
    exact br_t (by rw [nI_leI (by omega) (by omega)]; omega) q
theorem rp_seen {g : Nat → Nat} {f : Nat → Nat → Nat} {σ : SS} (h : R0 g f σ) (ho : OkW g f) {S : Nat} (hS : S < 2 ^ 31) {Q : Int32 → SS → Prop} (q : Q (nI (orS (NR g f) S 9)) σ) : wp_X10_seen σ (nI S) Q := by
  unfold wp_X10_seen
  rw [h.g1]
  exact rp_seenIn h ho hS ho.2.1 q
theorem rp_seenNow {g : Nat → Nat} {f : Nat → Nat → Nat} {σ : SS} (h : R0 g f σ) (ho : OkW g f) {Q : Int32 → SS → Prop} (q : Q (nI (sn g f)) σ) : wp_X10_mannedSet σ (fun r4 σ3 => wp_X10_seen σ3 r4 Q) :=
  rp_mannedSet h ho (rp_seen h ho (Nat.lt_trans (mns_lt ho) (by decide)) q)
theorem rp_all {g : Nat → Nat} {f : Nat → Nat → Nat} {σ : SS} (h : R0 g f σ) (ho : OkW g f) {Q : Int32 → SS → Prop} (q : Q (nI (2 ^ g 0 - 1)) σ) : wp_X10_all σ Q := by
  have h9 := ho.1
  have h2 := p2_le h9
  have h1 := Nat.two_pow_pos (g 0)
  unfold wp_X10_all
  rw [h.g0, mI_shl1 (by omega), show (1 : Int32) = nI 1 from rfl, pk_sub (by omega)]
  exact q
/-- all posts see as 511 do -/
theorem all_511 {g : Nat → Nat} {f : Nat → Nat → Nat} (ho : OkW g f) : orS (NR g f) (2 ^ g 0 - 1) 9 = orS (NR g f) 511 9 := by
  rw [orS_9 (fun p hp => NR_0 hp) ho.1, orS_9 (S := 511) (fun p hp => NR_0 hp) ho.1]
  refine orS_congr (g 0) fun p hp => ?_
  have h9 := ho.1
  rw [Nat.testBit_two_pow_sub_one, show (511 : Nat) = 2 ^ 9 - 1 from rfl, Nat.testBit_two_pow_sub_one]
  simp only [decide_eq_decide]
  omega
theorem rp_uns {g : Nat → Nat} {f : Nat → Nat → Nat} {σ : SS} (h : R0 g f σ) (ho : OkW g f) {Q : Int32 → SS → Prop} (q : Q (nI (24 - uns g f)) σ) : wp_X10_all σ (fun r4 σ3 => wp_X10_seen σ3 r4 (fun r6 σ5 => wp_X10_bits σ5 r6 Q)) := by
  have h9 := ho.1
  have h2 := p2_le h9
  refine rp_all h ho (rp_seen h ho (by omega) (rp_bits (orS_lt (NR_lt g f) _ 9) ?_))
  rw [all_511 ho]
  unfold uns at q
  have := pc_le (orS (NR g f) 511 9)
  rw [show 24 - (24 - pc (orS (NR g f) 511 9)) = pc (orS (NR g f) 511 9) by omega] at q
  exact q
theorem i_uns (g : Nat → Nat) (f : Nat → Nat → Nat) : (24 : Int32) - nI (24 - uns g f) = nI (uns g f) := by
  have h : uns g f ≤ 24 := by unfold uns; omega
  rw [show (24 : Int32) = nI 24 from rfl, pk_sub (by omega), show 24 - (24 - uns g f) = uns g f by omega]
