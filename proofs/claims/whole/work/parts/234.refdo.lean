/-! the reference: the line, its commands, its past -/
def FL (σ τ : SS) : Prop := ∀ k j, ¬ (k = 95 ∧ j = 10) → k ≠ 100 → τ k j = σ k j
theorem FL.rf {σ : SS} : FL σ σ := fun _ _ _ _ => rfl
theorem FL.tr {σ τ υ : SS} (h : FL σ τ) (h2 : FL τ υ) : FL σ υ := fun k j a b => (h2 k j a b).trans (h k j a b)
theorem R0.cell {g : Nat → Nat} {f : Nat → Nat → Nat} {σ τ : SS} (h : R0 g f σ) (e : ∀ j, τ 96 j = σ 96 j) : R0 g f τ := RM.keep h (funext e)
theorem R0.fl {g : Nat → Nat} {f : Nat → Nat → Nat} {σ τ : SS} (h : R0 g f σ) (k : FL σ τ) : R0 g f τ := h.cell fun j => k 96 j (by omega) (by omega)
theorem rp_puts {σ : SS} {l : List Int32} (h : LN 95 10 100 l σ) (hl : l.length < 24) (x : Int32) {Q : SS → Prop} (q : ∀ τ, FL σ τ → LN 95 10 100 (l ++ [x]) τ → Q τ) : wp_X10_puts σ x Q := by
  unfold wp_X10_puts
  rw [h.1]
  refine ⟨pk_in _ 24 hl, ?_⟩
  rw [pk_cl l.length]
  rintro τ rfl
  rw [u2k _ _ _ _ (show (95 : Nat) ≠ 100 by decide), h.1]
  exact q _ (fun k j h1 h2 => by rw [u2i, if_neg (by omega), u2i, if_neg (by omega)]) (h.add (by decide) x)
theorem rp_number {σ : SS} {l : List Int32} (h : LN 95 10 100 l σ) (hl : l.length < 23) {n : Nat} (hn : n < 100) {Q : SS → Prop} (q : ∀ τ, FL σ τ → LN 95 10 100 (l ++ dgt n) τ → Q τ) : wp_X10_number 3 σ (nI n) Q := by
  show bs_X10_number (bs_X10_number (wp_X10_number 1)) σ (nI n) Q
  unfold bs_X10_number
  rw [i_rem10 (by omega), i_div10 (by omega), i_48, show (10 : Int32) = nI 10 from rfl, nI_ltI (by omega) (by omega)]
  by_cases c : n < 10
  · refine br_t c (rp_puts h (by omega) _ fun τ k hl => q τ k ?_)
    unfold dgt; rw [if_pos c]; exact hl
  · refine br_f c ?_
    rw [show nI 10 = (10 : Int32) from rfl, i_rem10 (by omega), i_48, show (10 : Int32) = nI 10 from rfl, nI_ltI (by omega) (by omega)]
    refine br_t (by omega) (rp_puts h (by omega) _ fun τ k hl1 => rp_puts hl1 (by simp; omega) _ fun υ k2 hl2 => q υ (k.tr k2) ?_)
    unfold dgt; rw [if_neg c]
    rw [show n / 10 % 10 = n / 10 by omega, List.append_assoc] at hl2
    exact hl2
theorem rp_describe {g : Nat → Nat} {f : Nat → Nat → Nat} {σ : SS} (h : R0 g f σ) (ho : OkW g f) (x : Int32) {Q : Int32 → SS → Prop} (q0 : ox x (g 0) = none → Q (-1) σ) (q1 : ∀ p, ox x (g 0) = some p → ∀ τ, FL σ τ → LN 95 10 100 (dsc f p) τ → Q (nI (dsc f p).length) τ) : wp_X10_describe σ x Q := by
  have h9 := ho.1
  unfold wp_X10_describe
  refine rp_isPost h ho x (fun p hp ex e => ?_) (fun e => br_t rfl (q0 e))
  have q2 := q1 p e
  subst ex
  obtain ⟨o0, o1, o2, o4, o3, o5⟩ := ho.2.2 p hp
  have k0 : FL σ (u2 σ 95 10 0) := fun k j h1 h2 => by rw [u2i, if_neg (by omega)]
  refine br_f (by decide) (rp_number (LN.nil 95 10 100 σ) (by simp) (n := p) (by omega) fun τ1 k1 l1 => ?_)
  have k1 := k0.tr k1
  have a1 : (dgt p).length ≤ 2 := dgt_le p
  refine rp_puts l1 (by simp; omega) 64 fun τ2 k2 l2 => rp_of (h.fl (k1.tr k2)) ho (j := 0) hp (by decide) (by omega) (rp_number l2 (by simp; omega) (by omega) fun τ3 k3 l3 => ?_)
  have k3 := (k1.tr k2).tr k3
  have a2 := dgt_le (f p 0)
  clear k2 l2 l1
  refine rp_puts l3 (by simp; omega) 60 fun τ2 k2 l2 => rp_of (h.fl (k3.tr k2)) ho (j := 1) hp (by decide) (by omega) (rp_number l2 (by simp; omega) (by omega) fun τ4 k4 l4 => ?_)
  have k4 := (k3.tr k2).tr k4
  have a3 := dgt_le (f p 1)
  clear k2 l2 l3
  refine rp_puts l4 (by simp; omega) 62 fun τ2 k2 l2 => rp_of (h.fl (k4.tr k2)) ho (j := 2) hp (by decide) (by omega) (rp_number l2 (by simp; omega) (by omega) fun τ5 k5 l5 => ?_)
  have k5 := (k4.tr k2).tr k5
  have l5 : LN 95 10 100 (dsc1 f p) τ5 := l5
  clear k2 l2 l4
  have d1 := dsc1_le f p
  have d2 := dsc2_le f p
  have star : ∀ {τ : SS}, FL σ τ → LN 95 10 100 (dsc2 f p) τ → wp_X10_isManned τ (nI p) (fun r19 σ18 => ((r19 = 0 → Q (σ18 95 10) σ18) ∧ (¬ r19 = 0 → wp_X10_puts σ18 42 (fun σ20 => Q (σ20 95 10) σ20)))) := by
    intro τ k l
    refine rp_isManned (h.fl k) ho hp (fun c => br_f (by decide) (rp_puts l (by omega) 42 fun υ kk ll => ?_)) (fun c => br_t rfl ?_)
    · have e : dsc f p = dsc2 f p ++ [42] := by unfold dsc; rw [if_pos c]
      rw [← e] at ll
      rw [ll.1]; exact q2 υ (k.tr kk) ll
    · have e : dsc f p = dsc2 f p := by unfold dsc; rw [if_neg (by omega)]
      rw [e] at q2
      rw [l.1]; exact q2 τ k l
  refine rp_of (h.fl k5) ho (j := 4) hp (by decide) (by omega) ?_
  by_cases c4 : f p 4 = 0
  · refine br_t (by rw [c4]; decide) (star k5 ?_)
    unfold dsc2; rw [if_pos c4]; exact l5
  · have o3 := o3 c4
    refine br_f (nI_nle (by omega) (by omega)) ?_
    refine rp_puts l5 (by omega) 33 fun τ2 k2 l2 => rp_of (h.fl (k5.tr k2)) ho (j := 3) hp (by decide) (fun _ => c4) (rp_number l2 (by simp; omega) (by omega) fun τ6 k6 l6 => ?_)
    have k6 := (k5.tr k2).tr k6
    have a5 := dgt_le (f p 3)
    clear k2 l2
    refine rp_puts l6 (by simp; omega) 43 fun τ2 k2 l2 => rp_of (h.fl (k6.tr k2)) ho (j := 4) hp (by decide) (by omega) (rp_number l2 (by simp; omega) (by omega) fun τ7 k7 l7 => star ((k6.tr k2).tr k7) ?_)
    unfold dsc2; rw [if_neg c4]; exact l7
theorem rp_show {g : Nat → Nat} {f : Nat → Nat → Nat} {σ : SS} (h : R0 g f σ) (ho : OkW g f) {Q : Int32 → SS → Prop} (q : ∀ τ, FL σ τ → LN 95 10 100 (shw g f 24) τ → Q 24 τ) : wp_X10_show σ Q := by
  unfold wp_X10_show
  refine Li.up (N := 24) 0 (fun i τ v => v = nI i ∧ FL σ τ ∧ LN 95 10 100 (shw g f i) τ) (by omega) ⟨rfl, fun k j h1 h2 => by rw [u2i, if_neg (by omega)], LN.nil 95 10 100 σ⟩ ?_ ?_
  · rintro rc i τ v _ hi ⟨rfl, kk, hl⟩ k
    unfold bd_X10_show_7
    have hw : wat g f i ≤ 24 := pc_le _
    have done : ∀ x, x = sgn (wat g f i) → wp_X10_puts τ x (fun σ5 => rc σ5 (nI i + 1)) := by
      rintro x rfl
      refine rp_puts hl (by rw [shw_len]; exact hi) _ fun υ k2 h2 => ?_
      rw [nI_1]
      exact k _ _ ⟨rfl, kk.tr k2, h2⟩
    refine br_f (c_nle 24 hi) (rp_watchers (h.fl kk) ho hi (pk_eq (wat g f i) 0 (fun c => done _ ?_) (fun c => pk_le (wat g f i) 9 (fun c1 => done _ ?_) (fun c1 => done _ ?_))))
    · unfold sgn; rw [if_pos c]
    · unfold sgn; rw [if_neg c, if_pos c1]; exact i_48 _
    · unfold sgn; rw [if_neg c, if_neg (by omega)]
  · rintro rc τ v ⟨rfl, kk, hl⟩
    unfold bd_X10_show_7
    rw [hl.1, shw_len]
    exact br_t (by decide) (q τ kk hl)
theorem rp_sign {σ : SS} {l : List Int32} (h : LN 95 10 100 l σ) (hl : l.length ≤ 24) (x : Int32) {Q : Int32 → SS → Prop} (q : Q (a_sign l x) σ) : wp_X10_sign σ x Q := by
  unfold wp_X10_sign
  unfold a_sign at q
  rw [h.1]
  refine rp_in0 (n := l.length) (by omega) (i_pred (by omega)) x (fun i hi ex e => br_f (by decide) ?_) (fun e => by rw [e] at q; exact br_t rfl q)
  rw [e] at q
  subst ex
  refine ⟨pk_in i 24 (by omega), ?_⟩
  rw [pk_cl i, h.2 i hi]
  exact q
def FA (σ τ : SS) : Prop := ∀ k j, ¬ (k = 95 ∧ j = 13) → k ≠ 101 → τ k j = σ k j
theorem rp_append {σ : SS} {l : List Int32} (h : LN 95 13 101 l σ) (hl : l.length ≤ 70) (x : Int32) {Q : Int32 → SS → Prop} (q0 : (x < 32 ∨ ¬ x ≤ 126 ∨ l.length = 70) → Q (-2) σ) (q1 : ¬ x < 32 → x ≤ 126 → l.length < 70 → ∀ τ, FA σ τ → LN 95 13 101 (l ++ [x]) τ → Q (nI (l.length + 1)) τ) : wp_X10_append σ x Q := by
  unfold wp_X10_append wp_X10_isIn
  have e126 : (126 : Int32) < x ↔ ¬ x ≤ 126 := by
    rw [Int32.lt_iff_toInt_lt, Int32.le_iff_toInt_le]; omega
  rw [e126]
  refine br_c (fun c => br_t rfl (q0 (Or.inl c))) fun c => br_c (fun c2 => br_t rfl (q0 (Or.inr (Or.inl c2)))) (fun c2 => br_f (by decide) ?_)
  rw [h.1]
  refine pk_eq l.length 70 (fun c3 => q0 (Or.inr (Or.inr c3))) (fun c3 => ⟨pk_in l.length 70 (by omega), ?_⟩)
  rw [pk_cl l.length]
  rintro τ rfl
  rw [u2k _ _ _ _ (show (95 : Nat) ≠ 101 by decide), h.1]
  have hn := h.add (by decide) x
  rw [hn.1, List.length_append]
  exact q1 c (Classical.byContradiction c2) (by omega) _ (fun k j h1 h2 => by rw [u2i, if_neg (by omega), u2i, if_neg (by omega)]) hn
/-! the commands -/
theorem R0.mk {g : Nat → Nat} {f : Nat → Nat → Nat} {τ : SS} (e0 : τ 96 0 = nI (g 0)) (e1 : τ 96 1 = nI (g 1)) (e2 : τ 96 2 = nI (g 2)) (e3 : τ 96 3 = nI (g 3)) (e4 : τ 96 4 = nI (g 4)) (h : ∀ p j, p < g 0 → j < 6 → (j = 3 → f p 4 ≠ 0) → τ 96 (5 + 6 * p + j) = nI (f p j)) : R0 g f τ := by
  refine ⟨⟨e0, e1, e2, e3, e4⟩, fun p hp => ?_⟩
  simp only [Nat.zero_add]
  exact ⟨h p 0 hp (by decide) (by omega), h p 1 hp (by decide) (by omega), h p 2 hp (by decide) (by omega), fun c => h p 3 hp (by decide) (fun _ => c), h p 4 hp (by decide) (by omega), h p 5 hp (by decide) (by omega)⟩
def FR (σ τ : SS) : Prop := ∀ k j, ¬ (k = 95 ∧ 5 ≤ j ∧ j ≤ 7) → τ k j = σ k j
def F96 (σ τ : SS) : Prop := ∀ k j, k ≠ 96 → τ k j = σ k j
def pQ (σ : SS) (Q : Int32 → SS → Prop) (o : Out) : Prop := match (o : Int32 ⊕ ((Int32 × Int32) ⊕ (Nat × (Nat → Nat) × (Nat → Nat → Nat)))) with
  | Sum.inl r => Q r σ
  | Sum.inr (Sum.inl (a, b)) => ∀ τ, FR σ τ → τ 95 5 = a → τ 95 6 = b → τ 95 7 = -4 → Q (-3) τ
  | Sum.inr (Sum.inr (r, g, f)) => ∀ τ, F96 σ τ → R0 g f τ → Q (nI r) τ
theorem rp_not {σ : SS} (a b : Int32) {Q : Int32 → SS → Prop} (q : Q 0 σ) : wp_X10_isRefused σ 0 a b Q := by
  unfold wp_X10_isRefused
  exact br_t rfl ⟨Or.inl rfl, q⟩
theorem rp_ref {σ : SS} {a b : Int32} {Q : Int32 → SS → Prop} (q : ∀ τ, FR σ τ → τ 95 5 = a → τ 95 6 = b → τ 95 7 = -4 → Q 1 τ) : wp_X10_isRefused σ 1 a b Q := by
  unfold wp_X10_isRefused
  refine br_f (by decide) ?_
  rintro τ rfl
  refine ⟨Or.inr rfl, q _ (fun k j hk => ?_) ?_ ?_ ?_⟩
  · rw [u2i, if_neg (by omega), u2i, if_neg (by omega), u2i, if_neg (by omega)]
  · rw [u2j _ _ _ (by decide), u2j _ _ _ (by decide), u2s]
  · rw [u2j _ _ _ (by decide), u2s]
  · rw [u2s]
theorem rp_sets {σ : SS} {p j : Nat} (hp : p < 9) (hj : j < 6) (x : Int32) {Q : SS → Prop} (q : Q (u2 σ 96 (5 + 6 * p + j) x)) : wp_X10_sets σ (nI p) (nI j) x Q := by
  unfold wp_X10_sets
  rw [i_slot]
  refine ⟨pk_in (5 + 6 * p + j) 59 (by omega), ?_⟩
  rw [pk_cl (5 + 6 * p + j)]
  rintro τ rfl
  exact q
theorem F96.u {σ τ : SS} (h : F96 σ τ) (j : Nat) (x : Int32) : F96 σ (u2 τ 96 j x) := fun k i hk => by rw [u2i, if_neg (by omega)]; exact h k i hk
theorem F96.rf {σ : SS} : F96 σ σ := fun _ _ _ => rfl
theorem R0.set {g : Nat → Nat} {f : Nat → Nat → Nat} {σ : SS} (h : R0 g f σ) {p j v : Nat} (hp : p < g 0) (hj : j < 6) (hj4 : j ≠ 4) : R0 g (setF f p j v) (u2 σ 96 (5 + 6 * p + j) (nI v)) := by
  refine R0.mk ?_ ?_ ?_ ?_ ?_ fun q k hq hk h3 => ?_
  · rw [u2j _ _ _ (by omega)]; exact h.1.1
  · rw [u2j _ _ _ (by omega)]; exact h.1.2.1
  · rw [u2j _ _ _ (by omega)]; exact h.1.2.2.1
  · rw [u2j _ _ _ (by omega)]; exact h.1.2.2.2.1
  · rw [u2j _ _ _ (by omega)]; exact h.1.2.2.2.2
  · by_cases c : q = p ∧ k = j
    · obtain ⟨rfl, rfl⟩ := c
      rw [u2s, setF_s]
    · rw [u2j _ _ _ (by omega), setF_k f v (by omega)]
      exact h.num hq hk (fun z => by have := h3 z; rwa [setF_k f v (by omega)] at this)
theorem R0.bli {g : Nat → Nat} {f : Nat → Nat → Nat} {σ : SS} (h : R0 g f σ) {p s n : Nat} (hp : p < g 0) {x : Int32} (hx : n ≠ 0 → x = nI s) : R0 g (bliF f p s n) (u2 (u2 σ 96 (5 + 6 * p + 3) x) 96 (5 + 6 * p + 4) (nI n)) := by
  refine R0.mk ?_ ?_ ?_ ?_ ?_ fun q k hq hk h3 => ?_
  · rw [u2j _ _ _ (by omega), u2j _ _ _ (by omega)]; exact h.1.1
  · rw [u2j _ _ _ (by omega), u2j _ _ _ (by omega)]; exact h.1.2.1
  · rw [u2j _ _ _ (by omega), u2j _ _ _ (by omega)]; exact h.1.2.2.1
  · rw [u2j _ _ _ (by omega), u2j _ _ _ (by omega)]; exact h.1.2.2.2.1
  · rw [u2j _ _ _ (by omega), u2j _ _ _ (by omega)]; exact h.1.2.2.2.2
  · by_cases c : q = p ∧ k = 4
    · obtain ⟨rfl, rfl⟩ := c
      rw [u2s, bli4]
    · rw [u2j _ _ _ (by omega)]
      by_cases c3 : q = p ∧ k = 3
      · obtain ⟨rfl, rfl⟩ := c3
        rw [u2s, bli3]
        exact hx (by have := h3 rfl; rwa [bli4] at this)
      · rw [u2j _ _ _ (by omega), bliK f s n (by omega)]
        refine h.num hq hk (fun z => ?_)
        have := h3 z
        rwa [bliK f s n (Or.inl (by omega))] at this
theorem rp_postOn {g : Nat → Nat} {f : Nat → Nat → Nat} {σ : SS} (h : R0 g f σ) (ho : OkW g f) {s : Nat} (hs : s < 24) {Q : Int32 → SS → Prop} (q : Q (o1 (pon g f s)) σ) : wp_X10_postOn σ (nI s) Q := by
  have h9 := ho.1
  unfold wp_X10_postOn
  unfold pon at q
  have step : ∀ rc i, i < g 0 → (f i 0 = s → Q (nI i) σ) → (f i 0 ≠ s → rc σ (nI (i + 1))) → bd_X10_postOn_2 Q (nI s) rc σ (nI i) := by
    intro rc i hi h1 h0
    have := (ho.2.2 i hi).1
    unfold bd_X10_postOn_2
    rw [h.g0, nI_1]
    exact br_f (nI_gt hi (by omega)) (rp_of h ho (j := 0) hi (by decide) (by omega) (pk_eq (f i 0) s h1 h0))
  cases e : fnd (fun p => decide (f p 0 = s)) (g 0) with
  | none =>
    rw [e] at q
    have hn := fnd_none e
    refine Li.up (N := g 0) 0 (fun i τ v => τ = σ ∧ v = nI i) (by omega) ⟨rfl, rfl⟩ ?_ ?_
    · rintro rc i τ v _ hi ⟨rfl, rfl⟩ k
      exact step rc i hi (fun z => by have := hn i hi; simp [z] at this) (fun _ => k _ _ ⟨rfl, rfl⟩)
    · rintro rc τ v ⟨rfl, rfl⟩
      unfold bd_X10_postOn_2
      rw [h.g0]
      exact br_t (by rw [nI_leI (by omega) (by omega)]; omega) q
  | some n =>
    rw [e] at q
    obtain ⟨h1, h2, h3⟩ := fnd_some e
    refine Li.up (N := n) 0 (fun i τ v => τ = σ ∧ v = nI i) (by omega) ⟨rfl, rfl⟩ ?_ ?_
    · rintro rc i τ v _ hi ⟨rfl, rfl⟩ k
      exact step rc i (by omega) (fun z => by have := h3 i hi; simp [z] at this) (fun _ => k _ _ ⟨rfl, rfl⟩)
    · rintro rc τ v ⟨rfl, rfl⟩
      exact step rc n h1 (fun _ => q) (fun z => absurd (by simpa using h2) z)
theorem rp_builds {g : Nat → Nat} {f : Nat → Nat → Nat} {σ : SS} (h : R0 g f σ) (ho : OkW g f) (x y z : Int32) {Q : Int32 → SS → Prop} (q : pQ σ Q (o_post g f x y z)) : wp_X10_builds σ x y z Q := by
  have h9 := ho.1
  unfold wp_X10_builds
  unfold o_post at q
  refine rp_isStone x (fun s hs ex e => ?_) (fun e => by rw [e] at q; exact br_t rfl q)
  rw [e] at q
  refine br_f (by decide) (rp_isReach y (fun l hl ey e2 => ?_) (fun e => by rw [e] at q; exact br_t rfl q))
  rw [e2] at q
  refine br_f (by decide) (rp_isReach z (fun r hr ez e3 => ?_) (fun e => by rw [e] at q; exact br_t rfl q))
  rw [e3] at q
  subst ex ey ez
  refine br_f (by decide) (rp_postOn h ho hs ?_)
  cases ep : pon g f s with
  | some p =>
    simp only [ep] at q
    have := pon_lt ep
    exact br_f (nI_n1 (by omega)) (rp_ref fun τ a b c d => br_f (by decide) (q τ a b c d))
  | none =>
    simp only [ep] at q
    refine br_t rfl (rp_not _ _ (br_t rfl ?_))
    rw [h.g0]
    refine pk_eq (g 0) 9 (fun c => ?_) (fun c => ?_)
    · simp only [if_neg (show ¬ g 0 < 9 by omega)] at q
      exact rp_ref fun τ a b c d => br_f (by decide) (q τ a b c d)
    · have c9 : g 0 < 9 := by omega
      simp only [if_pos c9] at q
      refine rp_not _ _ (br_t rfl ?_)
      rw [h.g0]
      refine rp_sets (j := 0) c9 (by decide) _ (rp_sets (j := 1) c9 (by decide) _ (rp_sets (j := 2) c9 (by decide) _ (rp_sets (j := 3) c9 (by decide) _ (rp_sets (j := 4) c9 (by decide) _ (rp_sets (j := 5) c9 (by decide) _ ?_)))))
      rintro τ eτ
      refine q τ (by rw [eτ]; exact ((((((((F96.rf.u _ _).u _ _).u _ _).u _ _).u _ _).u _ _).u _ _).u _ _)) ?_
      have rd : ∀ i, τ 96 i = if i = 2 then nI (g 2 + 1) else if i = 0 then nI (g 0 + 1) else if i = 5 + 6 * g 0 + 5 then 0 else if i = 5 + 6 * g 0 + 4 then 0 else if i = 5 + 6 * g 0 + 3 then -1 else if i = 5 + 6 * g 0 + 2 then nI r else if i = 5 + 6 * g 0 + 1 then nI l else if i = 5 + 6 * g 0 + 0 then nI s else σ 96 i := by
        intro i
        rw [eτ, u2i]
        by_cases c2 : i = 2
        · subst c2
          rw [if_pos ⟨rfl, rfl⟩, if_pos rfl]
          rw [u2j _ _ _ (by omega), u2j _ _ _ (by omega), u2j _ _ _ (by omega), u2j _ _ _ (by omega), u2j _ _ _ (by omega), u2j _ _ _ (by omega), u2j _ _ _ (by omega)]
          have e : σ 96 2 = nI (g 2) := h.1.2.2.1
          rw [e]; exact nI_1 _
        · rw [if_neg (by omega), if_neg c2, u2i]
          by_cases c0 : i = 0
          · subst c0
            rw [if_pos ⟨rfl, rfl⟩, if_pos rfl]
            rw [u2j _ _ _ (by omega), u2j _ _ _ (by omega), u2j _ _ _ (by omega), u2j _ _ _ (by omega), u2j _ _ _ (by omega), u2j _ _ _ (by omega), h.g0]
            exact nI_1 _
          · rw [if_neg (by omega), if_neg c0]
            simp only [u2i, true_and]
      refine R0.mk ?_ ?_ ?_ ?_ ?_ fun p j hp hj h3 => ?_
      · rw [rd, if_neg (by omega), if_pos rfl]; rfl
      · rw [rd, if_neg (by omega), if_neg (by omega), if_neg (by omega), if_neg (by omega), if_neg (by omega), if_neg (by omega), if_neg (by omega), if_neg (by omega)]; exact h.1.2.1
      · rw [rd, if_pos rfl]; rfl
      · rw [rd, if_neg (by omega), if_neg (by omega), if_neg (by omega), if_neg (by omega), if_neg (by omega), if_neg (by omega), if_neg (by omega), if_neg (by omega)]; exact h.1.2.2.2.1
      · rw [rd, if_neg (by omega), if_neg (by omega), if_neg (by omega), if_neg (by omega), if_neg (by omega), if_neg (by omega), if_neg (by omega), if_neg (by omega)]; exact h.1.2.2.2.2
      · have hp : p < g 0 + 1 := hp
        rw [rd, if_neg (by omega), if_neg (by omega)]
        by_cases cp : p = g 0
        · subst cp
          have ef : ∀ j, addF g f s l r (g 0) j = if j = 0 then s else if j = 1 then l else if j = 2 then r else 0 := fun j => by unfold addF; rw [if_pos rfl]
          rcases (show j = 0 ∨ j = 1 ∨ j = 2 ∨ j = 3 ∨ j = 4 ∨ j = 5 by omega) with rfl | rfl | rfl | rfl | rfl | rfl
          · rw [if_neg (by omega), if_neg (by omega), if_neg (by omega), if_neg (by omega), if_neg (by omega), if_pos rfl, ef]; rfl
          · rw [if_neg (by omega), if_neg (by omega), if_neg (by omega), if_neg (by omega), if_pos rfl, ef]; rfl
          · rw [if_neg (by omega), if_neg (by omega), if_neg (by omega), if_pos rfl, ef]; rfl
          · exact absurd (ef 4) (h3 rfl)
          · rw [if_neg (by omega), if_pos rfl, ef]; rfl
          · rw [if_pos rfl, ef]; rfl
        · have ef : addF g f s l r p = f p := by unfold addF; rw [if_neg cp]
          rw [ef] at h3 ⊢
          rw [if_neg (by omega), if_neg (by omega), if_neg (by omega), if_neg (by omega), if_neg (by omega), if_neg (by omega)]
          exact h.num (by omega) hj h3
theorem rp_tears {g : Nat → Nat} {f : Nat → Nat → Nat} {σ : SS} (h : R0 g f σ) (ho : OkW g f) (x : Int32) {Q : Int32 → SS → Prop} (q : pQ σ Q (o_tear g f x)) : wp_X10_tears σ x Q := by
  have h9 := ho.1
  unfold wp_X10_tears
  unfold o_tear at q
  refine rp_isPost h ho x (fun p hp ex e => ?_) (fun e => by rw [e] at q; exact br_t rfl q)
  rw [e] at q
  subst ex
  have es : (5 : Int32) + (6 * nI p) = nI (5 + 6 * p) := by
    rw [show (6 : Int32) = nI 6 from rfl, show (5 : Int32) = nI 5 from rfl, pk_mul, nI_add]
  refine br_f (by decide) ?_
  rw [es]
  refine Li.up (N := 53) (5 + 6 * p) (fun i τ v => v = nI i ∧ ∀ k j, τ k j = if k = 96 ∧ 5 + 6 * p ≤ j ∧ j < i then σ 96 (j + 6) else σ k j) (by omega) ⟨rfl, fun k j => by rw [if_neg (by omega)]⟩ ?_ ?_
  · rintro rc i τ v hi0 hi ⟨rfl, t⟩ k
    unfold bd_X10_tears_17
    rw [show (6 : Int32) = nI 6 from rfl, nI_add]
    refine br_f (c_nle 53 hi) ⟨pk_in (i + 6) 59 (by omega), pk_in i 59 (by omega), ?_⟩
    rw [pk_cl (x := nI i) i, pk_cl (x := nI (i + 6)) (i + 6), nI_1]
    rintro υ rfl
    refine k _ _ ⟨rfl, fun kk j => ?_⟩
    have e6 : τ 96 (i + 6) = σ 96 (i + 6) := by rw [t, if_neg (by omega)]
    rw [u2i, e6, t]
    by_cases c : kk = 96 ∧ j = i
    · rw [if_pos c, if_pos (by omega), c.2]
    · rw [if_neg c]
      by_cases d : kk = 96 ∧ 5 + 6 * p ≤ j ∧ j < i
      · rw [if_pos d, if_pos (by omega)]
      · rw [if_neg d, if_neg (by omega)]
  · rintro rc τ v ⟨rfl, t⟩
    unfold bd_X10_tears_17
    refine br_t (by decide) (Li.up (N := 59) 53 (fun i υ v => v = nI i ∧ ∀ k j, (k = 96 → j < 53) → υ k j = τ k j) (by omega) ⟨rfl, fun k j _ => rfl⟩ ?_ ?_)
    · rintro rc i υ v hi0 hi ⟨rfl, t2⟩ k
      unfold bd_X10_tears_47
      refine br_f (c_nle 59 hi) ⟨pk_in i 59 hi, ?_⟩
      rw [pk_cl i, nI_1]
      refine k _ _ ⟨rfl, fun kk j hj => ?_⟩
      rw [u2i, if_neg (by omega)]
      exact t2 kk j hj
    · rintro rc υ v ⟨rfl, t2⟩
      unfold bd_X10_tears_47
      refine br_t (by decide) ?_
      intro ω eω
      have rd : ∀ j, j < 53 → j ≠ 0 → j ≠ 3 → ω 96 j = if 5 + 6 * p ≤ j then σ 96 (j + 6) else σ 96 j := by
        intro j hj h0 h3
        rw [eω, u2j _ _ _ h3, u2j _ _ _ h0, t2 96 j (fun _ => hj), t]
        by_cases c : 5 + 6 * p ≤ j
        · rw [if_pos ⟨rfl, c, hj⟩, if_pos c]
        · rw [if_neg (by omega), if_neg c]
      have e0 : ω 96 0 = nI (g 0 - 1) := by
        rw [eω, u2j _ _ _ (by decide), u2s, t2 96 0 (by omega), t, if_neg (by omega), h.g0]
        exact pk_sub (b := 1) (by omega)
      have e3 : ω 96 3 = nI (g 3 + 1) := by
        rw [eω, u2s, u2j _ _ _ (by decide), t2 96 3 (by omega), t, if_neg (by omega)]
        have e : σ 96 3 = nI (g 3) := h.1.2.2.2.1
        rw [e]; exact nI_1 _
      rw [e0]
      refine q ω (fun k j hk => ?_) (R0.mk e0 ?_ ?_ e3 ?_ fun r j hr hj h3 => ?_)
      · rw [eω, u2i, if_neg (by omega), u2i, if_neg (by omega), t2 k j (by omega), t, if_neg (by omega)]
      · rw [rd 1 (by decide) (by decide) (by decide), if_neg (by omega)]; exact h.1.2.1
      · rw [rd 2 (by decide) (by decide) (by decide), if_neg (by omega)]; exact h.1.2.2.1
      · rw [rd 4 (by decide) (by decide) (by decide), if_neg (by omega)]; exact h.1.2.2.2.2
      · have hr : r < g 0 - 1 := hr
        rw [rd _ (by omega) (by omega) (by omega)]
        unfold tearF at h3 ⊢
        by_cases c : r < p
        · rw [if_pos c] at h3 ⊢
          rw [if_neg (by omega)]
          exact h.num (by omega) hj h3
        · rw [if_neg c] at h3 ⊢
          rw [if_pos (by omega), show 5 + 6 * r + j + 6 = 5 + 6 * (r + 1) + j by omega]
          exact h.num (by omega) hj h3
theorem rp_reaches {g : Nat → Nat} {f : Nat → Nat → Nat} {σ : SS} (h : R0 g f σ) (ho : OkW g f) (x y z : Int32) {Q : Int32 → SS → Prop} (q : pQ σ Q (o_reach g f x y z)) : wp_X10_reaches σ x y z Q := by
  have h9 := ho.1
  unfold wp_X10_reaches
  unfold o_reach at q
  refine rp_isPost h ho x (fun p hp ex e => ?_) (fun e => by rw [e] at q; exact br_t rfl q)
  rw [e] at q
  refine br_f (by decide) (rp_isReach y (fun l hl ey e2 => ?_) (fun e => by rw [e] at q; exact br_t rfl q))
  rw [e2] at q
  refine br_f (by decide) (rp_isReach z (fun r hr ez e3 => ?_) (fun e => by rw [e] at q; exact br_t rfl q))
  rw [e3] at q
  subst ex ey ez
  obtain ⟨o0, o1, o2, _⟩ := ho.2.2 p hp
  refine br_f (by decide) (rp_of h ho (j := 1) hp (by decide) (by omega) (rp_of h ho (j := 2) hp (by decide) (by omega) ?_))
  rw [show (100 : Int32) = nI 100 from rfl, pk_mul, pk_mul, nI_add, nI_add]
  refine pk_eq (100 * f p 1 + f p 2) (100 * l + r) (fun c => ?_) (fun c => ?_)
  · have c : f p 1 = l ∧ f p 2 = r := by omega
    simp only [if_pos c] at q
    exact rp_ref fun τ a b c d => br_f (by decide) (q τ a b c d)
  · have c : ¬ (f p 1 = l ∧ f p 2 = r) := by omega
    simp only [if_neg c] at q
    refine rp_not _ _ (br_t rfl (rp_sets (j := 1) (by omega) (by decide) _ (rp_sets (j := 2) (by omega) (by decide) _ ?_)))
    exact q _ ((F96.rf.u _ _).u _ _) ((h.set (j := 1) (v := l) hp (by decide) (by decide)).set (j := 2) (v := r) hp (by decide) (by decide))
theorem rp_in18 {σ : SS} (x : Int32) {Q : Int32 → SS → Prop} (h1 : ∀ n, n < 9 → n ≠ 0 → x = nI n → ox x 9 = some n → Q 1 σ) (h0 : (ox x 9 = none ∨ x = nI 0) → Q 0 σ) : wp_X10_isIn σ x 1 8 Q := by
  unfold wp_X10_isIn
  have z1 : (1 : Int32).toInt = 1 := rfl
  have z8 : (8 : Int32).toInt = 8 := rfl
  have z0 : (0 : Int32).toInt = 0 := rfl
  rcases ox_c x (n := 9) (by omega) with ⟨c, e, _⟩ | ⟨c, c', e, _⟩ | ⟨n, hn, rfl, e⟩
  · refine br_t ?_ (h0 (Or.inl e))
    rw [Int32.lt_iff_toInt_lt] at c ⊢; omega
  · have z9 : (nI 9).toInt = 9 := rfl
    rw [Int32.le_iff_toInt_le] at c
    refine br_f ?_ (br_t ?_ (h0 (Or.inl e)))
    · rw [Int32.lt_iff_toInt_lt]; omega
    · rw [Int32.lt_iff_toInt_lt]; omega
  · by_cases c : n = 0
    · subst c
      exact br_t (by decide) (h0 (Or.inr rfl))
    · refine br_f ?_ (br_f ?_ (h1 n hn c rfl e))
      · rw [show (1 : Int32) = nI 1 from rfl, nI_ltI (by omega) (by omega)]; omega
      · rw [show (8 : Int32) = nI 8 from rfl, nI_ltI (by omega) (by omega)]; omega
theorem rp_blinds {g : Nat → Nat} {f : Nat → Nat → Nat} {σ : SS} (h : R0 g f σ) (ho : OkW g f) (x y z : Int32) {Q : Int32 → SS → Prop} (q : pQ σ Q (o_blind g f x y z)) : wp_X10_blinds σ x y z Q := by
  have h9 := ho.1
  unfold wp_X10_blinds
  unfold o_blind at q
  refine rp_isPost h ho x (fun p hp ex e => ?_) (fun e => by rw [e] at q; exact br_t rfl q)
  rw [e] at q
  refine br_f (by decide) (rp_isStone y (fun s hs ey e2 => ?_) (fun e => by rw [e] at q; exact br_t rfl q))
  rw [e2] at q
  subst ex ey
  refine br_f (by decide) (rp_in18 z (fun n hn n0 ez e3 => ?_) (fun hz => br_t rfl ?_))
  · rw [e3] at q
    subst ez
    simp only [if_neg n0] at q
    obtain ⟨_, _, _, o4, o3, _⟩ := ho.2.2 p hp
    have go : ¬ (f p 4 = n ∧ f p 3 = s) → wp_X10_isRefused σ 0 3 (nI s) (fun r28 σ27 => ((r28 = 0 → wp_X10_sets σ27 (nI p) 3 (nI s) (fun σ29 => wp_X10_sets σ29 (nI p) 4 (nI n) (fun σ30 => wp_X10_sight σ30 (nI p) (fun r32 σ31 => wp_X10_bits σ31 r32 (fun r34 σ33 => Q r34 σ33))))) ∧ (¬ r28 = 0 → Q (-3) σ27))) := by
      intro c
      simp only [if_neg c] at q
      refine rp_not _ _ (br_t rfl (rp_sets (j := 3) (by omega) (by decide) _ (rp_sets (j := 4) (by omega) (by decide) _ ?_)))
      have hr := h.bli (s := s) (n := n) hp (x := nI s) (fun _ => rfl)
      exact rp_sight hr (bli_ok ho hs (by omega)) hp (rp_bits (NR_lt _ _ _) (q _ ((F96.rf.u _ _).u _ _) hr))
    refine br_f (by decide) ?_
    by_cases c4 : f p 4 = 0
    · -- its slot may hold anything
      refine rp_ofS (j := 3) (by omega) (by decide) (br_c (fun _ => rp_of h ho (j := 4) hp (by decide) (by omega) (br_f ?_ (go (by omega)))) (fun _ => go (by omega)))
      rw [nI_eq (by omega) (by omega)]; omega
    · have o3 := o3 c4
      refine rp_of h ho (j := 3) hp (by decide) (fun _ => c4) (pk_eq (f p 3) s (fun c3 => rp_of h ho (j := 4) hp (by decide) (by omega) (pk_eq (f p 4) n (fun c => ?_) (fun c => go (by omega)))) (fun c3 => go (by omega)))
      simp only [if_pos (And.intro c c3)] at q
      exact rp_ref fun τ a b c d => br_f (by decide) (q τ a b c d)
  · rcases hz with e | e
    · rw [e] at q; exact q
    · subst e
      exact q
theorem rp_lets {g : Nat → Nat} {f : Nat → Nat → Nat} {σ : SS} (h : R0 g f σ) (ho : OkW g f) (x : Int32) {Q : Int32 → SS → Prop} (q : pQ σ Q (o_see g f x)) : wp_X10_lets σ x Q := by
  have h9 := ho.1
  unfold wp_X10_lets
  unfold o_see at q
  refine rp_isPost h ho x (fun p hp ex e => ?_) (fun e => by rw [e] at q; exact br_t rfl q)
  rw [e] at q
  subst ex
  obtain ⟨_, _, _, o4, _, _⟩ := ho.2.2 p hp
  refine br_f (by decide) (rp_of h ho (j := 4) hp (by decide) (by omega) (pk_eq (f p 4) 0 (fun c => ?_) (fun c => ?_)))
  · simp only [if_pos c] at q
    exact rp_ref fun τ a b c d => br_f (by decide) (q τ a b c d)
  · simp only [if_neg c] at q
    refine rp_not _ _ (br_t rfl (rp_sets (j := 3) (by omega) (by decide) _ (rp_sets (j := 4) (by omega) (by decide) _ ?_)))
    have hr := h.bli (s := 0) (n := 0) hp (x := -1) (fun z => absurd rfl z)
    exact rp_sight hr (bli_ok ho (by decide) (by decide)) hp (rp_bits (NR_lt _ _ _) (q _ ((F96.rf.u _ _).u _ _) hr))
theorem rp_mans {g : Nat → Nat} {f : Nat → Nat → Nat} {σ : SS} (h : R0 g f σ) (ho : OkW g f) (x y : Int32) {Q : Int32 → SS → Prop} (q : pQ σ Q (o_man g f x y)) : wp_X10_mans σ x y Q := by
  have h9 := ho.1
  unfold wp_X10_mans
  unfold o_man at q
  refine rp_isPost h ho x (fun p hp ex e => ?_) (fun e => by rw [e] at q; exact br_t rfl q)
  rw [e] at q
  subst ex
  refine br_f (by decide) (rp_in0 (n := 2) (by decide) rfl y (fun b hb ey e2 => br_f (by decide) ?_) (fun e => by rw [e] at q; exact br_t rfl q))
  rw [e2] at q
  subst ey
  obtain ⟨_, _, _, _, _, o5⟩ := ho.2.2 p hp
  refine rp_of h ho (j := 5) hp (by decide) (by omega) (pk_eq (f p 5) b (fun c => ?_) (fun c => ?_))
  · simp only [if_pos c] at q
    exact rp_ref fun τ a b c d => br_f (by decide) (q τ a b c d)
  · simp only [if_neg c] at q
    refine rp_not _ _ (br_t rfl (rp_sets (j := 5) (by omega) (by decide) _ ?_))
    have hr := h.set (j := 5) (v := b) hp (by decide) (by decide)
    have hok : OkW g (setF f p 5 b) := set_ok ho (by decide) (by decide) (by omega) (by omega) (by omega) (by omega)
    exact rp_seenNow hr hok (rp_bits (sn_lt _ _) (q _ (F96.rf.u _ _) hr))
theorem rp_tellsHour {g : Nat → Nat} {f : Nat → Nat → Nat} {σ : SS} (h : R0 g f σ) (ho : OkW g f) (x : Int32) {Q : Int32 → SS → Prop} (q : pQ σ Q (o_hour g f x)) : wp_X10_tellsHour σ x Q := by
  have h12 := ho.2.1
  unfold wp_X10_tellsHour
  unfold o_hour at q
  refine rp_isHour x (fun hh hp ex e => ?_) (fun e => by rw [e] at q; exact br_t rfl q)
  rw [e] at q
  subst ex
  refine br_f (by decide) ?_
  rw [h.g1]
  refine pk_eq (g 1) hh (fun c => ?_) (fun c => ?_)
  · simp only [if_pos c] at q
    exact rp_ref fun τ a b c d => br_f (by decide) (q τ a b c d)
  · simp only [if_neg c] at q
    refine rp_not _ _ (br_t rfl (q _ (F96.rf.u _ _) (R0.mk ?_ ?_ ?_ ?_ ?_ fun r j hr hj h3 => ?_)))
    · rw [u2j _ _ _ (by decide)]; exact h.1.1
    · rw [u2s]; rfl
    · rw [u2j _ _ _ (by decide)]; exact h.1.2.2.1
    · rw [u2j _ _ _ (by decide)]; exact h.1.2.2.2.1
    · rw [u2j _ _ _ (by decide)]; exact h.1.2.2.2.2
    · rw [u2j _ _ _ (by omega)]; exact h.num hr hj h3
theorem rp_watching {g : Nat → Nat} {f : Nat → Nat → Nat} {σ : SS} (h : R0 g f σ) (ho : OkW g f) {Q : Int32 → SS → Prop} (q : pQ σ Q (o_watch g f)) : wp_X10_watching σ Q := by
  have h9 := ho.1
  have h2 := p2_le h9
  unfold wp_X10_watching
  unfold o_watch at q
  refine rp_fewNow h ho ?_
  cases ef : few (NR g f) (g 0) with
  | none =>
    rw [ef] at q
    refine br_t rfl (rp_uns h ho ?_)
    rw [i_uns]
    exact rp_ref fun τ a b c d => br_f (by decide) (q τ a b c d)
  | some t =>
    rw [ef] at q
    have ht := (few_lt h9 ef).1
    refine br_f (nI_n4 (by omega)) (rp_uns h ho (rp_not _ _ (br_t rfl ?_)))
    show ∃ k17, Li (bd_X10_watching_49 Q (nI t)) k17 σ 0
    refine Li.up (N := g 0) 0 (fun i τ v => v = nI i ∧ F96 σ τ ∧ (∀ j, j < 5 → τ 96 j = σ 96 j) ∧ ∀ p j, p < g 0 → j < 6 → τ 96 (5 + 6 * p + j) = if p < i ∧ j = 5 then nI (t.testBit p).toNat else σ 96 (5 + 6 * p + j)) (by omega) ⟨rfl, F96.rf, fun _ _ => rfl, fun p j _ _ => by rw [if_neg (by omega)]⟩ ?_ ?_
    · rintro rc i τ v _ hi ⟨rfl, kf, k5, kp⟩ k
      unfold bd_X10_watching_49
      rw [k5 0 (by decide), h.g0, nI_1]
      have go : ∀ b : Bool, t.testBit i = b → ∀ y, y = nI b.toNat → wp_X10_sets τ (nI i) 5 y (fun σ15 => rc σ15 (nI (i + 1))) := by
        rintro b hb y rfl
        refine rp_sets (j := 5) (by omega) (by decide) _ (k _ _ ⟨rfl, kf.u _ _, fun j hj => by rw [u2j _ _ _ (by omega)]; exact k5 j hj, fun p j hp hj => ?_⟩)
        by_cases c : p = i ∧ j = 5
        · obtain ⟨rfl, rfl⟩ := c
          rw [u2s, if_pos ⟨by omega, rfl⟩, hb]
        · rw [u2j _ _ _ (by omega), kp p j hp hj]
          by_cases d : p < i ∧ j = 5
          · rw [if_pos d, if_pos (by omega)]
          · rw [if_neg d, if_neg (by omega)]
      exact br_f (nI_gt hi (by omega)) (rp_has (by omega) (by omega) (fun c => br_f (by decide) (go true c 1 rfl)) (fun c => br_t rfl (go false c 0 rfl)))
    · rintro rc τ v ⟨rfl, kf, k5, kp⟩
      unfold bd_X10_watching_49
      rw [k5 0 (by decide), h.g0]
      refine br_t (by rw [nI_leI (by omega) (by omega)]; omega) (rp_bits (by omega) (q _ (kf.u _ _) (R0.mk ?_ ?_ ?_ ?_ ?_ fun p j hp hj h3 => ?_)))
      · rw [u2j _ _ _ (by decide), k5 0 (by decide)]; exact h.1.1
      · rw [u2j _ _ _ (by decide), k5 1 (by decide)]; exact h.1.2.1
      · rw [u2j _ _ _ (by decide), k5 2 (by decide)]; exact h.1.2.2.1
      · rw [u2j _ _ _ (by decide), k5 3 (by decide)]; exact h.1.2.2.2.1
      · rw [u2s, k5 4 (by decide)]
        have e : σ 96 4 = nI (g 4) := h.1.2.2.2.2
        rw [e]; exact nI_1 _
      · have hp : p < g 0 := hp
        rw [u2j _ _ _ (by omega), kp p j hp hj]
        unfold manF at h3 ⊢
        by_cases c : j = 5
        · rw [if_pos ⟨hp, c⟩, if_pos c]
        · rw [if_neg (by omega), if_neg c]
          exact h.num hp hj (fun z => by have := h3 z; rwa [if_neg (by decide)] at this)
