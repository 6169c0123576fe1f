/-! the class: what it answers, by the abstract wall -/
/-- an int below n, or none -/
def ox (x : Int32) (n : Nat) : Option Nat := if x.toNatClampNeg < n ∧ x = nI x.toNatClampNeg then some x.toNatClampNeg else none
theorem ox_in {p n : Nat} (h : p < n) (hn : n < 2 ^ 31) : ox (nI p) n = some p := by
  unfold ox
  rw [pk_cl p, if_pos ⟨h, rfl⟩]
theorem ox_c (x : Int32) {n : Nat} (hn : n < 2 ^ 31) : (x < 0 ∧ ox x n = none ∧ ∀ p, p < n → x ≠ nI p) ∨ (nI n ≤ x ∧ ¬ x < 0 ∧ ox x n = none ∧ ∀ p, p < n → x ≠ nI p) ∨ ∃ p, p < n ∧ x = nI p ∧ ox x n = some p := by
  have hno : (∀ p, p < n → x ≠ nI p) → ox x n = none := fun h => by
    unfold ox; rw [if_neg (fun c => h _ c.1 c.2)]
  rcases pk_ix x hn with h | h | ⟨p, hp, rfl⟩
  · have hne : ∀ p, p < n → x ≠ nI p := fun p hp e => by subst e; exact nI_n0 (by omega) h
    exact Or.inl ⟨h, hno hne, hne⟩
  · have hne : ∀ p, p < n → x ≠ nI p := fun p hp e => by subst e; exact nI_ge hp hn h
    exact Or.inr (Or.inl ⟨h, fun c => by rw [Int32.lt_iff_toInt_lt] at c; rw [Int32.le_iff_toInt_le, nI_toInt hn] at h; have : (0 : Int32).toInt = 0 := rfl; omega, hno hne, hne⟩)
  · exact Or.inr (Or.inr ⟨p, hp, rfl, ox_in hp hn⟩)
theorem sp_range {σ : SS} {n : Nat} (hn : n < 2 ^ 31) {c : Int32} (hc : c = nI n) (x : Int32) {Q : Int32 → SS → Prop} (h1 : ∀ p, p < n → x = nI p → ox x n = some p → Q 1 σ) (h0 : ox x n = none → Q 0 σ) : ((x < 0 → Q 0 σ) ∧ (¬ x < 0 → ((c ≤ x → Q 0 σ) ∧ (¬ c ≤ x → Q 1 σ)))) := by
  subst hc
  rcases ox_c x hn with ⟨h, e, _⟩ | ⟨h, h', e, _⟩ | ⟨p, hp, rfl, e⟩
  · exact br_t h (h0 e)
  · exact br_f h' (br_t h (h0 e))
  · exact br_f (nI_n0 (by omega)) (br_f (nI_ge hp hn) (h1 p hp rfl e))
theorem sp_isStone {σ : SS} (x : Int32) {Q : Int32 → SS → Prop} (h1 : ∀ p, p < 24 → x = nI p → ox x 24 = some p → Q 1 σ) (h0 : ox x 24 = none → Q 0 σ) : wp_X9_isStone σ x Q := sp_range (by decide) rfl x h1 h0
theorem i_le11 (x : Int32) : (11 : Int32) < x ↔ (nI 12) ≤ x := by
  rw [Int32.lt_iff_toInt_lt, Int32.le_iff_toInt_le]
  have h1 : (11 : Int32).toInt = 11 := rfl
  have h2 : (nI 12).toInt = 12 := rfl
  omega
theorem sp_isReach {σ : SS} (x : Int32) {Q : Int32 → SS → Prop} (h1 : ∀ p, p < 12 → x = nI p → ox x 12 = some p → Q 1 σ) (h0 : ox x 12 = none → Q 0 σ) : wp_X9_isReach σ x Q := by
  unfold wp_X9_isReach
  rw [i_le11]
  exact sp_range (by decide) rfl x h1 h0
theorem sp_isHour {σ : SS} (x : Int32) {Q : Int32 → SS → Prop} (h1 : ∀ p, p < 12 → x = nI p → ox x 12 = some p → Q 1 σ) (h0 : ox x 12 = none → Q 0 σ) : wp_X9_isHour σ x Q := by
  unfold wp_X9_isHour
  rw [i_le11]
  exact sp_range (by decide) rfl x h1 h0
theorem sp_isPostX {a : Nat} {g : Nat → Nat} {f : Nat → Nat → Nat} {σ : SS} (h : RC a g f σ) (ho : OkW g f) (x : Int32) {Q : Int32 → SS → Prop} (h1 : ∀ p, p < g 0 → x = nI p → ox x (g 0) = some p → Q 1 σ) (h0 : ox x (g 0) = none → Q 0 σ) : wp_X8_isPost a σ x Q := by
  have h9 := ho.1
  refine sp_isPost h ho (fun p hp e => h1 p hp e (by rw [e]; exact ox_in hp (by omega))) (fun e => h0 ?_)
  rcases ox_c x (n := g 0) (by omega) with ⟨_, e', _⟩ | ⟨_, _, e', _⟩ | ⟨p, hp, e', _⟩
  · exact e'
  · exact e'
  · exact absurd e' (e p hp)
/-- the sights now -/
def NR (g : Nat → Nat) (f : Nat → Nat → Nat) : Nat → Nat := row g f (g 1)
theorem NR_lt (g : Nat → Nat) (f : Nat → Nat → Nat) (p : Nat) : NR g f p < 16777216 := row_lt g f _ p
theorem NR_0 {g : Nat → Nat} {f : Nat → Nat → Nat} {p : Nat} (h : g 0 ≤ p) : NR g f p = 0 := row_0 h
/-- what the manned see -/
def sn (g : Nat → Nat) (f : Nat → Nat → Nat) : Nat := orS (NR g f) (mns g f) 9
theorem sn_lt (g : Nat → Nat) (f : Nat → Nat → Nat) : sn g f < 16777216 := orS_lt (NR_lt g f) _ 9
/-- the cells that a question may change -/
def AK (k : Nat) : Prop := 80 ≤ k ∧ k ≤ 89
theorem AK_2 {k : Nat} (h : k = 80 ∨ k = 81) : AK k := by unfold AK; omega
theorem AK_g {k : Nat} (h : k = 85 ∨ k = 86 ∨ k = 87) : AK k := by unfold AK; omega
theorem AK_c {k : Nat} (h : k = 82 ∨ k = 83) : AK k := by unfold AK; omega
theorem AK_s {k : Nat} (h : k = 84) : AK k := by unfold AK; omega
theorem AK_o {k : Nat} (h : k = 88 ∨ k = 89) : AK k := by unfold AK; omega
theorem RC.ak {g : Nat → Nat} {f : Nat → Nat → Nat} {σ τ : SS} (h : RC 1 g f σ) (e : SB AK σ τ) : RC 1 g f τ := h.keep fun k _ _ => e k (by unfold AK; omega)
theorem SG.keep {ρ : Nat → Nat} {m M : Nat} {σ τ : SS} (h : SG ρ m M σ) (e80 : τ 80 = σ 80) (e81 : τ 81 = σ 81) : SG ρ m M τ := by
  unfold SG at *; rw [e80, e81]; exact h
theorem sp_look {g : Nat → Nat} {f : Nat → Nat → Nat} {σ : SS} (h : RC 1 g f σ) (ho : OkW g f) {Q : SS → Prop} (q : ∀ τ, SB AK σ τ → SG (NR g f) (g 0) (mns g f) τ → Q τ) : wp_X6_lookAt 1 σ (σ 1 7) Q := by
  rw [h.1.2.1]
  exact sp_lookAt h (by decide) ho ho.2.1 fun τ k => q τ (k.mono fun _ => AK_2)
theorem mns_32 {g : Nat → Nat} {f : Nat → Nat → Nat} (ho : OkW g f) : mns g f < 2 ^ 32 := Nat.lt_trans (mns_lt ho) (by decide)
theorem sp_seenNow {g : Nat → Nat} {f : Nat → Nat → Nat} {σ : SS} (ho : OkW g f) (hs : SG (NR g f) (g 0) (mns g f) σ) {Q : Int32 → SS → Prop} (q : Q (nI (sn g f)) σ) : wp_X6_seenBySet σ (σ 80 2) Q := by
  rw [hs.2.1]
  exact sp_seenBySet hs (mns_32 ho) q
theorem sp_manySeenNow {g : Nat → Nat} {f : Nat → Nat → Nat} {σ : SS} (h : RC 1 g f σ) (ho : OkW g f) {p : Nat} (hp : p < 9) {Q : Int32 → SS → Prop} (q : ∀ τ, SB AK σ τ → Q (nI (pc (NR g f p))) τ) : wp_X9_manySeenNow σ (nI p) Q := by
  unfold wp_X9_manySeenNow
  exact sp_look h ho fun τ k hs => sp_manySeen hs (NR_lt g f) hp (q τ k)
theorem sp_manyWatchedNow {g : Nat → Nat} {f : Nat → Nat → Nat} {σ : SS} (h : RC 1 g f σ) (ho : OkW g f) {Q : Int32 → SS → Prop} (q : ∀ τ, SB AK σ τ → Q (nI (pc (sn g f))) τ) : wp_X9_manyWatchedNow σ Q := by
  unfold wp_X9_manyWatchedNow
  exact sp_look h ho fun τ k hs => sp_seenNow ho hs (sp_bc (sn_lt g f) (q τ k))
/-- how many stones no post sees -/
def uns (g : Nat → Nat) (f : Nat → Nat → Nat) : Nat := 24 - pc (orS (NR g f) 511 9)
theorem sp_manyUnseen {g : Nat → Nat} {f : Nat → Nat → Nat} {σ : SS} (hs : SG (NR g f) (g 0) (mns g f) σ) {Q : Int32 → SS → Prop} (q : Q (nI (uns g f)) σ) : wp_X9_manyUnseen σ Q := by
  unfold wp_X9_manyUnseen
  refine sp_seenBySet hs (S := 511) (by decide) (sp_bc (orS_lt (NR_lt g f) _ 9) ?_)
  rw [show (24 : Int32) = nI 24 from rfl, pk_sub (pc_le _)]
  exact q
def a_sees (g : Nat → Nat) (f : Nat → Nat → Nat) (x y : Int32) : Int32 := match ox x (g 0) with
  | none => -1
  | some p => match ox y 24 with
    | none => -1
    | some s => nI ((NR g f p).testBit s).toNat
theorem sp_sees {g : Nat → Nat} {f : Nat → Nat → Nat} {σ : SS} (h : RC 1 g f σ) (ho : OkW g f) (x y : Int32) {Q : Int32 → SS → Prop} (q : ∀ τ, SB AK σ τ → Q (a_sees g f x y) τ) : wp_X9_sees σ x y Q := by
  have h9 := ho.1
  unfold wp_X9_sees
  unfold a_sees at q
  refine sp_isPostX h ho x (fun p hp ex e => ?_) (fun e => ?_)
  · rw [e] at q
    refine br_f (by decide) (sp_isStone y (fun s hs ey e' => ?_) (fun e' => ?_))
    · rw [e'] at q
      subst ex ey
      refine br_f (by decide) (sp_look h ho fun τ k hs' => sp_of (by omega) ?_)
      rw [hs'.2.2 p (by omega), mI_bit (Nat.lt_trans (NR_lt g f p) (by decide)) (by omega)]
      exact q τ k
    · rw [e'] at q
      exact br_t rfl (q σ SB.rf)
  · rw [e] at q
    exact br_t rfl (q σ SB.rf)
def a_watched (g : Nat → Nat) (f : Nat → Nat → Nat) (x : Int32) : Int32 := match ox x 24 with
  | none => -1
  | some s => nI (pc (srs (NR g f) s 9 &&& mns g f))
theorem srs_24 (ρ : Nat → Nat) (s M : Nat) : srs ρ s 9 &&& M < 16777216 := Nat.lt_of_le_of_lt Nat.and_le_left (Nat.lt_trans (srs_lt ρ s 9) (by decide))
theorem sp_watched {g : Nat → Nat} {f : Nat → Nat → Nat} {σ : SS} (h : RC 1 g f σ) (ho : OkW g f) (x : Int32) {Q : Int32 → SS → Prop} (q : ∀ τ, SB AK σ τ → Q (a_watched g f x) τ) : wp_X9_watched σ x Q := by
  unfold wp_X9_watched
  unfold a_watched at q
  refine sp_isStone x (fun s hs ey e' => ?_) (fun e' => ?_)
  · rw [e'] at q
    subst ey
    refine br_f (by decide) (sp_look h ho fun τ k hs' => sp_seersOf hs' (NR_lt g f) hs ?_)
    rw [hs'.2.1, mI_and]
    exact sp_bc (srs_24 _ _ _) (q τ k)
  · rw [e'] at q
    exact br_t rfl (q σ SB.rf)
def a_seenBy (g : Nat → Nat) (f : Nat → Nat → Nat) (x : Int32) : Int32 := match ox x 24 with
  | none => -1
  | some s => nI (srs (NR g f) s 9)
theorem sp_seenBy {g : Nat → Nat} {f : Nat → Nat → Nat} {σ : SS} (h : RC 1 g f σ) (ho : OkW g f) (x : Int32) {Q : Int32 → SS → Prop} (q : ∀ τ, SB AK σ τ → Q (a_seenBy g f x) τ) : wp_X9_seenBy σ x Q := by
  unfold wp_X9_seenBy
  unfold a_seenBy at q
  refine sp_isStone x (fun s hs ey e' => ?_) (fun e' => ?_)
  · rw [e'] at q
    subst ey
    exact br_f (by decide) (sp_look h ho fun τ k hs' => sp_seersOf hs' (NR_lt g f) hs (q τ k))
  · rw [e'] at q
    exact br_t rfl (q σ SB.rf)
def a_fewest (g : Nat → Nat) (f : Nat → Nat → Nat) : Int32 := oN (few (NR g f) (g 0))
theorem sp_fewest {g : Nat → Nat} {f : Nat → Nat → Nat} {σ : SS} (h : RC 1 g f σ) (ho : OkW g f) {Q : Int32 → SS → Prop} (q : ∀ τ, SB AK σ τ → Q (a_fewest g f) τ) : wp_X9_fewest σ Q := by
  unfold wp_X9_fewest
  refine sp_look h ho fun τ k hs' => sp_trySets hs' (NR_lt g f) ho.1 fun υ k2 e1 e2 e3 => ?_
  rw [e1]
  exact q υ (k.tr (k2.mono fun _ => AK_c))
theorem sp_fewestAgain {g : Nat → Nat} {f : Nat → Nat → Nat} {σ : SS} (h : RC 1 g f σ) (ho : OkW g f) {Q : Int32 → SS → Prop} (q : ∀ τ, SB AK σ τ → Q (a_fewest g f) τ) : wp_X9_fewestAgain σ Q := by
  unfold wp_X9_fewestAgain
  exact sp_look h ho fun τ k hs' => sp_searchStones hs' (NR_lt g f) (fun p => NR_0) ho.1 fun υ k2 => q υ (k.tr (k2.mono fun _ => AK_s))
def a_watches (g : Nat → Nat) (f : Nat → Nat → Nat) : Int32 := nI (tst (NR g f) (2 ^ g 0)).2.2.1
theorem sp_watches {g : Nat → Nat} {f : Nat → Nat → Nat} {σ : SS} (h : RC 1 g f σ) (ho : OkW g f) {Q : Int32 → SS → Prop} (q : ∀ τ, SB AK σ τ → Q (a_watches g f) τ) : wp_X9_watches σ Q := by
  unfold wp_X9_watches
  refine sp_look h ho fun τ k hs' => sp_trySets hs' (NR_lt g f) ho.1 fun υ k2 e1 e2 e3 => ?_
  rw [e2]
  exact q υ (k.tr (k2.mono fun _ => AK_c))
def a_isFull (g : Nat → Nat) (f : Nat → Nat → Nat) (x : Int32) : Int32 := match ox x (2 ^ g 0) with
  | none => -1
  | some S => if orS (NR g f) S 9 = ALL then 1 else 0
theorem p2_le {m : Nat} (h : m ≤ 9) : 2 ^ m ≤ 512 := Nat.pow_le_pow_right (n := 2) (by omega) h
theorem i_all {S : Nat} (h : S < 16777216) : nI S = 16777215 ↔ S = ALL := by
  rw [show (16777215 : Int32) = nI ALL from rfl, nI_eq (by omega) (by decide)]
theorem sp_isFull {g : Nat → Nat} {f : Nat → Nat → Nat} {σ : SS} (h : RC 1 g f σ) (ho : OkW g f) (x : Int32) {Q : Int32 → SS → Prop} (q : ∀ τ, SB AK σ τ → Q (a_isFull g f x) τ) : wp_X9_isFull σ x Q := by
  have h9 := ho.1
  have h2 := p2_le h9
  unfold wp_X9_isFull
  unfold a_isFull at q
  rw [h.1.1, mI_shl1 (by omega)]
  rcases ox_c x (n := 2 ^ g 0) (by omega) with ⟨c, e, _⟩ | ⟨c, c', e, _⟩ | ⟨p, hp, rfl, e⟩
  · rw [e] at q
    exact br_t c (q σ SB.rf)
  · rw [e] at q
    exact br_f c' (br_f (fun z => by rw [Int32.lt_iff_toInt_lt] at z; rw [Int32.le_iff_toInt_le] at c; omega) (q σ SB.rf))
  · rw [e] at q
    refine br_f (nI_n0 (by omega)) (br_t ((nI_ltI (by omega) (by omega)).mpr hp) (sp_look h ho fun τ k hs' => sp_seenBySet hs' (by omega) ?_))
    have hl := orS_lt (NR_lt g f) p 9
    by_cases ca : orS (NR g f) p 9 = ALL
    · have hq := q τ k
      simp only [if_pos ca] at hq
      exact br_t ((i_all hl).mpr ca) hq
    · have hq := q τ k
      simp only [if_neg ca] at hq
      exact br_f (fun z => ca ((i_all hl).mp z)) hq
def a_next (g : Nat → Nat) (f : Nat → Nat → Nat) (S : Nat) : Option Nat := (bst (NR g f) (df 511 S) (df ALL (orS (NR g f) S 9)) 9).1
theorem sp_closing {g : Nat → Nat} {f : Nat → Nat → Nat} {σ : SS} (hs : SG (NR g f) (g 0) (mns g f) σ) {S : Nat} (hS : S < 2 ^ 32) {Q : Int32 → SS → Prop} (q : Q (oN (a_next g f S)) σ) : wp_X9_closingMost σ (nI S) Q := by
  unfold wp_X9_closingMost
  refine sp_seenBySet hs hS ?_
  rw [show (511 : Int32) = nI 511 from rfl, mI_df, show (16777215 : Int32) = nI ALL from rfl, mI_df]
  exact sp_bestAmong hs (NR_lt g f) (df_lt (n := 32) _ (by decide)) q
theorem sp_next {g : Nat → Nat} {f : Nat → Nat → Nat} {σ : SS} (h : RC 1 g f σ) (ho : OkW g f) {Q : Int32 → SS → Prop} (q : ∀ τ, SB AK σ τ → Q (oN (a_next g f (mns g f))) τ) : wp_X9_next σ Q := by
  unfold wp_X9_next
  refine sp_look h ho fun τ k hs' => ?_
  rw [hs'.2.1]
  exact sp_closing hs' (mns_32 ho) (q τ k)
def grd (g : Nat → Nat) (f : Nat → Nat → Nat) : Nat → Nat → Nat
  | 0, v => v
  | k + 1, v => match a_next g f v with
    | none => v
    | some p => grd g f k (v ||| 2 ^ p)
theorem bst_lt (ρ : Nat → Nat) (S X : Nat) : ∀ n p, (bst ρ S X n).1 = some p → p < n ∧ S.testBit p = true
  | 0, p, h => by cases h
  | n + 1, p, h => by
    rw [bst_s] at h
    split at h
    · next c =>
      cases h
      refine ⟨by omega, Classical.byContradiction fun z => ?_⟩
      rw [mny_f (by simpa using z)] at c
      omega
    · have := bst_lt ρ S X n p h
      exact ⟨by omega, this.2⟩
theorem next_lt {g : Nat → Nat} {f : Nat → Nat → Nat} {S p : Nat} (h : a_next g f S = some p) : p < 9 ∧ S.testBit p = false := by
  have := bst_lt _ _ _ _ _ h
  rw [df_bit (by decide)] at this
  simp only [Bool.and_eq_true, Bool.not_eq_true'] at this
  exact ⟨this.1, this.2.2⟩
theorem sp_greedy {g : Nat → Nat} {f : Nat → Nat → Nat} {σ : SS} (h : RC 1 g f σ) (ho : OkW g f) {Q : Int32 → SS → Prop} (q : ∀ τ, SB AK σ τ → Q (nI (pc (grd g f 9 (mns g f)))) τ) : wp_X9_greedy σ Q := by
  unfold wp_X9_greedy
  refine sp_look h ho fun τ0 k0 hs => ?_
  rw [hs.2.1]
  have q := q τ0 k0
  clear k0 h
  obtain ⟨G, eG⟩ : ∃ G, G = grd g f 9 (mns g f) := ⟨_, rfl⟩
  rw [← eG] at q
  refine Lii.up (N := 9) 0 (fun i τ v w => τ = τ0 ∧ w = nI i ∧ ∃ V, v = nI V ∧ V < 512 ∧ grd g f (9 - i) V = G) (by omega) ⟨rfl, rfl, _, rfl, mns_lt ho, eG.symm⟩ ?_ ?_
  · rintro rc i τ v w _ hi ⟨rfl, rfl, V, rfl, hV, e⟩ k
    unfold bd_X9_greedy_28
    refine br_f (c_nle 9 hi) (sp_closing hs (by omega) ?_)
    rw [show 9 - i = (9 - (i + 1)) + 1 by omega] at e
    unfold grd at e
    cases en : a_next g f V with
    | none =>
      rw [en] at e
      refine br_t rfl (sp_bc (by omega) ?_)
      rw [← e] at q; exact q
    | some p =>
      rw [en] at e
      have hp := (next_lt en).1
      refine br_f (nI_n4 (by omega)) ?_
      show rc τ (nI V ||| ((1 : Int32) <<< (nI p &&& 31))) (nI i + 1)
      rw [mI_shl1 (by omega), mI_or]
      refine k _ _ _ ⟨rfl, nI_1 i, _, rfl, m_or_lt (n := 9) hV ?_, e⟩
      exact Nat.pow_lt_pow_right (by omega) hp
  · rintro rc τ v w ⟨rfl, rfl, V, rfl, hV, e⟩
    unfold bd_X9_greedy_28
    refine br_t (by decide) (sp_bc (by omega) ?_)
    have e : V = G := e
    rw [e]; exact q
def spr (ρ : Nat → Nat) (S0 : Nat) : Nat → Nat → Nat
  | 0, v => v
  | n + 1, v => spr ρ S0 n (if orS ρ (df v (2 ^ n)) 9 = S0 then df v (2 ^ n) else v)
theorem spr_le (ρ : Nat → Nat) (S0 : Nat) : ∀ n v, v < 512 → pc (spr ρ S0 n v) ≤ pc v
  | 0, v, _ => Nat.le_refl _
  | n + 1, v, h => by
    unfold spr
    split
    · have h2 : df v (2 ^ n) ≤ v := df_le _ _
      refine Nat.le_trans (spr_le ρ S0 n _ (by omega)) (pc_sub fun i hi => ?_)
      rw [df_bit (by omega)] at hi
      simp only [Bool.and_eq_true] at hi
      exact hi.1
    · exact spr_le ρ S0 n v h
def a_spare (g : Nat → Nat) (f : Nat → Nat → Nat) : Nat := pc (mns g f) - pc (spr (NR g f) (sn g f) 9 (mns g f))
theorem sp_spare {g : Nat → Nat} {f : Nat → Nat → Nat} {σ : SS} (h : RC 1 g f σ) (ho : OkW g f) {Q : Int32 → SS → Prop} (q : ∀ τ, SB AK σ τ → Q (nI (a_spare g f)) τ) : wp_X9_spare σ Q := by
  unfold wp_X9_spare
  refine sp_look h ho fun τ0 k0 hs => sp_seenNow ho hs ?_
  have q := q τ0 k0
  have hM := mns_lt ho
  rw [hs.2.1]
  clear k0 h
  unfold a_spare at q
  have hG := spr_le (NR g f) (sn g f) 9 _ hM
  obtain ⟨G, eG⟩ : ∃ G, G = spr (NR g f) (sn g f) 9 (mns g f) := ⟨_, rfl⟩
  rw [← eG] at q hG
  refine Lii.up (N := 9) 0 (fun i τ v w => τ = τ0 ∧ w = nI (9 - i) + (-1) ∧ ∃ V, v = nI V ∧ V < 512 ∧ spr (NR g f) (sn g f) (9 - i) V = G) (by omega) ⟨rfl, rfl, _, rfl, hM, eG.symm⟩ ?_ ?_
  · rintro rc i τ v w _ hi ⟨rfl, rfl, V, rfl, hV, e⟩ k
    unfold bd_X9_spare_44
    rw [show 9 - i = (9 - (i + 1)) + 1 by omega] at e ⊢
    rw [pk_m1]
    have hj : 9 - (i + 1) < 9 := by omega
    generalize 9 - (i + 1) = j at *
    unfold spr at e
    have hd : df V (2 ^ j) ≤ V := df_le _ _
    refine br_f (nI_n0 (by omega)) fun x8 e8 => ?_
    rw [mI_shl1 (by omega), mI_df] at e8
    subst e8
    refine sp_seenBySet hs (by omega) ?_
    have hl := orS_lt (NR_lt g f) (df V (2 ^ j)) 9
    have hl2 := sn_lt g f
    by_cases c : orS (NR g f) (df V (2 ^ j)) 9 = sn g f
    · rw [if_pos c] at e
      exact br_t (by rw [c]) (k _ _ _ ⟨rfl, rfl, _, rfl, by omega, e⟩)
    · rw [if_neg c] at e
      exact br_f (fun z => c ((nI_eq (by omega) (by omega)).mp z)) (k _ _ _ ⟨rfl, rfl, _, rfl, hV, e⟩)
  · rintro rc τ v w ⟨rfl, rfl, V, rfl, hV, e⟩
    unfold bd_X9_spare_44
    have e : V = G := e
    rw [hs.2.1]
    refine br_t (by decide) (sp_bc (by omega) (sp_bc (by omega) ?_))
    rw [e, pk_sub hG]
    exact q
