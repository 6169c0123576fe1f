/-! the text: how it is read -/
def cdt (T : List Int32) (i : Nat) : Int32 := if i < T.length then T.getD i 0 else -1
/-- the text holds signs of 32..126 -/
def TOK (T : List Int32) : Prop := T.length ≤ 70 ∧ ∀ i, i < T.length → ∃ c, 32 ≤ c ∧ c ≤ 126 ∧ T.getD i 0 = nI c
theorem TOK.cd {T : List Int32} (h : TOK T) (i : Nat) : (T.length ≤ i ∧ cdt T i = -1) ∨ (i < T.length ∧ ∃ c, 32 ≤ c ∧ c ≤ 126 ∧ cdt T i = nI c) := by
  unfold cdt
  by_cases c : i < T.length
  · rw [if_pos c]; exact Or.inr ⟨c, h.2 i c⟩
  · rw [if_neg c]; exact Or.inl ⟨by omega, rfl⟩
def dgv (c : Int32) : Option Nat := if c < 48 then none else if c ≤ 57 then some (c.toNatClampNeg - 48) else none
theorem dgv_c {T : List Int32} (h : TOK T) (i : Nat) : (cdt T i < 48 ∧ dgv (cdt T i) = none) ∨ (¬ cdt T i < 48 ∧ ¬ cdt T i ≤ 57 ∧ dgv (cdt T i) = none) ∨ ∃ d, d < 10 ∧ i < T.length ∧ cdt T i = nI (48 + d) ∧ dgv (cdt T i) = some d := by
  rcases h.cd i with ⟨_, e⟩ | ⟨hl, c, h1, h2, e⟩
  · rw [e]; exact Or.inl ⟨by decide, rfl⟩
  · rw [e]
    have l1 : nI c < 48 ↔ c < 48 := by rw [show (48 : Int32) = nI 48 from rfl, nI_ltI (by omega) (by omega)]
    have l2 : nI c ≤ 57 ↔ c ≤ 57 := by rw [show (57 : Int32) = nI 57 from rfl, nI_leI (by omega) (by omega)]
    unfold dgv
    by_cases c1 : c < 48
    · rw [if_pos (l1.mpr c1)]; exact Or.inl ⟨l1.mpr c1, rfl⟩
    · rw [if_neg (fun z => c1 (l1.mp z))]
      by_cases c2 : c ≤ 57
      · rw [if_pos (l2.mpr c2), pk_cl c]
        exact Or.inr (Or.inr ⟨c - 48, by omega, hl, by rw [show 48 + (c - 48) = c by omega], rfl⟩)
      · rw [if_neg (fun z => c2 (l2.mp z))]
        exact Or.inr (Or.inl ⟨fun z => c1 (l1.mp z), fun z => c2 (l2.mp z), rfl⟩)
/-- a number: where it ends, its value -/
def nb (T : List Int32) : Nat → Nat → Nat → Nat × Nat
  | 0, i, v => (i, v)
  | r + 1, i, v => match dgv (cdt T i) with
    | none => (i, v)
    | some d => nb T r (i + 1) (10 * v + d)
theorem nb_ge {T : List Int32} (h : TOK T) : ∀ r i v, i ≤ (nb T r i v).1 ∧ (nb T r i v).1 ≤ i + r ∧ (i ≤ T.length → (nb T r i v).1 ≤ T.length) ∧ (nb T r i v).2 < (v + 1) * 10 ^ r
  | 0, i, v => ⟨Nat.le_refl _, Nat.le_refl _, fun h => h, by show v < (v + 1) * 1; omega⟩
  | r + 1, i, v => by
    unfold nb
    have hp : 1 ≤ 10 ^ r := Nat.pow_pos (by decide)
    have hp2 : (v + 1) * 10 ^ (r + 1) = (10 * v + 10) * 10 ^ r := by rw [Nat.pow_succ, Nat.mul_comm (10 ^ r) 10, ← Nat.mul_assoc]; congr 1; omega
    have base : v < (10 * v + 10) * 10 ^ r := by
      have : (10 * v + 10) * 1 ≤ (10 * v + 10) * 10 ^ r := Nat.mul_le_mul_left _ hp
      omega
    rw [hp2]
    rcases dgv_c h i with ⟨_, e⟩ | ⟨_, _, e⟩ | ⟨d, hd, hl, _, e⟩ <;> rw [e]
    · exact ⟨Nat.le_refl _, by show i ≤ _; omega, fun h => h, base⟩
    · exact ⟨Nat.le_refl _, by show i ≤ _; omega, fun h => h, base⟩
    · obtain ⟨h1, h2, h3, h4⟩ := nb_ge h r (i + 1) (10 * v + d)
      refine ⟨by show i ≤ (nb T r (i + 1) (10 * v + d)).1; omega, by show (nb T r (i + 1) (10 * v + d)).1 ≤ _; omega, fun _ => h3 (by omega), Nat.lt_of_lt_of_le h4 (Nat.mul_le_mul_right _ (by omega))⟩
def NB (T : List Int32) (i n : Nat) : Nat × Nat := nb T n i 0
def sh1 (T : List Int32) (i n : Nat) : Bool × Nat × Nat × Nat × Nat := if (NB T i n).1 = i then (false, i, 0, 0, 0) else (true, (NB T i n).1, (NB T i n).2, 0, 0)
def sh3c (T : List Int32) (j n3 a b : Nat) : Bool × Nat × Nat × Nat × Nat := if (NB T j n3).1 = j then (false, j, 0, 0, 0) else (true, (NB T j n3).1, a, b, (NB T j n3).2)
def sh3b (T : List Int32) (j n2 : Nat) (s2 : Int32) (n3 a : Nat) : Bool × Nat × Nat × Nat × Nat := if (NB T j n2).1 = j then (false, j, 0, 0, 0) else if cdt T (NB T j n2).1 = s2 then sh3c T ((NB T j n2).1 + 1) n3 a (NB T j n2).2 else (false, (NB T j n2).1, 0, 0, 0)
def sh3 (T : List Int32) (i n1 : Nat) (s1 : Int32) (n2 : Nat) (s2 : Int32) (n3 : Nat) : Bool × Nat × Nat × Nat × Nat := if (NB T i n1).1 = i then (false, i, 0, 0, 0) else if cdt T (NB T i n1).1 = s1 then sh3b T ((NB T i n1).1 + 1) n2 s2 n3 (NB T i n1).2 else (false, (NB T i n1).1, 0, 0, 0)
/-- a command -/
def prs (T : List Int32) (i : Nat) : Bool × Nat × Nat × Nat × Nat :=
  if cdt T i = 45 then sh1 T (i + 1) 1
  else if cdt T i = 98 then sh3 T (i + 1) 1 33 2 43 1
  else if cdt T i = 104 then sh1 T (i + 1) 2
  else if cdt T i = 108 then sh1 T (i + 1) 1
  else if cdt T i = 109 then sh1 T (i + 1) 1
  else if cdt T i = 110 then sh1 T (i + 1) 1
  else if cdt T i = 112 then sh3 T (i + 1) 2 60 2 62 2
  else if cdt T i = 114 then sh3 T (i + 1) 1 60 2 62 2
  else if cdt T i = 119 then (true, i + 1, 0, 0, 0)
  else (false, i, 0, 0, 0)
/-! the class reads -/
def FX (s : Nat) (σ τ : SS) : Prop := ∀ a j, ¬ (a = 90 ∧ (j = 1 ∨ j = s)) → τ a j = σ a j
def TS (T : List Int32) (i : Nat) (σ : SS) : Prop := LN 90 2 91 T σ ∧ σ 90 1 = nI i
theorem LN.ft {T : List Int32} {σ τ : SS} (h : LN 90 2 91 T σ) (e1 : τ 90 2 = σ 90 2) (e2 : ∀ i, τ 91 i = σ 91 i) : LN 90 2 91 T τ := ⟨by rw [e1]; exact h.1, fun i hi => by rw [e2]; exact h.2 i hi⟩
theorem LN.fx {T : List Int32} {σ τ : SS} {s : Nat} (h : LN 90 2 91 T σ) (hs : s ≠ 2) (k : FX s σ τ) : LN 90 2 91 T τ := h.ft (k 90 2 (by omega)) (fun i => k 91 i (by omega))
theorem sp_codeHere {T : List Int32} (hT : TOK T) {i : Nat} (hi : i ≤ 100) {σ : SS} (h : TS T i σ) {Q : Int32 → SS → Prop} (q : Q (cdt T i) σ) : wp_X7_codeHere σ Q := by
  have hl := hT.1
  unfold wp_X7_codeHere
  rw [h.2, h.1.1]
  unfold cdt at q
  refine br_f (nI_n0 (by omega)) ?_
  by_cases c : i < T.length
  · rw [if_pos c] at q
    refine br_f (nI_gt c (by omega)) (br_f (c_nle 70 (by omega)) ⟨pk_in i 70 (by omega), ?_⟩)
    rw [pk_cl i, h.1.2 i c]
    exact q
  · rw [if_neg c] at q
    exact br_t (by rw [nI_leI (by omega) (by omega)]; omega) q
theorem sp_skip {T : List Int32} (hT : TOK T) {i : Nat} (hi : i ≤ 100) {σ : SS} (h : TS T i σ) {c : Int32} {Q : Int32 → SS → Prop} (q1 : cdt T i = c → c ≠ -1 → Q 1 (u2 σ 90 1 (nI (i + 1)))) (q0 : cdt T i ≠ c ∨ c = -1 → Q 0 σ) : wp_X7_skip σ c Q := by
  unfold wp_X7_skip
  refine sp_codeHere hT hi h (br_c (fun e => br_c (fun e2 => q0 (Or.inr e2)) (fun e2 => ?_)) (fun e => q0 (Or.inl e)))
  rw [h.2, nI_1]
  exact q1 e e2
theorem sp_takeNumber {T : List Int32} (hT : TOK T) {n : Nat} (hn : n ≤ 2) {i0 : Nat} (hi : i0 ≤ 90) {σ0 : SS} (h : TS T i0 σ0) {Q : Int32 → SS → Prop} (q : ∀ τ, FX 1 σ0 τ → τ 90 1 = nI (NB T i0 n).1 → Q (if (NB T i0 n).1 = i0 then -1 else nI (NB T i0 n).2) τ) : wp_X7_takeNumber σ0 (nI n) Q := by
  unfold wp_X7_takeNumber
  have key : ∀ r c v σ, c + r = n → FX 1 σ0 σ → σ 90 1 = nI (i0 + c) → (c = 0 → v = 0) → nb T r (i0 + c) v = NB T i0 n → v < 10 ^ c → Lii (bd_X7_takeNumber_4 Q (nI n)) (r + 1) σ (if c = 0 then -1 else nI v) (nI c) := by
    intro r
    induction r with
    | zero =>
      intro c v σ hc k e hv en _
      show bd_X7_takeNumber_4 Q (nI n) _ σ _ (nI c)
      unfold bd_X7_takeNumber_4
      have en : (i0 + c, v) = NB T i0 n := en
      refine br_t (by rw [nI_leI (by omega) (by omega)]; omega) ?_
      have q := q σ k (by rw [← en]; exact e)
      rw [← en] at q
      by_cases c0 : c = 0
      · rw [if_pos c0]; rw [if_pos (show i0 + c = i0 by omega)] at q; exact q
      · rw [if_neg c0]; rw [if_neg (show ¬ i0 + c = i0 by omega)] at q; exact q
    | succ r ih =>
      intro c v σ hc k e hv en hv2
      show bd_X7_takeNumber_4 Q (nI n) (Lii (bd_X7_takeNumber_4 Q (nI n)) (r + 1)) σ _ (nI c)
      unfold bd_X7_takeNumber_4
      have hts : TS T (i0 + c) σ := ⟨h.1.fx (by decide) k, e⟩
      have stop : dgv (cdt T (i0 + c)) = none → Q (if c = 0 then -1 else nI v) σ := by
        intro ed
        unfold nb at en
        rw [ed] at en
        have en : (i0 + c, v) = NB T i0 n := en
        have q := q σ k (by rw [← en]; exact e)
        rw [← en] at q
        by_cases c0 : c = 0
        · rw [if_pos c0]; rw [if_pos (show i0 + c = i0 by omega)] at q; exact q
        · rw [if_neg c0]; rw [if_neg (show ¬ i0 + c = i0 by omega)] at q; exact q
      refine br_f (nI_gt (by omega) (by omega)) (sp_codeHere hT (by omega) hts ?_)
      rcases dgv_c hT (i0 + c) with ⟨c1, ed⟩ | ⟨c1, c2, ed⟩ | ⟨d, hd, hl, ec, ed⟩
      · exact br_t c1 (stop ed)
      · exact br_f c1 (br_f c2 (stop ed))
      · rw [ec]
        refine br_f (by rw [show (48 : Int32) = nI 48 from rfl, nI_ltI (by omega) (by omega)]; omega) (br_t (by rw [show (57 : Int32) = nI 57 from rfl, nI_leI (by omega) (by omega)]; omega) ?_)
        unfold nb at en
        rw [ed] at en
        have hv3 : v < 100 := Nat.lt_of_lt_of_le hv2 (Nat.pow_le_pow_right (n := 10) (by decide) (show c ≤ 2 by omega))
        have hr := ih (c + 1) (10 * v + d) (u2 σ 90 1 (nI (i0 + (c + 1)))) (by omega) (fun a j hj => by rw [u2i, if_neg (by omega)]; exact k a j hj) (u2s _ _ _ _) (by omega) en (by rw [Nat.pow_succ]; omega)
        rw [if_neg (show ¬ c + 1 = 0 by omega)] at hr
        rw [e, nI_1, nI_1]
        refine pk_eq c 0 (fun c0 => ?_) (fun c0 => ?_)
        · rw [hv c0] at hr
          rw [show ((0 : Int32) + nI (48 + d)) - 48 = nI (10 * 0 + d) by rw [show (0 : Int32) = nI 0 from rfl, nI_add, show (48 : Int32) = nI 48 from rfl, pk_sub (by omega)]; congr 1; omega]
          exact hr
        · rw [if_neg c0, show (((10 : Int32) * nI v) + nI (48 + d)) - 48 = nI (10 * v + d) by rw [show (10 : Int32) = nI 10 from rfl, pk_mul, nI_add, show (48 : Int32) = nI 48 from rfl, pk_sub (by omega)]; congr 1; omega]
          exact hr
  exact ⟨_, key n 0 0 σ0 (by omega) (fun _ _ _ => rfl) h.2 (fun _ => rfl) rfl (by decide)⟩
theorem nb_nn {T : List Int32} (hT : TOK T) {i n : Nat} (hn : n ≤ 2) : (NB T i n).2 < 100 := by
  have h := (nb_ge hT n i 0).2.2.2
  have : (0 + 1) * 10 ^ n ≤ 1 * 10 ^ 2 := by rw [Nat.zero_add]; exact Nat.mul_le_mul_left _ (Nat.pow_le_pow_right (n := 10) (by decide) hn)
  unfold NB
  omega
theorem sp_tk {T : List Int32} (hT : TOK T) {n s : Nat} (hn : n ≤ 2) {i : Nat} (hi : i ≤ 90) {σ : SS} (h : TS T i σ) {Q : Int32 → SS → Prop} (q0 : (NB T i n).1 = i → ∀ τ, FX s σ τ → τ 90 1 = nI i → Q 0 τ) (q1 : (NB T i n).1 ≠ i → ∀ τ, FX s σ τ → τ 90 1 = nI (NB T i n).1 → τ 90 s = nI (NB T i n).2 → Q 1 τ) (hs : s ≠ 1) : wp_X7_takeNumber σ (nI n) (fun r2 σ1 => ((((u2 σ1 90 s r2) 90 s) = (-1) → Q 0 (u2 σ1 90 s r2)) ∧ (¬ ((u2 σ1 90 s r2) 90 s) = (-1) → Q 1 (u2 σ1 90 s r2)))) := by
  refine sp_takeNumber hT hn hi h fun τ k e => ?_
  have hv := nb_nn hT (i := i) hn
  rw [u2s]
  have kk : ∀ x, FX s σ (u2 τ 90 s x) := fun x a j hj => by rw [u2i, if_neg (by omega)]; exact k a j (by omega)
  by_cases c : (NB T i n).1 = i
  · rw [if_pos c]
    exact br_t rfl (q0 c _ (kk _) (by rw [u2j _ _ _ (by omega), e, c]))
  · rw [if_neg c]
    exact br_f (nI_n1 (by omega)) (q1 c _ (kk _) (by rw [u2j _ _ _ (by omega), e]) (u2s _ _ _ _))
theorem sp_tFirst {T : List Int32} (hT : TOK T) {n : Nat} (hn : n ≤ 2) {i : Nat} (hi : i ≤ 90) {σ : SS} (h : TS T i σ) {Q : Int32 → SS → Prop} (q0 : (NB T i n).1 = i → ∀ τ, FX 4 σ τ → τ 90 1 = nI i → Q 0 τ) (q1 : (NB T i n).1 ≠ i → ∀ τ, FX 4 σ τ → τ 90 1 = nI (NB T i n).1 → τ 90 4 = nI (NB T i n).2 → Q 1 τ) : wp_X7_takeFirst σ (nI n) Q := sp_tk hT hn hi h q0 q1 (by decide)
theorem sp_tSecond {T : List Int32} (hT : TOK T) {n : Nat} (hn : n ≤ 2) {i : Nat} (hi : i ≤ 90) {σ : SS} (h : TS T i σ) {Q : Int32 → SS → Prop} (q0 : (NB T i n).1 = i → ∀ τ, FX 5 σ τ → τ 90 1 = nI i → Q 0 τ) (q1 : (NB T i n).1 ≠ i → ∀ τ, FX 5 σ τ → τ 90 1 = nI (NB T i n).1 → τ 90 5 = nI (NB T i n).2 → Q 1 τ) : wp_X7_takeSecond σ (nI n) Q := sp_tk hT hn hi h q0 q1 (by decide)
theorem sp_tThird {T : List Int32} (hT : TOK T) {n : Nat} (hn : n ≤ 2) {i : Nat} (hi : i ≤ 90) {σ : SS} (h : TS T i σ) {Q : Int32 → SS → Prop} (q0 : (NB T i n).1 = i → ∀ τ, FX 6 σ τ → τ 90 1 = nI i → Q 0 τ) (q1 : (NB T i n).1 ≠ i → ∀ τ, FX 6 σ τ → τ 90 1 = nI (NB T i n).1 → τ 90 6 = nI (NB T i n).2 → Q 1 τ) : wp_X7_takeThird σ (nI n) Q := sp_tk hT hn hi h q0 q1 (by decide)
def FT (σ τ : SS) : Prop := (∀ a j, (a ≠ 90 ∨ j = 2) → τ a j = σ a j)
theorem FX.ft {s : Nat} {σ τ : SS} (h : FX s σ τ) (hs : s ≠ 2) : FT σ τ := fun a j hj => h a j (by omega)
theorem FT.tr {σ τ υ : SS} (h : FT σ τ) (h2 : FT τ υ) : FT σ υ := fun a j hj => (h2 a j hj).trans (h a j hj)
theorem FT.u {σ τ : SS} (h : FT σ τ) {j : Nat} (hj : j ≠ 2) (x : Int32) : FT σ (u2 τ 90 j x) := fun a k hk => by rw [u2i, if_neg (by omega)]; exact h a k hk
theorem LN.f2 {T : List Int32} {σ τ : SS} (h : LN 90 2 91 T σ) (k : FT σ τ) : LN 90 2 91 T τ := h.ft (k 90 2 (by omega)) (fun i => k 91 i (by omega))
theorem nb_le {T : List Int32} (hT : TOK T) {i n : Nat} (hn : n ≤ 2) : i ≤ (NB T i n).1 ∧ (NB T i n).1 ≤ i + 2 := by
  have h := nb_ge hT n i 0
  unfold NB
  omega
/-- what a shape leaves -/
def shQ (σ : SS) (P : Bool × Nat × Nat × Nat × Nat) (Q : Int32 → SS → Prop) (d : Bool) : Prop := ∀ τ, FT σ τ → τ 90 3 = σ 90 3 → τ 90 1 = nI P.2.1 → (P.1 = true → τ 90 4 = nI P.2.2.1 ∧ (d = true → τ 90 5 = nI P.2.2.2.1 ∧ τ 90 6 = nI P.2.2.2.2)) → Q (if P.1 then 1 else 0) τ
theorem sp_sh1 {T : List Int32} (hT : TOK T) {n : Nat} (hn : n ≤ 2) {i : Nat} (hi : i ≤ 90) {σ : SS} (h : TS T i σ) {Q : Int32 → SS → Prop} (q : shQ σ (sh1 T i n) Q false) : wp_X7_takeFirst σ (nI n) (fun r6 σ5 => (r6 = 0 ∨ r6 = 1) ∧ Q r6 σ5) := by
  refine sp_tFirst hT hn hi h (fun c τ k e => ⟨Or.inl rfl, ?_⟩) (fun c τ k e e4 => ⟨Or.inr rfl, ?_⟩)
  · have q := q τ (k.ft (by decide)) (k 90 3 (by omega))
    unfold sh1 at q
    rw [if_pos c] at q
    exact q e (fun z => by cases z)
  · have q := q τ (k.ft (by decide)) (k 90 3 (by omega))
    unfold sh1 at q
    rw [if_neg c] at q
    exact q e (fun _ => ⟨e4, fun z => by cases z⟩)
theorem sp_sh3 {T : List Int32} (hT : TOK T) {n1 n2 n3 : Nat} (hn1 : n1 ≤ 2) (hn2 : n2 ≤ 2) (hn3 : n3 ≤ 2) {s1 s2 : Int32} (hs1 : s1 ≠ -1) (hs2 : s2 ≠ -1) {i : Nat} (hi : i ≤ 80) {σ : SS} (h : TS T i σ) {Q : Int32 → SS → Prop} (q : shQ σ (sh3 T i n1 s1 n2 s2 n3) Q true) :
    wp_X7_takeFirst σ (nI n1) (fun r8 σ7 => ((r8 = 0 → Q 0 σ7) ∧ (¬ r8 = 0 → wp_X7_skip σ7 s1 (fun r10 σ9 => ((r10 = 0 → Q 0 σ9) ∧ (¬ r10 = 0 → wp_X7_takeSecond σ9 (nI n2) (fun r12 σ11 => ((r12 = 0 → Q 0 σ11) ∧ (¬ r12 = 0 → wp_X7_skip σ11 s2 (fun r14 σ13 => ((r14 = 0 → Q 0 σ13) ∧ (¬ r14 = 0 → wp_X7_takeThird σ13 (nI n3) (fun r16 σ15 => ((r16 = 0 → Q 0 σ15) ∧ (¬ r16 = 0 → Q 1 σ15))))))))))))))) := by
  have b1 := nb_le hT (i := i) hn1
  refine sp_tFirst hT hn1 (by omega) h (fun c τ k e => br_t rfl ?_) (fun c τ1 k1 e1 e4 => br_f (by decide) ?_)
  · have q := q τ (k.ft (by decide)) (k 90 3 (by omega))
    unfold sh3 at q
    rw [if_pos c] at q
    exact q e (fun z => by cases z)
  · unfold sh3 at q
    rw [if_neg c] at q
    have f1 : FT σ τ1 := k1.ft (by decide)
    have g3 : τ1 90 3 = σ 90 3 := k1 90 3 (by omega)
    refine sp_skip hT (by omega) ⟨h.1.f2 f1, e1⟩ (fun d1 _ => br_f (by decide) ?_) (fun d1 => br_t rfl ?_)
    · rw [if_pos d1] at q
      generalize ej : (NB T i n1).1 + 1 = j at *
      have hj : j ≤ 83 := by omega
      have b2 := nb_le hT (i := j) hn2
      have f2 : FT σ (u2 τ1 90 1 (nI j)) := f1.u (by decide) _
      have g3 : (u2 τ1 90 1 (nI j)) 90 3 = σ 90 3 := by rw [u2j _ _ _ (by decide)]; exact g3
      have g4 : (u2 τ1 90 1 (nI j)) 90 4 = nI (NB T i n1).2 := by rw [u2j _ _ _ (by decide)]; exact e4
      have g1 : (u2 τ1 90 1 (nI j)) 90 1 = nI j := u2s _ _ _ _
      generalize u2 τ1 90 1 (nI j) = τ2 at *
      refine sp_tSecond hT hn2 (by omega) ⟨h.1.f2 f2, g1⟩ (fun c2 τ3 k3 e3 => br_t rfl ?_) (fun c2 τ3 k3 e3 e5 => br_f (by decide) ?_)
      · have q := q τ3 (f2.tr (k3.ft (by decide))) (by rw [k3 90 3 (by omega)]; exact g3)
        unfold sh3b at q
        rw [if_pos c2] at q
        exact q e3 (fun z => by cases z)
      · unfold sh3b at q
        rw [if_neg c2] at q
        have f3 := f2.tr (k3.ft (by decide))
        have g3 : τ3 90 3 = σ 90 3 := by rw [k3 90 3 (by omega)]; exact g3
        have g4 : τ3 90 4 = nI (NB T i n1).2 := by rw [k3 90 4 (by omega)]; exact g4
        refine sp_skip hT (by omega) ⟨h.1.f2 f3, e3⟩ (fun d2 _ => br_f (by decide) ?_) (fun d2 => br_t rfl ?_)
        · rw [if_pos d2] at q
          generalize el : (NB T j n2).1 + 1 = l at *
          have f4 : FT σ (u2 τ3 90 1 (nI l)) := f3.u (by decide) _
          have g3 : (u2 τ3 90 1 (nI l)) 90 3 = σ 90 3 := by rw [u2j _ _ _ (by decide)]; exact g3
          have g4 : (u2 τ3 90 1 (nI l)) 90 4 = nI (NB T i n1).2 := by rw [u2j _ _ _ (by decide)]; exact g4
          have g5 : (u2 τ3 90 1 (nI l)) 90 5 = nI (NB T j n2).2 := by rw [u2j _ _ _ (by decide)]; exact e5
          have g1 : (u2 τ3 90 1 (nI l)) 90 1 = nI l := u2s _ _ _ _
          generalize u2 τ3 90 1 (nI l) = τ4 at *
          refine sp_tThird hT hn3 (by omega) ⟨h.1.f2 f4, g1⟩ (fun c3 τ5 k5 e => br_t rfl ?_) (fun c3 τ5 k5 e e6 => br_f (by decide) ?_)
          · have q := q τ5 (f4.tr (k5.ft (by decide))) (by rw [k5 90 3 (by omega)]; exact g3)
            unfold sh3c at q
            rw [if_pos c3] at q
            exact q e (fun z => by cases z)
          · have q := q τ5 (f4.tr (k5.ft (by decide))) (by rw [k5 90 3 (by omega)]; exact g3)
            unfold sh3c at q
            rw [if_neg c3] at q
            exact q e (fun _ => ⟨by rw [k5 90 4 (by omega)]; exact g4, fun _ => ⟨by rw [k5 90 5 (by omega)]; exact g5, e6⟩⟩)
        · have d2 : cdt T (NB T j n2).1 ≠ s2 := d2.elim id (fun z => absurd z hs2)
          rw [if_neg d2] at q
          exact q τ3 f3 g3 e3 (fun z => by cases z)
    · have d1 : cdt T (NB T i n1).1 ≠ s1 := d1.elim id (fun z => absurd z hs1)
      rw [if_neg d1] at q
      exact q τ1 f1 g3 e1 (fun z => by cases z)
def is3 (c : Int32) : Prop := c = 98 ∨ c = 112 ∨ c = 114
theorem sp_takeCommand {T : List Int32} (hT : TOK T) {i : Nat} (hi : i ≤ 75) {σ : SS} (h : TS T i σ) {Q : Int32 → SS → Prop} (q : ∀ τ, FT σ τ → τ 90 1 = nI (prs T i).2.1 → ((prs T i).1 = true → τ 90 3 = cdt T i ∧ (cdt T i ≠ 119 → τ 90 4 = nI (prs T i).2.2.1) ∧ (is3 (cdt T i) → τ 90 5 = nI (prs T i).2.2.2.1 ∧ τ 90 6 = nI (prs T i).2.2.2.2)) → Q (if (prs T i).1 then 1 else 0) τ) : wp_X7_takeCommand σ Q := by
  unfold wp_X7_takeCommand
  refine sp_codeHere hT (by omega) h ?_
  rw [u2s]
  have f0 : FT σ (u2 σ 90 3 (cdt T i)) := FT.u (fun _ _ _ => rfl) (by decide) _
  have g1 : (u2 σ 90 3 (cdt T i)) 90 1 = nI i := by rw [u2j _ _ _ (by decide)]; exact h.2
  have g3 : (u2 σ 90 3 (cdt T i)) 90 3 = cdt T i := u2s _ _ _ _
  generalize u2 σ 90 3 (cdt T i) = τ0 at *
  refine sp_skip hT (by omega) ⟨h.1.f2 f0, g1⟩ (fun _ hne => br_f (by decide) ?_) (fun hno => br_t rfl ?_)
  · have f1 : FT σ (u2 τ0 90 1 (nI (i + 1))) := f0.u (by decide) _
    have g3 : (u2 τ0 90 1 (nI (i + 1))) 90 3 = cdt T i := by rw [u2j _ _ _ (by decide)]; exact g3
    have g1 : (u2 τ0 90 1 (nI (i + 1))) 90 1 = nI (i + 1) := u2s _ _ _ _
    generalize u2 τ0 90 1 (nI (i + 1)) = τ1 at *
    have hts : TS T (i + 1) τ1 := ⟨h.1.f2 f1, g1⟩
    rw [g3]
    have s1 : ∀ n, ¬ is3 (cdt T i) → prs T i = sh1 T (i + 1) n → shQ τ1 (sh1 T (i + 1) n) Q false := by
      intro n h3 e τ k k3 k1 k4
      rw [← e] at k1 k4 ⊢
      exact q τ (f1.tr k) k1 (fun z => ⟨by rw [k3]; exact g3, fun _ => (k4 z).1, fun z3 => absurd z3 h3⟩)
    have s3 : ∀ n1 c1 n2 c2 n3, prs T i = sh3 T (i + 1) n1 c1 n2 c2 n3 → shQ τ1 (sh3 T (i + 1) n1 c1 n2 c2 n3) Q true := by
      intro n1 c1 n2 c2 n3 e τ k k3 k1 k4
      rw [← e] at k1 k4 ⊢
      exact q τ (f1.tr k) k1 (fun z => ⟨by rw [k3]; exact g3, fun _ => (k4 z).1, fun _ => (k4 z).2 rfl⟩)
    refine br_c (fun c45 => sp_sh1 hT (by decide) (by omega) hts (s1 1 (by unfold is3; rw [c45]; decide) (by unfold prs; rw [if_pos c45]))) fun n45 => ?_
    refine br_c (fun c98 => sp_sh3 hT (by decide) (by decide) (by decide) (by decide) (by decide) (by omega) hts (s3 1 33 2 43 1 (by unfold prs; rw [if_neg n45, if_pos c98]))) fun n98 => ?_
    refine br_c (fun c104 => sp_sh1 hT (by decide) (by omega) hts (s1 2 (by unfold is3; rw [c104]; decide) (by unfold prs; rw [if_neg n45, if_neg n98, if_pos c104]))) fun n104 => ?_
    refine br_c (fun c108 => sp_sh1 hT (by decide) (by omega) hts (s1 1 (by unfold is3; rw [c108]; decide) (by unfold prs; rw [if_neg n45, if_neg n98, if_neg n104, if_pos c108]))) fun n108 => ?_
    refine br_c (fun c109 => sp_sh1 hT (by decide) (by omega) hts (s1 1 (by unfold is3; rw [c109]; decide) (by unfold prs; rw [if_neg n45, if_neg n98, if_neg n104, if_neg n108, if_pos c109]))) fun n109 => ?_
    refine br_c (fun c110 => sp_sh1 hT (by decide) (by omega) hts (s1 1 (by unfold is3; rw [c110]; decide) (by unfold prs; rw [if_neg n45, if_neg n98, if_neg n104, if_neg n108, if_neg n109, if_pos c110]))) fun n110 => ?_
    refine br_c (fun c112 => sp_sh3 hT (by decide) (by decide) (by decide) (by decide) (by decide) (by omega) hts (s3 2 60 2 62 2 (by unfold prs; rw [if_neg n45, if_neg n98, if_neg n104, if_neg n108, if_neg n109, if_neg n110, if_pos c112]))) fun n112 => ?_
    refine br_c (fun c114 => sp_sh3 hT (by decide) (by decide) (by decide) (by decide) (by decide) (by omega) hts (s3 1 60 2 62 2 (by unfold prs; rw [if_neg n45, if_neg n98, if_neg n104, if_neg n108, if_neg n109, if_neg n110, if_neg n112, if_pos c114]))) fun n114 => ?_
    refine br_c (fun c119 => ?_) fun n119 => ?_
    · have e : prs T i = (true, i + 1, 0, 0, 0) := by unfold prs; rw [if_neg n45, if_neg n98, if_neg n104, if_neg n108, if_neg n109, if_neg n110, if_neg n112, if_neg n114, if_pos c119]
      rw [e] at q
      exact q τ1 f1 g1 (fun _ => ⟨g3, fun z => absurd c119 z, fun z => by unfold is3 at z; rw [c119] at z; exact absurd z (by decide)⟩)
    · have e : prs T i = (false, i, 0, 0, 0) := by unfold prs; rw [if_neg n45, if_neg n98, if_neg n104, if_neg n108, if_neg n109, if_neg n110, if_neg n112, if_neg n114, if_neg n119]
      rw [e] at q
      rw [g1, nI_pred]
      exact q _ (f1.u (by decide) _) (u2s _ _ _ _) (fun z => by cases z)
  · have hm : cdt T i = -1 := hno.elim (fun z => absurd rfl z) id
    have e : prs T i = (false, i, 0, 0, 0) := by unfold prs; rw [hm]; rfl
    rw [e] at q
    exact q τ0 f0 g1 (fun z => by cases z)
