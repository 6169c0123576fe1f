/-! the class: the past, and a command as the user gives it -/
abbrev WW : Type := (Nat → Nat) × (Nat → Nat → Nat)
def tn (x : Int32) : Nat := x.toBitVec.toNat % 8
theorem tn_and (x : Int32) : x &&& 7 = nI (tn x) := pk_and x 3 rfl
theorem tn_lt (x : Int32) : tn x < 8 := Nat.mod_lt _ (by decide)
theorem tn_s (x : Int32) : tn (x + 1) = (tn x + 1) % 8 := by
  unfold tn
  show (x.toBitVec + 1#32).toNat % 8 = _
  rw [BitVec.toNat_add]
  have h := x.toBitVec.isLt
  show (x.toBitVec.toNat + 1) % 2 ^ 32 % 8 = _
  omega
theorem tn_p (x : Int32) : tn (x - 1) = (tn x + 7) % 8 := by
  unfold tn
  show (x.toBitVec - 1#32).toNat % 8 = _
  rw [BitVec.toNat_sub]
  have h := x.toBitVec.isLt
  show ((2 ^ 32 - 1) + x.toBitVec.toNat) % 2 ^ 32 % 8 = _
  omega
def HC (n : Nat) (H : Nat → WW) (σ : SS) : Prop := σ 22 2 = nI n ∧ ∀ i, i < n → RC (24 + 7 * ((tn (σ 22 1) + 8 - n + i) % 8)) (H i).1 (H i).2 σ
def HK (k : Nat) : Prop := 22 ≤ k ∧ k ≤ 79
theorem HC.keep {n : Nat} {H : Nat → WW} {σ τ : SS} (h : HC n H σ) (e : ∀ k, HK k → τ k = σ k) : HC n H τ := by
  unfold HC
  rw [e 22 (by unfold HK; omega)]
  refine ⟨h.1, fun i hi => (h.2 i hi).keep fun k h1 h2 => e k ?_⟩
  have := Nat.mod_lt (tn (σ 22 1) + 8 - n + i) (show 0 < 8 by decide)
  unfold HK
  omega
def pN (n : Nat) : Nat := if n < 8 then n + 1 else 8
def pH (n : Nat) (H : Nat → WW) (w : WW) : Nat → WW := fun i => if n < 8 then (if i = n then w else H i) else (if i = 7 then w else H (i + 1))
theorem pN_le {n : Nat} : pN n ≤ 8 := by unfold pN; split <;> omega
theorem sp_keep {n : Nat} {H : Nat → WW} {g : Nat → Nat} {f : Nat → Nat → Nat} {σ : SS} (hn : n ≤ 8) (hH : HC n H σ) (h : RC 8 g f σ) {Q : SS → Prop} (q : ∀ τ, SB HK σ τ → HC (pN n) (pH n H (g, f)) τ → Q τ) : wp_X4_keep 8 σ Q := by
  have ht := tn_lt (σ 22 1)
  unfold wp_X4_keep
  rw [tn_and, pk_cl (tn (σ 22 1))]
  refine ⟨pk_in _ 8 ht, sp_copyFrom (by omega) h fun τ k hr => ?_⟩
  rintro υ rfl
  have e22 : τ 22 = σ 22 := k 22 (by omega)
  have eu : ∀ kk, kk ≠ 22 → (u2 (u2 τ 22 1 ((τ 22 1) + 1)) 22 2 (if 8 < (((u2 τ 22 1 ((τ 22 1) + 1)) 22 2) + 1) then 8 else (((u2 τ 22 1 ((τ 22 1) + 1)) 22 2) + 1))) kk = τ kk := fun kk hk => by
    funext j; rw [u2k _ _ _ _ hk, u2k _ _ _ _ hk]
  have em : (if (8 : Int32) < (((u2 τ 22 1 ((τ 22 1) + 1)) 22 2) + 1) then (8 : Int32) else (((u2 τ 22 1 ((τ 22 1) + 1)) 22 2) + 1)) = nI (pN n) := by
    rw [u2j _ _ _ (by decide), e22, hH.1, nI_1]
    unfold pN
    by_cases c : n < 8
    · rw [if_pos c, if_neg]
      rw [show (8 : Int32) = nI 8 from rfl, nI_ltI (by omega) (by omega)]; omega
    · rw [if_neg c, if_pos]
      rfl
      rw [show (8 : Int32) = nI 8 from rfl, nI_ltI (by omega) (by omega)]; omega
  refine q _ ?_ ⟨?_, fun i hi => ?_⟩
  · exact SB.w (SB.w (k.mono fun kk hk => by unfold HK; omega) (by unfold HK; omega)) (by unfold HK; omega)
  · rw [u2s, em]
  · have e1 : u2 (u2 τ 22 1 ((τ 22 1) + 1)) 22 2 (if 8 < (((u2 τ 22 1 ((τ 22 1) + 1)) 22 2) + 1) then 8 else (((u2 τ 22 1 ((τ 22 1) + 1)) 22 2) + 1)) 22 1 = σ 22 1 + 1 := by
      rw [u2j _ _ _ (by decide), u2s, e22]
    rw [e1, tn_s]
    have hm := Nat.mod_lt ((tn (σ 22 1) + 1) % 8 + 8 - pN n + i) (show 0 < 8 by decide)
    unfold pN pH at *
    by_cases c : n < 8
    · simp only [if_pos c] at hi hm ⊢
      by_cases ci : i = n
      · subst ci
        rw [if_pos rfl, show ((tn (σ 22 1) + 1) % 8 + 8 - (i + 1) + i) % 8 = tn (σ 22 1) by omega]
        exact hr.keep fun kk _ _ => eu kk (by omega)
      · rw [if_neg ci, show ((tn (σ 22 1) + 1) % 8 + 8 - (n + 1) + i) % 8 = (tn (σ 22 1) + 8 - n + i) % 8 by omega]
        refine (hH.2 i (by omega)).keep fun kk h1 h2 => ?_
        rw [eu kk (by omega)]
        exact k kk (by omega)
    · simp only [if_neg c] at hi hm ⊢
      have hn8 : n = 8 := by omega
      subst hn8
      by_cases ci : i = 7
      · subst ci
        rw [if_pos rfl, show ((tn (σ 22 1) + 1) % 8 + 8 - 8 + 7) % 8 = tn (σ 22 1) by omega]
        exact hr.keep fun kk _ _ => eu kk (by omega)
      · rw [if_neg ci, show ((tn (σ 22 1) + 1) % 8 + 8 - 8 + i) % 8 = (tn (σ 22 1) + 8 - 8 + (i + 1)) % 8 by omega]
        refine (hH.2 (i + 1) (by omega)).keep fun kk h1 h2 => ?_
        rw [eu kk (by omega)]
        exact k kk (by omega)
def CK (k : Nat) : Prop := (1 ≤ k ∧ k ≤ 14) ∨ (22 ≤ k ∧ k ≤ 89) ∨ k = 94
/-- after a command: refused, not allowed, or done -/
def oF (g : Nat → Nat) (f : Nat → Nat → Nat) (n : Nat) (H : Nat → WW) (σ : SS) (Q : Int32 → SS → Prop) (z : Bool) (o : Out) : Prop := match (o : Int32 ⊕ ((Int32 × Int32) ⊕ (Nat × (Nat → Nat) × (Nat → Nat → Nat)))) with
  | Sum.inl r => ∀ τ, SB CK σ τ → RC 1 g f τ → HC n H τ → τ 94 = σ 94 → Q r τ
  | Sum.inr (Sum.inl (a, b)) => ∀ τ, SB CK σ τ → RC 1 g f τ → HC n H τ → τ 94 0 = a → τ 94 1 = b → τ 94 2 = σ 0 12 → Q (-3) τ
  | Sum.inr (Sum.inr (r, g', f')) => ∀ τ, SB CK σ τ → RC 1 g' f' τ → HC (pN n) (pH n H (g, f)) τ → τ 94 = σ 94 → Q (if z then 0 else nI r) τ
def Out.wf (o : Out) : Prop := match (o : Int32 ⊕ ((Int32 × Int32) ⊕ (Nat × (Nat → Nat) × (Nat → Nat → Nat)))) with
  | Sum.inl r => r < 0 ∧ r ≠ -3
  | Sum.inr (Sum.inl _) => True
  | Sum.inr (Sum.inr (r, g', f')) => r < 2 ^ 31 ∧ OkW g' f'
theorem sp_outer {g : Nat → Nat} {f : Nat → Nat → Nat} {n : Nat} {H : Nat → WW} {σ : SS} (h : RC 1 g f σ) (hn : n ≤ 8) (hH : HC n H σ) {o : Out} (hw : o.wf) {z : Bool} {I : SS → (Int32 → SS → Prop) → Prop} (hI : ∀ σ1 Q', RC 1 g f σ1 → oQ σ1 Q' z o → I σ1 Q') {K : Int32 → SS → Prop} (q : oF g f n H σ K z o) : wp_X8_copyFrom 8 1 σ (fun σ1 => I σ1 (fun r3 σ2 => wp_X9_kept σ2 r3 K)) := by
  refine sp_copyFrom (by omega) h fun τ k hr => hI τ _ (h.keep fun kk h1 h2 => k kk (by omega)) ?_
  have h1 : RC 1 g f τ := h.keep fun kk h1 h2 => k kk (by omega)
  have k0 : SB CK σ τ := k.mono fun kk hk => by unfold CK; omega
  have hH1 : HC n H τ := hH.keep fun kk hk => k kk (by unfold HK at hk; omega)
  match o, hw, q with
  | Sum.inl r, hw, q =>
    show wp_X9_kept τ r K
    unfold wp_X9_kept
    exact br_t hw.1 (q τ k0 h1 hH1 (k 94 (by omega)))
  | Sum.inr (Sum.inl (a, b)), _, q =>
    intro υ k2 e0 e1 e2
    show wp_X9_kept υ (-3) K
    unfold wp_X9_kept
    refine br_t (by decide) (q υ (k0.tr (k2.mono fun kk hk => by unfold AK at hk; unfold CK; omega)) (h1.keep fun kk _ _ => k2 kk (by unfold AK; omega)) (hH1.keep fun kk hk => k2 kk (by unfold AK; unfold HK at hk; omega)) e0 e1 ?_)
    rw [e2, k 0 (by omega)]
  | Sum.inr (Sum.inr (r, g', f')), hw, q =>
    intro υ k2 hr2
    have hr0 : ¬ (if z then (0 : Int32) else nI r) < 0 := by
      cases z
      · exact nI_n0 hw.1
      · show ¬ (0 : Int32) < 0
        decide
    show wp_X9_kept υ (if z then 0 else nI r) K
    unfold wp_X9_kept
    refine br_f hr0 (sp_keep (g := g) (f := f) hn (hH1.keep fun kk hk => k2 kk (by unfold IK AK; unfold HK at hk; omega)) (hr.keep fun kk _ _ => k2 kk (by unfold IK AK; omega)) fun ω k3 hc => q ω ?_ (hr2.keep fun kk _ _ => k3 kk (by unfold HK; omega)) hc ?_)
    · refine (k0.tr (k2.mono fun kk hk => ?_)).tr (k3.mono fun kk hk => ?_)
      · unfold IK AK at hk; unfold CK; omega
      · unfold HK at hk; unfold CK; omega
    · rw [k3 94 (by unfold HK; omega), k2 94 (by unfold IK AK; omega), k 94 (by omega)]
theorem o_post_wf {g : Nat → Nat} {f : Nat → Nat → Nat} (ho : OkW g f) (x y z : Int32) : (o_post g f x y z).wf := by
  have h9 := ho.1
  unfold o_post
  rcases ox_c x (n := 24) (by omega) with ⟨_, e, _⟩ | ⟨_, _, e, _⟩ | ⟨s, hs, _, e⟩ <;> rw [e]
  · exact ⟨by decide, by decide⟩
  · exact ⟨by decide, by decide⟩
  rcases ox_c y (n := 12) (by omega) with ⟨_, e, _⟩ | ⟨_, _, e, _⟩ | ⟨l, hl, _, e⟩ <;> rw [e]
  · exact ⟨by decide, by decide⟩
  · exact ⟨by decide, by decide⟩
  rcases ox_c z (n := 12) (by omega) with ⟨_, e, _⟩ | ⟨_, _, e, _⟩ | ⟨r, hr, _, e⟩ <;> rw [e]
  · exact ⟨by decide, by decide⟩
  · exact ⟨by decide, by decide⟩
  show Out.wf (match pon g f s with | some p => .ref 2 (nI p) | none => if g 0 < 9 then .ok (g 0) (addG g) (addF g f s l r) else .ref 1 9)
  cases pon g f s with
  | some p => exact trivial
  | none =>
    by_cases c : g 0 < 9
    · simp only [if_pos c]
      exact ⟨by omega, add_ok ho c hs (by omega) (by omega)⟩
    · simp only [if_neg c]
      exact trivial
theorem o_tear_wf {g : Nat → Nat} {f : Nat → Nat → Nat} (ho : OkW g f) (x : Int32) : (o_tear g f x).wf := by
  have h9 := ho.1
  unfold o_tear
  rcases ox_c x (n := g 0) (by omega) with ⟨_, e, _⟩ | ⟨_, _, e, _⟩ | ⟨p, hp, _, e⟩ <;> rw [e]
  · exact ⟨by decide, by decide⟩
  · exact ⟨by decide, by decide⟩
  · exact ⟨by omega, tear_ok ho hp⟩
theorem set_ok {g : Nat → Nat} {f : Nat → Nat → Nat} (ho : OkW g f) {p j v : Nat} (hj : j ≠ 3) (hj4 : j ≠ 4) (h0 : j = 0 → v < 24) (h1 : j = 1 → v ≤ 11) (h2 : j = 2 → v ≤ 11) (h5 : j = 5 → v ≤ 1) : OkW g (setF f p j v) := by
  refine ⟨ho.1, ho.2.1, fun q hq => ?_⟩
  obtain ⟨a0, a1, a2, a4, a3, a5⟩ := ho.2.2 q hq
  rw [setF_k f (k := 3) v (by omega), setF_k f (k := 4) v (by omega)]
  unfold setF
  refine ⟨?_, ?_, ?_, a4, a3, ?_⟩
  · split <;> omega
  · split <;> omega
  · split <;> omega
  · split <;> omega
theorem bli_ok {g : Nat → Nat} {f : Nat → Nat → Nat} (ho : OkW g f) {p s n : Nat} (hs : s < 24) (hn : n ≤ 8) : OkW g (bliF f p s n) := by
  refine ⟨ho.1, ho.2.1, fun q hq => ?_⟩
  obtain ⟨a0, a1, a2, a4, a3, a5⟩ := ho.2.2 q hq
  rw [bliK f (k := 0) s n (by omega), bliK f (k := 1) s n (by omega), bliK f (k := 2) s n (by omega), bliK f (k := 5) s n (by omega)]
  by_cases c : q = p
  · subst c
    rw [bli3, bli4]
    exact ⟨a0, a1, a2, hn, fun _ => hs, a5⟩
  · rw [bliK f (k := 3) s n (Or.inl c), bliK f (k := 4) s n (Or.inl c)]
    exact ⟨a0, a1, a2, a4, a3, a5⟩
theorem o_reach_wf {g : Nat → Nat} {f : Nat → Nat → Nat} (ho : OkW g f) (x y z : Int32) : (o_reach g f x y z).wf := by
  have h9 := ho.1
  unfold o_reach
  rcases ox_c x (n := g 0) (by omega) with ⟨_, e, _⟩ | ⟨_, _, e, _⟩ | ⟨p, hp, _, e⟩ <;> rw [e]
  · exact ⟨by decide, by decide⟩
  · exact ⟨by decide, by decide⟩
  rcases ox_c y (n := 12) (by omega) with ⟨_, e, _⟩ | ⟨_, _, e, _⟩ | ⟨l, hl, _, e⟩ <;> rw [e]
  · exact ⟨by decide, by decide⟩
  · exact ⟨by decide, by decide⟩
  rcases ox_c z (n := 12) (by omega) with ⟨_, e, _⟩ | ⟨_, _, e, _⟩ | ⟨r, hr, _, e⟩ <;> rw [e]
  · exact ⟨by decide, by decide⟩
  · exact ⟨by decide, by decide⟩
  obtain ⟨a0, a1, a2, _⟩ := ho.2.2 p hp
  by_cases c : f p 1 = l ∧ f p 2 = r
  · simp only [if_pos c]
    exact trivial
  · simp only [if_neg c]
    exact ⟨by omega, set_ok (set_ok ho (by decide) (by decide) (by omega) (by omega) (by omega) (by omega)) (by decide) (by decide) (by omega) (by omega) (by omega) (by omega)⟩
theorem pc_31 (x : Nat) : pc x < 2 ^ 31 := Nat.lt_of_le_of_lt (pc_le x) (by decide)
theorem o_blind_wf {g : Nat → Nat} {f : Nat → Nat → Nat} (ho : OkW g f) (x y z : Int32) : (o_blind g f x y z).wf := by
  have h9 := ho.1
  unfold o_blind
  rcases ox_c x (n := g 0) (by omega) with ⟨_, e, _⟩ | ⟨_, _, e, _⟩ | ⟨p, hp, _, e⟩ <;> rw [e]
  · exact ⟨by decide, by decide⟩
  · exact ⟨by decide, by decide⟩
  rcases ox_c y (n := 24) (by omega) with ⟨_, e, _⟩ | ⟨_, _, e, _⟩ | ⟨s, hs, _, e⟩ <;> rw [e]
  · exact ⟨by decide, by decide⟩
  · exact ⟨by decide, by decide⟩
  rcases ox_c z (n := 9) (by omega) with ⟨_, e, _⟩ | ⟨_, _, e, _⟩ | ⟨n, hn, _, e⟩ <;> rw [e]
  · exact ⟨by decide, by decide⟩
  · exact ⟨by decide, by decide⟩
  by_cases cn : n = 0
  · simp only [if_pos cn]
    exact ⟨by decide, by decide⟩
  · by_cases c : f p 4 = n ∧ f p 3 = s
    · simp only [if_neg cn, if_pos c]
      exact trivial
    · simp only [if_neg cn, if_neg c]
      exact ⟨pc_31 _, bli_ok ho hs (by omega)⟩
theorem o_see_wf {g : Nat → Nat} {f : Nat → Nat → Nat} (ho : OkW g f) (x : Int32) : (o_see g f x).wf := by
  have h9 := ho.1
  unfold o_see
  rcases ox_c x (n := g 0) (by omega) with ⟨_, e, _⟩ | ⟨_, _, e, _⟩ | ⟨p, hp, _, e⟩ <;> rw [e]
  · exact ⟨by decide, by decide⟩
  · exact ⟨by decide, by decide⟩
  by_cases c : f p 4 = 0
  · simp only [if_pos c]
    exact trivial
  · simp only [if_neg c]
    exact ⟨pc_31 _, bli_ok ho (by decide) (by decide)⟩
theorem o_man_wf {g : Nat → Nat} {f : Nat → Nat → Nat} (ho : OkW g f) (x y : Int32) : (o_man g f x y).wf := by
  have h9 := ho.1
  unfold o_man
  rcases ox_c x (n := g 0) (by omega) with ⟨_, e, _⟩ | ⟨_, _, e, _⟩ | ⟨p, hp, _, e⟩ <;> rw [e]
  · exact ⟨by decide, by decide⟩
  · exact ⟨by decide, by decide⟩
  rcases ox_c y (n := 2) (by omega) with ⟨_, e, _⟩ | ⟨_, _, e, _⟩ | ⟨b, hb, _, e⟩ <;> rw [e]
  · exact ⟨by decide, by decide⟩
  · exact ⟨by decide, by decide⟩
  by_cases c : f p 5 = b
  · simp only [if_pos c]
    exact trivial
  · simp only [if_neg c]
    exact ⟨pc_31 _, set_ok ho (by decide) (by decide) (by omega) (by omega) (by omega) (by omega)⟩
theorem o_hour_wf {g : Nat → Nat} {f : Nat → Nat → Nat} (ho : OkW g f) (x : Int32) : (o_hour g f x).wf := by
  have h12 := ho.2.1
  unfold o_hour
  rcases ox_c x (n := 12) (by omega) with ⟨_, e, _⟩ | ⟨_, _, e, _⟩ | ⟨hh, hp, _, e⟩ <;> rw [e]
  · exact ⟨by decide, by decide⟩
  · exact ⟨by decide, by decide⟩
  by_cases c : g 1 = hh
  · simp only [if_pos c]
    exact trivial
  · simp only [if_neg c]
    exact ⟨by omega, ho.1, hp, ho.2.2⟩
theorem o_watch_wf {g : Nat → Nat} {f : Nat → Nat → Nat} (ho : OkW g f) : (o_watch g f).wf := by
  unfold o_watch
  cases few (NR g f) (g 0) with
  | none => exact trivial
  | some t => exact ⟨pc_31 _, man_ok ho t⟩
/-! one by one -/
theorem sp_post {g : Nat → Nat} {f : Nat → Nat → Nat} {n : Nat} {H : Nat → WW} {σ : SS} (h : RC 1 g f σ) (ho : OkW g f) (hn : n ≤ 8) (hH : HC n H σ) {Q : Int32 → SS → Prop} (x y z : Int32) (q : oF g f n H σ Q false (o_post g f x y z)) : wp_X9_post σ x y z Q :=
  sp_outer h hn hH (o_post_wf ho x y z) (I := fun s K => wp_X9_buildPost s x y z K) (fun _ _ hr q => sp_buildPost hr ho x y z q) q
theorem sp_tear {g : Nat → Nat} {f : Nat → Nat → Nat} {n : Nat} {H : Nat → WW} {σ : SS} (h : RC 1 g f σ) (ho : OkW g f) (hn : n ≤ 8) (hH : HC n H σ) {Q : Int32 → SS → Prop} (x : Int32) (q : oF g f n H σ Q false (o_tear g f x)) : wp_X9_tear σ x Q :=
  sp_outer h hn hH (o_tear_wf ho x) (I := fun s K => wp_X9_tearDown s x K) (fun _ _ hr q => sp_tearDown hr ho x q) q
theorem sp_reach {g : Nat → Nat} {f : Nat → Nat → Nat} {n : Nat} {H : Nat → WW} {σ : SS} (h : RC 1 g f σ) (ho : OkW g f) (hn : n ≤ 8) (hH : HC n H σ) {Q : Int32 → SS → Prop} (x y z : Int32) (q : oF g f n H σ Q false (o_reach g f x y z)) : wp_X9_reach σ x y z Q :=
  sp_outer h hn hH (o_reach_wf ho x y z) (I := fun s K => wp_X9_tellReaches s x y z K) (fun _ _ hr q => sp_tellReaches hr ho x y z q) q
theorem sp_hour {g : Nat → Nat} {f : Nat → Nat → Nat} {n : Nat} {H : Nat → WW} {σ : SS} (h : RC 1 g f σ) (ho : OkW g f) (hn : n ≤ 8) (hH : HC n H σ) {Q : Int32 → SS → Prop} (x : Int32) (q : oF g f n H σ Q false (o_hour g f x)) : wp_X9_hour σ x Q :=
  sp_outer h hn hH (o_hour_wf ho x) (I := fun s K => wp_X9_tellHour s x K) (fun _ _ hr q => sp_tellHour hr ho x q) q
theorem sp_watch {g : Nat → Nat} {f : Nat → Nat → Nat} {n : Nat} {H : Nat → WW} {σ : SS} (h : RC 1 g f σ) (ho : OkW g f) (hn : n ≤ 8) (hH : HC n H σ) {Q : Int32 → SS → Prop} (q : oF g f n H σ Q false (o_watch g f)) : wp_X9_watch σ Q :=
  sp_outer h hn hH (o_watch_wf ho) (I := fun s K => wp_X9_manFewest s K) (fun _ _ hr q => sp_manFewest hr ho q) q
theorem oF_then {g : Nat → Nat} {f : Nat → Nat → Nat} {n : Nat} {H : Nat → WW} {σ : SS} {o : Out} (hw : o.wf) {Q : Int32 → SS → Prop} {N : SS → Prop} (q : oF g f n H σ Q false o) (hN : ∀ r g' f', o = .ok r g' f' → ∀ τ, RC 1 g' f' τ → (∀ υ, SB AK τ υ → Q (nI r) υ) → N τ) : oF g f n H σ (fun r5 σ4 => (((0 : Int32) ≤ r5 → N σ4) ∧ (¬ (0 : Int32) ≤ r5 → Q r5 σ4))) true o := by
  match o, hw, q, hN with
  | Sum.inl r, hw, q, _ => exact fun τ a b c d => br_f (i_not1 hw.1) (q τ a b c d)
  | Sum.inr (Sum.inl (a, b)), _, q, _ => exact fun τ a b c d e e2 => br_f (by decide) (q τ a b c d e e2)
  | Sum.inr (Sum.inr (r, g', f')), _, q, hN =>
    intro τ a b c d
    refine br_t (show (0 : Int32) ≤ 0 by decide) (hN r g' f' rfl τ b fun υ k => q υ (a.tr (k.mono fun kk hk => ?_)) (b.ak k) (c.keep fun kk hk => k kk ?_) ?_)
    · unfold AK at hk; unfold CK; omega
    · unfold HK at hk; unfold AK; omega
    · rw [k 94 (by unfold AK; omega), d]
theorem sp_blind {g : Nat → Nat} {f : Nat → Nat → Nat} {n : Nat} {H : Nat → WW} {σ : SS} (h : RC 1 g f σ) (ho : OkW g f) (hn : n ≤ 8) (hH : HC n H σ) {Q : Int32 → SS → Prop} (x y z : Int32) (q : oF g f n H σ Q false (o_blind g f x y z)) : wp_X9_blind σ x y z Q := by
  have h9 := ho.1
  refine sp_outer h hn hH (o_blind_wf ho x y z) (I := fun s K => wp_X9_tellBlindAngle s x y z K) (fun _ _ hr q => sp_tellBlind hr ho x y z q) (oF_then (o_blind_wf ho x y z) q ?_)
  intro r g' f' e τ hr' hq
  have hw := o_blind_wf ho x y z
  rw [e] at hw
  unfold o_blind at e
  rcases ox_c x (n := g 0) (by omega) with ⟨_, ex, _⟩ | ⟨_, _, ex, _⟩ | ⟨p, hp, rfl, ex⟩ <;> rw [ex] at e
  · cases e
  · cases e
  rcases ox_c y (n := 24) (by omega) with ⟨_, ex, _⟩ | ⟨_, _, ex, _⟩ | ⟨s, hs, _, ex⟩ <;> rw [ex] at e
  · cases e
  · cases e
  rcases ox_c z (n := 9) (by omega) with ⟨_, ex, _⟩ | ⟨_, _, ex, _⟩ | ⟨m, hm, _, ex⟩ <;> rw [ex] at e
  · cases e
  · cases e
  by_cases cn : m = 0
  · simp only [if_pos cn] at e; cases e
  · by_cases c : f p 4 = m ∧ f p 3 = s
    · simp only [if_neg cn, if_pos c] at e; cases e
    · simp only [if_neg cn, if_neg c] at e
      cases e
      exact sp_manySeenNow hr' hw.2 (by omega) hq
theorem sp_see {g : Nat → Nat} {f : Nat → Nat → Nat} {n : Nat} {H : Nat → WW} {σ : SS} (h : RC 1 g f σ) (ho : OkW g f) (hn : n ≤ 8) (hH : HC n H σ) {Q : Int32 → SS → Prop} (x : Int32) (q : oF g f n H σ Q false (o_see g f x)) : wp_X9_see σ x Q := by
  have h9 := ho.1
  refine sp_outer h hn hH (o_see_wf ho x) (I := fun s K => wp_X9_dropBlindAngle s x K) (fun _ _ hr q => sp_dropBlind hr ho x q) (oF_then (o_see_wf ho x) q ?_)
  intro r g' f' e τ hr' hq
  have hw := o_see_wf ho x
  rw [e] at hw
  unfold o_see at e
  rcases ox_c x (n := g 0) (by omega) with ⟨_, ex, _⟩ | ⟨_, _, ex, _⟩ | ⟨p, hp, rfl, ex⟩ <;> rw [ex] at e
  · cases e
  · cases e
  by_cases c : f p 4 = 0
  · simp only [if_pos c] at e; cases e
  · simp only [if_neg c] at e
    cases e
    exact sp_manySeenNow hr' hw.2 (by omega) hq
theorem sp_man {g : Nat → Nat} {f : Nat → Nat → Nat} {n : Nat} {H : Nat → WW} {σ : SS} (h : RC 1 g f σ) (ho : OkW g f) (hn : n ≤ 8) (hH : HC n H σ) {Q : Int32 → SS → Prop} (x y : Int32) (q : oF g f n H σ Q false (o_man g f x y)) : wp_X9_man σ x y Q := by
  have h9 := ho.1
  refine sp_outer h hn hH (o_man_wf ho x y) (I := fun s K => wp_X9_letBeManned s x y K) (fun _ _ hr q => sp_letBe hr ho x y q) (oF_then (o_man_wf ho x y) q ?_)
  intro r g' f' e τ hr' hq
  have hw := o_man_wf ho x y
  rw [e] at hw
  unfold o_man at e
  rcases ox_c x (n := g 0) (by omega) with ⟨_, ex, _⟩ | ⟨_, _, ex, _⟩ | ⟨p, hp, rfl, ex⟩ <;> rw [ex] at e
  · cases e
  · cases e
  rcases ox_c y (n := 2) (by omega) with ⟨_, ex, _⟩ | ⟨_, _, ex, _⟩ | ⟨b, hb, _, ex⟩ <;> rw [ex] at e
  · cases e
  · cases e
  by_cases c : f p 5 = b
  · simp only [if_pos c] at e; cases e
  · simp only [if_neg c] at e
    cases e
    exact sp_manyWatchedNow hr' hw.2 hq
theorem sp_undo {n : Nat} {H : Nat → WW} {σ : SS} (hn : n ≤ 8) (hH : HC n H σ) {Q : Int32 → SS → Prop} (q0 : n = 0 → Q (-4) σ) (q1 : ∀ τ, 0 < n → SB (fun k => (1 ≤ k ∧ k ≤ 7) ∨ k = 22) σ τ → RC 1 (H (n - 1)).1 (H (n - 1)).2 τ → HC (n - 1) H τ → Q (nI (n - 1)) τ) : wp_X9_undo σ Q := by
  unfold wp_X9_undo
  rw [hH.1]
  by_cases c : n = 0
  · exact br_f (by rw [c]; decide) (q0 c)
  · refine br_t (by rw [show (0 : Int32) = nI 0 from rfl, nI_ltI (by omega) (by omega)]; omega) ?_
    have ht := tn_lt (σ 22 1)
    unfold wp_X4_takeBack
    rintro σ1 e
    have e1 : σ1 22 1 = σ 22 1 - 1 := by rw [e, u2j _ _ _ (by decide), u2s]
    have e2 : σ1 22 2 = nI (n - 1) := by
      rw [e, u2s, u2j _ _ _ (by decide), hH.1]
      exact pk_sub (b := 1) (by omega)
    have ek : ∀ k, k ≠ 22 → σ1 k = σ k := fun k hk => by
      rw [e]; funext j; rw [u2k _ _ _ _ hk, u2k _ _ _ _ hk]
    have hm := Nat.mod_lt (tn (σ 22 1) + 8 - n + (n - 1)) (show 0 < 8 by decide)
    have hc := (hH.2 (n - 1) (by omega)).keep (τ := σ1) fun k h1 h2 => ek k (by omega)
    rw [show (tn (σ 22 1) + 8 - n + (n - 1)) % 8 = (tn (σ 22 1) + 7) % 8 by omega] at hc
    rw [e1, tn_and, tn_p, pk_cl ((tn (σ 22 1) + 7) % 8)]
    refine ⟨pk_in ((tn (σ 22 1) + 7) % 8) 8 (by omega), sp_copyFrom (by omega) hc fun τ k hr => ?_⟩
    have e3 : τ 22 = σ1 22 := k 22 (by omega)
    show Q (τ 22 2) τ
    rw [e3, e2]
    refine q1 τ (by omega) ?_ hr ⟨by rw [e3, e2], fun i hi => ?_⟩
    · intro kk hk
      rw [k kk (by omega), ek kk (by omega)]
    · rw [e3, e1, tn_p]
      have hm := Nat.mod_lt (tn (σ 22 1) + 8 - n + i) (show 0 < 8 by decide)
      have hh := hH.2 i (by omega)
      rw [show ((tn (σ 22 1) + 7) % 8 + 8 - (n - 1) + i) % 8 = (tn (σ 22 1) + 8 - n + i) % 8 by omega]
      exact hh.keep fun kk h1 h2 => by rw [k kk (by omega), ek kk (by omega)]
theorem sp_save {g : Nat → Nat} {f : Nat → Nat → Nat} {σ : SS} (h : RC 1 g f σ) {Q : Int32 → SS → Prop} (q : ∀ τ, SB (fun k => (15 ≤ k ∧ k ≤ 21) ∨ k = 0) σ τ → RC 15 g f τ → τ 0 11 = 1 → τ 0 12 = σ 0 12 → Q (nI (g 0)) τ) : wp_X9_save σ Q := by
  unfold wp_X9_save
  refine sp_copyFrom (by omega) h fun τ k hr => ?_
  rw [u2k _ _ _ _ (show (1 : Nat) ≠ 0 by decide), k 1 (by omega), h.1.1]
  refine q _ ?_ ?_ (u2s _ _ _ _) ?_
  · exact SB.w (k.mono fun kk hk => Or.inl (by omega)) (Or.inr rfl)
  · exact hr.keep fun kk _ _ => by funext j; rw [u2k _ _ _ _ (by omega)]
  · rw [u2j _ _ _ (by decide), k 0 (by omega)]
theorem sp_restore {g : Nat → Nat} {f : Nat → Nat → Nat} {H : Nat → WW} {σ : SS} (b : Bool) (hb : σ 0 11 = if b then 1 else 0) (h : b = true → RC 15 g f σ) {Q : Int32 → SS → Prop} (q0 : b = false → Q (-4) σ) (q1 : b = true → ∀ τ, SB (fun k => (1 ≤ k ∧ k ≤ 7) ∨ k = 22) σ τ → RC 1 g f τ → HC 0 H τ → Q (nI (g 0)) τ) : wp_X9_restore σ Q := by
  unfold wp_X9_restore
  rw [hb]
  cases b with
  | false => exact br_t rfl (q0 rfl)
  | true =>
    refine br_f (by decide) (sp_copyFrom (by omega) (h rfl) fun τ k hr => ?_)
    unfold wp_X4_forget
    show Q ((u2 τ 22 2 0) 1 6) (u2 τ 22 2 0)
    rw [u2k _ _ _ _ (show (1 : Nat) ≠ 22 by decide), hr.1.1]
    refine q1 rfl _ ?_ ?_ ⟨u2s _ _ _ _, fun i hi => absurd hi (by omega)⟩
    · exact SB.w (k.mono fun kk hk => Or.inl (by omega)) (Or.inr rfl)
    · exact hr.keep fun kk _ _ => by funext j; rw [u2k _ _ _ _ (by omega)]
