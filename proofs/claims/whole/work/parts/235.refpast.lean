/-! the reference: its past, and a command as the user gives it -/
theorem rp_copies {σ : SS} {c Nc d Nd a b : Nat} (ha : a + 59 ≤ Nc) (hb : b + 59 ≤ Nd) (hN : Nc < 1000) (hN2 : Nd < 1000) (hcd : c = d → b + 59 ≤ a) {Q : SS → Prop} (q : ∀ τ : SS, (∀ k j, τ k j = if k = d ∧ b ≤ j ∧ j < b + 59 then σ c (a + (j - b)) else σ k j) → Q τ) : wp_X10_copies c Nc d Nd σ (nI a) (nI b) Q := by
  unfold wp_X10_copies
  refine Li.up (N := 59) 0 (fun i τ v => v = nI i ∧ ∀ k j, τ k j = if k = d ∧ b ≤ j ∧ j < b + i then σ c (a + (j - b)) else σ k j) (by omega) ⟨rfl, fun k j => by rw [if_neg (by omega)]⟩ ?_ ?_
  · rintro rc i τ v _ hi ⟨rfl, t⟩ k
    unfold bd_X10_copies_3
    rw [nI_add, nI_add]
    refine br_f (c_nle 59 hi) ⟨pk_in (a + i) Nc (by omega), pk_in (b + i) Nd (by omega), ?_⟩
    rw [pk_cl (x := nI (a + i)) (a + i), pk_cl (x := nI (b + i)) (b + i), nI_1]
    rintro υ rfl
    refine k _ _ ⟨rfl, fun kk j => ?_⟩
    have e6 : τ c (a + i) = σ c (a + i) := by rw [t, if_neg (by omega)]
    rw [u2i, e6]
    by_cases c1 : kk = d ∧ j = b + i
    · rw [if_pos c1, if_pos (by omega), show a + (j - b) = a + i by omega]
    · rw [if_neg c1, t]
      by_cases d1 : kk = d ∧ b ≤ j ∧ j < b + i
      · rw [if_pos d1, if_pos (by omega)]
      · rw [if_neg d1, if_neg (by omega)]
  · rintro rc τ v ⟨rfl, t⟩
    unfold bd_X10_copies_3
    exact br_t (by decide) (q τ t)
theorem RM.mv {c o d b : Nat} {g : Nat → Nat} {f : Nat → Nat → Nat} {σ τ : SS} (h : RM c o g f σ) (h9 : g 0 ≤ 9) (e : ∀ j, j < 59 → τ d (b + j) = σ c (o + j)) : RM d b g f τ := by
  unfold RM at *
  refine ⟨?_, fun p hp => ?_⟩
  · rw [e 0 (by decide), e 1 (by decide), e 2 (by decide), e 3 (by decide), e 4 (by decide)]
    exact h.1
  · rw [e (5 + 6 * p) (by omega), e (5 + 6 * p + 1) (by omega), e (5 + 6 * p + 2) (by omega), e (5 + 6 * p + 3) (by omega), e (5 + 6 * p + 4) (by omega), e (5 + 6 * p + 5) (by omega)]
    exact h.2 p hp
def HM (n : Nat) (H : Nat → WW) (σ : SS) : Prop := σ 95 4 = nI n ∧ ∀ i, i < n → RM 99 (59 * i) (H i).1 (H i).2 σ
def OkH (n : Nat) (H : Nat → WW) : Prop := ∀ i, i < n → OkW (H i).1 (H i).2
theorem HM.keep {n : Nat} {H : Nat → WW} {σ τ : SS} (h : HM n H σ) (e4 : τ 95 4 = σ 95 4) (e : τ 99 = σ 99) : HM n H τ := ⟨by rw [e4]; exact h.1, fun i hi => (h.2 i hi).keep e⟩
theorem OkH.add {n : Nat} {H : Nat → WW} (h : OkH n H) {w : WW} (hw : OkW w.1 w.2) : OkH (pN n) (pH n H w) := by
  intro i hi
  unfold pN pH at *
  by_cases c : n < 8
  · simp only [if_pos c] at hi ⊢
    by_cases d : i = n
    · simp only [if_pos d]; exact hw
    · simp only [if_neg d]; exact h i (by omega)
  · simp only [if_neg c] at hi ⊢
    by_cases d : i = 7
    · simp only [if_pos d]; exact hw
    · simp only [if_neg d]; exact h (i + 1) (by omega)
theorem rp_keeps {g : Nat → Nat} {f : Nat → Nat → Nat} {σ : SS} (h : R0 g f σ) (ho : OkW g f) {Q : SS → Prop} (q : ∀ τ, SB (fun k => k = 97) σ τ → RM 97 0 g f τ → Q τ) : wp_X10_keeps σ Q := by
  unfold wp_X10_keeps
  refine rp_copies (a := 0) (b := 0) (by decide) (by decide) (by decide) (by decide) (by decide) fun τ t => q τ ?_ ?_
  · intro k hk
    funext j
    rw [t, if_neg (by omega)]
  · refine RM.mv h ho.1 fun j hj => ?_
    rw [t, if_pos (by omega)]
    congr 1
    omega
theorem i_59 (n : Nat) : (59 : Int32) * nI n = nI (59 * n) := pk_mul 59 n
theorem rp_changed {n : Nat} {H : Nat → WW} {g : Nat → Nat} {f : Nat → Nat → Nat} {σ : SS} (hn : n ≤ 8) (hH : HM n H σ) (hk : OkH n H) (h : RM 97 0 g f σ) (ho : OkW g f) {Q : SS → Prop} (q : ∀ τ, (∀ k j, ¬ (k = 95 ∧ j = 4) → k ≠ 99 → τ k j = σ k j) → HM (pN n) (pH n H (g, f)) τ → Q τ) : wp_X10_changed σ Q := by
  have h9 := ho.1
  unfold wp_X10_changed
  rw [hH.1]
  -- the copy to the place m, with all below as it should be
  have fin : ∀ (m : Nat) (υ : SS), m < 8 → pN n = m + 1 → (∀ k j, ¬ (k = 95 ∧ j = 4) → k ≠ 99 → υ k j = σ k j) → υ 95 4 = nI m → (∀ i, i < m → RM 99 (59 * i) (pH n H (g, f) i).1 (pH n H (g, f) i).2 υ) → pH n H (g, f) m = (g, f) → wp_X10_copies 97 59 99 472 υ 0 (nI (59 * m)) (fun σ1 => Q (u2 σ1 95 4 ((σ1 95 4) + 1))) := by
    intro m υ hm em kf e4 hi hw
    refine rp_copies (a := 0) (by decide) (by omega) (by decide) (by decide) (by omega) fun τ t => q _ (fun k j c d => ?_) ⟨?_, fun i hi2 => ?_⟩
    · rw [u2i, if_neg (by omega), t, if_neg (by omega)]; exact kf k j c d
    · rw [u2s, t, if_neg (by omega), e4, nI_1, em]
    · rw [em] at hi2
      by_cases c : i = m
      · subst c
        rw [hw]
        refine RM.mv h h9 fun j hj => ?_
        rw [u2k _ _ _ _ (by decide), t, if_pos (by omega), kf 97 _ (by omega) (by omega)]
        congr 1
        omega
      · have ok : (pH n H (g, f) i).1 0 ≤ 9 := (hk.add (w := (g, f)) ho i (by omega)).1
        refine RM.mv (hi i (by omega)) ok fun j hj => ?_
        rw [u2k _ _ _ _ (by decide), t, if_neg (by omega)]
  refine pk_eq n 8 (fun c => ?_) (fun c => ?_)
  · subst c
    refine Li.up (N := 8) 1 (fun v τ x => x = nI v ∧ ∀ k j, τ k j = if k = 99 ∧ j < 59 * (v - 1) then σ 99 (59 + j) else σ k j) (by decide) ⟨rfl, fun k j => by rw [if_neg (by omega)]⟩ ?_ ?_
    · rintro rc v τ x hv1 hv ⟨rfl, t⟩ k
      unfold bd_X10_changed_11
      rw [i_59, show nI v - 1 = nI (v - 1) from pk_sub (b := 1) hv1, i_59, nI_1]
      refine br_f (c_nle 8 hv) (rp_copies (by omega) (by omega) (by decide) (by decide) (by omega) fun υ t2 => k _ _ ⟨rfl, fun kk j => ?_⟩)
      rw [t2]
      by_cases c1 : kk = 99 ∧ 59 * (v - 1) ≤ j ∧ j < 59 * (v - 1) + 59
      · rw [if_pos c1, if_pos (by omega), t, if_neg (by omega)]
        congr 1
        omega
      · rw [if_neg c1, t]
        by_cases d1 : kk = 99 ∧ j < 59 * (v - 1)
        · rw [if_pos d1, if_pos (by omega)]
        · rw [if_neg d1, if_neg (by omega)]
    · rintro rc τ x ⟨rfl, t⟩
      unfold bd_X10_changed_11
      have e4 : τ 95 4 = nI 8 := by rw [t, if_neg (by omega)]; exact hH.1
      have e7 : τ 95 4 - 1 = nI 7 := by rw [e4]; exact pk_sub (b := 1) (by decide)
      rw [e7, u2s, i_59]
      refine br_t (by decide) (fin 7 _ (by decide) rfl (fun k j c1 c2 => ?_) (u2s _ _ _ _) (fun i hi => ?_) rfl)
      · rw [u2i, if_neg (by omega), t, if_neg (by omega)]
      · have e : pH 8 H (g, f) i = H (i + 1) := by
          unfold pH
          rw [if_neg (by decide), if_neg (by omega)]
        rw [e]
        refine RM.mv (hH.2 (i + 1) (by omega)) (hk (i + 1) (by omega)).1 fun j hj => ?_
        rw [u2k _ _ _ _ (by decide), t, if_pos (by omega)]
        congr 1
        omega
  · have hn8 : n < 8 := by omega
    rw [i_59]
    refine fin n σ hn8 (by unfold pN; rw [if_pos hn8]) (fun _ _ _ _ => rfl) hH.1 (fun i hi => ?_) (by unfold pH; rw [if_pos hn8, if_pos rfl])
    have e : pH n H (g, f) i = H i := by
      unfold pH
      rw [if_pos hn8, if_neg (by omega)]
    rw [e]
    exact hH.2 i hi
def PK (σ τ : SS) : Prop := ∀ k j, ¬ (k = 95 ∧ 4 ≤ j ∧ j ≤ 7) → k ≠ 96 → k ≠ 97 → k ≠ 99 → τ k j = σ k j
def RF3 (σ τ : SS) : Prop := τ 95 5 = σ 95 5 ∧ τ 95 6 = σ 95 6 ∧ τ 95 7 = σ 95 7
def pF (g : Nat → Nat) (f : Nat → Nat → Nat) (n : Nat) (H : Nat → WW) (σ : SS) (Q : Int32 → SS → Prop) (o : Out) : Prop := match (o : Int32 ⊕ ((Int32 × Int32) ⊕ (Nat × (Nat → Nat) × (Nat → Nat → Nat)))) with
  | Sum.inl r => ∀ τ, PK σ τ → R0 g f τ → HM n H τ → RF3 σ τ → Q r τ
  | Sum.inr (Sum.inl (a, b)) => ∀ τ, PK σ τ → R0 g f τ → HM n H τ → τ 95 5 = a → τ 95 6 = b → τ 95 7 = -4 → Q (-3) τ
  | Sum.inr (Sum.inr (r, g', f')) => ∀ τ, PK σ τ → R0 g' f' τ → HM (pN n) (pH n H (g, f)) τ → RF3 σ τ → Q (nI r) τ
theorem rp_outer {g : Nat → Nat} {f : Nat → Nat → Nat} {n : Nat} {H : Nat → WW} {σ : SS} (h : R0 g f σ) (ho : OkW g f) (hn : n ≤ 8) (hH : HM n H σ) (hk : OkH n H) {o : Out} (hw : o.wf) {I : SS → (Int32 → SS → Prop) → Prop} (hI : ∀ σ1 Q', R0 g f σ1 → pQ σ1 Q' o → I σ1 Q') {K : Int32 → SS → Prop} (q : pF g f n H σ K o) : wp_X10_keeps σ (fun σ1 => I σ1 (fun r3 σ2 => wp_X10_ends σ2 r3 (fun r5 σ4 => K r5 σ4))) := by
  refine rp_keeps h ho fun τ k hr => hI τ _ (h.keep (k 96 (by decide))) ?_
  have h1 : R0 g f τ := h.keep (k 96 (by decide))
  have hH1 : HM n H τ := hH.keep (by rw [k 95 (by decide)]) (k 99 (by decide))
  have k0 : PK σ τ := fun kk j _ _ c _ => by rw [k kk c]
  have f0 : RF3 σ τ := by unfold RF3; rw [k 95 (by decide)]; exact ⟨rfl, rfl, rfl⟩
  match o, hw, q with
  | Sum.inl r, hw, q =>
    show wp_X10_ends τ r (fun r5 σ4 => K r5 σ4)
    unfold wp_X10_ends
    exact br_t hw.1 (q τ k0 h1 hH1 f0)
  | Sum.inr (Sum.inl (a, b)), _, q =>
    intro υ k2 e0 e1 e2
    show wp_X10_ends υ (-3) (fun r5 σ4 => K r5 σ4)
    unfold wp_X10_ends
    have e96 : υ 96 = τ 96 := by funext j; exact k2 96 j (by omega)
    have e99 : υ 99 = τ 99 := by funext j; exact k2 99 j (by omega)
    exact br_t (by decide) (q υ (fun kk j c1 c2 c3 c4 => by rw [k2 kk j (by omega)]; exact k0 kk j c1 c2 c3 c4) (RM.keep h1 e96) (hH1.keep (k2 95 4 (by omega)) e99) e0 e1 e2)
  | Sum.inr (Sum.inr (r, g', f')), hw, q =>
    intro υ k2 hr2
    show wp_X10_ends υ (nI r) (fun r5 σ4 => K r5 σ4)
    unfold wp_X10_ends
    have e99 : υ 99 = τ 99 := by funext j; exact k2 99 j (by omega)
    have e97 : υ 97 = τ 97 := by funext j; exact k2 97 j (by omega)
    refine br_f (nI_n0 hw.1) (rp_changed hn (hH1.keep (k2 95 4 (by omega)) e99) hk (hr.keep e97) ho fun ω k3 hc => q ω (fun kk j c1 c2 c3 c4 => ?_) (RM.keep hr2 (funext fun j => k3 96 j (by omega) (by omega))) hc ⟨?_, ?_, ?_⟩)
    · rw [k3 kk j (by omega) c4, k2 kk j c2]; exact k0 kk j c1 c2 c3 c4
    · rw [k3 95 5 (by omega) (by omega), k2 95 5 (by omega)]; exact f0.1
    · rw [k3 95 6 (by omega) (by omega), k2 95 6 (by omega)]; exact f0.2.1
    · rw [k3 95 7 (by omega) (by omega), k2 95 7 (by omega)]; exact f0.2.2
section
variable {g : Nat → Nat} {f : Nat → Nat → Nat} {n : Nat} {H : Nat → WW} {σ : SS} {Q : Int32 → SS → Prop}
theorem rp_post (h : R0 g f σ) (ho : OkW g f) (hn : n ≤ 8) (hH : HM n H σ) (hk : OkH n H) (x y z : Int32) (q : pF g f n H σ Q (o_post g f x y z)) : wp_X10_post σ x y z Q :=
  rp_outer h ho hn hH hk (o_post_wf ho x y z) (I := fun σ1 K => wp_X10_builds σ1 x y z K) (fun _ _ h1 q1 => rp_builds h1 ho x y z q1) q
theorem rp_tear (h : R0 g f σ) (ho : OkW g f) (hn : n ≤ 8) (hH : HM n H σ) (hk : OkH n H) (x : Int32) (q : pF g f n H σ Q (o_tear g f x)) : wp_X10_tear σ x Q :=
  rp_outer h ho hn hH hk (o_tear_wf ho x) (I := fun σ1 K => wp_X10_tears σ1 x K) (fun _ _ h1 q1 => rp_tears h1 ho x q1) q
theorem rp_reach (h : R0 g f σ) (ho : OkW g f) (hn : n ≤ 8) (hH : HM n H σ) (hk : OkH n H) (x y z : Int32) (q : pF g f n H σ Q (o_reach g f x y z)) : wp_X10_reach σ x y z Q :=
  rp_outer h ho hn hH hk (o_reach_wf ho x y z) (I := fun σ1 K => wp_X10_reaches σ1 x y z K) (fun _ _ h1 q1 => rp_reaches h1 ho x y z q1) q
theorem rp_blind (h : R0 g f σ) (ho : OkW g f) (hn : n ≤ 8) (hH : HM n H σ) (hk : OkH n H) (x y z : Int32) (q : pF g f n H σ Q (o_blind g f x y z)) : wp_X10_blind σ x y z Q :=
  rp_outer h ho hn hH hk (o_blind_wf ho x y z) (I := fun σ1 K => wp_X10_blinds σ1 x y z K) (fun _ _ h1 q1 => rp_blinds h1 ho x y z q1) q
theorem rp_see (h : R0 g f σ) (ho : OkW g f) (hn : n ≤ 8) (hH : HM n H σ) (hk : OkH n H) (x : Int32) (q : pF g f n H σ Q (o_see g f x)) : wp_X10_see σ x Q :=
  rp_outer h ho hn hH hk (o_see_wf ho x) (I := fun σ1 K => wp_X10_lets σ1 x K) (fun _ _ h1 q1 => rp_lets h1 ho x q1) q
theorem rp_man (h : R0 g f σ) (ho : OkW g f) (hn : n ≤ 8) (hH : HM n H σ) (hk : OkH n H) (x y : Int32) (q : pF g f n H σ Q (o_man g f x y)) : wp_X10_man σ x y Q :=
  rp_outer h ho hn hH hk (o_man_wf ho x y) (I := fun σ1 K => wp_X10_mans σ1 x y K) (fun _ _ h1 q1 => rp_mans h1 ho x y q1) q
theorem rp_hour (h : R0 g f σ) (ho : OkW g f) (hn : n ≤ 8) (hH : HM n H σ) (hk : OkH n H) (x : Int32) (q : pF g f n H σ Q (o_hour g f x)) : wp_X10_hour σ x Q :=
  rp_outer h ho hn hH hk (o_hour_wf ho x) (I := fun σ1 K => wp_X10_tellsHour σ1 x K) (fun _ _ h1 q1 => rp_tellsHour h1 ho x q1) q
theorem rp_watch (h : R0 g f σ) (ho : OkW g f) (hn : n ≤ 8) (hH : HM n H σ) (hk : OkH n H) (q : pF g f n H σ Q (o_watch g f)) : wp_X10_watch σ Q :=
  rp_outer h ho hn hH hk (o_watch_wf ho) (I := fun σ1 K => wp_X10_watching σ1 K) (fun _ _ h1 q1 => rp_watching h1 ho q1) q
theorem rp_undo (hn : n ≤ 8) (hH : HM n H σ) (hk : OkH n H) (q0 : n = 0 → Q (-4) σ) (q1 : ∀ τ, 0 < n → (∀ k j, ¬ (k = 95 ∧ j = 4) → k ≠ 96 → τ k j = σ k j) → R0 (H (n - 1)).1 (H (n - 1)).2 τ → HM (n - 1) H τ → Q (nI (n - 1)) τ) : wp_X10_undo σ Q := by
  unfold wp_X10_undo
  rw [hH.1]
  refine pk_eq n 0 q0 (fun c => ?_)
  rw [u2s, show nI n - 1 = nI (n - 1) from pk_sub (b := 1) (by omega), i_59]
  refine rp_copies (b := 0) (by omega) (by decide) (by decide) (by decide) (by omega) fun τ t => ?_
  have e4 : τ 95 4 = nI (n - 1) := by rw [t, if_neg (by omega), u2s]
  rw [e4]
  refine q1 τ (by omega) (fun k j c1 c2 => ?_) ?_ ⟨e4, fun i hi => ?_⟩
  · rw [t, if_neg (by omega), u2i, if_neg c1]
  · refine RM.mv (hH.2 (n - 1) (by omega)) (hk (n - 1) (by omega)).1 fun j hj => ?_
    rw [t, if_pos (by omega), u2k _ _ _ _ (by decide)]
    congr 1
    omega
  · refine (hH.2 i (by omega)).keep (funext fun j => ?_)
    rw [t, if_neg (by omega), u2k _ _ _ _ (by decide)]
theorem rp_save (h : R0 g f σ) (ho : OkW g f) (q : ∀ τ, (∀ k j, ¬ (k = 95 ∧ j = 8) → k ≠ 98 → τ k j = σ k j) → RM 98 0 g f τ → τ 95 8 = 1 → Q (nI (g 0)) τ) : wp_X10_save σ Q := by
  unfold wp_X10_save
  refine rp_copies (a := 0) (b := 0) (by decide) (by decide) (by decide) (by decide) (by decide) fun τ t => ?_
  have e0 : (u2 τ 95 8 1) 96 0 = nI (g 0) := by rw [u2k _ _ _ _ (by decide), t, if_neg (by omega)]; exact h.g0
  rw [e0]
  refine q _ (fun k j c1 c2 => ?_) (RM.mv h ho.1 fun j hj => ?_) (u2s _ _ _ _)
  · rw [u2i, if_neg c1, t, if_neg (by omega)]
  · rw [u2k _ _ _ _ (by decide), t, if_pos (by omega)]
    congr 1
    omega
theorem rp_restore (b : Bool) (hb : σ 95 8 = if b then 1 else 0) (h : b = true → RM 98 0 g f σ) (ho : b = true → OkW g f) (q0 : b = false → Q (-4) σ) (q1 : b = true → ∀ τ, (∀ k j, ¬ (k = 95 ∧ j = 4) → k ≠ 96 → τ k j = σ k j) → R0 g f τ → HM 0 H τ → Q (nI (g 0)) τ) : wp_X10_restore σ Q := by
  unfold wp_X10_restore
  cases b with
  | false =>
    rw [hb]
    exact br_t rfl (q0 rfl)
  | true =>
    rw [hb]
    refine br_f (by decide) (rp_copies (a := 0) (b := 0) (by decide) (by decide) (by decide) (by decide) (by decide) fun τ t => ?_)
    have hR : R0 g f (u2 τ 95 4 0) := RM.mv (h rfl) (ho rfl).1 fun j hj => by
      rw [u2k _ _ _ _ (by decide), t, if_pos (by omega)]
      congr 1
      omega
    rw [hR.g0]
    refine q1 rfl _ (fun k j c1 c2 => ?_) hR ⟨u2s _ _ _ _, fun i hi => absurd hi (Nat.not_lt_zero i)⟩
    rw [u2i, if_neg c1, t, if_neg (by omega)]
end
