/-! the reference: a text read as commands and carried out -/
def nxt (T : List Int32) (i : Nat) : Nat := if cdt T (prs T i).2.1 = 59 then (prs T i).2.1 + 1 else (prs T i).2.1
/-- the commands from the place i on, the q-th and later, of N, as they lie in the row c -/
def HOLD (T : List Int32) (c : Nat → Int32) (N : Nat) : Nat → Nat → Nat → Prop
  | 0, _, q => q = N
  | F + 1, i, q => ((prs T i).1 = true → q < N ∧ CM T i q c ∧ HOLD T c N F (nxt T i) (q + 1)) ∧ ((prs T i).1 = false → q = N)
theorem HOLD_le {T : List Int32} {c : Nat → Int32} {N : Nat} : ∀ F i q, HOLD T c N F i q → q ≤ N
  | 0, _, _, h => Nat.le_of_eq h
  | F + 1, i, q, h => by
    cases e : (prs T i).1 with
    | true => exact Nat.le_of_lt (h.1 e).1
    | false => exact Nat.le_of_eq (h.2 e)
theorem prs_in {T : List Int32} {i : Nat} (h : (prs T i).1 = true) : cdt T i = 45 ∨ cdt T i = 98 ∨ cdt T i = 104 ∨ cdt T i = 108 ∨ cdt T i = 109 ∨ cdt T i = 110 ∨ cdt T i = 112 ∨ cdt T i = 114 ∨ cdt T i = 119 := by
  refine Classical.byContradiction fun hk => ?_
  have e : prs T i = (false, i, 0, 0, 0) := by
    unfold prs
    rw [if_neg fun z => hk (by simp [z]), if_neg fun z => hk (by simp [z]), if_neg fun z => hk (by simp [z]), if_neg fun z => hk (by simp [z]), if_neg fun z => hk (by simp [z]), if_neg fun z => hk (by simp [z]), if_neg fun z => hk (by simp [z]), if_neg fun z => hk (by simp [z]), if_neg fun z => hk (by simp [z])]
  rw [e] at h
  cases h
theorem cd_end {T : List Int32} {i : Nat} (h : T.length ≤ i) : cdt T i = -1 := by unfold cdt; rw [if_neg (by omega)]
theorem prs_end {T : List Int32} {i : Nat} (h : T.length ≤ i) : (prs T i).1 = false := by
  cases e : (prs T i).1 with
  | false => rfl
  | true =>
    have hk := prs_in e
    rw [cd_end h] at hk
    exact absurd hk (by decide)
theorem HOLD_end {T : List Int32} {c : Nat → Int32} {i q : Nat} (h : T.length ≤ i) : ∀ F, HOLD T c q F i q
  | 0 => rfl
  | F + 1 => ⟨fun e => (by rw [prs_end h] at e; cases e), fun _ => rfl⟩
theorem rp_isText {T : List Int32} (hT : TOK T) {σ0 : SS} (h : LN 95 13 101 T σ0) {Q : Int32 → SS → Prop} (q0 : ∀ e, flt T 70 0 = some e → ∀ τ, FC σ0 τ → τ 95 14 = nI e → Q 0 τ) (q1 : flt T 70 0 = none → ∀ τ N, FC σ0 τ → N ≤ 36 → τ 95 15 = nI N → HOLD T (τ 102) N 70 0 0 → Q 1 τ) : wp_X10_isText σ0 Q := by
  have hl := hT.1
  unfold wp_X10_isText
  have key : ∀ F q i σ, F + q = 69 → 2 * q ≤ i → i ≤ T.length → FC σ0 σ → σ 95 14 = nI (prs T i).2.1 → ((prs T i).1 = true → σ 95 15 = nI (q + 1) ∧ CM T i q (σ 102)) → (∀ e, flt T (F + 1) i = some e → ∀ τ, FC σ0 τ → τ 95 14 = nI e → Q 0 τ) → (flt T (F + 1) i = none → ∀ τ N, FC σ0 τ → N ≤ 36 → τ 95 15 = nI N → (∀ j, j < 4 * q → τ 102 j = σ 102 j) → HOLD T (τ 102) N (F + 1) i q → Q 1 τ) → Li (bd_X10_isText_15 Q) (F + 1) σ (if (prs T i).1 then 1 else 0) := by
    intro F
    induction F with
    | zero => intro q i σ hF hq hi; omega
    | succ F ih =>
      intro q i σ hF hq hi k e14 hok q0 q1
      show bd_X10_isText_15 Q (Li (bd_X10_isText_15 Q) (F + 1)) σ _
      unfold bd_X10_isText_15
      have hb := prs_b hT i
      have he := hb.2.1 hi
      unfold flt at q0 q1
      cases ep : (prs T i).1 with
      | false =>
        rw [ep] at q0
        exact br_t rfl (br_t rfl (q0 _ rfl σ k e14))
      | true =>
        rw [ep] at q0 q1
        obtain ⟨e15, hcm⟩ := hok ep
        have hii := hb.2.2 ep
        have hts : MS T (prs T i).2.1 σ := ⟨h.fc k, e14⟩
        refine br_f (by decide) (rp_isHere hT (by omega) hts (fun d => br_f (by decide) ?_) (fun d => br_t rfl (br_f (by decide) ?_)))
        · -- a further command
          have d2 := cd_in d (by decide)
          simp only [if_pos d2, if_pos d, if_true] at q0 q1
          have k2 : FC σ0 (u2 σ 95 14 (nI ((prs T i).2.1 + 1))) := fun kk j c1 c2 => by rw [u2i, if_neg (by omega)]; exact k kk j c1 c2
          refine rp_readsCommand hT (i := (prs T i).2.1 + 1) (q := q + 1) (by omega) (by omega) ⟨h.fc k2, u2s _ _ _ _⟩ (by rw [u2j _ _ _ (by decide)]; exact e15) (fun τ f1 lo1 g14 gok => ?_)
          refine ih (q + 1) ((prs T i).2.1 + 1) τ (by omega) (by omega) (by omega) (k2.tr f1) g14 gok q0 (fun hf υ N c1 c2 c3 c4 c5 => ?_)
          have lo : ∀ j, j < 4 * (q + 1) → υ 102 j = σ 102 j := fun j hj => by rw [c4 j hj, lo1 j hj, u2k _ _ _ _ (by decide)]
          refine q1 hf υ N c1 c2 c3 (fun j hj => lo j (by omega)) ⟨fun _ => ⟨by have := HOLD_le _ _ _ c5; omega, ?_, ?_⟩, fun z => by rw [ep] at z; cases z⟩
          · unfold CM
            rw [lo _ (by omega), lo _ (by omega), lo _ (by omega), lo _ (by omega)]
            exact hcm
          · unfold nxt
            rw [if_pos d]
            exact c5
        · rw [e14, (h.fc k).1]
          refine pk_eq (prs T i).2.1 T.length (fun c => ?_) (fun c => ?_)
          · have hn : ¬ (prs T i).2.1 < T.length := by omega
            simp only [if_neg hn, if_true] at q1
            refine q1 trivial σ (q + 1) k (by omega) e15 (fun _ _ => rfl) ⟨fun _ => ⟨by omega, hcm, ?_⟩, fun z => by rw [ep] at z; cases z⟩
            unfold nxt
            rw [if_neg d]
            exact HOLD_end (by omega) _
          · have hn : (prs T i).2.1 < T.length := by omega
            simp only [if_pos hn, if_neg d, if_true] at q0
            exact q0 _ rfl σ k e14
  have k2 : FC σ0 (u2 (u2 σ0 95 14 0) 95 15 0) := fun kk j c1 c2 => by rw [u2i, if_neg (by omega), u2i, if_neg (by omega)]
  refine rp_readsCommand hT (i := 0) (q := 0) (by omega) (by omega) ⟨h.fc k2, by rw [u2j _ _ _ (by decide), u2s]; rfl⟩ (u2s _ _ _ _) (fun τ f1 _ g14 gok => ⟨70, ?_⟩)
  exact key 69 0 0 τ rfl (by omega) (by omega) (k2.tr f1) g14 gok q0 (fun hf υ N c1 c2 c3 _ c5 => q1 hf υ N c1 c2 c3 c5)
theorem rp_does {T : List Int32} {i q : Nat} (hq : 4 * q + 3 < 144) (hp : (prs T i).1 = true) {g : Nat → Nat} {f : Nat → Nat → Nat} {σ : SS} (h : R0 g f σ) (ho : OkW g f) (hc : CM T i q (σ 102)) {Q : Int32 → SS → Prop} (qq : pQ σ Q (o_cmd g f (cdt T i) (prs T i).2.2.1 (prs T i).2.2.2.1 (prs T i).2.2.2.2)) : wp_X10_does σ (nI (4 * q)) Q := by
  unfold wp_X10_does
  rw [show nI (4 * q) + 1 = nI (4 * q + 1) from nI_add _ 1, show nI (4 * q) + 2 = nI (4 * q + 2) from nI_add _ 2, show nI (4 * q) + 3 = nI (4 * q + 3) from nI_add _ 3]
  refine ⟨pk_in (4 * q + 1) 144 (by omega), pk_in (4 * q + 2) 144 (by omega), pk_in (4 * q + 3) 144 (by omega), pk_in (4 * q) 144 (by omega), ?_⟩
  rw [pk_cl (x := nI (4 * q)) (4 * q), pk_cl (x := nI (4 * q + 1)) (4 * q + 1), pk_cl (x := nI (4 * q + 2)) (4 * q + 2), pk_cl (x := nI (4 * q + 3)) (4 * q + 3)]
  obtain ⟨h0, h1, h2⟩ := hc
  rw [h0]
  have hk := prs_in hp
  generalize cdt T i = c at *
  generalize (prs T i).2.2.1 = a at *
  generalize (prs T i).2.2.2.1 = b at *
  generalize (prs T i).2.2.2.2 = d at *
  rcases hk with rfl | rfl | rfl | rfl | rfl | rfl | rfl | rfl | rfl
  · rw [h1 (by decide)]
    exact br_t rfl (rp_tears h ho _ qq)
  · obtain ⟨e1, e2⟩ := h2 (Or.inl rfl)
    rw [h1 (by decide), e1, e2]
    exact br_f (by decide) (br_t rfl (rp_blinds h ho _ _ _ qq))
  · rw [h1 (by decide)]
    exact br_f (by decide) (br_f (by decide) (br_t rfl (rp_tellsHour h ho _ qq)))
  · rw [h1 (by decide)]
    exact br_f (by decide) (br_f (by decide) (br_f (by decide) (br_t rfl (rp_mans h ho _ _ qq))))
  · rw [h1 (by decide)]
    exact br_f (by decide) (br_f (by decide) (br_f (by decide) (br_f (by decide) (br_t rfl (rp_mans h ho _ _ qq)))))
  · rw [h1 (by decide)]
    exact br_f (by decide) (br_f (by decide) (br_f (by decide) (br_f (by decide) (br_f (by decide) (br_t rfl (rp_lets h ho _ qq))))))
  · obtain ⟨e1, e2⟩ := h2 (Or.inr (Or.inl rfl))
    rw [h1 (by decide), e1, e2]
    exact br_f (by decide) (br_f (by decide) (br_f (by decide) (br_f (by decide) (br_f (by decide) (br_f (by decide) (br_t rfl (rp_builds h ho _ _ _ qq)))))))
  · obtain ⟨e1, e2⟩ := h2 (Or.inr (Or.inr rfl))
    rw [h1 (by decide), e1, e2]
    exact br_f (by decide) (br_f (by decide) (br_f (by decide) (br_f (by decide) (br_f (by decide) (br_f (by decide) (br_f (by decide) (br_t rfl (rp_reaches h ho _ _ _ qq))))))))
  · exact br_f (by decide) (br_f (by decide) (br_f (by decide) (br_f (by decide) (br_f (by decide) (br_f (by decide) (br_f (by decide) (br_f (by decide) (rp_watching h ho qq))))))))
/-- what a text may change -/
def YK (σ τ : SS) : Prop := ∀ k j, ¬ (k = 95 ∧ ((4 ≤ j ∧ j ≤ 7) ∨ 13 ≤ j)) → k ≠ 96 → k ≠ 97 → k ≠ 99 → k ≠ 102 → τ k j = σ k j
def yQ (g : Nat → Nat) (f : Nat → Nat → Nat) (n : Nat) (H : Nat → WW) (σ : SS) (Q : Int32 → SS → Prop) (T : List Int32) : Prop := ∀ τ, YK σ τ → LN 95 13 101 [] τ → (match flt T 70 0 with
  | some e => R0 g f τ → HM n H τ → RF3 σ τ → Q (-100 - nI e) τ
  | none => match run T 70 0 0 (g, f) with
    | Sum.inl none => R0 g f τ → HM n H τ → RF3 σ τ → Q (-2) τ
    | Sum.inl (some (a, b, k)) => R0 g f τ → HM n H τ → τ 95 5 = a → τ 95 6 = b → τ 95 7 = nI k → Q (-3) τ
    | Sum.inr (m, w) => R0 w.1 w.2 τ → HM (pN n) (pH n H (g, f)) τ → RF3 σ τ → Q (nI m) τ)
/-- a text carried out -/
def sQ (σ : SS) (Q : Int32 → SS → Prop) (o : Run) (K : SS → Prop) (W : WW → SS → Prop) : Prop := match o with
  | Sum.inl none => ∀ τ, K τ → RF3 σ τ → Q (-2) τ
  | Sum.inl (some (a, b, k)) => ∀ τ, K τ → τ 95 5 = a → τ 95 6 = b → τ 95 7 = nI k → Q (-3) τ
  | Sum.inr (n, w) => ∀ τ, W w τ → RF3 σ τ → Q (nI n) τ
theorem rp_read {T : List Int32} (hT : TOK T) {g : Nat → Nat} {f : Nat → Nat → Nat} {n : Nat} {H : Nat → WW} {σ : SS} (h : R0 g f σ) (ho : OkW g f) (hn : n ≤ 8) (hH : HM n H σ) (hk : OkH n H) (hl : LN 95 13 101 T σ) {Q : Int32 → SS → Prop} (q : yQ g f n H σ Q T) : wp_X10_read σ Q := by
  unfold wp_X10_read
  unfold yQ at q
  refine rp_isText hT hl (fun e ef τ k e14 => br_t rfl ?_) (fun ef τ N k hN e15 hh => br_f (by decide) ?_)
  · have e14 : (u2 τ 95 13 0) 95 14 = nI e := by rw [u2j _ _ _ (by decide)]; exact e14
    rw [e14]
    have kk : ∀ a j, ¬ (a = 95 ∧ 13 ≤ j) → a ≠ 102 → (u2 τ 95 13 0) a j = σ a j := fun a j c1 c2 => by rw [u2i, if_neg (by omega)]; exact k a j (by omega) c2
    have q := q (u2 τ 95 13 0) (fun a j c1 _ _ _ c5 => kk a j (by omega) c5) (LN.nil 95 13 101 τ)
    rw [ef] at q
    exact q (h.cell fun j => kk 96 j (by omega) (by decide)) (hH.keep (kk 95 4 (by omega) (by decide)) (funext fun j => kk 99 j (by omega) (by decide))) ⟨kk 95 5 (by omega) (by decide), kk 95 6 (by omega) (by decide), kk 95 7 (by omega) (by decide)⟩
  · have kk : ∀ a j, ¬ (a = 95 ∧ 13 ≤ j) → a ≠ 102 → (u2 τ 95 13 0) a j = σ a j := fun a j c1 c2 => by rw [u2i, if_neg (by omega)]; exact k a j (by omega) c2
    have e15 : (u2 τ 95 13 0) 95 15 = nI N := by rw [u2j _ _ _ (by decide)]; exact e15
    have hh : HOLD T ((u2 τ 95 13 0) 102) N 70 0 0 := by rw [u2_ne _ _ _ (by decide)]; exact hh
    have hl0 : LN 95 13 101 [] (u2 τ 95 13 0) := LN.nil 95 13 101 τ
    generalize u2 τ 95 13 0 = τ0 at *
    refine rp_keeps (h.cell fun j => kk 96 j (by omega) (by decide)) ho fun σ3 k3 h97 => ?_
    have kk3 : ∀ a j, ¬ (a = 95 ∧ 13 ≤ j) → a ≠ 102 → a ≠ 97 → σ3 a j = σ a j := fun a j c1 c2 c3 => by rw [k3 a c3]; exact kk a j c1 c2
    have e15 : σ3 95 15 = nI N := by rw [k3 95 (by decide)]; exact e15
    have hh : HOLD T (σ3 102) N 70 0 0 := by rw [k3 102 (by decide)]; exact hh
    have hl3 : LN 95 13 101 [] σ3 := ⟨by rw [k3 95 (by decide)]; exact hl0.1, fun i hi => absurd hi (Nat.not_lt_zero i)⟩
    have rq : sQ σ Q (run T 70 0 0 (g, f)) (fun τ => YK σ τ ∧ LN 95 13 101 [] τ ∧ R0 g f τ ∧ HM n H τ) (fun w τ => YK σ τ ∧ LN 95 13 101 [] τ ∧ R0 w.1 w.2 τ ∧ HM (pN n) (pH n H (g, f)) τ) := by
      unfold sQ
      cases er : run T 70 0 0 (g, f) with
      | inl o =>
        cases o with
        | none =>
          intro τ a b
          have q := q τ a.1 a.2.1
          rw [ef, er] at q
          exact q a.2.2.1 a.2.2.2 b
        | some p =>
          obtain ⟨a1, a2, a3⟩ := p
          intro τ a b c d
          have q := q τ a.1 a.2.1
          rw [ef, er] at q
          exact q a.2.2.1 a.2.2.2 b c d
      | inr p =>
        obtain ⟨m, w⟩ := p
        intro τ a b
        have q := q τ a.1 a.2.1
        rw [ef, er] at q
        exact q a.2.2.1 a.2.2.2 b
    -- the loop
    have key : ∀ F p i υ (w : WW), F + p = 70 → HOLD T (υ 102) N F i p → (∀ a j, a ≠ 96 → υ a j = σ3 a j) → R0 w.1 w.2 υ → OkW w.1 w.2 → sQ σ Q (run T F i p w) (fun τ => YK σ τ ∧ LN 95 13 101 [] τ ∧ R0 g f τ ∧ HM n H τ) (fun w τ => YK σ τ ∧ LN 95 13 101 [] τ ∧ R0 w.1 w.2 τ ∧ HM (pN n) (pH n H (g, f)) τ) → Li (bd_X10_read_28 Q 1) (F + 1) υ (nI p) := by
      have done : ∀ p υ (w : WW) (rc : SS → Int32 → Prop), p = N → (∀ a j, a ≠ 96 → υ a j = σ3 a j) → R0 w.1 w.2 υ → (∀ τ, (YK σ τ ∧ LN 95 13 101 [] τ ∧ R0 w.1 w.2 τ ∧ HM (pN n) (pH n H (g, f)) τ) → RF3 σ τ → Q (nI p) τ) → bd_X10_read_28 Q 1 rc υ (nI p) := by
        intro p υ w rc hp ku hr rq
        unfold bd_X10_read_28
        rw [ku 95 15 (by decide), e15]
        refine br_t (by rw [nI_leI (by omega) (by omega)]; omega) ?_
        unfold wp_X10_ends
        have h97u : RM 97 0 g f υ := h97.keep (funext fun j => ku 97 j (by decide))
        have hHu : HM n H υ := hH.keep (by rw [ku 95 4 (by decide)]; exact kk3 95 4 (by omega) (by decide) (by decide)) (funext fun j => by rw [ku 99 j (by decide)]; exact kk3 99 j (by omega) (by decide) (by decide))
        refine br_f (nI_n0 (by omega)) (rp_changed hn hHu hk h97u ho fun ω c1 c2 => ?_)
        rw [← hp]
        have kw : ∀ a j, ¬ (a = 95 ∧ j = 4) → a ≠ 99 → a ≠ 96 → ω a j = σ3 a j := fun a j d1 d2 d3 => by rw [c1 a j d1 d2]; exact ku a j d3
        refine rq ω ⟨fun a j d1 d2 d3 d4 d5 => ?_, ⟨?_, fun i hi => absurd hi (Nat.not_lt_zero i)⟩, hr.cell fun j => c1 96 j (by omega) (by decide), c2⟩ ⟨?_, ?_, ?_⟩
        · rw [kw a j (by omega) d4 d2]; exact kk3 a j (by omega) d5 d3
        · rw [kw 95 13 (by omega) (by decide) (by decide)]; exact hl3.1
        · rw [kw 95 5 (by omega) (by decide) (by decide)]; exact kk3 95 5 (by omega) (by decide) (by decide)
        · rw [kw 95 6 (by omega) (by decide) (by decide)]; exact kk3 95 6 (by omega) (by decide) (by decide)
        · rw [kw 95 7 (by omega) (by decide) (by decide)]; exact kk3 95 7 (by omega) (by decide) (by decide)
      -- the walls back
      have back : ∀ υ (x : Int32) (r : Int32) (K : SS → Prop), (∀ a j, ¬ (a = 95 ∧ 5 ≤ j ∧ j ≤ 7) → a ≠ 96 → υ a j = σ3 a j) → (∀ τ, YK σ τ → LN 95 13 101 [] τ → R0 g f τ → HM n H τ → τ 95 5 = υ 95 5 → τ 95 6 = υ 95 6 → τ 95 7 = x → K τ) → wp_X10_copies 97 59 96 59 (u2 υ 95 7 x) 0 0 K := by
        intro υ x r K ku qk
        refine rp_copies (a := 0) (b := 0) (by decide) (by decide) (by decide) (by decide) (by decide) fun ω t => ?_
        have kw : ∀ a j, a ≠ 96 → ¬ (a = 95 ∧ j = 7) → ω a j = υ a j := fun a j d1 d2 => by rw [t, if_neg (by omega), u2i, if_neg d2]
        have kw3 : ∀ a j, a ≠ 96 → ¬ (a = 95 ∧ 5 ≤ j ∧ j ≤ 7) → ω a j = σ3 a j := fun a j d1 d2 => by rw [kw a j d1 (by omega)]; exact ku a j d2 d1
        refine qk ω (fun a j d1 d2 d3 d4 d5 => ?_) ⟨?_, fun i hi => absurd hi (Nat.not_lt_zero i)⟩ (RM.mv h97 ho.1 fun j hj => ?_) (hH.keep ?_ (funext fun j => ?_)) ?_ ?_ ?_
        · rw [kw3 a j d2 (by omega)]; exact kk3 a j (by omega) d5 d3
        · rw [kw3 95 13 (by decide) (by omega)]; exact hl3.1
        · rw [t, if_pos (by omega), u2k _ _ _ _ (by decide), ku 97 _ (by omega) (by decide)]
          congr 1
          omega
        · rw [kw3 95 4 (by decide) (by omega)]; exact kk3 95 4 (by omega) (by decide) (by decide)
        · rw [kw3 99 j (by decide) (by omega)]; exact kk3 99 j (by omega) (by decide) (by decide)
        · exact kw 95 5 (by decide) (by omega)
        · exact kw 95 6 (by decide) (by omega)
        · rw [t, if_neg (by omega), u2s]
      intro F
      induction F with
      | zero =>
        intro p i υ w hF hh ku hr how rq
        show bd_X10_read_28 Q 1 _ υ (nI p)
        exact done p υ w _ hh ku hr (fun τ a b => rq τ a b)
      | succ F ih =>
        intro p i υ w hF hh ku hr how rq
        show bd_X10_read_28 Q 1 (Li (bd_X10_read_28 Q 1) (F + 1)) υ (nI p)
        unfold run at rq
        cases ep : (prs T i).1 with
        | false =>
          rw [ep] at rq
          exact done p υ w _ (hh.2 ep) ku hr (fun τ a b => rq τ a b)
        | true =>
          rw [ep, if_pos rfl] at rq
          obtain ⟨hp, hcm, hrest⟩ := hh.1 ep
          unfold bd_X10_read_28
          rw [ku 95 15 (by decide), e15, show (4 : Int32) * nI p = nI (4 * p) from pk_mul 4 p, nI_1]
          refine br_f (nI_gt hp (by omega)) (rp_does (T := T) (i := i) (by omega) ep hr how hcm ?_)
          have hw := o_cmd_wf how (cdt T i) (prs T i).2.2.1 (prs T i).2.2.2.1 (prs T i).2.2.2.2
          have f3 : RF3 σ υ := ⟨by rw [ku 95 5 (by decide)]; exact kk3 95 5 (by omega) (by decide) (by decide), by rw [ku 95 6 (by decide)]; exact kk3 95 6 (by omega) (by decide) (by decide), by rw [ku 95 7 (by decide)]; exact kk3 95 7 (by omega) (by decide) (by decide)⟩
          generalize o_cmd w.1 w.2 (cdt T i) (prs T i).2.2.1 (prs T i).2.2.2.1 (prs T i).2.2.2.2 = o at *
          match o, hw, rq with
          | Sum.inl r, hw, rq =>
            have rq : ∀ τ, (YK σ τ ∧ LN 95 13 101 [] τ ∧ R0 g f τ ∧ HM n H τ) → RF3 σ τ → Q (-2) τ := rq
            refine br_f (i_not1 hw.1) (br_f hw.2 (back υ _ 0 _ (fun a j c1 c2 => ku a j c2) fun τ a b c d e5 e6 e7 => br_f hw.2 (rq τ ⟨a, b, c, d⟩ ⟨?_, ?_, ?_⟩)))
            · rw [e5]; exact f3.1
            · rw [e6]; exact f3.2.1
            · rw [e7]; exact f3.2.2
          | Sum.inr (Sum.inl (a, b)), _, rq =>
            have rq : ∀ τ, (YK σ τ ∧ LN 95 13 101 [] τ ∧ R0 g f τ ∧ HM n H τ) → τ 95 5 = a → τ 95 6 = b → τ 95 7 = nI p → Q (-3) τ := rq
            intro ω kw w5 w6 w7
            refine br_f (by decide) (br_t rfl (back ω _ 0 _ (fun a j c1 c2 => by rw [kw a j c1]; exact ku a j c2) fun τ a b c d e5 e6 e7 => br_t rfl (rq τ ⟨a, b, c, d⟩ (by rw [e5]; exact w5) (by rw [e6]; exact w6) e7)))
          | Sum.inr (Sum.inr (r, g', f')), hw, rq =>
            intro ω kw hr2
            refine br_t (nI_pos' hw.1) (ih (p + 1) (nxt T i) ω (g', f') (by omega) (by rw [show ω 102 = υ 102 from funext fun j => kw 102 j (by decide)]; exact hrest) (fun a j c => by rw [kw a j c]; exact ku a j c) hr2 hw.2 rq)
    exact ⟨_, key 70 0 0 σ3 (g, f) rfl hh (fun _ _ _ => rfl) (h.cell fun j => kk3 96 j (by omega) (by decide) (by decide)) ho rq⟩
