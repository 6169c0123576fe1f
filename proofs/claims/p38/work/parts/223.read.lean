/-! the class: a text carried out -/
theorem sh1_b {T : List Int32} (hT : TOK T) (i : Nat) {n : Nat} (hn : n ≤ 2) : i ≤ (sh1 T i n).2.1 ∧ (i ≤ T.length → (sh1 T i n).2.1 ≤ T.length) := by
  have h := nb_ge hT n i 0
  unfold sh1
  split
  · exact ⟨Nat.le_refl _, fun z => z⟩
  · exact ⟨h.1, h.2.2.1⟩
theorem cd_in {T : List Int32} {i : Nat} {s : Int32} (h : cdt T i = s) (hs : s ≠ -1) : i < T.length := by
  unfold cdt at h
  by_cases c : i < T.length
  · exact c
  · rw [if_neg c] at h; exact absurd h.symm hs
theorem sh3c_b {T : List Int32} (hT : TOK T) (i a b : Nat) {n : Nat} (hn : n ≤ 2) : i ≤ (sh3c T i n a b).2.1 ∧ (i ≤ T.length → (sh3c T i n a b).2.1 ≤ T.length) := by
  have h := nb_ge hT n i 0
  unfold sh3c
  split
  · exact ⟨Nat.le_refl _, fun z => z⟩
  · exact ⟨h.1, h.2.2.1⟩
theorem sh3b_b {T : List Int32} (hT : TOK T) (i a : Nat) {n n3 : Nat} (hn : n ≤ 2) (hn3 : n3 ≤ 2) {s : Int32} (hs : s ≠ -1) : i ≤ (sh3b T i n s n3 a).2.1 ∧ (i ≤ T.length → (sh3b T i n s n3 a).2.1 ≤ T.length) := by
  have h := nb_ge hT n i 0
  have hh : i ≤ (NB T i n).1 ∧ (i ≤ T.length → (NB T i n).1 ≤ T.length) := ⟨h.1, h.2.2.1⟩
  unfold sh3b
  split
  · exact ⟨Nat.le_refl _, fun z => z⟩
  · split
    · next c =>
      have c := cd_in c hs
      have h2 := sh3c_b hT ((NB T i n).1 + 1) a (NB T i n).2 hn3
      exact ⟨by omega, fun z => h2.2 (by omega)⟩
    · exact hh
theorem sh3_b {T : List Int32} (hT : TOK T) (i : Nat) {n n2 n3 : Nat} (hn : n ≤ 2) (hn2 : n2 ≤ 2) (hn3 : n3 ≤ 2) {s s2 : Int32} (hs : s ≠ -1) (hs2 : s2 ≠ -1) : i ≤ (sh3 T i n s n2 s2 n3).2.1 ∧ (i ≤ T.length → (sh3 T i n s n2 s2 n3).2.1 ≤ T.length) := by
  have h := nb_ge hT n i 0
  have hh : i ≤ (NB T i n).1 ∧ (i ≤ T.length → (NB T i n).1 ≤ T.length) := ⟨h.1, h.2.2.1⟩
  unfold sh3
  split
  · exact ⟨Nat.le_refl _, fun z => z⟩
  · split
    · next c =>
      have c := cd_in c hs
      have h2 := sh3b_b hT ((NB T i n).1 + 1) (NB T i n).2 hn2 hn3 hs2
      exact ⟨by omega, fun z => h2.2 (by omega)⟩
    · exact hh
theorem prs_b {T : List Int32} (hT : TOK T) (i : Nat) : i ≤ (prs T i).2.1 ∧ (i ≤ T.length → (prs T i).2.1 ≤ T.length) ∧ ((prs T i).1 = true → i + 1 ≤ (prs T i).2.1 ∧ i < T.length) := by
  have go : ∀ P : Bool × Nat × Nat × Nat × Nat, ∀ c : Int32, c ≠ -1 → cdt T i = c → (i + 1 ≤ P.2.1 ∧ (i + 1 ≤ T.length → P.2.1 ≤ T.length)) → i ≤ P.2.1 ∧ (i ≤ T.length → P.2.1 ≤ T.length) ∧ (P.1 = true → i + 1 ≤ P.2.1 ∧ i < T.length) := by
    intro P c hc e h
    have hi := cd_in e hc
    exact ⟨by omega, fun _ => h.2 (by omega), fun _ => ⟨h.1, hi⟩⟩
  unfold prs
  split
  · next c => exact go _ _ (by decide) c (sh1_b hT (i + 1) (by decide))
  split
  · next c => exact go _ _ (by decide) c (sh3_b hT (i + 1) (by decide) (by decide) (by decide) (by decide) (by decide))
  split
  · next c => exact go _ _ (by decide) c (sh1_b hT (i + 1) (by decide))
  split
  · next c => exact go _ _ (by decide) c (sh1_b hT (i + 1) (by decide))
  split
  · next c => exact go _ _ (by decide) c (sh1_b hT (i + 1) (by decide))
  split
  · next c => exact go _ _ (by decide) c (sh1_b hT (i + 1) (by decide))
  split
  · next c => exact go _ _ (by decide) c (sh3_b hT (i + 1) (by decide) (by decide) (by decide) (by decide) (by decide))
  split
  · next c => exact go _ _ (by decide) c (sh3_b hT (i + 1) (by decide) (by decide) (by decide) (by decide) (by decide))
  split
  · next c => exact go _ _ (by decide) c ⟨Nat.le_refl _, fun z => z⟩
  · exact ⟨Nat.le_refl _, fun z => z, fun z => by cases z⟩
/-- the place of the text's fault -/
def flt (T : List Int32) : Nat → Nat → Option Nat
  | 0, i => some i
  | F + 1, i => if (prs T i).1 then (if (prs T i).2.1 < T.length then (if cdt T (prs T i).2.1 = 59 then flt T F ((prs T i).2.1 + 1) else some (prs T i).2.1) else none) else some (prs T i).2.1
def fQ (o : Option Nat) : Int32 := match o with
  | none => -1
  | some e => nI e
theorem sp_findFault {T : List Int32} (hT : TOK T) {σ0 : SS} (h : LN 90 2 91 T σ0) {Q : Int32 → SS → Prop} (q : ∀ τ, FT σ0 τ → Q (fQ (flt T 70 0)) τ) : wp_X7_findFault σ0 Q := by
  have hl := hT.1
  unfold wp_X7_findFault wp_X7_rewind
  have key : ∀ F v i σ, F + v = 70 → i ≤ T.length → FT σ0 σ → σ 90 1 = nI i → (∀ τ, FT σ0 τ → Q (fQ (flt T F i)) τ) → Li (bd_X7_findFault_6 Q) (F + 1) σ (nI v) := by
    intro F
    induction F with
    | zero =>
      intro v i σ hv hi k e q
      show bd_X7_findFault_6 Q _ σ (nI v)
      unfold bd_X7_findFault_6
      rw [show v = 70 by omega, e]
      exact br_t (by decide) (q σ k)
    | succ F ih =>
      intro v i σ hv hi k e q
      show bd_X7_findFault_6 Q (Li (bd_X7_findFault_6 Q) (F + 1)) σ (nI v)
      unfold bd_X7_findFault_6
      have hb := prs_b hT i
      have he := hb.2.1 hi
      unfold flt at q
      refine br_f (c_nle 70 (by omega)) (sp_takeCommand hT (by omega) ⟨h.f2 k, e⟩ fun τ k2 e2 _ => ?_)
      have k2 := k.tr k2
      cases ep : (prs T i).1 with
      | false =>
        rw [ep] at q
        rw [e2]
        exact br_t rfl (q τ k2)
      | true =>
        rw [ep] at q
        refine br_f (by decide) ?_
        rw [e2, (h.f2 k2).1, nI_ltI (by omega) (by omega)]
        by_cases c : (prs T i).2.1 < T.length
        · simp only [if_pos c, if_true] at q
          refine br_t c (sp_skip hT (by omega) ⟨h.f2 k2, e2⟩ (fun d _ => br_f (by decide) ?_) (fun d => br_t rfl ?_))
          · rw [if_pos d] at q
            rw [nI_1]
            exact ih (v + 1) _ _ (by omega) (by omega) (k2.u (by decide) _) (u2s _ _ _ _) q
          · have d : cdt T (prs T i).2.1 ≠ 59 := d.elim id (fun z => absurd z (by decide))
            rw [if_neg d] at q
            rw [e2]
            exact q τ k2
        · simp only [if_neg c, if_true] at q
          exact br_f c (q τ k2)
  exact ⟨_, key 70 0 0 _ rfl (by omega) (FT.u (fun _ _ _ => rfl) (by decide) _) (u2s _ _ _ _) q⟩
def o_cmd (g : Nat → Nat) (f : Nat → Nat → Nat) (l : Int32) (a b c : Nat) : Out :=
  if l = 45 then o_tear g f (nI a)
  else if l = 98 then o_blind g f (nI a) (nI b) (nI c)
  else if l = 104 then o_hour g f (nI a)
  else if l = 108 then o_man g f (nI a) 0
  else if l = 109 then o_man g f (nI a) 1
  else if l = 110 then o_see g f (nI a)
  else if l = 112 then o_post g f (nI a) (nI b) (nI c)
  else if l = 114 then o_reach g f (nI a) (nI b) (nI c)
  else if l = 119 then o_watch g f
  else .no (-2)
theorem o_cmd_wf {g : Nat → Nat} {f : Nat → Nat → Nat} (ho : OkW g f) (l : Int32) (a b c : Nat) : (o_cmd g f l a b c).wf := by
  unfold o_cmd
  split
  · exact o_tear_wf ho _
  split
  · exact o_blind_wf ho _ _ _
  split
  · exact o_hour_wf ho _
  split
  · exact o_man_wf ho _ _
  split
  · exact o_man_wf ho _ _
  split
  · exact o_see_wf ho _
  split
  · exact o_post_wf ho _ _ _
  split
  · exact o_reach_wf ho _ _ _
  split
  · exact o_watch_wf ho
  · exact ⟨by decide, by decide⟩
theorem sp_carryOut {g : Nat → Nat} {f : Nat → Nat → Nat} {σ : SS} (h : RC 1 g f σ) (ho : OkW g f) {l : Int32} {a b c : Nat} (hl : σ 90 3 = l) (ha : l ≠ 119 → σ 90 4 = nI a) (hbc : is3 l → σ 90 5 = nI b ∧ σ 90 6 = nI c) {Q : Int32 → SS → Prop} (q : ∀ z, oQ σ Q z (o_cmd g f l a b c)) : wp_X9_carryOut σ Q := by
  unfold wp_X9_carryOut
  rw [hl]
  unfold o_cmd at q
  refine br_c (fun c1 => ?_) (fun n1 => br_c (fun c2 => ?_) (fun n2 => br_c (fun c3 => ?_) (fun n3 => br_c (fun c4 => ?_) (fun n4 => br_c (fun c5 => ?_) (fun n5 => br_c (fun c6 => ?_) (fun n6 => br_c (fun c7 => ?_) (fun n7 => br_c (fun c8 => ?_) (fun n8 => br_c (fun c9 => ?_) (fun n9 => ?_)))))))))
  · rw [if_pos c1] at q
    rw [ha (by rw [c1]; decide)]
    exact sp_tearDown h ho _ (q false)
  · rw [if_neg n1, if_pos c2] at q
    rw [ha (by rw [c2]; decide), (hbc (Or.inl c2)).1, (hbc (Or.inl c2)).2]
    exact sp_tellBlind h ho _ _ _ (q true)
  · rw [if_neg n1, if_neg n2, if_pos c3] at q
    rw [ha (by rw [c3]; decide)]
    exact sp_tellHour h ho _ (q false)
  · rw [if_neg n1, if_neg n2, if_neg n3, if_pos c4] at q
    rw [ha (by rw [c4]; decide)]
    exact sp_letBe h ho _ _ (q true)
  · rw [if_neg n1, if_neg n2, if_neg n3, if_neg n4, if_pos c5] at q
    rw [ha (by rw [c5]; decide)]
    exact sp_letBe h ho _ _ (q true)
  · rw [if_neg n1, if_neg n2, if_neg n3, if_neg n4, if_neg n5, if_pos c6] at q
    rw [ha (by rw [c6]; decide)]
    exact sp_dropBlind h ho _ (q true)
  · rw [if_neg n1, if_neg n2, if_neg n3, if_neg n4, if_neg n5, if_neg n6, if_pos c7] at q
    rw [ha (by rw [c7]; decide), (hbc (Or.inr (Or.inl c7))).1, (hbc (Or.inr (Or.inl c7))).2]
    exact sp_buildPost h ho _ _ _ (q false)
  · rw [if_neg n1, if_neg n2, if_neg n3, if_neg n4, if_neg n5, if_neg n6, if_neg n7, if_pos c8] at q
    rw [ha (by rw [c8]; decide), (hbc (Or.inr (Or.inr c8))).1, (hbc (Or.inr (Or.inr c8))).2]
    exact sp_tellReaches h ho _ _ _ (q false)
  · rw [if_neg n1, if_neg n2, if_neg n3, if_neg n4, if_neg n5, if_neg n6, if_neg n7, if_neg n8, if_pos c9] at q
    exact sp_manFewest h ho (q false)
  · rw [if_neg n1, if_neg n2, if_neg n3, if_neg n4, if_neg n5, if_neg n6, if_neg n7, if_neg n8, if_neg n9] at q
    exact q false
abbrev Run : Type := (Option (Int32 × Int32 × Nat)) ⊕ (Nat × WW)
def rstep (o : Out) (q : Nat) (K : WW → Run) : Run := match (o : Int32 ⊕ ((Int32 × Int32) ⊕ (Nat × (Nat → Nat) × (Nat → Nat → Nat)))) with
  | Sum.inl _ => Sum.inl none
  | Sum.inr (Sum.inl (a, b)) => Sum.inl (some (a, b, q))
  | Sum.inr (Sum.inr (_, g', f')) => K (g', f')
def run (T : List Int32) : Nat → Nat → Nat → WW → Run
  | 0, _, q, w => Sum.inr (q, w)
  | F + 1, i, q, w => if (prs T i).1 then rstep (o_cmd w.1 w.2 (cdt T i) (prs T i).2.2.1 (prs T i).2.2.2.1 (prs T i).2.2.2.2) q (fun w' => run T F (if cdt T (prs T i).2.1 = 59 then (prs T i).2.1 + 1 else (prs T i).2.1) (q + 1) w') else Sum.inr (q, w)
/-- what a text carried out may change -/
def RF (σ τ : SS) : Prop := ∀ k j, ¬ ((k = 0 ∧ j = 12) ∨ IK k ∨ (k = 90 ∧ j ≠ 2) ∨ k = 94) → τ k j = σ k j
theorem RF.tr {σ τ υ : SS} (h : RF σ τ) (h2 : RF τ υ) : RF σ υ := fun k j z => (h2 k j z).trans (h k j z)
theorem FT.rf {σ τ : SS} (h : FT σ τ) : RF σ τ := fun k j z => h k j (by omega)
def rQ (σ : SS) (Q : Int32 → SS → Prop) (o : Run) : Prop := match o with
  | Sum.inl none => ∀ τ, RF σ τ → τ 94 = σ 94 → Q (-2) τ
  | Sum.inl (some (a, b, k)) => ∀ τ, RF σ τ → τ 94 0 = a → τ 94 1 = b → τ 94 2 = nI k → Q (-3) τ
  | Sum.inr (n, w) => ∀ τ, RF σ τ → τ 94 = σ 94 → RC 1 w.1 w.2 τ → Q (nI n) τ
theorem LN.rf {T : List Int32} {σ τ : SS} (h : LN 90 2 91 T σ) (k : RF σ τ) : LN 90 2 91 T τ := h.ft (k 90 2 (by unfold IK AK; omega)) (fun i => k 91 i (by unfold IK AK; omega))
theorem RC.cell {a : Nat} {g : Nat → Nat} {f : Nat → Nat → Nat} {σ τ : SS} (h : RC a g f σ) (e : ∀ k j, a ≤ k → k ≤ a + 6 → τ k j = σ k j) : RC a g f τ := h.keep fun k h1 h2 => funext fun j => e k j h1 h2
theorem rQ_fail {σ : SS} {Q : Int32 → SS → Prop} {n : Nat} {w : WW} (q : rQ σ Q (Sum.inr (n, w))) {τ : SS} (k : RF σ τ) (e : τ 94 = σ 94) (h : RC 1 w.1 w.2 τ) : Q (nI n) τ := q τ k e h
theorem sp_carryOutAll {T : List Int32} (hT : TOK T) {g : Nat → Nat} {f : Nat → Nat → Nat} {σ0 : SS} (h : LN 90 2 91 T σ0) (hr : RC 1 g f σ0) (ho : OkW g f) {Q : Int32 → SS → Prop} (q : rQ σ0 Q (run T 70 0 0 (g, f))) : wp_X9_carryOutAll σ0 Q := by
  have hl := hT.1
  unfold wp_X9_carryOutAll wp_X7_rewind
  have key : ∀ F v i σ (g : Nat → Nat) (f : Nat → Nat → Nat), F + v = 70 → i ≤ T.length → RF σ0 σ → σ 94 = σ0 94 → σ 90 1 = nI i → RC 1 g f σ → OkW g f → rQ σ0 Q (run T F i v (g, f)) → Lii (bd_X9_carryOutAll_11 Q) (F + 1) σ (nI v) (nI v) := by
    intro F
    induction F with
    | zero =>
      intro v i σ g f hv hi k e94 e hr ho q
      show bd_X9_carryOutAll_11 Q _ σ (nI v) (nI v)
      unfold bd_X9_carryOutAll_11
      have := rQ_fail q k e94 hr
      rw [show v = 70 by omega] at this ⊢
      exact br_t (by decide) this
    | succ F ih =>
      intro v i σ g f hv hi k e94 e hr ho q
      show bd_X9_carryOutAll_11 Q (Lii (bd_X9_carryOutAll_11 Q) (F + 1)) σ (nI v) (nI v)
      unfold bd_X9_carryOutAll_11
      have hb := prs_b hT i
      have he := hb.2.1 hi
      unfold run at q
      refine br_f (c_nle 70 (by omega)) (sp_takeCommand hT (by omega) ⟨h.rf k, e⟩ fun τ k2 e2 hv2 => ?_)
      have k3 := k.tr k2.rf
      have r2 : RC 1 g f τ := hr.cell fun kk j _ _ => k2 kk j (by omega)
      have e94 : τ 94 = σ0 94 := by rw [← e94]; funext j; exact k2 94 j (by omega)
      cases ep : (prs T i).1 with
      | false =>
        rw [ep] at q
        exact br_t rfl (rQ_fail q k3 e94 r2)
      | true =>
        rw [ep] at q
        obtain ⟨v3, v4, v56⟩ := hv2 ep
        refine br_f (by decide) ?_
        have k4 : RF σ0 (u2 τ 0 12 (nI v)) := fun kk j z => by rw [u2i, if_neg (by omega)]; exact k3 kk j z
        have r4 : RC 1 g f (u2 τ 0 12 (nI v)) := r2.cell fun kk j _ _ => by rw [u2k _ _ _ _ (by omega)]
        have p1 : (u2 τ 0 12 (nI v)) 90 1 = nI (prs T i).2.1 := by rw [u2k _ _ _ _ (by decide)]; exact e2
        have p0 : (u2 τ 0 12 (nI v)) 0 12 = nI v := u2s _ _ _ _
        have p94 : (u2 τ 0 12 (nI v)) 94 = σ0 94 := by rw [← e94]; funext j; rw [u2k _ _ _ _ (by decide)]
        refine sp_carryOut r4 ho (l := cdt T i) (a := (prs T i).2.2.1) (b := (prs T i).2.2.2.1) (c := (prs T i).2.2.2.2) (by rw [u2k _ _ _ _ (by decide)]; exact v3) (fun z => by rw [u2k _ _ _ _ (by decide)]; exact v4 z) (fun z => by rw [u2k _ _ _ _ (by decide), u2k _ _ _ _ (by decide)]; exact v56 z) fun z => ?_
        have hw := o_cmd_wf ho (cdt T i) (prs T i).2.2.1 (prs T i).2.2.2.1 (prs T i).2.2.2.2
        rw [if_pos rfl] at q
        have q : rQ σ0 Q (rstep (o_cmd g f (cdt T i) (prs T i).2.2.1 (prs T i).2.2.2.1 (prs T i).2.2.2.2) v (fun w' => run T F (if cdt T (prs T i).2.1 = 59 then (prs T i).2.1 + 1 else (prs T i).2.1) (v + 1) w')) := q
        generalize o_cmd g f (cdt T i) (prs T i).2.2.1 (prs T i).2.2.2.1 (prs T i).2.2.2.2 = o at *
        generalize u2 τ 0 12 (nI v) = τ4 at *
        match o, hw, q with
        | Sum.inl r, hw, q =>
          have q : ∀ τ, RF σ0 τ → τ 94 = σ0 94 → Q (-2) τ := q
          exact br_f (i_not1 hw.1) (br_f hw.2 (q τ4 k4 p94))
        | Sum.inr (Sum.inl (a, b)), _, q =>
          have q : ∀ τ, RF σ0 τ → τ 94 0 = a → τ 94 1 = b → τ 94 2 = nI v → Q (-3) τ := q
          intro υ k5 e0 e1 e2
          refine br_f (by decide) (br_t rfl (q υ (k4.tr fun kk j z => ?_) e0 e1 (by rw [e2, p0])))
          rw [k5 kk (fun c => z (c.elim (fun a => Or.inr (Or.inl (Or.inr a))) (fun b => Or.inr (Or.inr (Or.inr b)))))]
        | Sum.inr (Sum.inr (r, g', f')), hw, q =>
          have q : rQ σ0 Q (run T F (if cdt T (prs T i).2.1 = 59 then (prs T i).2.1 + 1 else (prs T i).2.1) (v + 1) (g', f')) := q
          intro υ k5 hr5
          have k6 : RF σ0 υ := k4.tr fun kk j z => by rw [k5 kk (fun c => z (Or.inr (Or.inl c)))]
          have e6 : υ 90 1 = nI (prs T i).2.1 := by rw [k5 90 (by unfold IK AK; omega)]; exact p1
          have e94 : υ 94 = σ0 94 := by rw [k5 94 (by unfold IK AK; omega)]; exact p94
          have hneg : (0 : Int32) ≤ (if z then 0 else nI r) := by
            cases z
            · exact nI_pos' hw.1
            · show (0 : Int32) ≤ 0; decide
          refine br_t hneg (sp_skip hT (by omega) ⟨h.rf k6, e6⟩ (fun d _ => ?_) (fun d => ?_))
          · have d2 := cd_in d (by decide)
            rw [if_pos d] at q
            rw [nI_1]
            exact ih (v + 1) _ _ g' f' (by omega) (by omega) (k6.tr fun kk j z => by rw [u2i, if_neg (by omega)]) (by rw [← e94]; funext j; rw [u2k _ _ _ _ (by decide)]) (u2s _ _ _ _) (hr5.cell fun kk j _ _ => by rw [u2k _ _ _ _ (by omega)]) hw.2 q
          · have d : cdt T (prs T i).2.1 ≠ 59 := d.elim id (fun z => absurd z (by decide))
            rw [if_neg d] at q
            rw [nI_1]
            exact ih (v + 1) _ _ g' f' (by omega) he k6 e94 e6 hr5 hw.2 q
  refine ⟨_, key 70 0 0 _ g f rfl (by omega) (fun kk j z => by rw [u2i, if_neg (by omega)]) (by funext j; rw [u2k _ _ _ _ (by decide)]) (u2s _ _ _ _) (hr.cell fun kk j _ _ => by rw [u2k _ _ _ _ (by omega)]) ho q⟩
/-- after a text -/
def RK (k : Nat) : Prop := CK k ∨ k = 90 ∨ k = 0
def xQ (g : Nat → Nat) (f : Nat → Nat → Nat) (n : Nat) (H : Nat → WW) (σ : SS) (Q : Int32 → SS → Prop) (T : List Int32) : Prop := ∀ τ, SB RK σ τ → τ 0 11 = σ 0 11 → τ 0 12 = -4 → LN 90 2 91 [] τ → (match flt T 70 0 with
  | some e => RC 1 g f τ → HC n H τ → τ 94 = σ 94 → Q (-100 - nI e) τ
  | none => match run T 70 0 0 (g, f) with
    | Sum.inl none => RC 1 g f τ → HC n H τ → τ 94 = σ 94 → Q (-2) τ
    | Sum.inl (some (a, b, k)) => RC 1 g f τ → HC n H τ → τ 94 0 = a → τ 94 1 = b → τ 94 2 = nI k → Q (-3) τ
    | Sum.inr (m, w) => RC 1 w.1 w.2 τ → HC (pN n) (pH n H (g, f)) τ → τ 94 = σ 94 → Q (nI m) τ)
theorem run_le (T : List Int32) : ∀ F i q w n w', run T F i q w = Sum.inr (n, w') → n ≤ q + F
  | 0, i, q, w, n, w', h => by
    have h : (Sum.inr (q, w) : Run) = Sum.inr (n, w') := h
    cases h; exact Nat.le_refl _
  | F + 1, i, q, w, n, w', h => by
    unfold run at h
    by_cases c : (prs T i).1 = true
    · rw [if_pos c] at h
      generalize o_cmd w.1 w.2 (cdt T i) (prs T i).2.2.1 (prs T i).2.2.2.1 (prs T i).2.2.2.2 = o at *
      match o, h with
      | Sum.inl r, h => have h : (Sum.inl none : Run) = Sum.inr (n, w') := h; cases h
      | Sum.inr (Sum.inl (a, b)), h => have h : (Sum.inl (some (a, b, q)) : Run) = Sum.inr (n, w') := h; cases h
      | Sum.inr (Sum.inr (r, g', f')), h =>
        have := run_le T F _ (q + 1) (g', f') n w' h
        omega
    · rw [if_neg c] at h
      cases h; omega
theorem sp_read {T : List Int32} (hT : TOK T) {g : Nat → Nat} {f : Nat → Nat → Nat} {n : Nat} {H : Nat → WW} {σ : SS} (h : RC 1 g f σ) (ho : OkW g f) (hn : n ≤ 8) (hH : HC n H σ) (hl : LN 90 2 91 T σ) (h12 : σ 0 12 = -4) {Q : Int32 → SS → Prop} (q : xQ g f n H σ Q T) : wp_X9_read σ Q := by
  unfold wp_X9_read
  unfold xQ at q
  refine sp_findFault hT hl fun τ k => ?_
  have rk : ∀ kk, kk ≠ 90 → τ kk = σ kk := fun kk hk => funext fun j => k kk j (Or.inl hk)
  have hr1 : RC 1 g f τ := h.keep fun kk _ _ => rk kk (by omega)
  have hH1 : HC n H τ := hH.keep fun kk hk => rk kk (by unfold HK at hk; omega)
  cases ef : flt T 70 0 with
  | some e =>
    rw [ef] at q
    have ne : ¬ (fQ (some e)) = -1 := by
      have hb : ∀ F i e, i ≤ T.length → flt T F i = some e → e ≤ T.length := by
        intro F
        induction F with
        | zero => intro i e hi h; cases h; exact hi
        | succ F ih =>
          intro i e hi h
          have hb := (prs_b hT i).2.1 hi
          unfold flt at h
          split at h
          · split at h
            · next c =>
              split at h
              · exact ih _ _ (by omega) h
              · cases h; exact hb
            · cases h
          · cases h; exact hb
      have := hb 70 0 e (by omega) ef
      have hl := hT.1
      exact nI_n1 (by omega)
    refine br_f ne ?_
    unfold wp_X7_clear
    refine q _ ?_ ?_ ?_ (LN.nil 90 2 91 τ) ?_ ?_ ?_
    · exact SB.w (fun kk hk => rk kk (by unfold RK at hk; omega)) (Or.inr (Or.inl rfl))
    · rw [u2k _ _ _ _ (by decide), rk 0 (by decide)]
    · rw [u2k _ _ _ _ (by decide), rk 0 (by decide)]; exact h12
    · exact hr1.cell fun kk j _ _ => by rw [u2k _ _ _ _ (by omega)]
    · exact hH1.keep fun kk hk => by funext j; rw [u2k _ _ _ _ (by unfold HK at hk; omega)]
    · funext j; rw [u2k _ _ _ _ (by decide), rk 94 (by decide)]
  | none =>
    rw [ef] at q
    refine br_t rfl (sp_copyFrom (by omega) hr1 fun τ2 k2 hr8 => ?_)
    have rk2 : ∀ kk, kk ≠ 90 → ¬ (8 ≤ kk ∧ kk ≤ 14) → τ2 kk = σ kk := fun kk h1 h2 => by rw [k2 kk (by omega)]; exact rk kk h1
    have hr2 : RC 1 g f τ2 := h.keep fun kk _ _ => rk2 kk (by omega) (by omega)
    have hH2 : HC n H τ2 := hH.keep fun kk hk => rk2 kk (by unfold HK at hk; omega) (by unfold HK at hk; omega)
    have hl2 : LN 90 2 91 T τ2 := (hl.f2 k).ft (by rw [k2 90 (by omega)]) (fun i => by rw [k2 91 (by omega)])
    refine sp_carryOutAll hT hl2 hr2 ho ?_
    -- not done: the walls back
    have bad : ∀ (r : Int32) υ, r < 0 → RF τ2 υ → (∀ ω, SB RK σ ω → ω 0 11 = σ 0 11 → ω 0 12 = -4 → LN 90 2 91 [] ω → RC 1 g f ω → HC n H ω → ω 94 = υ 94 → Q r ω) → wp_X9_kept υ r (fun r7 σ6 => ((0 ≤ r7 → wp_X7_clear (u2 σ6 0 12 (-4)) (fun σ8 => Q r7 σ8)) ∧ (¬ 0 ≤ r7 → wp_X8_copyFrom 1 8 σ6 (fun σ9 => wp_X7_clear (u2 σ9 0 12 (-4)) (fun σ10 => Q r7 σ10))))) := by
      intro r υ hneg kr qq
      unfold wp_X9_kept
      have r8 : RC 8 g f υ := hr8.cell fun kk j _ _ => kr kk j (by unfold IK AK; omega)
      refine br_t hneg (br_f (i_not1 hneg) (sp_copyFrom (by omega) r8 fun ω k3 hr3 => ?_))
      unfold wp_X7_clear
      refine qq _ ?_ ?_ ?_ (LN.nil 90 2 91 _) ?_ ?_ ?_
      · intro kk hk
        unfold RK CK at hk
        funext j
        rw [u2k _ _ _ _ (by omega), u2k _ _ _ _ (by omega), k3 kk (by omega), kr kk j (by unfold IK AK; omega), rk2 kk (by omega) (by omega)]
      · rw [u2k _ _ _ _ (by decide), u2j _ _ _ (by decide), k3 0 (by omega), kr 0 11 (by unfold IK AK; omega), rk2 0 (by omega) (by omega)]
      · rw [u2k _ _ _ _ (by decide), u2s]
      · exact hr3.cell fun kk j _ _ => by rw [u2k _ _ _ _ (by omega), u2k _ _ _ _ (by omega)]
      · refine hH2.keep fun kk hk => ?_
        unfold HK at hk
        funext j
        rw [u2k _ _ _ _ (by omega), u2k _ _ _ _ (by omega), k3 kk (by omega), kr kk j (by unfold IK AK; omega)]
      · funext j
        rw [u2k _ _ _ _ (by decide), u2k _ _ _ _ (by decide), k3 94 (by omega)]
    cases er : run T 70 0 0 (g, f) with
    | inl o =>
      cases o with
      | none =>
        rw [er] at q
        intro υ kr e94
        refine bad (-2) υ (by decide) kr fun ω a b c d e f' g' => q ω a b c d e f' ?_
        rw [g', e94, rk2 94 (by omega) (by omega)]
      | some p =>
        obtain ⟨a, b, kk⟩ := p
        rw [er] at q
        intro υ kr e0 e1 e2
        refine bad (-3) υ (by decide) kr fun ω a b c d e f' g' => q ω a b c d e f' ?_ ?_ ?_
        · rw [g', e0]
        · rw [g', e1]
        · rw [g', e2]
    | inr p =>
      obtain ⟨m, w⟩ := p
      rw [er] at q
      have hm := run_le T 70 0 0 (g, f) m w er
      intro υ kr e94 hrw
      have r8 : RC 8 g f υ := hr8.cell fun kk j _ _ => kr kk j (by unfold IK AK; omega)
      have hH3 : HC n H υ := hH2.keep fun kk hk => by
        unfold HK at hk
        funext j
        exact kr kk j (by unfold IK AK; omega)
      unfold wp_X9_kept
      refine br_f (nI_n0 (by omega)) (sp_keep hn hH3 r8 fun ω k3 hc => br_t (nI_pos' (by omega)) ?_)
      unfold wp_X7_clear
      refine q _ ?_ ?_ ?_ (LN.nil 90 2 91 _) ?_ ?_ ?_
      · intro kk hk
        unfold RK CK at hk
        funext j
        rw [u2k _ _ _ _ (by omega), u2k _ _ _ _ (by omega), k3 kk (by unfold HK; omega), kr kk j (by unfold IK AK; omega), rk2 kk (by omega) (by omega)]
      · rw [u2k _ _ _ _ (by decide), u2j _ _ _ (by decide), k3 0 (by unfold HK; omega), kr 0 11 (by unfold IK AK; omega), rk2 0 (by omega) (by omega)]
      · rw [u2k _ _ _ _ (by decide), u2s]
      · exact hrw.cell fun kk j _ _ => by rw [u2k _ _ _ _ (by omega), u2k _ _ _ _ (by omega), k3 kk (by unfold HK; omega)]
      · refine hc.keep fun kk hk => ?_
        unfold HK at hk
        funext j
        rw [u2k _ _ _ _ (by omega), u2k _ _ _ _ (by omega)]
      · funext j
        rw [u2k _ _ _ _ (by decide), u2k _ _ _ _ (by decide), k3 94 (by unfold HK; omega), e94, rk2 94 (by omega) (by omega)]
