/-! the class's state, as the law knows it -/
/-- built less torn down are there -/
def BT (g : Nat → Nat) : Prop := g 2 = g 0 + g 3
def OkH (n : Nat) (H : Nat → WW) : Prop := ∀ i, i < n → OkW (H i).1 (H i).2 ∧ BT (H i).1
theorem OkH.add {n : Nat} {H : Nat → WW} (h : OkH n H) {w : WW} (hw : OkW w.1 w.2 ∧ BT w.1) : OkH (pN n) (pH n H w) := by
  intro i hi
  unfold pN pH at *
  by_cases c : n < 8
  · simp only [if_pos c] at hi ⊢
    by_cases d : i = n
    · simp only [if_pos d]; exact hw
    · simp only [if_neg d]; exact h i (by omega)
  · simp only [if_neg c] at hi ⊢
    by_cases d : i = 7
    · simp only [if_pos d]; exact hw
    · simp only [if_neg d]; exact h (i + 1) (by omega)
theorem pN_pos (n : Nat) : 0 < pN n := by unfold pN; split <;> omega
theorem pH_top (n : Nat) (H : Nat → WW) (w : WW) : pH n H w (pN n - 1) = w := by
  unfold pH pN
  by_cases c : n < 8
  · simp only [if_pos c]
    rw [if_pos (by omega)]
  · rw [if_neg c, if_neg c]
    rfl
def SBk (sb : Option WW) (σ : SS) : Prop := match sb with
  | none => σ 0 11 = 0
  | some v => (OkW v.1 v.2 ∧ BT v.1) ∧ σ 0 11 = 1 ∧ RC 15 v.1 v.2 σ
theorem SBk.keep {sb : Option WW} {σ τ : SS} (h : SBk sb σ) (e11 : τ 0 11 = σ 0 11) (e : ∀ k, 15 ≤ k → k ≤ 21 → τ k = σ k) : SBk sb τ := by
  cases sb with
  | none => exact e11.trans h
  | some v => exact ⟨h.1, e11.trans h.2.1, h.2.2.keep fun k h1 h2 => e k h1 (by omega)⟩
def LA (w : WW) (n : Nat) (H : Nat → WW) (sb : Option WW) (T : List Int32) (σ : SS) : Prop :=
  ((OkW w.1 w.2 ∧ BT w.1) ∧ n ≤ 8 ∧ OkH n H ∧ TOK T) ∧ RC 1 w.1 w.2 σ ∧ HC n H σ ∧ LN 90 2 91 T σ ∧ σ 0 12 = -4 ∧ SBk sb σ
theorem TOK.nil : TOK [] := ⟨Nat.zero_le _, fun i h => absurd h (by simp)⟩
theorem LA.ok {w : WW} {n : Nat} {H : Nat → WW} {sb : Option WW} {T : List Int32} {σ : SS} (h : LA w n H sb T σ) : OkW w.1 w.2 := h.1.1.1
theorem LA.rc {w : WW} {n : Nat} {H : Nat → WW} {sb : Option WW} {T : List Int32} {σ : SS} (h : LA w n H sb T σ) : RC 1 w.1 w.2 σ := h.2.1
theorem LA.ak {w : WW} {n : Nat} {H : Nat → WW} {sb : Option WW} {T : List Int32} {σ τ : SS} (h : LA w n H sb T σ) (e : SB AK σ τ) : LA w n H sb T τ :=
  ⟨h.1, h.2.1.ak e, h.2.2.1.keep fun k hk => e k (by unfold HK at hk; unfold AK; omega), h.2.2.2.1.keep (e 90 (by unfold AK; omega)) (e 91 (by unfold AK; omega)), by rw [e 0 (by unfold AK; omega)]; exact h.2.2.2.2.1, h.2.2.2.2.2.keep (by rw [e 0 (by unfold AK; omega)]) fun k _ _ => e k (by unfold AK; omega)⟩
/-! small answers -/
def sm (r : Int32) : Prop := -200 ≤ r.toInt ∧ r.toInt ≤ 2000
theorem sm_nI {n : Nat} (h : n ≤ 2000) : sm (nI n) := by
  unfold sm
  rw [nI_toInt (by omega)]
  omega
theorem nI_n99 {n : Nat} (h : n < 2 ^ 31) : nI n ≠ -99 := fun e => by
  have h1 := congrArg Int32.toInt e
  rw [nI_toInt h, show (-99 : Int32).toInt = -99 from by decide] at h1
  omega
def DN (w : WW) (n : Nat) (H : Nat → WW) (sb : Option WW) (r : Int32) (τ : SS) : Prop := sm r ∧ r ≠ -99 ∧ ((r < 0 ∧ LA w n H sb [] τ) ∨ (¬ r < 0 ∧ ∃ w' : WW, LA w' (pN n) (pH n H w) sb [] τ))
def Out.sml (o : Out) (g : Nat → Nat) : Prop := match (o : Int32 ⊕ ((Int32 × Int32) ⊕ (Nat × (Nat → Nat) × (Nat → Nat → Nat)))) with
  | Sum.inl r => sm r ∧ r ≠ -99
  | Sum.inr (Sum.inl _) => True
  | Sum.inr (Sum.inr (r, g', _)) => r ≤ 2000 ∧ (BT g → BT g')
theorem sm_m1 : sm (-1) ∧ (-1 : Int32) ≠ -99 := by unfold sm; decide
theorem sm_m2 : sm (-2) ∧ (-2 : Int32) ≠ -99 := by unfold sm; decide
theorem LA.ck {w w' : WW} {n n' : Nat} {H H' : Nat → WW} {sb : Option WW} {T : List Int32} {σ τ : SS} (h : LA w n H sb T σ) (k : SB CK σ τ) (hw : OkW w'.1 w'.2 ∧ BT w'.1) (hn : n' ≤ 8) (hh : OkH n' H') (hr : RC 1 w'.1 w'.2 τ) (hc : HC n' H' τ) : LA w' n' H' sb T τ :=
  ⟨⟨hw, hn, hh, h.1.2.2.2⟩, hr, hc, h.2.2.2.1.keep (k 90 (by unfold CK; omega)) (k 91 (by unfold CK; omega)), by rw [k 0 (by unfold CK; omega)]; exact h.2.2.2.2.1, h.2.2.2.2.2.keep (by rw [k 0 (by unfold CK; omega)]) fun kk _ _ => k kk (by unfold CK; omega)⟩
theorem dn_of {w : WW} {n : Nat} {H : Nat → WW} {sb : Option WW} {σ : SS} (h : LA w n H sb [] σ) {o : Out} (hw : o.wf) (hs : o.sml w.1) {Q : Int32 → SS → Prop} (q : ∀ r τ, DN w n H sb r τ → Q r τ) : oF w.1 w.2 n H σ Q false o := by
  match o, hw, hs with
  | Sum.inl r, hw, hs => exact fun τ k hr hc e => q r τ ⟨hs.1, hs.2, Or.inl ⟨hw.1, h.ck k h.1.1 h.1.2.1 h.1.2.2.1 hr hc⟩⟩
  | Sum.inr (Sum.inl (a, b)), _, _ => exact fun τ k hr hc _ _ _ => q (-3) τ ⟨by unfold sm; decide, by decide, Or.inl ⟨by decide, h.ck k h.1.1 h.1.2.1 h.1.2.2.1 hr hc⟩⟩
  | Sum.inr (Sum.inr (r, g', f')), hw, hs => exact fun τ k hr hc _ => q (nI r) τ ⟨sm_nI hs.1, nI_n99 hw.1, Or.inr ⟨nI_n0 hw.1, (g', f'), h.ck k ⟨hw.2, hs.2 h.1.1.2⟩ pN_le (h.1.2.2.1.add h.1.1) hr hc⟩⟩
theorem o_post_sml {g : Nat → Nat} {f : Nat → Nat → Nat} (ho : OkW g f) (x y z : Int32) : (o_post g f x y z).sml g := by
  have h9 := ho.1
  unfold o_post
  cases ox x 24 with
  | none => exact sm_m1
  | some s => cases ox y 12 with
    | none => exact sm_m2
    | some l => cases ox z 12 with
      | none => exact sm_m2
      | some r =>
        show Out.sml (match pon g f s with | some p => .ref 2 (nI p) | none => if g 0 < 9 then .ok (g 0) (addG g) (addF g f s l r) else .ref 1 9) g
        cases pon g f s with
        | some p => exact trivial
        | none =>
          by_cases c : g 0 < 9
          · simp only [if_pos c]
            exact ⟨by omega, fun e => by
              show g 2 + 1 = (g 0 + 1) + g 3
              unfold BT at e; omega⟩
          · simp only [if_neg c]
            exact trivial
theorem o_tear_sml {g : Nat → Nat} {f : Nat → Nat → Nat} (ho : OkW g f) (x : Int32) : (o_tear g f x).sml g := by
  have h9 := ho.1
  unfold o_tear
  cases ex : ox x (g 0) with
  | none => exact sm_m1
  | some p => exact ⟨by omega, fun e => by
      have hp : p < g 0 := by
        rcases ox_c x (n := g 0) (by omega) with ⟨_, e2, _⟩ | ⟨_, _, e2, _⟩ | ⟨p2, h2, _, e2⟩
        · rw [e2] at ex; cases ex
        · rw [e2] at ex; cases ex
        · rw [e2] at ex; cases ex; exact h2
      show g 2 = (g 0 - 1) + (g 3 + 1)
      unfold BT at e; omega⟩
theorem o_reach_sml {g : Nat → Nat} {f : Nat → Nat → Nat} (ho : OkW g f) (x y z : Int32) : (o_reach g f x y z).sml g := by
  have h9 := ho.1
  unfold o_reach
  rcases ox_c x (n := g 0) (by omega) with ⟨_, e, _⟩ | ⟨_, _, e, _⟩ | ⟨p, hp, _, e⟩ <;> rw [e]
  · exact sm_m1
  · exact sm_m1
  obtain ⟨_, a1, a2, _⟩ := ho.2.2 p hp
  cases ox y 12 with
  | none => exact sm_m2
  | some l => cases ox z 12 with
    | none => exact sm_m2
    | some r =>
      by_cases c : f p 1 = l ∧ f p 2 = r
      · simp only [if_pos c]
        exact trivial
      · simp only [if_neg c]
        exact ⟨by omega, id⟩
theorem pc_2000 (x : Nat) : pc x ≤ 2000 := Nat.le_trans (pc_le x) (by decide)
theorem o_blind_sml {g : Nat → Nat} {f : Nat → Nat → Nat} (x y z : Int32) : (o_blind g f x y z).sml g := by
  unfold o_blind
  cases ox x (g 0) with
  | none => exact sm_m1
  | some p => cases ox y 24 with
    | none => exact sm_m1
    | some s => cases ox z 9 with
      | none => exact sm_m2
      | some n =>
        by_cases cn : n = 0
        · simp only [if_pos cn]
          exact sm_m2
        · by_cases c : f p 4 = n ∧ f p 3 = s
          · simp only [if_neg cn, if_pos c]
            exact trivial
          · simp only [if_neg cn, if_neg c]
            exact ⟨pc_2000 _, id⟩
theorem o_see_sml {g : Nat → Nat} {f : Nat → Nat → Nat} (x : Int32) : (o_see g f x).sml g := by
  unfold o_see
  cases ox x (g 0) with
  | none => exact sm_m1
  | some p =>
    by_cases c : f p 4 = 0
    · simp only [if_pos c]
      exact trivial
    · simp only [if_neg c]
      exact ⟨pc_2000 _, id⟩
theorem o_man_sml {g : Nat → Nat} {f : Nat → Nat → Nat} (x y : Int32) : (o_man g f x y).sml g := by
  unfold o_man
  cases ox x (g 0) with
  | none => exact sm_m1
  | some p => cases ox y 2 with
    | none => exact sm_m2
    | some b =>
      by_cases c : f p 5 = b
      · simp only [if_pos c]
        exact trivial
      · simp only [if_neg c]
        exact ⟨pc_2000 _, id⟩
theorem o_hour_sml {g : Nat → Nat} {f : Nat → Nat → Nat} (ho : OkW g f) (x : Int32) : (o_hour g f x).sml g := by
  have h12 := ho.2.1
  unfold o_hour
  cases ox x 12 with
  | none => exact sm_m2
  | some hh =>
    by_cases c : g 1 = hh
    · simp only [if_pos c]
      exact trivial
    · simp only [if_neg c]
      exact ⟨by omega, id⟩
theorem o_watch_sml {g : Nat → Nat} {f : Nat → Nat → Nat} : (o_watch g f).sml g := by
  unfold o_watch
  cases few (NR g f) (g 0) with
  | none => exact trivial
  | some t => exact ⟨pc_2000 _, id⟩
/-! each command -/
theorem d_post {w : WW} {n : Nat} {H : Nat → WW} {sb : Option WW} {σ : SS} (h : LA w n H sb [] σ) (x y z : Int32) : wp_X9_post σ x y z (DN w n H sb) := sp_post h.rc h.ok h.1.2.1 h.2.2.1 x y z (dn_of h (o_post_wf h.ok x y z) (o_post_sml h.ok x y z) fun _ _ d => d)
theorem d_tear {w : WW} {n : Nat} {H : Nat → WW} {sb : Option WW} {σ : SS} (h : LA w n H sb [] σ) (x : Int32) : wp_X9_tear σ x (DN w n H sb) := sp_tear h.rc h.ok h.1.2.1 h.2.2.1 x (dn_of h (o_tear_wf h.ok x) (o_tear_sml h.ok x) fun _ _ d => d)
theorem d_reach {w : WW} {n : Nat} {H : Nat → WW} {sb : Option WW} {σ : SS} (h : LA w n H sb [] σ) (x y z : Int32) : wp_X9_reach σ x y z (DN w n H sb) := sp_reach h.rc h.ok h.1.2.1 h.2.2.1 x y z (dn_of h (o_reach_wf h.ok x y z) (o_reach_sml h.ok x y z) fun _ _ d => d)
theorem d_blind {w : WW} {n : Nat} {H : Nat → WW} {sb : Option WW} {σ : SS} (h : LA w n H sb [] σ) (x y z : Int32) : wp_X9_blind σ x y z (DN w n H sb) := sp_blind h.rc h.ok h.1.2.1 h.2.2.1 x y z (dn_of h (o_blind_wf h.ok x y z) (o_blind_sml x y z) fun _ _ d => d)
theorem d_see {w : WW} {n : Nat} {H : Nat → WW} {sb : Option WW} {σ : SS} (h : LA w n H sb [] σ) (x : Int32) : wp_X9_see σ x (DN w n H sb) := sp_see h.rc h.ok h.1.2.1 h.2.2.1 x (dn_of h (o_see_wf h.ok x) (o_see_sml x) fun _ _ d => d)
theorem d_man {w : WW} {n : Nat} {H : Nat → WW} {sb : Option WW} {σ : SS} (h : LA w n H sb [] σ) (x y : Int32) : wp_X9_man σ x y (DN w n H sb) := sp_man h.rc h.ok h.1.2.1 h.2.2.1 x y (dn_of h (o_man_wf h.ok x y) (o_man_sml x y) fun _ _ d => d)
theorem d_hour {w : WW} {n : Nat} {H : Nat → WW} {sb : Option WW} {σ : SS} (h : LA w n H sb [] σ) (x : Int32) : wp_X9_hour σ x (DN w n H sb) := sp_hour h.rc h.ok h.1.2.1 h.2.2.1 x (dn_of h (o_hour_wf h.ok x) (o_hour_sml h.ok x) fun _ _ d => d)
theorem d_watch {w : WW} {n : Nat} {H : Nat → WW} {sb : Option WW} {σ : SS} (h : LA w n H sb [] σ) : wp_X9_watch σ (DN w n H sb) := sp_watch h.rc h.ok h.1.2.1 h.2.2.1 (dn_of h (o_watch_wf h.ok) o_watch_sml fun _ _ d => d)
/-! text -/
theorem flt_le {T : List Int32} (hT : TOK T) : ∀ F i e, i ≤ T.length → flt T F i = some e → e ≤ T.length := by
  intro F
  induction F with
  | zero => intro i e hi h; cases h; exact hi
  | succ F ih =>
    intro i e hi h
    have hb := (prs_b hT i).2.1 hi
    unfold flt at h
    split at h
    · split at h
      · next c =>
        split at h
        · exact ih _ _ (by omega) h
        · cases h; exact hb
      · cases h
    · cases h; exact hb
theorem sm_fault : ∀ e, e ≤ 70 → sm (-100 - nI e) ∧ (-100 - nI e : Int32) ≠ -99 ∧ (-100 - nI e : Int32) < 0 := by unfold sm; decide
theorem LA.rk {w w' : WW} {n n' : Nat} {H H' : Nat → WW} {sb : Option WW} {T : List Int32} {σ τ : SS} (h : LA w n H sb T σ) (k : SB RK σ τ) (e11 : τ 0 11 = σ 0 11) (e12 : τ 0 12 = -4) (hl : LN 90 2 91 [] τ) (hw : OkW w'.1 w'.2 ∧ BT w'.1) (hn : n' ≤ 8) (hh : OkH n' H') (hr : RC 1 w'.1 w'.2 τ) (hc : HC n' H' τ) : LA w' n' H' sb [] τ :=
  ⟨⟨hw, hn, hh, TOK.nil⟩, hr, hc, hl, e12, h.2.2.2.2.2.keep e11 fun kk _ _ => k kk (by unfold RK CK; omega)⟩
theorem o_cmd_sml {g : Nat → Nat} {f : Nat → Nat → Nat} (ho : OkW g f) (l : Int32) (a b c : Nat) : (o_cmd g f l a b c).sml g := by
  unfold o_cmd
  split
  · exact o_tear_sml ho _
  split
  · exact o_blind_sml _ _ _
  split
  · exact o_hour_sml ho _
  split
  · exact o_man_sml _ _
  split
  · exact o_man_sml _ _
  split
  · exact o_see_sml _
  split
  · exact o_post_sml ho _ _ _
  split
  · exact o_reach_sml ho _ _ _
  split
  · exact o_watch_sml
  · exact sm_m2
theorem run_ok (T : List Int32) : ∀ F i q w n w', (OkW w.1 w.2 ∧ BT w.1) → run T F i q w = Sum.inr (n, w') → OkW w'.1 w'.2 ∧ BT w'.1
  | 0, i, q, w, n, w', ho, h => by
    have h : (Sum.inr (q, w) : Run) = Sum.inr (n, w') := h
    cases h; exact ho
  | F + 1, i, q, w, n, w', ho, h => by
    unfold run at h
    have hwf := o_cmd_wf ho.1 (cdt T i) (prs T i).2.2.1 (prs T i).2.2.2.1 (prs T i).2.2.2.2
    have hsm := o_cmd_sml ho.1 (cdt T i) (prs T i).2.2.1 (prs T i).2.2.2.1 (prs T i).2.2.2.2
    by_cases c : (prs T i).1 = true
    · rw [if_pos c] at h
      generalize o_cmd w.1 w.2 (cdt T i) (prs T i).2.2.1 (prs T i).2.2.2.1 (prs T i).2.2.2.2 = o at *
      match o, hwf, hsm, h with
      | Sum.inl r, _, _, h => have h : (Sum.inl none : Run) = Sum.inr (n, w') := h; cases h
      | Sum.inr (Sum.inl (a, b)), _, _, h => have h : (Sum.inl (some (a, b, q)) : Run) = Sum.inr (n, w') := h; cases h
      | Sum.inr (Sum.inr (r, g', f')), hwf, hsm, h => exact run_ok T F _ (q + 1) (g', f') n w' ⟨hwf.2, hsm.2 ho.2⟩ h
    · rw [if_neg c] at h
      cases h; exact ho
theorem d_read {w : WW} {n : Nat} {H : Nat → WW} {sb : Option WW} {T : List Int32} {σ : SS} (h : LA w n H sb T σ) : wp_X9_read σ (DN w n H sb) := by
  have hT := h.1.2.2.2
  refine sp_read hT h.rc h.ok h.1.2.1 h.2.2.1 h.2.2.2.1 h.2.2.2.2.1 ?_
  intro τ k e11 e12 hl
  cases ef : flt T 70 0 with
  | some e =>
    intro hr hc _
    have he := flt_le hT 70 0 e (Nat.zero_le _) ef
    have hm := sm_fault e (Nat.le_trans he hT.1)
    exact ⟨hm.1, hm.2.1, Or.inl ⟨hm.2.2, h.rk k e11 e12 hl h.1.1 h.1.2.1 h.1.2.2.1 hr hc⟩⟩
  | none =>
    cases er : run T 70 0 0 (w.1, w.2) with
    | inl o =>
      cases o with
      | none => intro hr hc _; exact ⟨sm_m2.1, sm_m2.2, Or.inl ⟨by decide, h.rk k e11 e12 hl h.1.1 h.1.2.1 h.1.2.2.1 hr hc⟩⟩
      | some p =>
        obtain ⟨a, b, kk⟩ := p
        intro hr hc _ _ _
        exact ⟨by unfold sm; decide, by decide, Or.inl ⟨by decide, h.rk k e11 e12 hl h.1.1 h.1.2.1 h.1.2.2.1 hr hc⟩⟩
    | inr p =>
      obtain ⟨m, w'⟩ := p
      intro hr hc _
      have hm := run_le T 70 0 0 (w.1, w.2) m w' er
      exact ⟨sm_nI (by omega), nI_n99 (by omega), Or.inr ⟨nI_n0 (by omega), w', h.rk k e11 e12 hl (run_ok T 70 0 0 (w.1, w.2) m w' h.1.1 er) pN_le (h.1.2.2.1.add h.1.1) hr hc⟩⟩
theorem TOK.add {T : List Int32} (h : TOK T) (hl : T.length < 70) {c : Nat} (h1 : 32 ≤ c) (h2 : c ≤ 126) : TOK (T ++ [nI c]) := by
  refine ⟨by rw [List.length_append]; exact hl, fun i hi => ?_⟩
  rw [List.length_append] at hi
  have hi : i < T.length + 1 := hi
  by_cases d : i = T.length
  · subst d
    exact ⟨c, h1, h2, by simp [List.getD]⟩
  · obtain ⟨x, hx1, hx2, hx⟩ := h.2 i (by omega)
    exact ⟨x, hx1, hx2, by rw [← hx]; simp [List.getD, List.getElem?_append_left (show i < T.length by omega)]⟩
theorem d_append {w : WW} {n : Nat} {H : Nat → WW} {sb : Option WW} {T : List Int32} {σ : SS} (h : LA w n H sb T σ) (hl : T.length < 70) {c : Nat} (h1 : 32 ≤ c) (h2 : c ≤ 126) : wp_X9_append σ (nI c) (fun r τ => r = nI (T.length + 1) ∧ LA w n H sb (T ++ [nI c]) τ) := by
  have hc : c < 2 ^ 31 := by omega
  have c1 : ¬ nI c < 32 := by rw [show (32 : Int32) = nI 32 from rfl, nI_ltI hc (by decide)]; omega
  have c2 : nI c ≤ 126 := by rw [show (126 : Int32) = nI 126 from rfl, nI_leI hc (by decide)]; omega
  refine sp_append h.2.2.2.1 (by omega) (nI c) (fun d => ?_) (fun _ _ _ τ k hn => ⟨rfl, ⟨h.1.1, h.1.2.1, h.1.2.2.1, h.1.2.2.2.add hl h1 h2⟩, ?_, ?_, hn, ?_, ?_⟩)
  · rcases d with d | d | d
    · exact absurd d c1
    · exact absurd c2 d
    · omega
  · exact h.rc.keep fun kk _ _ => k kk (by unfold TK; omega)
  · exact h.2.2.1.keep fun kk hk => k kk (by unfold HK at hk; unfold TK; omega)
  · rw [k 0 (by unfold TK; omega)]; exact h.2.2.2.2.1
  · exact h.2.2.2.2.2.keep (by rw [k 0 (by unfold TK; omega)]) fun kk _ _ => k kk (by unfold TK; omega)
/-! undo, save, restore -/
theorem d_undo {w : WW} {n : Nat} {H : Nat → WW} {sb : Option WW} {T : List Int32} {σ : SS} (h : LA w n H sb T σ) (hn : 0 < n) : wp_X9_undo σ (fun r τ => r = nI (n - 1) ∧ LA (H (n - 1)) (n - 1) H sb T τ) := by
  have h8 := h.1.2.1
  refine sp_undo h.1.2.1 h.2.2.1 (fun c => absurd c (by omega)) fun τ _ k hr hc => ⟨rfl, ⟨h.1.2.2.1 _ (by omega), by omega, fun i hi => h.1.2.2.1 i (by omega), h.1.2.2.2⟩, hr, hc, ?_, ?_, ?_⟩
  · exact h.2.2.2.1.keep (k 90 (by omega)) (k 91 (by omega))
  · rw [k 0 (by omega)]; exact h.2.2.2.2.1
  · exact h.2.2.2.2.2.keep (by rw [k 0 (by omega)]) fun kk _ _ => k kk (by omega)
theorem d_save {w : WW} {n : Nat} {H : Nat → WW} {sb : Option WW} {T : List Int32} {σ : SS} (h : LA w n H sb T σ) : wp_X9_save σ (fun r τ => r = nI (w.1 0) ∧ LA w n H (some w) T τ) := by
  refine sp_save h.rc fun τ k hr e11 e12 => ⟨rfl, h.1, ?_, ?_, ?_, ?_, h.1.1, e11, hr⟩
  · exact h.rc.keep fun kk _ _ => k kk (by omega)
  · exact h.2.2.1.keep fun kk hk => k kk (by unfold HK at hk; omega)
  · exact h.2.2.2.1.keep (k 90 (by omega)) (k 91 (by omega))
  · rw [e12]; exact h.2.2.2.2.1
theorem d_restore {w v : WW} {n : Nat} {H : Nat → WW} {T : List Int32} {σ : SS} (h : LA w n H (some v) T σ) : wp_X9_restore σ (fun r τ => r = nI (v.1 0) ∧ LA v 0 H (some v) T τ) := by
  have hs := h.2.2.2.2.2
  refine sp_restore (H := H) true hs.2.1 (fun _ => hs.2.2) (fun c => absurd c (by decide)) fun _ τ k hr hc => ⟨rfl, ⟨hs.1, Nat.zero_le _, fun i hi => absurd hi (by omega), h.1.2.2.2⟩, hr, hc, ?_, ?_, ?_⟩
  · exact h.2.2.2.1.keep (k 90 (by omega)) (k 91 (by omega))
  · rw [k 0 (by omega)]; exact h.2.2.2.2.1
  · exact h.2.2.2.2.2.keep (by rw [k 0 (by omega)]) fun kk _ _ => k kk (by omega)
/-! questions -/
theorem d_account {w : WW} {n : Nat} {H : Nat → WW} {sb : Option WW} {T : List Int32} {σ : SS} (h : LA w n H sb T σ) (x : Int32) : wp_X9_account σ x (fun r τ => r = a_account w.1 w.2 (nI T.length) (nI n) x ∧ LA w n H sb T τ) := sp_account h.rc h.ok x fun τ k => ⟨by rw [h.2.2.2.1.1, h.2.2.1.1], h.ak k⟩
theorem d_postOf {w : WW} {n : Nat} {H : Nat → WW} {sb : Option WW} {T : List Int32} {σ : SS} (h : LA w n H sb T σ) (x y : Int32) : wp_X9_postOf σ x y (fun r τ => r = a_postOf w.1 w.2 x y ∧ LA w n H sb T τ) := sp_postOf h.rc h.ok x y fun τ k => ⟨rfl, h.ak k⟩
theorem d_spare {w : WW} {n : Nat} {H : Nat → WW} {sb : Option WW} {T : List Int32} {σ : SS} (h : LA w n H sb T σ) : wp_X9_spare σ (fun r τ => sm r ∧ LA w n H sb T τ) := sp_spare h.rc h.ok fun τ k => ⟨sm_nI (Nat.le_trans (Nat.sub_le _ _) (pc_2000 _)), h.ak k⟩
theorem d_next {w : WW} {n : Nat} {H : Nat → WW} {sb : Option WW} {T : List Int32} {σ : SS} (h : LA w n H sb T σ) : wp_X9_next σ (fun r τ => sm r ∧ LA w n H sb T τ) := sp_next h.rc h.ok fun τ k => ⟨by
  cases e : a_next w.1 w.2 (mns w.1 w.2) with
  | none => show sm (-4); unfold sm; decide
  | some p => have := (next_lt e).1; exact sm_nI (by omega), h.ak k⟩
theorem d_greedy {w : WW} {n : Nat} {H : Nat → WW} {sb : Option WW} {T : List Int32} {σ : SS} (h : LA w n H sb T σ) : wp_X9_greedy σ (fun r τ => sm r ∧ LA w n H sb T τ) := sp_greedy h.rc h.ok fun τ k => ⟨sm_nI (pc_2000 _), h.ak k⟩
theorem d_wouldNeed {w : WW} {n : Nat} {H : Nat → WW} {sb : Option WW} {T : List Int32} {σ : SS} (h : LA w n H sb T σ) (x : Int32) : wp_X9_wouldNeed σ x (fun r τ => sm r ∧ LA w n H sb T τ) := sp_wouldNeed h.rc h.ok x fun τ k => ⟨by
  unfold a_wouldNeed
  cases ox x 12 with
  | none => exact sm_m2.1
  | some hh =>
    show sm (match few (row w.1 w.2 hh) (w.1 0) with | none => -4 | some t => nI (pc t))
    cases few (row w.1 w.2 hh) (w.1 0) with
    | none => show sm (-4); unfold sm; decide
    | some t => exact sm_nI (pc_2000 _), h.ak k⟩
theorem d_wouldTurn {w : WW} {n : Nat} {H : Nat → WW} {sb : Option WW} {T : List Int32} {σ : SS} (h : LA w n H sb T σ) (x : Int32) : wp_X9_wouldTurn σ x (fun r τ => sm r ∧ LA w n H sb T τ) := sp_wouldTurn h.rc h.ok x fun τ k => ⟨by
  unfold a_wouldTurn
  cases ox x 24 with
  | none => exact sm_m2.1
  | some b => exact sm_nI (pc_2000 _), h.ak k⟩
theorem d_ranked {w : WW} {n : Nat} {H : Nat → WW} {sb : Option WW} {T : List Int32} {σ : SS} (h : LA w n H sb T σ) (x y : Int32) : wp_X9_ranked σ x y (fun r τ => sm r ∧ LA w n H sb T τ) := sp_ranked h.rc h.ok x y fun τ k => ⟨by
  have h9 := h.ok.1
  unfold a_ranked
  cases ox x 3 with
  | none => exact sm_m2.1
  | some o => cases ox y (w.1 0) with
    | none => exact sm_m1.1
    | some j =>
      show sm (o1 (a_at (a_key w.1 w.2 o) (w.1 0) j))
      cases e : a_at (a_key w.1 w.2 o) (w.1 0) j with
      | none => exact sm_m1.1
      | some p => have := (fnd_some e).1; exact sm_nI (by omega), h.ak k⟩
/-! what is seen -/
def sc (w : WW) (i : Nat) : Int32 := if i < 11 then a_account w.1 w.2 0 0 (nI i) else if 12 ≤ i ∧ (i - 12) / 8 < w.1 0 then a_postOf w.1 w.2 (nI ((i - 12) / 8)) (nI ((i - 12) % 8)) else 0
theorem a_account_lo (g : Nat → Nat) (f : Nat → Nat → Nat) (a b c d : Int32) {i : Nat} (hi : i < 11) : a_account g f a b (nI i) = a_account g f c d (nI i) := by
  unfold a_account
  rw [ox_in (show i < 13 by omega) (by decide)]
  have h1 : i ≠ 11 := by omega
  have h2 : i ≠ 12 := by omega
  simp only [if_neg h1, if_neg h2]
theorem a_account_0 (g : Nat → Nat) (f : Nat → Nat → Nat) (a b : Int32) : a_account g f a b 0 = nI (g 0) := by
  show a_account g f a b (nI 0) = _
  unfold a_account
  rw [ox_in (show 0 < 13 by omega) (by decide)]
  rfl
theorem a_account_11 (g : Nat → Nat) (f : Nat → Nat → Nat) (a b : Int32) : a_account g f a b 11 = a := by
  show a_account g f a b (nI 11) = _
  unfold a_account
  rw [ox_in (show 11 < 13 by omega) (by decide)]
  rfl
theorem a_account_12 (g : Nat → Nat) (f : Nat → Nat → Nat) (a b : Int32) : a_account g f a b 12 = b := by
  show a_account g f a b (nI 12) = _
  unfold a_account
  rw [ox_in (show 12 < 13 by omega) (by decide)]
  rfl
