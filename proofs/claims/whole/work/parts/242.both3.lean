/-! class and reference side by side: a text -/
theorem run_ok {T : List Int32} {g : Nat → Nat} {f : Nat → Nat → Nat} (ho : OkW g f) {m : Nat} {w : WW} (h : run T 70 0 0 (g, f) = Sum.inr (m, w)) : OkW w.1 w.2 := by
  have key : ∀ F i q (v : WW), OkW v.1 v.2 → run T F i q v = Sum.inr (m, w) → OkW w.1 w.2 := by
    intro F
    induction F with
    | zero =>
      intro i q v hv e
      have e : (Sum.inr (q, v) : Run) = Sum.inr (m, w) := e
      cases e
      exact hv
    | succ F ih =>
      intro i q v hv e
      unfold run at e
      by_cases c : (prs T i).1 = true
      · rw [if_pos c] at e
        have hw := o_cmd_wf hv (cdt T i) (prs T i).2.2.1 (prs T i).2.2.2.1 (prs T i).2.2.2.2
        generalize o_cmd v.1 v.2 (cdt T i) (prs T i).2.2.1 (prs T i).2.2.2.1 (prs T i).2.2.2.2 = o at *
        match o, hw, e with
        | Sum.inl r, _, e => have e : (Sum.inl none : Run) = Sum.inr (m, w) := e; cases e
        | Sum.inr (Sum.inl (a, b)), _, e => have e : (Sum.inl (some (a, b, q)) : Run) = Sum.inr (m, w) := e; cases e
        | Sum.inr (Sum.inr (r, g', f')), hw, e => exact ih _ _ (g', f') hw.2 e
      · rw [if_neg c] at e
        cases e
        exact hv
  exact key 70 0 0 (g, f) ho h
theorem b_read {σ : SS} (h : INV σ) : wp_X9_read σ (bQ fun τ Q => wp_X10_read τ Q) := by
  obtain ⟨g, f, n, H, T, l, gs, fs, b, hp, h1, h2, h3, h4, h5, h6⟩ := h
  have hT := hp.2.2.2.1
  refine sp_read hT h1 hp.1 hp.2.1 h2 h5.1 h5.2.2.1 ?_
  intro τ k e11 e12 hln
  have ek : ∀ a, (15 ≤ a ∧ a ≤ 21) ∨ (91 ≤ a ∧ a ≠ 94) → τ a = σ a := fun a ha => k a (by unfold RK CK; omega)
  have r0 : R0 g f τ := h3.keep (ek 96 (by omega))
  have hm : HM n H τ := h4.keep (by rw [ek 95 (by omega)]) (ek 99 (by omega))
  obtain ⟨q1, q2, q3, q4, q5, q6, q7, q8, q9⟩ := h5
  have ln : LN 95 13 101 T τ := q6.keep (ek 95 (by omega)) (ek 101 (by omega))
  have rd : ∀ Q', yQ g f n H τ Q' T → wp_X10_read τ Q' := fun Q' q' => rp_read hT r0 hp.1 hp.2.1 hm hp.2.2.1 ln q'
  have pk : ∀ υ, YK τ υ → ∀ a, a ≤ 94 → υ a = τ a := fun υ k2 a ha => funext fun j => k2 a j (by omega) (by omega) (by omega) (by omega) (by omega)
  have pk2 : ∀ υ, YK τ υ → ∀ a j, (a = 95 ∧ (j = 8 ∨ j = 10)) ∨ a = 98 ∨ a = 100 → υ a j = σ a j := fun υ k2 a j ha => by rw [k2 a j (by omega) (by omega) (by omega) (by omega) (by omega), ek a (by omega)]
  have fin : ∀ (g' : Nat → Nat) (f' : Nat → Nat → Nat) (n' : Nat) (H' : Nat → WW) υ, YK τ υ → LN 95 13 101 [] υ → OkW g' f' → n' ≤ 8 → OkH n' H' → RC 1 g' f' τ → HC n' H' τ → R0 g' f' υ → HM n' H' υ → RFS υ → INV υ := by
    intro g' f' n' H' υ k2 l2 a1 a2 a3 a4 a5 a6 a7 a8
    refine ⟨g', f', n', H', [], l, gs, fs, b, ⟨a1, a2, a3, ⟨Nat.zero_le _, fun i hi => absurd hi (Nat.not_lt_zero i)⟩, hp.2.2.2.2⟩, a4.keep fun a _ _ => pk υ k2 a (by omega), a5.keep fun a ha => pk υ k2 a (by unfold HK at ha; omega), a6, a7, ⟨?_, ?_, ?_, ?_, ?_, l2, ?_, ?_, ?_⟩, a8⟩
    · exact hln.keep (pk υ k2 90 (by omega)) (pk υ k2 91 (by omega))
    · refine q2.keep ?_ ?_
      · rw [pk υ k2 92 (by omega), ek 92 (by omega)]
      · rw [pk υ k2 93 (by omega), ek 93 (by omega)]
    · rw [pk υ k2 0 (by omega)]; exact e12
    · rw [pk υ k2 0 (by omega), e11]; exact q4
    · exact fun z => (q5 z).keep fun a _ _ => by rw [pk υ k2 a (by omega), ek a (by omega)]
    · exact q7.cells (pk2 υ k2 95 10 (by omega)) fun i => pk2 υ k2 100 i (by omega)
    · rw [pk2 υ k2 95 8 (by omega)]; exact q8
    · exact fun z => (q9 z).cells fun j => pk2 υ k2 98 j (by omega)
  have rfs : ∀ υ, YK τ υ → τ 94 = σ 94 → RF3 τ υ → RFS υ := fun υ k2 e d => h6.keep (by rw [pk υ k2 94 (by omega), e]) (by
    obtain ⟨x1, x2, x3⟩ := d
    rw [ek 95 (by omega)] at x1 x2 x3
    exact ⟨x1, x2, x3⟩)
  cases ef : flt T 70 0 with
  | some e =>
    intro c1 c2 c3
    refine rd (fun r' υ => r' = _ ∧ INV υ) ?_
    intro υ k2 l2
    rw [ef]
    intro d1 d2 d3
    exact ⟨rfl, fin g f n H υ k2 l2 hp.1 hp.2.1 hp.2.2.1 c1 c2 d1 d2 (rfs υ k2 c3 d3)⟩
  | none =>
    cases er : run T 70 0 0 (g, f) with
    | inl o =>
      cases o with
      | none =>
        intro c1 c2 c3
        refine rd (fun r' υ => r' = _ ∧ INV υ) ?_
        intro υ k2 l2
        rw [ef, er]
        intro d1 d2 d3
        exact ⟨rfl, fin g f n H υ k2 l2 hp.1 hp.2.1 hp.2.2.1 c1 c2 d1 d2 (rfs υ k2 c3 d3)⟩
      | some p =>
        obtain ⟨a0, b0, k0⟩ := p
        intro c1 c2 e0 e1 e2
        refine rd (fun r' υ => r' = _ ∧ INV υ) ?_
        intro υ k2 l2
        rw [ef, er]
        intro d1 d2 x0 x1 x2
        refine ⟨rfl, fin g f n H υ k2 l2 hp.1 hp.2.1 hp.2.2.1 c1 c2 d1 d2 ⟨?_, fun _ => ⟨?_, ?_⟩⟩⟩
        · rw [pk υ k2 94 (by omega), e0, x0]
        · rw [pk υ k2 94 (by omega), e1, x1]
        · rw [pk υ k2 94 (by omega), e2, x2]
    | inr p =>
      obtain ⟨m, w⟩ := p
      intro c1 c2 c3
      refine rd (fun r' υ => r' = _ ∧ INV υ) ?_
      intro υ k2 l2
      rw [ef, er]
      intro d1 d2 d3
      exact ⟨rfl, fin w.1 w.2 (pN n) (pH n H (g, f)) υ k2 l2 (run_ok hp.1 er) pN_le (hp.2.2.1.add hp.1) c1 c2 d1 d2 (rfs υ k2 c3 d3)⟩
