/-! class and reference side by side: lines, text, account, past, snapshot -/
theorem INV.parts {g : Nat → Nat} {f : Nat → Nat → Nat} {n : Nat} {H : Nat → WW} {T' l' : List Int32} {gs : Nat → Nat} {fs : Nat → Nat → Nat} {b : Bool} {σ τ : SS} (hp : PUR g f n H T' l' gs fs b) (h1 : RC 1 g f σ) (h2 : HC n H σ) (h3 : R0 g f σ) (h4 : HM n H σ) (h5 : OT T' l' gs fs b τ) (h6 : RFS σ) (k : ∀ a j, (1 ≤ a ∧ a ≤ 14) ∨ (22 ≤ a ∧ a ≤ 79) ∨ a = 94 ∨ (a = 95 ∧ 4 ≤ j ∧ j ≤ 7) ∨ a = 96 ∨ a = 99 → τ a j = σ a j) : INV τ :=
  ⟨g, f, n, H, T', l', gs, fs, b, hp, h1.cell fun a j _ _ => k a j (by omega), h2.keep fun a ha => funext fun j => k a j (by unfold HK at ha; omega), h3.cell fun j => k 96 j (by omega), h4.keep (k 95 4 (by omega)) (funext fun j => k 99 j (by omega)), h5, h6.keep (funext fun j => k 94 j (by omega)) ⟨k 95 5 (by omega), k 95 6 (by omega), k 95 7 (by omega)⟩⟩
theorem b_describe {σ : SS} (h : INV σ) (x : Int32) : wp_X9_describe σ x (bQ fun τ Q => wp_X10_describe τ x Q) := by
  have hI := h
  obtain ⟨g, f, n, H, T, l, gs, fs, b, hp, h1, h2, h3, h4, h5, h6⟩ := h
  refine sp_describe h1 hp.1 x (fun e => ?_) (fun p e τ k hl => ?_)
  · exact rp_describe (Q := fun r' υ => r' = _ ∧ INV υ) h3 hp.1 x (fun _ => ⟨rfl, hI⟩) (fun p e2 => by rw [e] at e2; cases e2)
  · have r0 : R0 g f τ := h3.keep (k 96 (by unfold LK; omega))
    refine rp_describe (Q := fun r' υ => r' = _ ∧ INV υ) r0 hp.1 x (fun e2 => by rw [e] at e2; cases e2) (fun p2 e2 υ k2 hl2 => ?_)
    have ep : p2 = p := by rw [e] at e2; exact (Option.some.inj e2).symm
    subst ep
    have ka : ∀ a j, a ≠ 92 → a ≠ 93 → ¬ (a = 95 ∧ j = 10) → a ≠ 100 → υ a j = σ a j := fun a j c1 c2 c3 c4 => by rw [k2 a j c3 c4, k a (by unfold LK; omega)]
    have hd := dsc_le f p2
    obtain ⟨q1, q2, q3, q4, q5, q6, q7, q8, q9⟩ := h5
    refine ⟨rfl, INV.parts (T' := T) (l' := dsc f p2) (gs := gs) (fs := fs) (b := b) ⟨hp.1, hp.2.1, hp.2.2.1, hp.2.2.2.1, by omega, hp.2.2.2.2.2⟩ h1 h2 h3 h4 ⟨?_, ?_, ?_, ?_, ?_, ?_, hl2, ?_, ?_⟩ h6 (fun a j c => ka a j (by omega) (by omega) (by omega) (by omega))⟩
    · exact q1.cells (ka 90 2 (by decide) (by decide) (by decide) (by decide)) fun i => ka 91 i (by decide) (by decide) (by omega) (by decide)
    · exact hl.cells (k2 92 1 (by decide) (by decide)) fun i => k2 93 i (by omega) (by decide)
    · rw [ka 0 12 (by decide) (by decide) (by decide) (by decide)]; exact q3
    · rw [ka 0 11 (by decide) (by decide) (by decide) (by decide)]; exact q4
    · exact fun z => (q5 z).cell fun a j a1 a2 => ka a j (by omega) (by omega) (by omega) (by omega)
    · exact q6.cells (ka 95 13 (by decide) (by decide) (by decide) (by decide)) fun i => ka 101 i (by decide) (by decide) (by omega) (by decide)
    · rw [ka 95 8 (by decide) (by decide) (by decide) (by decide)]; exact q8
    · exact fun z => (q9 z).cells fun j => ka 98 j (by decide) (by decide) (by omega) (by decide)
theorem b_show {σ : SS} (h : INV σ) : wp_X9_show σ (bQ fun τ Q => wp_X10_show τ Q) := by
  obtain ⟨g, f, n, H, T, l, gs, fs, b, hp, h1, h2, h3, h4, h5, h6⟩ := h
  refine sp_show h1 hp.1 (fun τ k hl => ?_)
  have r0 : R0 g f τ := h3.keep (k 96 (by unfold LK AK; omega))
  refine rp_show (Q := fun r' υ => r' = _ ∧ INV υ) r0 hp.1 (fun υ k2 hl2 => ?_)
  have ka : ∀ a j, ¬ AK a → a ≠ 92 → a ≠ 93 → ¬ (a = 95 ∧ j = 10) → a ≠ 100 → υ a j = σ a j := fun a j c0 c1 c2 c3 c4 => by rw [k2 a j c3 c4, k a (by unfold LK; unfold AK at c0 ⊢; omega)]
  have hd := shw_len g f 24
  obtain ⟨q1, q2, q3, q4, q5, q6, q7, q8, q9⟩ := h5
  refine ⟨rfl, INV.parts (T' := T) (l' := shw g f 24) (gs := gs) (fs := fs) (b := b) ⟨hp.1, hp.2.1, hp.2.2.1, hp.2.2.2.1, by omega, hp.2.2.2.2.2⟩ h1 h2 h3 h4 ⟨?_, ?_, ?_, ?_, ?_, ?_, hl2, ?_, ?_⟩ h6 (fun a j c => ka a j (by unfold AK; omega) (by omega) (by omega) (by omega) (by omega))⟩
  · exact q1.cells (ka 90 2 (by unfold AK; omega) (by decide) (by decide) (by decide) (by decide)) fun i => ka 91 i (by unfold AK; omega) (by decide) (by decide) (by omega) (by decide)
  · exact hl.cells (k2 92 1 (by decide) (by decide)) fun i => k2 93 i (by omega) (by decide)
  · rw [ka 0 12 (by unfold AK; omega) (by decide) (by decide) (by decide) (by decide)]; exact q3
  · rw [ka 0 11 (by unfold AK; omega) (by decide) (by decide) (by decide) (by decide)]; exact q4
  · exact fun z => (q5 z).cell fun a j a1 a2 => ka a j (by unfold AK; omega) (by omega) (by omega) (by omega) (by omega)
  · exact q6.cells (ka 95 13 (by unfold AK; omega) (by decide) (by decide) (by decide) (by decide)) fun i => ka 101 i (by unfold AK; omega) (by decide) (by decide) (by omega) (by decide)
  · rw [ka 95 8 (by unfold AK; omega) (by decide) (by decide) (by decide) (by decide)]; exact q8
  · exact fun z => (q9 z).cells fun j => ka 98 j (by unfold AK; omega) (by decide) (by decide) (by omega) (by decide)
theorem b_sign {σ : SS} (h : INV σ) (x : Int32) : wp_X9_sign σ x (bQ fun τ Q => wp_X10_sign τ x Q) := by
  have hI := h
  obtain ⟨g, f, n, H, T, l, gs, fs, b, hp, h1, h2, h3, h4, h5, h6⟩ := h
  refine sp_sign h5.2.1 hp.2.2.2.2.1 x ?_
  exact rp_sign (Q := fun r' υ => r' = _ ∧ INV υ) h5.2.2.2.2.2.2.1 hp.2.2.2.2.1 x ⟨rfl, hI⟩
theorem TOK.add {T : List Int32} (h : TOK T) (hl : T.length < 70) {x : Int32} (h1 : ¬ x < 32) (h2 : x ≤ 126) : TOK (T ++ [x]) := by
  have z0 : (32 : Int32).toInt = 32 := rfl
  have z1 : (126 : Int32).toInt = 126 := rfl
  rw [Int32.lt_iff_toInt_lt] at h1
  rw [Int32.le_iff_toInt_le] at h2
  refine ⟨by rw [List.length_append, List.length_singleton]; omega, fun i hi => ?_⟩
  rw [List.length_append, List.length_singleton] at hi
  by_cases c : i < T.length
  · obtain ⟨d, d1, d2, d3⟩ := h.2 i c
    refine ⟨d, d1, d2, ?_⟩
    rw [List.getD_eq_getElem?_getD, List.getElem?_append_left c, ← List.getD_eq_getElem?_getD]
    exact d3
  · have ei : i = T.length := by omega
    subst ei
    obtain ⟨j, hj, ex⟩ := nI_of (x := x) (by rw [Int32.lt_iff_toInt_lt, show (0 : Int32).toInt = 0 from rfl]; omega)
    have hx := congrArg Int32.toInt ex
    rw [nI_toInt hj] at hx
    refine ⟨j, by omega, by omega, ?_⟩
    rw [List.getD_eq_getElem?_getD, List.getElem?_append_right (Nat.le_refl _), Nat.sub_self]
    exact ex
theorem b_append {σ : SS} (h : INV σ) (x : Int32) : wp_X9_append σ x (bQ fun τ Q => wp_X10_append τ x Q) := by
  have hI := h
  obtain ⟨g, f, n, H, T, l, gs, fs, b, hp, h1, h2, h3, h4, h5, h6⟩ := h
  have hT := hp.2.2.2.1
  obtain ⟨q1, q2, q3, q4, q5, q6, q7, q8, q9⟩ := h5
  refine sp_append q1 hT.1 x (fun c => ?_) (fun c1 c2 c3 τ k hl => ?_)
  · exact rp_append (Q := fun r' υ => r' = _ ∧ INV υ) q6 hT.1 x (fun _ => ⟨rfl, hI⟩) (fun d1 d2 d3 => by
      rcases c with c | c | c
      · exact absurd c d1
      · exact absurd d2 c
      · omega)
  · have q6' : LN 95 13 101 T τ := q6.keep (k 95 (by unfold TK; omega)) (k 101 (by unfold TK; omega))
    refine rp_append (Q := fun r' υ => r' = _ ∧ INV υ) q6' hT.1 x (fun d => ?_) (fun _ _ _ υ k2 hl2 => ?_)
    · exfalso
      rcases d with d | d | d
      · exact c1 d
      · exact d c2
      · omega
    · have ka : ∀ a j, a ≠ 90 → a ≠ 91 → ¬ (a = 95 ∧ j = 13) → a ≠ 101 → υ a j = σ a j := fun a j c1 c2 c3 c4 => by rw [k2 a j c3 c4, k a (by unfold TK; omega)]
      refine ⟨rfl, INV.parts (T' := T ++ [x]) (l' := l) (gs := gs) (fs := fs) (b := b) ⟨hp.1, hp.2.1, hp.2.2.1, hT.add c3 c1 c2, hp.2.2.2.2⟩ h1 h2 h3 h4 ⟨?_, ?_, ?_, ?_, ?_, hl2, ?_, ?_, ?_⟩ h6 (fun a j c => ka a j (by omega) (by omega) (by omega) (by omega))⟩
      · exact hl.cells (k2 90 2 (by decide) (by decide)) fun i => k2 91 i (by omega) (by decide)
      · exact q2.cells (ka 92 1 (by decide) (by decide) (by decide) (by decide)) fun i => ka 93 i (by decide) (by decide) (by omega) (by decide)
      · rw [ka 0 12 (by decide) (by decide) (by decide) (by decide)]; exact q3
      · rw [ka 0 11 (by decide) (by decide) (by decide) (by decide)]; exact q4
      · exact fun z => (q5 z).cell fun a j a1 a2 => ka a j (by omega) (by omega) (by omega) (by omega)
      · exact q7.cells (ka 95 10 (by decide) (by decide) (by decide) (by decide)) fun i => ka 100 i (by decide) (by decide) (by omega) (by decide)
      · rw [ka 95 8 (by decide) (by decide) (by decide) (by decide)]; exact q8
      · exact fun z => (q9 z).cells fun j => ka 98 j (by decide) (by decide) (by omega) (by decide)
theorem b_refusal {σ : SS} (h : INV σ) (x : Int32) : wp_X9_refusal σ x (bQ fun τ Q => wp_X10_refusal τ x Q) := by
  have hI := h
  obtain ⟨g, f, n, H, T, l, gs, fs, b, hp, h1, h2, h3, h4, h5, h6⟩ := h
  refine sp_refusal x (rp_refusal (Q := fun r' υ => r' = _ ∧ INV υ) x ⟨?_, hI⟩)
  obtain ⟨e0, e1⟩ := h6
  unfold a_refusal
  rw [← e0]
  by_cases c : σ 94 0 = 0
  · simp only [c, if_true]
  · obtain ⟨e1, e2⟩ := e1 c
    rw [e1, e2]
theorem b_account {σ : SS} (h : INV σ) (x : Int32) : wp_X9_account σ x (bQ fun τ Q => wp_X10_account τ x Q) := by
  obtain ⟨g, f, n, H, T, l, gs, fs, b, hp, h1, h2, h3, h4, h5, h6⟩ := h
  refine sp_account h1 hp.1 x fun τ k => ?_
  obtain ⟨i, r, m⟩ := INV.ak hp h1 h2 h3 h4 h5 h6 k
  refine rp_account (Q := fun r' υ => r' = _ ∧ INV υ) r hp.1 x ⟨?_, i⟩
  rw [k 95 (by unfold AK; omega), h5.1.1, h2.1, h4.1, h5.2.2.2.2.2.1.1]
theorem b_undo {σ : SS} (h : INV σ) : wp_X9_undo σ (bQ fun τ Q => wp_X10_undo τ Q) := by
  have hI := h
  obtain ⟨g, f, n, H, T, l, gs, fs, b, hp, h1, h2, h3, h4, h5, h6⟩ := h
  refine sp_undo hp.2.1 h2 (fun c => ?_) (fun τ c k hr hh => ?_)
  · exact rp_undo (Q := fun r' υ => r' = _ ∧ INV υ) hp.2.1 h4 hp.2.2.1 (fun _ => ⟨rfl, hI⟩) (fun τ d => by omega)
  · have m4 : HM n H τ := h4.keep (by rw [k 95 (by omega)]) (k 99 (by omega))
    refine rp_undo (Q := fun r' υ => r' = _ ∧ INV υ) hp.2.1 m4 hp.2.2.1 (fun d => by omega) (fun υ _ k2 r2 m2 => ?_)
    have ka : ∀ a j, ¬ ((1 ≤ a ∧ a ≤ 7) ∨ a = 22) → ¬ (a = 95 ∧ j = 4) → a ≠ 96 → υ a j = σ a j := fun a j c0 c1 c2 => by rw [k2 a j c1 c2, k a c0]
    have kb : ∀ a, a ≠ 95 → a ≠ 96 → υ a = τ a := fun a c1 c2 => funext fun j => k2 a j (by omega) c2
    refine ⟨rfl, _, _, n - 1, H, T, l, gs, fs, b, ⟨hp.2.2.1 (n - 1) (by omega), by have := hp.2.1; omega, fun i hi => hp.2.2.1 i (by omega), hp.2.2.2⟩, hr.keep fun a a1 a2 => kb a (by omega) (by omega), hh.keep fun a ha => kb a (by unfold HK at ha; omega) (by unfold HK at ha; omega), r2, m2, h5.keep fun a j ha => ka a j (by unfold OTK at ha; omega) (by unfold OTK at ha; omega) (by unfold OTK at ha; omega), h6.keep ?_ ⟨ka 95 5 (by omega) (by omega) (by omega), ka 95 6 (by omega) (by omega) (by omega), ka 95 7 (by omega) (by omega) (by omega)⟩⟩
    rw [kb 94 (by omega) (by omega), k 94 (by omega)]
theorem b_save {σ : SS} (h : INV σ) : wp_X9_save σ (bQ fun τ Q => wp_X10_save τ Q) := by
  obtain ⟨g, f, n, H, T, l, gs, fs, b, hp, h1, h2, h3, h4, h5, h6⟩ := h
  refine sp_save h1 fun τ k hs e11 e12 => ?_
  have r0 : R0 g f τ := h3.keep (k 96 (by omega))
  refine rp_save (Q := fun r' υ => r' = _ ∧ INV υ) r0 hp.1 fun υ k2 hs2 e8 => ?_
  have ka : ∀ a j, a ≠ 0 → ¬ (15 ≤ a ∧ a ≤ 21) → ¬ (a = 95 ∧ j = 8) → a ≠ 98 → υ a j = σ a j := fun a j c0 c1 c2 c3 => by rw [k2 a j c2 c3, k a (by omega)]
  obtain ⟨q1, q2, q3, q4, q5, q6, q7, q8, q9⟩ := h5
  refine ⟨rfl, INV.parts (T' := T) (l' := l) (gs := g) (fs := f) (b := true) ⟨hp.1, hp.2.1, hp.2.2.1, hp.2.2.2.1, hp.2.2.2.2.1, fun _ => hp.1⟩ h1 h2 h3 h4 ⟨?_, ?_, ?_, ?_, ?_, ?_, ?_, e8, fun _ => hs2⟩ h6 (fun a j c => ka a j (by omega) (by omega) (by omega) (by omega))⟩
  · exact q1.cells (ka 90 2 (by decide) (by omega) (by decide) (by decide)) fun i => ka 91 i (by decide) (by omega) (by omega) (by decide)
  · exact q2.cells (ka 92 1 (by decide) (by omega) (by decide) (by decide)) fun i => ka 93 i (by decide) (by omega) (by omega) (by decide)
  · rw [k2 0 12 (by decide) (by decide), e12]; exact q3
  · rw [k2 0 11 (by decide) (by decide)]; exact e11
  · exact fun _ => hs.cell fun a j a1 a2 => k2 a j (by omega) (by omega)
  · exact q6.cells (ka 95 13 (by decide) (by omega) (by decide) (by decide)) fun i => ka 101 i (by decide) (by omega) (by omega) (by decide)
  · exact q7.cells (ka 95 10 (by decide) (by omega) (by decide) (by decide)) fun i => ka 100 i (by decide) (by omega) (by omega) (by decide)
theorem b_restore {σ : SS} (h : INV σ) : wp_X9_restore σ (bQ fun τ Q => wp_X10_restore τ Q) := by
  have hI := h
  obtain ⟨g, f, n, H, T, l, gs, fs, b, hp, h1, h2, h3, h4, h5, h6⟩ := h
  obtain ⟨q1, q2, q3, q4, q5, q6, q7, q8, q9⟩ := h5
  refine sp_restore (H := H) b q4 q5 (fun c => ?_) (fun c τ k hr hh => ?_)
  · exact rp_restore (H := H) (Q := fun r' υ => r' = _ ∧ INV υ) b q8 q9 hp.2.2.2.2.2 (fun _ => ⟨rfl, hI⟩) (fun d => by rw [c] at d; cases d)
  · refine rp_restore (H := H) (Q := fun r' υ => r' = _ ∧ INV υ) b (by rw [k 95 (by omega)]; exact q8) (fun z => (q9 z).keep (k 98 (by omega))) hp.2.2.2.2.2 (fun d => by rw [c] at d; cases d) (fun _ υ k2 r2 m2 => ?_)
    have ka : ∀ a j, ¬ ((1 ≤ a ∧ a ≤ 7) ∨ a = 22) → ¬ (a = 95 ∧ j = 4) → a ≠ 96 → υ a j = σ a j := fun a j c0 c1 c2 => by rw [k2 a j c1 c2, k a c0]
    have kb : ∀ a, a ≠ 95 → a ≠ 96 → υ a = τ a := fun a c1 c2 => funext fun j => k2 a j (by omega) c2
    refine ⟨rfl, gs, fs, 0, H, T, l, gs, fs, b, ⟨hp.2.2.2.2.2 c, by omega, fun i hi => absurd hi (Nat.not_lt_zero i), hp.2.2.2⟩, hr.keep fun a a1 a2 => kb a (by omega) (by omega), hh.keep fun a ha => kb a (by unfold HK at ha; omega) (by unfold HK at ha; omega), r2, m2, OT.keep (σ := σ) ⟨q1, q2, q3, q4, q5, q6, q7, q8, q9⟩ fun a j ha => ka a j (by unfold OTK at ha; omega) (by unfold OTK at ha; omega) (by unfold OTK at ha; omega), h6.keep ?_ ⟨ka 95 5 (by omega) (by omega) (by omega), ka 95 6 (by omega) (by omega) (by omega), ka 95 7 (by omega) (by omega) (by omega)⟩⟩
    rw [kb 94 (by omega) (by omega), k 94 (by omega)]
