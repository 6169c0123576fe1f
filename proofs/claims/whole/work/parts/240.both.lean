/-! class and reference side by side: what holds between two calls -/
def OT (T l : List Int32) (gs : Nat → Nat) (fs : Nat → Nat → Nat) (b : Bool) (σ : SS) : Prop := LN 90 2 91 T σ ∧ LN 92 1 93 l σ ∧ σ 0 12 = -4 ∧ σ 0 11 = (if b then 1 else 0) ∧ (b = true → RC 15 gs fs σ) ∧ LN 95 13 101 T σ ∧ LN 95 10 100 l σ ∧ σ 95 8 = (if b then 1 else 0) ∧ (b = true → RM 98 0 gs fs σ)
def RFS (σ : SS) : Prop := σ 94 0 = σ 95 5 ∧ (σ 94 0 ≠ 0 → σ 94 1 = σ 95 6 ∧ σ 94 2 = σ 95 7)
def PUR (g : Nat → Nat) (f : Nat → Nat → Nat) (n : Nat) (H : Nat → WW) (T l : List Int32) (gs : Nat → Nat) (fs : Nat → Nat → Nat) (b : Bool) : Prop := OkW g f ∧ n ≤ 8 ∧ OkH n H ∧ TOK T ∧ l.length ≤ 24 ∧ (b = true → OkW gs fs)
def INV (σ : SS) : Prop := ∃ g f n H T l gs fs b, PUR g f n H T l gs fs b ∧ RC 1 g f σ ∧ HC n H σ ∧ R0 g f σ ∧ HM n H σ ∧ OT T l gs fs b σ ∧ RFS σ
theorem LN.cells {a j c : Nat} {l : List Int32} {σ τ : SS} (h : LN a j c l σ) (e1 : τ a j = σ a j) (e2 : ∀ i, τ c i = σ c i) : LN a j c l τ := ⟨by rw [e1]; exact h.1, fun i hi => by rw [e2]; exact h.2 i hi⟩
theorem RM.cells {c o : Nat} {g : Nat → Nat} {f : Nat → Nat → Nat} {σ τ : SS} (h : RM c o g f σ) (e : ∀ j, τ c j = σ c j) : RM c o g f τ := h.keep (funext e)
/-- the cells that OT speaks of -/
def OTK (k j : Nat) : Prop := (k = 90 ∧ j = 2) ∨ k = 91 ∨ (k = 92 ∧ j = 1) ∨ k = 93 ∨ (k = 0 ∧ (j = 11 ∨ j = 12)) ∨ (15 ≤ k ∧ k ≤ 21) ∨ (k = 95 ∧ (j = 8 ∨ j = 10 ∨ j = 13)) ∨ k = 98 ∨ k = 100 ∨ k = 101
theorem OT.keep {T l : List Int32} {gs : Nat → Nat} {fs : Nat → Nat → Nat} {b : Bool} {σ τ : SS} (h : OT T l gs fs b σ) (e : ∀ k j, OTK k j → τ k j = σ k j) : OT T l gs fs b τ := by
  obtain ⟨h1, h2, h3, h4, h5, h6, h7, h8, h9⟩ := h
  refine ⟨h1.cells (e _ _ ?_) fun i => e _ _ ?_, h2.cells (e _ _ ?_) fun i => e _ _ ?_, ?_, ?_, fun z => (h5 z).cell fun k j k1 k2 => e _ _ ?_, h6.cells (e _ _ ?_) fun i => e _ _ ?_, h7.cells (e _ _ ?_) fun i => e _ _ ?_, ?_, fun z => (h9 z).cells fun j => e _ _ ?_⟩
  · unfold OTK; omega
  · unfold OTK; omega
  · unfold OTK; omega
  · unfold OTK; omega
  · rw [e 0 12 (by unfold OTK; omega)]; exact h3
  · rw [e 0 11 (by unfold OTK; omega)]; exact h4
  · unfold OTK; omega
  · unfold OTK; omega
  · unfold OTK; omega
  · unfold OTK; omega
  · unfold OTK; omega
  · rw [e 95 8 (by unfold OTK; omega)]; exact h8
  · unfold OTK; omega
theorem RFS.keep {σ τ : SS} (h : RFS σ) (e0 : τ 94 = σ 94) (e : RF3 σ τ) : RFS τ := by
  unfold RFS at *
  rw [e0, e.1, e.2.1, e.2.2]
  exact h
theorem R0.keep {g : Nat → Nat} {f : Nat → Nat → Nat} {σ τ : SS} (h : R0 g f σ) (e : τ 96 = σ 96) : R0 g f τ := RM.keep h e
theorem INV.ak {g : Nat → Nat} {f : Nat → Nat → Nat} {n : Nat} {H : Nat → WW} {T l : List Int32} {gs : Nat → Nat} {fs : Nat → Nat → Nat} {b : Bool} {σ τ : SS} (hp : PUR g f n H T l gs fs b) (h1 : RC 1 g f σ) (h2 : HC n H σ) (h3 : R0 g f σ) (h4 : HM n H σ) (h5 : OT T l gs fs b σ) (h6 : RFS σ) (k : SB AK σ τ) : INV τ ∧ R0 g f τ ∧ HM n H τ := by
  have e : ∀ a, ¬ AK a → τ a = σ a := k
  have r0 : R0 g f τ := h3.keep (e 96 (by unfold AK; omega))
  have hm : HM n H τ := h4.keep (by rw [e 95 (by unfold AK; omega)]) (e 99 (by unfold AK; omega))
  refine ⟨⟨g, f, n, H, T, l, gs, fs, b, hp, h1.ak k, h2.keep fun a ha => e a (by unfold HK at ha; unfold AK; omega), r0, hm, h5.keep fun a j ha => by rw [e a (by unfold OTK at ha; unfold AK; omega)], h6.keep (e 94 (by unfold AK; omega)) ?_⟩, r0, hm⟩
  unfold RF3
  rw [e 95 (by unfold AK; omega)]
  exact ⟨rfl, rfl, rfl⟩
theorem cmd_both {g : Nat → Nat} {f : Nat → Nat → Nat} {n : Nat} {H : Nat → WW} {T l : List Int32} {gs : Nat → Nat} {fs : Nat → Nat → Nat} {b : Bool} {σ : SS} (hp : PUR g f n H T l gs fs b) (h3 : R0 g f σ) (h4 : HM n H σ) (h5 : OT T l gs fs b σ) (h6 : RFS σ) {o : Out} (hw : o.wf) {M : SS → (Int32 → SS → Prop) → Prop} (hM : ∀ τ Q, R0 g f τ → HM n H τ → pF g f n H τ Q o → M τ Q) : oF g f n H σ (fun r τ => M τ (fun r' υ => r' = r ∧ INV υ)) false o := by
  obtain ⟨p1, p2, p3, p4, p5, p6⟩ := hp
  have ek : ∀ τ, SB CK σ τ → ∀ a, a = 0 ∨ (15 ≤ a ∧ a ≤ 21) ∨ (90 ≤ a ∧ a ≠ 94) → τ a = σ a := fun τ k a ha => k a (by unfold CK; omega)
  have r0 : ∀ τ, SB CK σ τ → R0 g f τ := fun τ k => h3.keep (ek τ k 96 (by omega))
  have hm : ∀ τ, SB CK σ τ → HM n H τ := fun τ k => h4.keep (by rw [ek τ k 95 (by omega)]) (ek τ k 99 (by omega))
  have ot : ∀ τ υ, SB CK σ τ → PK τ υ → OT T l gs fs b υ := fun τ υ k k2 => h5.keep fun a j ha => by
    unfold OTK at ha
    rw [k2 a j (by omega) (by omega) (by omega) (by omega), ek τ k a (by omega)]
  have pk : ∀ τ υ, PK τ υ → ∀ a, (1 ≤ a ∧ a ≤ 94) → υ a = τ a := fun τ υ k a ha => by
    funext j
    exact k a j (by omega) (by omega) (by omega) (by omega)
  match o, hw with
  | Sum.inl r, _ =>
    intro τ k c1 c2 c3
    refine hM τ _ (r0 τ k) (hm τ k) ?_
    intro υ k2 d1 d2 d3
    refine ⟨rfl, g, f, n, H, T, l, gs, fs, b, ⟨p1, p2, p3, p4, p5, p6⟩, c1.keep fun a a1 a2 => pk τ υ k2 a (by omega), c2.keep fun a ha => pk τ υ k2 a (by unfold HK at ha; omega), d1, d2, ot τ υ k k2, h6.keep ?_ ?_⟩
    · rw [pk τ υ k2 94 (by omega), c3]
    · obtain ⟨x1, x2, x3⟩ := d3
      rw [ek τ k 95 (by omega)] at x1 x2 x3
      exact ⟨x1, x2, x3⟩
  | Sum.inr (Sum.inl (a0, b0)), _ =>
    intro τ k c1 c2 e0 e1 e2
    refine hM τ _ (r0 τ k) (hm τ k) ?_
    intro υ k2 d1 d2 x0 x1 x2
    refine ⟨rfl, g, f, n, H, T, l, gs, fs, b, ⟨p1, p2, p3, p4, p5, p6⟩, c1.keep fun a a1 a2 => pk τ υ k2 a (by omega), c2.keep fun a ha => pk τ υ k2 a (by unfold HK at ha; omega), d1, d2, ot τ υ k k2, ?_, fun _ => ⟨?_, ?_⟩⟩
    · rw [pk τ υ k2 94 (by omega), e0, x0]
    · rw [pk τ υ k2 94 (by omega), e1, x1]
    · rw [pk τ υ k2 94 (by omega), e2, x2]; exact h5.2.2.1
  | Sum.inr (Sum.inr (r, g', f')), hw =>
    intro τ k c1 c2 c3
    refine hM τ _ (r0 τ k) (hm τ k) ?_
    intro υ k2 d1 d2 d3
    refine ⟨rfl, g', f', pN n, pH n H (g, f), T, l, gs, fs, b, ⟨hw.2, pN_le, p3.add p1, p4, p5, p6⟩, c1.keep fun a a1 a2 => pk τ υ k2 a (by omega), c2.keep fun a ha => pk τ υ k2 a (by unfold HK at ha; omega), d1, d2, ot τ υ k k2, h6.keep ?_ ?_⟩
    · rw [pk τ υ k2 94 (by omega), c3]
    · obtain ⟨x1, x2, x3⟩ := d3
      rw [ek τ k 95 (by omega)] at x1 x2 x3
      exact ⟨x1, x2, x3⟩
/-- what a call of both leaves -/
def bQ (M : SS → (Int32 → SS → Prop) → Prop) : Int32 → SS → Prop := fun r τ => M τ (fun r' υ => r' = r ∧ INV υ)
theorem b_post {σ : SS} (h : INV σ) (x y z : Int32) : wp_X9_post σ x y z (bQ fun τ Q => wp_X10_post τ x y z Q) := by
  obtain ⟨g, f, n, H, T, l, gs, fs, b, hp, h1, h2, h3, h4, h5, h6⟩ := h
  exact sp_post h1 hp.1 hp.2.1 h2 x y z (cmd_both hp h3 h4 h5 h6 (o_post_wf hp.1 x y z) (fun τ Q r m q => rp_post r hp.1 hp.2.1 m hp.2.2.1 x y z q))
theorem b_tear {σ : SS} (h : INV σ) (x : Int32) : wp_X9_tear σ x (bQ fun τ Q => wp_X10_tear τ x Q) := by
  obtain ⟨g, f, n, H, T, l, gs, fs, b, hp, h1, h2, h3, h4, h5, h6⟩ := h
  exact sp_tear h1 hp.1 hp.2.1 h2 x (cmd_both hp h3 h4 h5 h6 (o_tear_wf hp.1 x) (fun τ Q r m q => rp_tear r hp.1 hp.2.1 m hp.2.2.1 x q))
theorem b_reach {σ : SS} (h : INV σ) (x y z : Int32) : wp_X9_reach σ x y z (bQ fun τ Q => wp_X10_reach τ x y z Q) := by
  obtain ⟨g, f, n, H, T, l, gs, fs, b, hp, h1, h2, h3, h4, h5, h6⟩ := h
  exact sp_reach h1 hp.1 hp.2.1 h2 x y z (cmd_both hp h3 h4 h5 h6 (o_reach_wf hp.1 x y z) (fun τ Q r m q => rp_reach r hp.1 hp.2.1 m hp.2.2.1 x y z q))
theorem b_blind {σ : SS} (h : INV σ) (x y z : Int32) : wp_X9_blind σ x y z (bQ fun τ Q => wp_X10_blind τ x y z Q) := by
  obtain ⟨g, f, n, H, T, l, gs, fs, b, hp, h1, h2, h3, h4, h5, h6⟩ := h
  exact sp_blind h1 hp.1 hp.2.1 h2 x y z (cmd_both hp h3 h4 h5 h6 (o_blind_wf hp.1 x y z) (fun τ Q r m q => rp_blind r hp.1 hp.2.1 m hp.2.2.1 x y z q))
theorem b_see {σ : SS} (h : INV σ) (x : Int32) : wp_X9_see σ x (bQ fun τ Q => wp_X10_see τ x Q) := by
  obtain ⟨g, f, n, H, T, l, gs, fs, b, hp, h1, h2, h3, h4, h5, h6⟩ := h
  exact sp_see h1 hp.1 hp.2.1 h2 x (cmd_both hp h3 h4 h5 h6 (o_see_wf hp.1 x) (fun τ Q r m q => rp_see r hp.1 hp.2.1 m hp.2.2.1 x q))
theorem b_man {σ : SS} (h : INV σ) (x y : Int32) : wp_X9_man σ x y (bQ fun τ Q => wp_X10_man τ x y Q) := by
  obtain ⟨g, f, n, H, T, l, gs, fs, b, hp, h1, h2, h3, h4, h5, h6⟩ := h
  exact sp_man h1 hp.1 hp.2.1 h2 x y (cmd_both hp h3 h4 h5 h6 (o_man_wf hp.1 x y) (fun τ Q r m q => rp_man r hp.1 hp.2.1 m hp.2.2.1 x y q))
theorem b_hour {σ : SS} (h : INV σ) (x : Int32) : wp_X9_hour σ x (bQ fun τ Q => wp_X10_hour τ x Q) := by
  obtain ⟨g, f, n, H, T, l, gs, fs, b, hp, h1, h2, h3, h4, h5, h6⟩ := h
  exact sp_hour h1 hp.1 hp.2.1 h2 x (cmd_both hp h3 h4 h5 h6 (o_hour_wf hp.1 x) (fun τ Q r m q => rp_hour r hp.1 hp.2.1 m hp.2.2.1 x q))
theorem b_watch {σ : SS} (h : INV σ) : wp_X9_watch σ (bQ fun τ Q => wp_X10_watch τ Q) := by
  obtain ⟨g, f, n, H, T, l, gs, fs, b, hp, h1, h2, h3, h4, h5, h6⟩ := h
  exact sp_watch h1 hp.1 hp.2.1 h2 (cmd_both hp h3 h4 h5 h6 (o_watch_wf hp.1) (fun τ Q r m q => rp_watch r hp.1 hp.2.1 m hp.2.2.1 q))
theorem b_postOf {σ : SS} (h : INV σ) (x y : Int32) : wp_X9_postOf σ x y (bQ fun τ Q => wp_X10_postOf τ x y Q) := by
  obtain ⟨g, f, n, H, T, l, gs, fs, b, hp, h1, h2, h3, h4, h5, h6⟩ := h
  refine sp_postOf h1 hp.1 x y fun τ k => ?_
  obtain ⟨i, r, m⟩ := INV.ak hp h1 h2 h3 h4 h5 h6 k
  exact rp_postOf (Q := fun r' υ => r' = _ ∧ INV υ) r hp.1 x y ⟨rfl, i⟩
theorem b_sees {σ : SS} (h : INV σ) (x y : Int32) : wp_X9_sees σ x y (bQ fun τ Q => wp_X10_sees τ x y Q) := by
  obtain ⟨g, f, n, H, T, l, gs, fs, b, hp, h1, h2, h3, h4, h5, h6⟩ := h
  refine sp_sees h1 hp.1 x y fun τ k => ?_
  obtain ⟨i, r, m⟩ := INV.ak hp h1 h2 h3 h4 h5 h6 k
  exact rp_sees (Q := fun r' υ => r' = _ ∧ INV υ) r hp.1 x y ⟨rfl, i⟩
theorem b_gapOf {σ : SS} (h : INV σ) (x y : Int32) : wp_X9_gapOf σ x y (bQ fun τ Q => wp_X10_gapOf τ x y Q) := by
  obtain ⟨g, f, n, H, T, l, gs, fs, b, hp, h1, h2, h3, h4, h5, h6⟩ := h
  refine sp_gapOf h1 hp.1 x y fun τ k => ?_
  obtain ⟨i, r, m⟩ := INV.ak hp h1 h2 h3 h4 h5 h6 k
  exact rp_gapOf (Q := fun r' υ => r' = _ ∧ INV υ) r hp.1 x y ⟨rfl, i⟩
theorem b_ranked {σ : SS} (h : INV σ) (x y : Int32) : wp_X9_ranked σ x y (bQ fun τ Q => wp_X10_ranked τ x y Q) := by
  obtain ⟨g, f, n, H, T, l, gs, fs, b, hp, h1, h2, h3, h4, h5, h6⟩ := h
  refine sp_ranked h1 hp.1 x y fun τ k => ?_
  obtain ⟨i, r, m⟩ := INV.ak hp h1 h2 h3 h4 h5 h6 k
  exact rp_ranked (Q := fun r' υ => r' = _ ∧ INV υ) r hp.1 x y ⟨rfl, i⟩
theorem b_watched {σ : SS} (h : INV σ) (x : Int32) : wp_X9_watched σ x (bQ fun τ Q => wp_X10_watched τ x Q) := by
  obtain ⟨g, f, n, H, T, l, gs, fs, b, hp, h1, h2, h3, h4, h5, h6⟩ := h
  refine sp_watched h1 hp.1 x fun τ k => ?_
  obtain ⟨i, r, m⟩ := INV.ak hp h1 h2 h3 h4 h5 h6 k
  exact rp_watched (Q := fun r' υ => r' = _ ∧ INV υ) r hp.1 x ⟨rfl, i⟩
theorem b_seenBy {σ : SS} (h : INV σ) (x : Int32) : wp_X9_seenBy σ x (bQ fun τ Q => wp_X10_seenBy τ x Q) := by
  obtain ⟨g, f, n, H, T, l, gs, fs, b, hp, h1, h2, h3, h4, h5, h6⟩ := h
  refine sp_seenBy h1 hp.1 x fun τ k => ?_
  obtain ⟨i, r, m⟩ := INV.ak hp h1 h2 h3 h4 h5 h6 k
  exact rp_seenBy (Q := fun r' υ => r' = _ ∧ INV υ) r hp.1 x ⟨rfl, i⟩
theorem b_isFull {σ : SS} (h : INV σ) (x : Int32) : wp_X9_isFull σ x (bQ fun τ Q => wp_X10_isFull τ x Q) := by
  obtain ⟨g, f, n, H, T, l, gs, fs, b, hp, h1, h2, h3, h4, h5, h6⟩ := h
  refine sp_isFull h1 hp.1 x fun τ k => ?_
  obtain ⟨i, r, m⟩ := INV.ak hp h1 h2 h3 h4 h5 h6 k
  exact rp_isFull (Q := fun r' υ => r' = _ ∧ INV υ) r hp.1 x ⟨rfl, i⟩
theorem b_wouldNeed {σ : SS} (h : INV σ) (x : Int32) : wp_X9_wouldNeed σ x (bQ fun τ Q => wp_X10_wouldNeed τ x Q) := by
  obtain ⟨g, f, n, H, T, l, gs, fs, b, hp, h1, h2, h3, h4, h5, h6⟩ := h
  refine sp_wouldNeed h1 hp.1 x fun τ k => ?_
  obtain ⟨i, r, m⟩ := INV.ak hp h1 h2 h3 h4 h5 h6 k
  exact rp_wouldNeed (Q := fun r' υ => r' = _ ∧ INV υ) r hp.1 x ⟨rfl, i⟩
theorem b_wouldTurn {σ : SS} (h : INV σ) (x : Int32) : wp_X9_wouldTurn σ x (bQ fun τ Q => wp_X10_wouldTurn τ x Q) := by
  obtain ⟨g, f, n, H, T, l, gs, fs, b, hp, h1, h2, h3, h4, h5, h6⟩ := h
  refine sp_wouldTurn h1 hp.1 x fun τ k => ?_
  obtain ⟨i, r, m⟩ := INV.ak hp h1 h2 h3 h4 h5 h6 k
  exact rp_wouldTurn (Q := fun r' υ => r' = _ ∧ INV υ) r hp.1 x ⟨rfl, i⟩
theorem b_fewest {σ : SS} (h : INV σ) : wp_X9_fewest σ (bQ fun τ Q => wp_X10_fewest τ Q) := by
  obtain ⟨g, f, n, H, T, l, gs, fs, b, hp, h1, h2, h3, h4, h5, h6⟩ := h
  refine sp_fewest h1 hp.1 fun τ k => ?_
  obtain ⟨i, r, m⟩ := INV.ak hp h1 h2 h3 h4 h5 h6 k
  exact rp_fewest (Q := fun r' υ => r' = _ ∧ INV υ) r hp.1 ⟨rfl, i⟩
theorem b_fewestAgain {σ : SS} (h : INV σ) : wp_X9_fewestAgain σ (bQ fun τ Q => wp_X10_fewestAgain τ Q) := by
  obtain ⟨g, f, n, H, T, l, gs, fs, b, hp, h1, h2, h3, h4, h5, h6⟩ := h
  refine sp_fewestAgain h1 hp.1 fun τ k => ?_
  obtain ⟨i, r, m⟩ := INV.ak hp h1 h2 h3 h4 h5 h6 k
  exact rp_fewestAgain (Q := fun r' υ => r' = _ ∧ INV υ) r hp.1 ⟨rfl, i⟩
theorem b_watches {σ : SS} (h : INV σ) : wp_X9_watches σ (bQ fun τ Q => wp_X10_watches τ Q) := by
  obtain ⟨g, f, n, H, T, l, gs, fs, b, hp, h1, h2, h3, h4, h5, h6⟩ := h
  refine sp_watches h1 hp.1 fun τ k => ?_
  obtain ⟨i, r, m⟩ := INV.ak hp h1 h2 h3 h4 h5 h6 k
  exact rp_watches (Q := fun r' υ => r' = _ ∧ INV υ) r hp.1 ⟨rfl, i⟩
theorem b_spare {σ : SS} (h : INV σ) : wp_X9_spare σ (bQ fun τ Q => wp_X10_spare τ Q) := by
  obtain ⟨g, f, n, H, T, l, gs, fs, b, hp, h1, h2, h3, h4, h5, h6⟩ := h
  refine sp_spare h1 hp.1 fun τ k => ?_
  obtain ⟨i, r, m⟩ := INV.ak hp h1 h2 h3 h4 h5 h6 k
  exact rp_spare (Q := fun r' υ => r' = _ ∧ INV υ) r hp.1 ⟨rfl, i⟩
theorem b_next {σ : SS} (h : INV σ) : wp_X9_next σ (bQ fun τ Q => wp_X10_next τ Q) := by
  obtain ⟨g, f, n, H, T, l, gs, fs, b, hp, h1, h2, h3, h4, h5, h6⟩ := h
  refine sp_next h1 hp.1 fun τ k => ?_
  obtain ⟨i, r, m⟩ := INV.ak hp h1 h2 h3 h4 h5 h6 k
  exact rp_next (Q := fun r' υ => r' = _ ∧ INV υ) r hp.1 ⟨rfl, i⟩
theorem b_greedy {σ : SS} (h : INV σ) : wp_X9_greedy σ (bQ fun τ Q => wp_X10_greedy τ Q) := by
  obtain ⟨g, f, n, H, T, l, gs, fs, b, hp, h1, h2, h3, h4, h5, h6⟩ := h
  refine sp_greedy h1 hp.1 fun τ k => ?_
  obtain ⟨i, r, m⟩ := INV.ak hp h1 h2 h3 h4 h5 h6 k
  exact rp_greedy (Q := fun r' υ => r' = _ ∧ INV υ) r hp.1 ⟨rfl, i⟩
theorem b_isWell {σ : SS} (h : INV σ) : wp_X9_isWell σ (bQ fun τ Q => wp_X10_isWell τ Q) := by
  obtain ⟨g, f, n, H, T, l, gs, fs, b, hp, h1, h2, h3, h4, h5, h6⟩ := h
  refine sp_isWell h1 hp.1 fun τ k => ?_
  obtain ⟨i, r, m⟩ := INV.ak hp h1 h2 h3 h4 h5 h6 k
  exact rp_isWell (Q := fun r' υ => r' = _ ∧ INV υ) r hp.1 ⟨rfl, i⟩
theorem b_mean {σ : SS} (h : INV σ) : wp_X9_mean σ (bQ fun τ Q => wp_X10_mean τ Q) := by
  obtain ⟨g, f, n, H, T, l, gs, fs, b, hp, h1, h2, h3, h4, h5, h6⟩ := h
  refine sp_mean h1 hp.1 fun τ k => ?_
  obtain ⟨i, r, m⟩ := INV.ak hp h1 h2 h3 h4 h5 h6 k
  exact rp_mean (Q := fun r' υ => r' = _ ∧ INV υ) r hp.1 ⟨rfl, i⟩
