/-! the reference: the text -/
def MS (T : List Int32) (i : Nat) (σ : SS) : Prop := LN 95 13 101 T σ ∧ σ 95 14 = nI i
theorem LN.fm {T : List Int32} {σ τ : SS} (h : LN 95 13 101 T σ) (e1 : τ 95 13 = σ 95 13) (e2 : ∀ i, τ 101 i = σ 101 i) : LN 95 13 101 T τ := ⟨by rw [e1]; exact h.1, fun i hi => by rw [e2]; exact h.2 i hi⟩
theorem rp_signHere {T : List Int32} (hT : TOK T) {i : Nat} (hi : i ≤ 100) {σ : SS} (h : MS T i σ) {Q : Int32 → SS → Prop} (q : Q (cdt T i) σ) : wp_X10_signHere σ Q := by
  have hl := hT.1
  unfold wp_X10_signHere
  rw [h.1.1, h.2]
  unfold cdt at q
  refine pk_le T.length i (fun c => ?_) (fun c => ⟨pk_in i 70 (by omega), ?_⟩)
  · rw [if_neg (by omega)] at q; exact q
  · rw [pk_cl i, h.1.2 i c]
    rw [if_pos c] at q; exact q
theorem u2_self (σ : SS) (k j : Nat) : u2 σ k j (σ k j) = σ := by
  funext a i
  rw [u2i]
  split
  · next c => rw [c.1, c.2]
  · rfl
theorem rp_isHere {T : List Int32} (hT : TOK T) {i : Nat} (hi : i ≤ 100) {σ : SS} (h : MS T i σ) {c : Int32} {Q : Int32 → SS → Prop} (q1 : cdt T i = c → Q 1 (u2 σ 95 14 (nI (i + 1)))) (q0 : cdt T i ≠ c → Q 0 σ) : wp_X10_isHere σ c Q := by
  unfold wp_X10_isHere
  refine rp_signHere hT hi h (br_c (fun e => ?_) (fun e => ?_))
  · rw [h.2, nI_1]; exact q1 e
  · rw [Int32.add_zero, u2_self]; exact q0 e
def FN (b : Nat) (σ τ : SS) : Prop := ∀ k j, ¬ (k = 95 ∧ j = 14) → ¬ (k = 102 ∧ j = b) → τ k j = σ k j
theorem rp_isDigit {T : List Int32} (hT : TOK T) (i : Nat) {σ : SS} {Q : Int32 → SS → Prop} (q1 : ∀ d, d < 10 → i < T.length → cdt T i = nI (48 + d) → dgv (cdt T i) = some d → Q 1 σ) (q0 : dgv (cdt T i) = none → Q 0 σ) : wp_X10_isIn σ (cdt T i) 48 57 Q := by
  unfold wp_X10_isIn
  rcases dgv_c hT i with ⟨c1, ed⟩ | ⟨c1, c2, ed⟩ | ⟨d, hd, hl, ec, ed⟩
  · exact br_t c1 (q0 ed)
  · refine br_f c1 (br_t ?_ (q0 ed))
    rw [Int32.lt_iff_toInt_lt]; rw [Int32.le_iff_toInt_le] at c2; omega
  · refine br_f ?_ (br_f ?_ (q1 d hd hl ec ed))
    · rw [ec, show (48 : Int32) = nI 48 from rfl, nI_ltI (by omega) (by omega)]; omega
    · rw [ec, show (57 : Int32) = nI 57 from rfl, nI_ltI (by omega) (by omega)]; omega
theorem rp_isNumber {T : List Int32} (hT : TOK T) {n : Nat} (hn : n ≤ 2) {b : Nat} (hb : b < 144) {i0 : Nat} (hi : i0 ≤ 90) {σ0 : SS} (h : MS T i0 σ0) {Q : Int32 → SS → Prop} (q0 : (NB T i0 n).1 = i0 → ∀ τ, FN b σ0 τ → τ 95 14 = nI i0 → Q 0 τ) (q1 : (NB T i0 n).1 ≠ i0 → ∀ τ, FN b σ0 τ → τ 95 14 = nI (NB T i0 n).1 → τ 102 b = nI (NB T i0 n).2 → Q 1 τ) : wp_X10_isNumber σ0 (nI n) (nI b) Q := by
  unfold wp_X10_isNumber
  have fin : ∀ c v σ, c ≤ n → (∀ k j, ¬ (k = 95 ∧ j = 14) → σ k j = σ0 k j) → σ 95 14 = nI (i0 + c) → (i0 + c, v) = NB T i0 n → (vp_in (nI b) 144 ∧ ((nI c ≤ 0 → Q 0 (u2 σ 102 (nI b).toNatClampNeg (nI v))) ∧ (¬ nI c ≤ 0 → Q 1 (u2 σ 102 (nI b).toNatClampNeg (nI v))))) := by
    intro c v σ hc k e en
    have q0 := q0
    have q1 := q1
    rw [← en] at q0 q1
    rw [pk_cl (x := nI b) b]
    have kf : FN b σ0 (u2 σ 102 b (nI v)) := fun kk j c1 c2 => by rw [u2i, if_neg c2]; exact k kk j c1
    have e14 : (u2 σ 102 b (nI v)) 95 14 = nI (i0 + c) := by rw [u2k _ _ _ _ (by decide)]; exact e
    refine ⟨pk_in b 144 hb, pk_le c 0 (fun c0 => ?_) (fun c0 => ?_)⟩
    · have c0 : c = 0 := by omega
      subst c0
      exact q0 rfl _ kf e14
    · exact q1 (by show i0 + c ≠ i0; omega) _ kf e14 (u2s _ _ _ _)
  have key : ∀ r c v σ, c + r = n → (∀ k j, ¬ (k = 95 ∧ j = 14) → σ k j = σ0 k j) → σ 95 14 = nI (i0 + c) → nb T r (i0 + c) v = NB T i0 n → v < 10 ^ c → Lii (bd_X10_isNumber_5 Q (nI n) (nI b)) (r + 1) σ (nI v) (nI c) := by
    intro r
    induction r with
    | zero =>
      intro c v σ hc k e en _
      show bd_X10_isNumber_5 Q (nI n) (nI b) _ σ (nI v) (nI c)
      unfold bd_X10_isNumber_5
      have en : (i0 + c, v) = NB T i0 n := en
      exact br_t (by rw [nI_leI (by omega) (by omega)]; omega) (fin c v σ (by omega) k e en)
    | succ r ih =>
      intro c v σ hc k e en hv2
      show bd_X10_isNumber_5 Q (nI n) (nI b) (Lii (bd_X10_isNumber_5 Q (nI n) (nI b)) (r + 1)) σ (nI v) (nI c)
      unfold bd_X10_isNumber_5
      have hts : MS T (i0 + c) σ := ⟨h.1.fm (k 95 13 (by omega)) (fun j => k 101 j (by omega)), e⟩
      unfold nb at en
      refine br_f (nI_gt (by omega) (by omega)) (rp_signHere hT (by omega) hts (rp_isDigit hT (i0 + c) (fun d hd hl ec ed => br_f (by decide) (rp_signHere hT (by omega) hts ?_)) (fun ed => br_t rfl ?_)))
      · rw [ed] at en
        have hv3 : v < 100 := Nat.lt_of_lt_of_le hv2 (Nat.pow_le_pow_right (n := 10) (by decide) (show c ≤ 2 by omega))
        rw [ec, e, nI_1, nI_1, show (((10 : Int32) * nI v) + nI (48 + d)) - 48 = nI (10 * v + d) by rw [show (10 : Int32) = nI 10 from rfl, pk_mul, nI_add, show (48 : Int32) = nI 48 from rfl, pk_sub (by omega)]; congr 1; omega]
        exact ih (c + 1) (10 * v + d) (u2 σ 95 14 (nI (i0 + (c + 1)))) (by omega) (fun a j hj => by rw [u2i, if_neg hj]; exact k a j hj) (u2s _ _ _ _) en (by rw [Nat.pow_succ]; omega)
      · rw [ed] at en
        have en : (i0 + c, v) = NB T i0 n := en
        exact fin c v σ (by omega) k e en
  exact ⟨_, key n 0 0 σ0 (by omega) (fun _ _ _ => rfl) h.2 rfl (by decide)⟩
theorem rp_isKind {σ : SS} (c : Int32) {Q : Int32 → SS → Prop} (q1 : (c = 45 ∨ c = 98 ∨ c = 104 ∨ c = 108 ∨ c = 109 ∨ c = 110 ∨ c = 112 ∨ c = 114 ∨ c = 119) → Q 1 σ) (q0 : ¬ (c = 45 ∨ c = 98 ∨ c = 104 ∨ c = 108 ∨ c = 109 ∨ c = 110 ∨ c = 112 ∨ c = 114 ∨ c = 119) → Q 0 σ) : wp_X10_isKind σ c Q := by
  unfold wp_X10_isKind
  by_cases h : (c = 45 ∨ c = 98 ∨ c = 104 ∨ c = 108 ∨ c = 109 ∨ c = 110 ∨ c = 112 ∨ c = 114 ∨ c = 119)
  · have q := q1 h
    refine br_c (fun _ => q) (fun n1 => br_c (fun _ => q) (fun n2 => br_c (fun _ => q) (fun n3 => br_c (fun _ => q) (fun n4 => br_c (fun _ => q) (fun n5 => br_c (fun _ => q) (fun n6 => br_c (fun _ => q) (fun n7 => br_c (fun _ => q) (fun n8 => br_c (fun _ => q) (fun n9 => ?_)))))))))
    exfalso
    rcases h with h | h | h | h | h | h | h | h | h
    · exact n2 h
    · exact n4 h
    · exact n8 h
    · exact n7 h
    · exact n6 h
    · exact n5 h
    · exact n1 h
    · exact n3 h
    · exact n9 h
  · have q := q0 h
    refine br_f (fun e => h ?_) (br_f (fun e => h ?_) (br_f (fun e => h ?_) (br_f (fun e => h ?_) (br_f (fun e => h ?_) (br_f (fun e => h ?_) (br_f (fun e => h ?_) (br_f (fun e => h ?_) (br_f (fun e => h ?_) q)))))))) <;> simp [e]
/-- what a shape leaves -/
def FD (b : Nat) (σ τ : SS) : Prop := ∀ k j, ¬ (k = 95 ∧ j = 14) → ¬ (k = 102 ∧ b < j ∧ j < b + 4) → τ k j = σ k j
theorem FN.fd {b d : Nat} {σ τ : SS} (h : FN d σ τ) (h1 : b < d) (h2 : d < b + 4) : FD b σ τ := fun k j c1 c2 => h k j c1 (by omega)
theorem FD.tr {b : Nat} {σ τ υ : SS} (h : FD b σ τ) (h2 : FD b τ υ) : FD b σ υ := fun k j c1 c2 => (h2 k j c1 c2).trans (h k j c1 c2)
theorem FD.u {b : Nat} {σ τ : SS} (h : FD b σ τ) (x : Int32) : FD b σ (u2 τ 95 14 x) := fun k j c1 c2 => by rw [u2i, if_neg c1]; exact h k j c1 c2
theorem LN.fd {T : List Int32} {b : Nat} {σ τ : SS} (h : LN 95 13 101 T σ) (k : FD b σ τ) : LN 95 13 101 T τ := h.fm (k 95 13 (by omega) (by omega)) (fun j => k 101 j (by omega) (by omega))
def shM (b : Nat) (σ : SS) (P : Bool × Nat × Nat × Nat × Nat) (Q : Int32 → SS → Prop) (d : Bool) : Prop := ∀ τ, FD b σ τ → τ 95 14 = nI P.2.1 → (P.1 = true → τ 102 (b + 1) = nI P.2.2.1 ∧ (d = true → τ 102 (b + 2) = nI P.2.2.2.1 ∧ τ 102 (b + 3) = nI P.2.2.2.2)) → Q (if P.1 then 1 else 0) τ
theorem rp_sh1 {T : List Int32} (hT : TOK T) {n : Nat} (hn : n ≤ 2) {b : Nat} (hb : b + 3 < 144) {i : Nat} (hi : i ≤ 90) {σ : SS} (h : MS T i σ) {Q : Int32 → SS → Prop} (q : shM b σ (sh1 T i n) Q false) : wp_X10_isNumber σ (nI n) (nI (b + 1)) (fun r6 σ5 => (r6 = 0 ∨ r6 = 1) ∧ Q r6 σ5) := by
  refine rp_isNumber hT hn (by omega) hi h (fun c τ k e => ⟨Or.inl rfl, ?_⟩) (fun c τ k e e4 => ⟨Or.inr rfl, ?_⟩)
  · have q := q τ (k.fd (by omega) (by omega))
    unfold sh1 at q
    rw [if_pos c] at q
    exact q e (fun z => by cases z)
  · have q := q τ (k.fd (by omega) (by omega))
    unfold sh1 at q
    rw [if_neg c] at q
    exact q e (fun _ => ⟨e4, fun z => by cases z⟩)
theorem rp_sh3 {T : List Int32} (hT : TOK T) {n1 n2 n3 : Nat} (hn1 : n1 ≤ 2) (hn2 : n2 ≤ 2) (hn3 : n3 ≤ 2) {s1 s2 : Int32} {b : Nat} (hb : b + 3 < 144) {i : Nat} (hi : i ≤ 80) {σ : SS} (h : MS T i σ) {Q : Int32 → SS → Prop} (q : shM b σ (sh3 T i n1 s1 n2 s2 n3) Q true) :
    wp_X10_isNumber σ (nI n1) (nI (b + 1)) (fun r8 σ7 => ((r8 = 0 → Q 0 σ7) ∧ (¬ r8 = 0 → wp_X10_isHere σ7 s1 (fun r10 σ9 => ((r10 = 0 → Q 0 σ9) ∧ (¬ r10 = 0 → wp_X10_isNumber σ9 (nI n2) (nI (b + 2)) (fun r12 σ11 => ((r12 = 0 → Q 0 σ11) ∧ (¬ r12 = 0 → wp_X10_isHere σ11 s2 (fun r14 σ13 => ((r14 = 0 → Q 0 σ13) ∧ (¬ r14 = 0 → wp_X10_isNumber σ13 (nI n3) (nI (b + 3)) (fun r16 σ15 => ((r16 = 0 → Q 0 σ15) ∧ (¬ r16 = 0 → Q 1 σ15))))))))))))))) := by
  have b1 := nb_le hT (i := i) hn1
  refine rp_isNumber hT hn1 (by omega) (by omega) h (fun c τ k e => br_t rfl ?_) (fun c τ1 k1 e1 e4 => br_f (by decide) ?_)
  · have q := q τ (k.fd (by omega) (by omega))
    unfold sh3 at q
    rw [if_pos c] at q
    exact q e (fun z => by cases z)
  · unfold sh3 at q
    rw [if_neg c] at q
    have f1 : FD b σ τ1 := k1.fd (by omega) (by omega)
    refine rp_isHere hT (by omega) ⟨h.1.fd f1, e1⟩ (fun d1 => br_f (by decide) ?_) (fun d1 => br_t rfl ?_)
    · rw [if_pos d1] at q
      generalize ej : (NB T i n1).1 + 1 = j at *
      have hj : j ≤ 83 := by omega
      have b2 := nb_le hT (i := j) hn2
      have f2 : FD b σ (u2 τ1 95 14 (nI j)) := f1.u _
      have g4 : (u2 τ1 95 14 (nI j)) 102 (b + 1) = nI (NB T i n1).2 := by rw [u2k _ _ _ _ (by decide)]; exact e4
      have g1 : (u2 τ1 95 14 (nI j)) 95 14 = nI j := u2s _ _ _ _
      generalize u2 τ1 95 14 (nI j) = τ2 at *
      refine rp_isNumber hT hn2 (by omega) (by omega) ⟨h.1.fd f2, g1⟩ (fun c2 τ3 k3 e3 => br_t rfl ?_) (fun c2 τ3 k3 e3 e5 => br_f (by decide) ?_)
      · have q := q τ3 (f2.tr (k3.fd (by omega) (by omega)))
        unfold sh3b at q
        rw [if_pos c2] at q
        exact q e3 (fun z => by cases z)
      · unfold sh3b at q
        rw [if_neg c2] at q
        have f3 := f2.tr (k3.fd (by omega) (by omega))
        have g4 : τ3 102 (b + 1) = nI (NB T i n1).2 := by rw [k3 102 (b + 1) (by omega) (by omega)]; exact g4
        refine rp_isHere hT (by omega) ⟨h.1.fd f3, e3⟩ (fun d2 => br_f (by decide) ?_) (fun d2 => br_t rfl ?_)
        · rw [if_pos d2] at q
          generalize el : (NB T j n2).1 + 1 = l at *
          have f4 : FD b σ (u2 τ3 95 14 (nI l)) := f3.u _
          have g4 : (u2 τ3 95 14 (nI l)) 102 (b + 1) = nI (NB T i n1).2 := by rw [u2k _ _ _ _ (by decide)]; exact g4
          have g5 : (u2 τ3 95 14 (nI l)) 102 (b + 2) = nI (NB T j n2).2 := by rw [u2k _ _ _ _ (by decide)]; exact e5
          have g1 : (u2 τ3 95 14 (nI l)) 95 14 = nI l := u2s _ _ _ _
          generalize u2 τ3 95 14 (nI l) = τ4 at *
          refine rp_isNumber hT hn3 (by omega) (by omega) ⟨h.1.fd f4, g1⟩ (fun c3 τ5 k5 e => br_t rfl ?_) (fun c3 τ5 k5 e e6 => br_f (by decide) ?_)
          · have q := q τ5 (f4.tr (k5.fd (by omega) (by omega)))
            unfold sh3c at q
            rw [if_pos c3] at q
            exact q e (fun z => by cases z)
          · have q := q τ5 (f4.tr (k5.fd (by omega) (by omega)))
            unfold sh3c at q
            rw [if_neg c3] at q
            exact q e (fun _ => ⟨by rw [k5 102 (b + 1) (by omega) (by omega)]; exact g4, fun _ => ⟨by rw [k5 102 (b + 2) (by omega) (by omega)]; exact g5, e6⟩⟩)
        · rw [if_neg d2] at q
          exact q τ3 f3 e3 (fun z => by cases z)
    · rw [if_neg d1] at q
      exact q τ1 f1 e1 (fun z => by cases z)
def FC (σ τ : SS) : Prop := ∀ k j, ¬ (k = 95 ∧ (j = 14 ∨ j = 15)) → k ≠ 102 → τ k j = σ k j
theorem FC.tr {σ τ υ : SS} (h : FC σ τ) (h2 : FC τ υ) : FC σ υ := fun k j c1 c2 => (h2 k j c1 c2).trans (h k j c1 c2)
theorem LN.fc {T : List Int32} {σ τ : SS} (h : LN 95 13 101 T σ) (k : FC σ τ) : LN 95 13 101 T τ := h.fm (k 95 13 (by omega) (by omega)) (fun j => k 101 j (by omega) (by omega))
/-- what a command read leaves -/
def CM (T : List Int32) (i q : Nat) (c : Nat → Int32) : Prop := c (4 * q) = cdt T i ∧ (cdt T i ≠ 119 → c (4 * q + 1) = nI (prs T i).2.2.1) ∧ (is3 (cdt T i) → c (4 * q + 2) = nI (prs T i).2.2.2.1 ∧ c (4 * q + 3) = nI (prs T i).2.2.2.2)
def cmQ (T : List Int32) (i q : Nat) (σ : SS) (Q : Int32 → SS → Prop) : Prop := ∀ τ, FC σ τ → (∀ j, j < 4 * q → τ 102 j = σ 102 j) → τ 95 14 = nI (prs T i).2.1 → ((prs T i).1 = true → τ 95 15 = nI (q + 1) ∧ CM T i q (τ 102)) → Q (if (prs T i).1 then 1 else 0) τ
theorem rp_readsCommand {T : List Int32} (hT : TOK T) {i q : Nat} (hi : i ≤ 75) (hq : 2 * q ≤ i) {σ : SS} (h : MS T i σ) (h15 : σ 95 15 = nI q) {Q : Int32 → SS → Prop} (qq : cmQ T i q σ Q) : wp_X10_readsCommand σ Q := by
  have hl := hT.1
  unfold wp_X10_readsCommand
  rw [h15]
  refine rp_signHere hT (by omega) h (rp_isKind _ (fun hk => br_f (by decide) ?_) (fun hk => br_t rfl ?_))
  · have hne : cdt T i ≠ -1 := by
      intro z
      rw [z] at hk
      exact absurd hk (by decide)
    have hin : i < T.length := cd_in rfl hne
    have hq2 : q ≤ 34 := by omega
    have e4 : (4 : Int32) * nI q = nI (4 * q) := pk_mul 4 q
    rw [e4, show nI (4 * q) + 1 = nI (4 * q + 1) from nI_add _ 1, show nI (4 * q) + 2 = nI (4 * q + 2) from nI_add _ 2, show nI (4 * q) + 3 = nI (4 * q + 3) from nI_add _ 3]
    refine ⟨pk_in (4 * q) 144 (by omega), ?_⟩
    rw [pk_cl (x := nI (4 * q)) (4 * q)]
    rintro σ5 rfl σ6 e6
    have s14 : (u2 σ 102 (4 * q) (cdt T i)) 95 14 + 1 = nI (i + 1) := by rw [u2k _ _ _ _ (by decide), h.2, nI_1]
    rw [s14] at e6
    have s15 : (u2 (u2 σ 102 (4 * q) (cdt T i)) 95 14 (nI (i + 1))) 95 15 + 1 = nI (q + 1) := by rw [u2j _ _ _ (by decide), u2k _ _ _ _ (by decide), h15, nI_1]
    rw [s15] at e6
    have g14 : σ6 95 14 = nI (i + 1) := by rw [e6, u2j _ _ _ (by decide), u2s]
    have g15 : σ6 95 15 = nI (q + 1) := by rw [e6, u2s]
    have gk : σ6 102 (4 * q) = cdt T i := by rw [e6, u2k _ _ _ _ (by decide), u2k _ _ _ _ (by decide), u2s]
    have f6 : FC σ σ6 := fun k j c1 c2 => by rw [e6, u2i, if_neg (by omega), u2i, if_neg (by omega), u2k _ _ _ _ c2]
    have lo6 : ∀ j, j < 4 * q → σ6 102 j = σ 102 j := fun j hj => by rw [e6, u2k _ _ _ _ (by decide), u2k _ _ _ _ (by decide), u2j _ _ _ (by omega)]
    clear e6 s14 s15
    have hts : MS T (i + 1) σ6 := ⟨h.1.fc f6, g14⟩
    have fin : ∀ τ, FD (4 * q) σ6 τ → FC σ τ ∧ (∀ j, j < 4 * q → τ 102 j = σ 102 j) ∧ τ 95 15 = nI (q + 1) ∧ τ 102 (4 * q) = cdt T i := fun τ k => ⟨f6.tr fun kk j c1 c2 => k kk j (by omega) (by omega), fun j hj => by rw [k 102 j (by omega) (by omega)]; exact lo6 j hj, by rw [k 95 15 (by omega) (by omega)]; exact g15, by rw [k 102 _ (by omega) (by omega)]; exact gk⟩
    have s1 : ∀ n, ¬ is3 (cdt T i) → prs T i = sh1 T (i + 1) n → shM (4 * q) σ6 (sh1 T (i + 1) n) Q false := by
      intro n h3 e τ k k1 k4
      rw [← e] at k1 k4 ⊢
      obtain ⟨a1, a2, a3, a4⟩ := fin τ k
      exact qq τ a1 a2 k1 (fun z => ⟨a3, a4, fun _ => (k4 z).1, fun z3 => absurd z3 h3⟩)
    have s3 : ∀ n1 c1 n2 c2 n3, prs T i = sh3 T (i + 1) n1 c1 n2 c2 n3 → shM (4 * q) σ6 (sh3 T (i + 1) n1 c1 n2 c2 n3) Q true := by
      intro n1 c1 n2 c2 n3 e τ k k1 k4
      rw [← e] at k1 k4 ⊢
      obtain ⟨a1, a2, a3, a4⟩ := fin τ k
      exact qq τ a1 a2 k1 (fun z => ⟨a3, a4, fun _ => (k4 z).1, fun _ => (k4 z).2 rfl⟩)
    generalize ec : cdt T i = c at *
    have pr : prs T i = (if c = 45 then sh1 T (i + 1) 1 else if c = 98 then sh3 T (i + 1) 1 33 2 43 1 else if c = 104 then sh1 T (i + 1) 2 else if c = 108 then sh1 T (i + 1) 1 else if c = 109 then sh1 T (i + 1) 1 else if c = 110 then sh1 T (i + 1) 1 else if c = 112 then sh3 T (i + 1) 2 60 2 62 2 else if c = 114 then sh3 T (i + 1) 1 60 2 62 2 else if c = 119 then (true, i + 1, 0, 0, 0) else (false, i, 0, 0, 0)) := by unfold prs; rw [ec]
    have hb : 4 * q + 3 < 144 := by omega
    rcases hk with rfl | rfl | rfl | rfl | rfl | rfl | rfl | rfl | rfl
    · exact br_f (by decide) (br_f (by decide) (br_f (by decide) (br_f (by decide) (br_f (by decide) (rp_sh1 hT (n := 1) (by decide) hb (by omega) hts (s1 1 (by unfold is3; decide) pr))))))
    · exact br_t rfl (rp_sh3 hT (n1 := 1) (n2 := 2) (n3 := 1) (by decide) (by decide) (by decide) hb (by omega) hts (s3 1 33 2 43 1 pr))
    · exact br_f (by decide) (br_t rfl (rp_sh1 hT (n := 2) (by decide) hb (by omega) hts (s1 2 (by unfold is3; decide) pr)))
    · exact br_f (by decide) (br_f (by decide) (br_f (by decide) (br_f (by decide) (br_f (by decide) (rp_sh1 hT (n := 1) (by decide) hb (by omega) hts (s1 1 (by unfold is3; decide) pr))))))
    · exact br_f (by decide) (br_f (by decide) (br_f (by decide) (br_f (by decide) (br_f (by decide) (rp_sh1 hT (n := 1) (by decide) hb (by omega) hts (s1 1 (by unfold is3; decide) pr))))))
    · exact br_f (by decide) (br_f (by decide) (br_f (by decide) (br_f (by decide) (br_f (by decide) (rp_sh1 hT (n := 1) (by decide) hb (by omega) hts (s1 1 (by unfold is3; decide) pr))))))
    · exact br_f (by decide) (br_f (by decide) (br_t rfl (br_t rfl (rp_sh3 hT (n1 := 2) (n2 := 2) (n3 := 2) (by decide) (by decide) (by decide) hb (by omega) hts (s3 2 60 2 62 2 pr)))))
    · exact br_f (by decide) (br_f (by decide) (br_f (by decide) (br_t rfl (br_f (by decide) (rp_sh3 hT (n1 := 1) (n2 := 2) (n3 := 2) (by decide) (by decide) (by decide) hb (by omega) hts (s3 1 60 2 62 2 pr))))))
    · refine br_f (by decide) (br_f (by decide) (br_f (by decide) (br_f (by decide) (br_t rfl ?_))))
      have e : prs T i = (true, i + 1, 0, 0, 0) := pr
      obtain ⟨a1, a2, a3, a4⟩ := fin σ6 (fun _ _ _ _ => rfl)
      unfold cmQ at qq
      rw [e] at qq
      refine qq σ6 a1 a2 g14 (fun _ => ⟨a3, ?_⟩)
      unfold CM
      rw [ec]
      exact ⟨a4, fun z => absurd rfl z, fun z => by unfold is3 at z; exact absurd z (by decide)⟩
  · have e : prs T i = (false, i, 0, 0, 0) := by
      unfold prs
      rw [if_neg fun z => hk (by simp [z]), if_neg fun z => hk (by simp [z]), if_neg fun z => hk (by simp [z]), if_neg fun z => hk (by simp [z]), if_neg fun z => hk (by simp [z]), if_neg fun z => hk (by simp [z]), if_neg fun z => hk (by simp [z]), if_neg fun z => hk (by simp [z]), if_neg fun z => hk (by simp [z])]
    unfold cmQ at qq
    rw [e] at qq
    exact qq σ (fun _ _ _ _ => rfl) (fun _ _ => rfl) h.2 (fun z => by cases z)
