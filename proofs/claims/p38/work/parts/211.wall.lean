/-! the class: Wall -/
theorem sp_stretch {σ : SS} {s n : Nat} (hs : s < 24) (hn : n ≤ 24) {Q : Int32 → SS → Prop} (h : Q (nI (str s n)) σ) : wp_X9_stretch σ (nI s) (nI n) Q := by
  unfold wp_X9_stretch
  have hp : 2 ^ n ≤ 2 ^ 24 := Nat.pow_le_pow_right (by omega) hn
  have hq : 2 ^ s < 2 ^ 24 := Nat.pow_lt_pow_right (by omega) hs
  have h1 : (1 : Int64) <<< ((nI n).toInt64 &&& 63) = lN (2 ^ n) := by
    have e := wb_shl 1 (k := n) (by omega)
    rw [Nat.one_mul] at e
    exact e
  have hz : (2 ^ n - 1) * 2 ^ s < 2 ^ 48 := by
    have a1 : 2 ^ n - 1 < 2 ^ 24 := by have := Nat.two_pow_pos n; omega
    calc (2 ^ n - 1) * 2 ^ s < 2 ^ 24 * 2 ^ 24 := Nat.mul_lt_mul'' a1 hq
      _ = 2 ^ 48 := by decide
  have h2 : lN (2 ^ n) - 1 = lN (2 ^ n - 1) := lN_sub (a := 2 ^ n) (b := 1) (Nat.two_pow_pos n)
  rw [h1, h2, wb_shl _ (by omega)]
  have h3 := wb_shr (n := (2 ^ n - 1) * 2 ^ s) (k := 24) (by omega) (by decide)
  have h3 : ((lN ((2 ^ n - 1) * 2 ^ s)).toUInt64 >>> ((24 : Int32).toInt64.toUInt64 &&& Int64.toUInt64 63)).toInt64 = lN ((2 ^ n - 1) * 2 ^ s / 16777216) := h3
  have hd : (2 ^ n - 1) * 2 ^ s / 16777216 < 2 ^ 48 := Nat.lt_of_le_of_lt (Nat.div_le_self _ _) hz
  rw [h3, wb_or (by omega) (by omega)]
  have ho : ((2 ^ n - 1) * 2 ^ s ||| (2 ^ n - 1) * 2 ^ s / 16777216) < 2 ^ 48 := m_or_lt hz hd
  have h4 := wb_mask (n := (2 ^ n - 1) * 2 ^ s ||| (2 ^ n - 1) * 2 ^ s / 16777216) (k := 24) (by omega) (by decide)
  have h4 : lN ((2 ^ n - 1) * 2 ^ s ||| (2 ^ n - 1) * 2 ^ s / 16777216) &&& 16777215 = lN (((2 ^ n - 1) * 2 ^ s ||| (2 ^ n - 1) * 2 ^ s / 16777216) % 16777216) := h4
  rw [h4, lN_i]
  exact h
theorem sp_lost {σ : SS} {h : Nat} (hh : h < 12) {Q : Int32 → SS → Prop} (q : Q (nI (ls h)) σ) : wp_X8_lostByLight σ (nI h) Q := by
  unfold wp_X8_lostByLight
  unfold ls at q
  refine pk_le 6 h (fun a => pk_le 8 h (fun b => pk_le 10 h (fun c => ?_) (fun c => ?_)) (fun b => ?_)) (fun a => ?_)
  · rw [if_neg (by omega), if_neg (by omega), if_neg (by omega)] at q; exact q
  · rw [if_neg (by omega), if_neg (by omega), if_pos (by omega)] at q; exact q
  · rw [if_neg (by omega), if_pos (by omega)] at q; exact q
  · rw [if_pos (by omega)] at q; exact q
theorem sp_isPost {a : Nat} {g : Nat → Nat} {f : Nat → Nat → Nat} {σ : SS} (h : RC a g f σ) (ho : OkW g f) {x : Int32} {Q : Int32 → SS → Prop} (h1 : ∀ p, p < g 0 → x = nI p → Q 1 σ) (h0 : (∀ p, p < g 0 → x ≠ nI p) → Q 0 σ) : wp_X8_isPost a σ x Q := by
  have h9 := ho.1
  unfold wp_X8_isPost
  rcases pk_ix x (n := 9) (by decide) with hx | hx | ⟨p, hp, rfl⟩
  · exact br_t hx (h0 fun p hp e => by subst e; exact nI_n0 (by omega) hx)
  · refine br_c (fun _ => ?_) (fun _ => br_t hx ?_) <;> exact h0 fun p hp e => by subst e; exact nI_ge (show p < 9 by omega) (by decide) hx
  · refine br_f (nI_n0 (by omega)) (br_f (c_nle 9 hp) ⟨pk_in p 9 hp, ?_⟩)
    rw [pk_cl p, (h.2 p hp).1]
    by_cases hg : p < g 0
    · have := (ho.2.2 p hg).1
      rw [wv_in hg (by decide)]
      exact br_f (nI_n1 (by omega)) (h1 p hg rfl)
    · rw [wv_out hg]
      exact br_t rfl (h0 fun q hq e => by
        have e2 := (nI_eq (show p < 2 ^ 31 by omega) (show q < 2 ^ 31 by omega)).mp e
        omega)
theorem sp_numberOf {a : Nat} {g : Nat → Nat} {f : Nat → Nat → Nat} {σ : SS} (h : RC a g f σ) (ho : OkW g f) {p j : Nat} (hp : p < g 0) (hj : j < 6) {Q : Int32 → SS → Prop} (q : Q (wv g f j p) σ) : wp_X8_numberOf a σ (nI p) (nI j) Q := by
  have h9 := ho.1
  unfold wp_X8_numberOf
  refine sp_isPost h ho (fun _ _ _ => ?_) (fun e => absurd rfl (e p hp))
  refine br_f (by decide) ?_
  obtain ⟨e0, e1, e2, e3, e4, e5⟩ := h.2 p (by omega)
  have hin := pk_in (x := nI p) p 9 (by omega)
  rw [pk_cl (x := nI p) p, e0, e1, e2, e3, e4, e5]
  rcases (show j = 0 ∨ j = 1 ∨ j = 2 ∨ j = 3 ∨ j = 4 ∨ j = 5 by omega) with rfl | rfl | rfl | rfl | rfl | rfl
  · exact br_t rfl ⟨hin, q⟩
  · exact br_f (by decide) (br_t rfl ⟨hin, q⟩)
  · exact br_f (by decide) (br_f (by decide) (br_t rfl ⟨hin, q⟩))
  · exact br_f (by decide) (br_f (by decide) (br_f (by decide) (br_t rfl ⟨hin, q⟩)))
  · exact br_f (by decide) (br_f (by decide) (br_f (by decide) (br_f (by decide) (br_t rfl ⟨hin, q⟩))))
  · exact br_f (by decide) (br_f (by decide) (br_f (by decide) (br_f (by decide) (br_f (by decide) ⟨hin, q⟩))))
theorem sp_numberOf_no {a : Nat} {g : Nat → Nat} {f : Nat → Nat → Nat} {σ : SS} (h : RC a g f σ) (ho : OkW g f) {x w : Int32} (hx : ∀ p, p < g 0 → x ≠ nI p) {Q : Int32 → SS → Prop} (q : Q (-1) σ) : wp_X8_numberOf a σ x w Q := by
  unfold wp_X8_numberOf
  exact sp_isPost h ho (fun p hp e => absurd e (hx p hp)) (fun _ => br_t rfl q)
theorem pk_max0 {x y : Nat} (hx : x < 2 ^ 30) (hy : y < 2 ^ 30) : (if (0 : Int32) < (nI x - nI y) then (nI x - nI y) else 0) = nI (x - y) := by
  by_cases h : y < x
  · rw [pk_sub (by omega), if_pos (by rw [show (0 : Int32) = nI 0 from rfl, nI_ltI (by omega) (by omega)]; omega)]
  · rw [if_neg ?_, show x - y = 0 by omega]
    · rfl
    · rw [Int32.lt_iff_toInt_lt, pk_sub_toInt hx hy, show (0 : Int32).toInt = 0 from by decide]
      omega
theorem sp_sightOf {a : Nat} {g : Nat → Nat} {f : Nat → Nat → Nat} {σ : SS} (h : RC a g f σ) (ho : OkW g f) {p hh : Nat} (hp : p < 9) (hhh : hh < 12) {Q : Int32 → SS → Prop} (q : Q (nI (row g f hh p)) σ) : wp_X8_sightOf a σ (nI p) (nI hh) Q := by
  unfold wp_X8_sightOf
  refine sp_isPost h ho (fun p' hp' e => ?_) (fun e => ?_)
  · have e2 := (nI_eq (show p < 2 ^ 31 by omega) (show p' < 2 ^ 31 by have := ho.1; omega)).mp e
    subst e2
    refine br_f (by decide) (sp_lost hhh ?_)
    obtain ⟨o0, o1, o2, o4, o3, o5⟩ := ho.2.2 p hp'
    obtain ⟨e0, e1, e2, e3, e4, e5⟩ := h.2 p hp
    have hl := ls_le hh
    have hin := pk_in (x := nI p) p 9 hp
    rw [pk_cl (x := nI p) p, e0, e1, e2, wv_in (j := 0) hp' (by decide), wv_in (j := 1) hp' (by decide), wv_in (j := 2) hp' (by decide)]
    refine ⟨hin, ?_⟩
    rintro x5 h5
    rw [pk_max0 (by omega) (by omega)] at h5
    subst h5
    refine ⟨hin, ?_⟩
    rintro x6 h6
    rw [pk_max0 (by omega) (by omega)] at h6
    subst h6
    refine ⟨hin, ?_⟩
    unfold row sgt at q
    rw [if_pos hp'] at q
    rw [nI_1, nI_add]
    have hb : f p 4 ≠ 0 → wv g f 3 p = nI (f p 3) := fun hn => by unfold wv; rw [if_pos hp', if_pos rfl, if_neg hn]
    have fin : ∀ (st : Nat), st = (f p 0 + 24 - (f p 1 - ls hh)) % 24 → wp_X9_stretch σ (nI st) (nI (f p 1 - ls hh + 1 + (f p 2 - ls hh))) (fun r σ7 => vp_in (nI p) 9 ∧ ((σ7 (a + 5) p = 0 → Q r σ7) ∧ (¬ σ7 (a + 5) p = 0 → vp_in (nI p) 9 ∧ vp_in (nI p) 9 ∧ wp_X9_stretch σ7 (σ7 (a + 4) p) (σ7 (a + 5) p) (fun r10 σ9 => Q (r &&& (r10 ^^^ (-1))) σ9)))) := by
      intro st hst
      refine sp_stretch (by omega) (by omega) ⟨hin, ?_⟩
      rw [e3, e4, wv_in (j := 4) hp' (by decide)]
      refine pk_eq (f p 4) 0 (fun z => ?_) (fun z => ⟨hin, hin, ?_⟩)
      · rw [if_pos z, ← hst] at q; exact q
      · rw [hb z]
        refine sp_stretch (o3 z) (by omega) ?_
        rw [mI_df]
        rw [if_neg z, ← hst] at q; exact q
    by_cases hle : f p 1 - ls hh ≤ f p 0
    · rw [pk_sub hle]
      exact br_t (nI_g0 (by omega)) (fin _ (by omega))
    · refine br_f ?_ ?_
      · rw [Int32.le_iff_toInt_le, pk_sub_toInt (by omega) (by omega), show (0 : Int32).toInt = 0 from by decide]
        omega
      · have e24 : nI (f p 0) - nI (f p 1 - ls hh) + 24 = nI (f p 0 + 24 - (f p 1 - ls hh)) := by
          rw [← pk_sub (a := f p 0 + 24) (b := f p 1 - ls hh) (by omega), ← nI_add, show (nI 24) = (24 : Int32) from rfl]
          rw [Int32.sub_eq_add_neg, Int32.sub_eq_add_neg, Int32.add_assoc, Int32.add_comm (-nI _), ← Int32.add_assoc]
        rw [e24]
        exact fin _ (by omega)
  · refine br_t rfl ?_
    unfold row at q
    rw [if_neg (fun z => e p z rfl)] at q
    exact q
/-- the eye looks at the wall -/
theorem sp_lookAt {a : Nat} {g : Nat → Nat} {f : Nat → Nat → Nat} {σ : SS} (h : RC a g f σ) (ha : a + 6 < 80) (ho : OkW g f) {hh : Nat} (hhh : hh < 12) {Q : SS → Prop} (q : ∀ τ, SB (fun k => k = 80 ∨ k = 81) σ τ → SG (row g f hh) (g 0) (mns g f) τ → Q τ) : wp_X6_lookAt a σ (nI hh) Q := by
  unfold wp_X6_lookAt
  refine Li.up (N := 9) 0 (fun i τ v => SB (fun k => k = 80 ∨ k = 81) σ τ ∧ τ 80 1 = nI (g 0) ∧ τ 80 2 = nI (mnk g f i) ∧ (∀ p, p < i → τ 81 p = nI (row g f hh p)) ∧ v = nI i) (by omega) ⟨(SB.rf.w (Or.inl rfl)).w (Or.inl rfl), ?_, ?_, fun p hp => absurd hp (by omega), rfl⟩ ?_ ?_
  · rw [u2j _ _ _ (by decide), u2s, h.1.1]
  · rw [u2s]; rfl
  · rintro rc i τ v _ hi ⟨hS, t1, t2, t3, rfl⟩ k
    have hR : RC a g f τ := h.keep fun k h1 h2 => hS k (by omega)
    unfold bd_X6_lookAt_15
    refine br_f (c_nle 9 hi) (sp_sightOf hR ho hi hhh ⟨pk_in i 9 hi, pk_in i 9 hi, ?_⟩)
    rintro σ3 rfl
    rw [pk_cl i]
    have hm := ho.mb i
    have hml := mnk_lt ho i
    have h2i : 2 ^ i ≤ 2 ^ 8 := Nat.pow_le_pow_right (by omega) (by omega)
    refine k _ _ ⟨(hS.w (Or.inr rfl)).w (Or.inl rfl), ?_, ?_, ?_, nI_1 i⟩
    · rw [u2j _ _ _ (by decide), u2k _ _ _ _ (by decide), t1]
    · rw [u2s, u2k _ _ _ _ (by decide), t2, u2k _ _ _ _ (by omega), (hR.2 i hi).2.2.2.2.2]
      have e : wv g f 5 i = nI (if i < g 0 then f i 5 else 0) := by
        by_cases hg : i < g 0
        · rw [wv_in hg (by decide), if_pos hg]
        · rw [wv_out hg, if_neg hg]; rfl
      rw [e, mI_shl (by omega) ?_, mI_or]
      · rfl
      · rcases (show (if i < g 0 then f i 5 else 0) = 0 ∨ (if i < g 0 then f i 5 else 0) = 1 by omega) with e | e <;> rw [e] <;> omega
    · intro p hp
      rw [u2k _ _ _ _ (by decide)]
      by_cases hpi : p = i
      · subst hpi; rw [u2s]
      · rw [u2j _ _ _ hpi]; exact t3 p (by omega)
  · rintro rc τ v ⟨hS, t1, t2, t3, rfl⟩
    unfold bd_X6_lookAt_15
    exact br_t (by decide) (q τ hS ⟨t1, t2, t3⟩)

theorem sp_copyPlace {a b : Nat} (hab : a = b ∨ a + 7 ≤ b ∨ b + 7 ≤ a) {σ : SS} {p q : Nat} (hp : p < 9) (hq : q < 9) {Q : SS → Prop} (h : ∀ τ : SS, (∀ k i, τ k i = if i = q ∧ a + 1 ≤ k ∧ k ≤ a + 6 then σ (b + (k - a)) p else σ k i) → Q τ) : wp_X8_copyPlace a b σ (nI p) (nI q) Q := by
  unfold wp_X8_copyPlace
  have ip := pk_in (x := nI p) p 9 hp
  have iq := pk_in (x := nI q) q 9 hq
  rw [pk_cl (x := nI p) p, pk_cl (x := nI q) q]
  refine ⟨ip, iq, fun σ1 e1 => ?_⟩
  refine ⟨ip, iq, fun σ2 e2 => ?_⟩
  have r2 : σ1 (b + 2) p = σ (b + 2) p := by rw [e1, u2k _ _ _ _ (by omega)]
  rw [r2] at e2
  refine ⟨ip, iq, fun σ3 e3 => ?_⟩
  have r3 : σ2 (b + 3) p = σ (b + 3) p := by rw [e2, u2k _ _ _ _ (by omega), e1, u2k _ _ _ _ (by omega)]
  rw [r3] at e3
  refine ⟨ip, iq, fun σ4 e4 => ?_⟩
  have r4 : σ3 (b + 4) p = σ (b + 4) p := by rw [e3, u2k _ _ _ _ (by omega), e2, u2k _ _ _ _ (by omega), e1, u2k _ _ _ _ (by omega)]
  rw [r4] at e4
  refine ⟨ip, iq, fun σ5 e5 => ?_⟩
  have r5 : σ4 (b + 5) p = σ (b + 5) p := by rw [e4, u2k _ _ _ _ (by omega), e3, u2k _ _ _ _ (by omega), e2, u2k _ _ _ _ (by omega), e1, u2k _ _ _ _ (by omega)]
  rw [r5] at e5
  refine ⟨ip, iq, fun σ6 e6 => ?_⟩
  have r6 : σ5 (b + 6) p = σ (b + 6) p := by rw [e5, u2k _ _ _ _ (by omega), e4, u2k _ _ _ _ (by omega), e3, u2k _ _ _ _ (by omega), e2, u2k _ _ _ _ (by omega), e1, u2k _ _ _ _ (by omega)]
  rw [r6] at e6
  refine h _ fun k i => ?_
  rw [e6, u2i, e5, u2i, e4, u2i, e3, u2i, e2, u2i, e1, u2i]
  by_cases c : i = q ∧ a + 1 ≤ k ∧ k ≤ a + 6
  · rw [if_pos c]
    obtain ⟨rfl, c1, c2⟩ := c
    rcases (show k = a + 1 ∨ k = a + 2 ∨ k = a + 3 ∨ k = a + 4 ∨ k = a + 5 ∨ k = a + 6 by omega) with rfl | rfl | rfl | rfl | rfl | rfl <;> simp
  · rw [if_neg c, if_neg (by omega), if_neg (by omega), if_neg (by omega), if_neg (by omega), if_neg (by omega), if_neg (by omega)]
/-- all of a wall into another -/
theorem sp_copyFrom {a b : Nat} (hab : a + 7 ≤ b ∨ b + 7 ≤ a) {g : Nat → Nat} {f : Nat → Nat → Nat} {σ : SS} (hR : RC b g f σ) {Q : SS → Prop} (h : ∀ τ : SS, SB (fun k => a ≤ k ∧ k ≤ a + 6) σ τ → RC a g f τ → Q τ) : wp_X8_copyFrom a b σ Q := by
  unfold wp_X8_copyFrom
  refine Li.up (N := 9) 0 (fun i τ v => SB (fun k => a ≤ k ∧ k ≤ a + 6) σ τ ∧ (∀ p, p < i → ∀ m, 1 ≤ m → m ≤ 6 → τ (a + m) p = σ (b + m) p) ∧ v = nI i) (by omega) ⟨SB.rf, fun p hp => absurd hp (by omega), rfl⟩ ?_ ?_
  · rintro rc i τ v _ hi ⟨hS, t, rfl⟩ k
    unfold bd_X8_copyFrom_2
    refine br_f (c_nle 9 hi) (sp_copyPlace (by omega) hi hi fun υ e => k _ _ ⟨fun q hq => ?_, fun p hp m m1 m2 => ?_, nI_1 i⟩)
    · rw [← hS q hq]
      funext j
      rw [e, if_neg (by omega)]
    · rw [e]
      by_cases hpi : p = i
      · rw [if_pos (by omega), show b + (a + m - a) = b + m by omega, hS (b + m) (by omega), hpi]
      · rw [if_neg (by omega)]; exact t p (by omega) m m1 m2
  · rintro rc τ v ⟨hS, t, rfl⟩
    unfold bd_X8_copyFrom_2
    refine br_t (by decide) ?_
    have eb : ∀ j, τ b j = σ b j := fun j => by rw [hS b (by omega)]
    rintro σ1 e1 σ2 e2
    have n1 : b ≠ a := by omega
    refine h _ ?_ ?_
    · rw [e2, e1]
      exact ((((hS.w (by omega)).w (by omega)).w (by omega)).w (by omega)).w (by omega)
    · have c6 : ∀ j, σ1 b j = σ b j := fun j => by rw [e1, u2k _ _ _ _ n1, u2k _ _ _ _ n1, eb]
      have c7 : ∀ j, σ2 b j = σ b j := fun j => by rw [e2, u2k _ _ _ _ n1, u2k _ _ _ _ n1, c6]
      have far : ∀ m p, 1 ≤ m → u2 σ2 a 10 (σ2 b 10) (a + m) p = τ (a + m) p := fun m p hm => by
        rw [u2k _ _ _ _ (by omega), e2, u2k _ _ _ _ (by omega), u2k _ _ _ _ (by omega), e1, u2k _ _ _ _ (by omega), u2k _ _ _ _ (by omega)]
      refine ⟨⟨?_, ?_, ?_, ?_, ?_⟩, fun p hp => ?_⟩
      · rw [u2j _ _ _ (by decide), e2, u2j _ _ _ (by decide), u2j _ _ _ (by decide), e1, u2j _ _ _ (by decide), u2s, eb]; exact hR.1.1
      · rw [u2j _ _ _ (by decide), e2, u2j _ _ _ (by decide), u2j _ _ _ (by decide), e1, u2s, u2k _ _ _ _ n1, eb]; exact hR.1.2.1
      · rw [u2j _ _ _ (by decide), e2, u2j _ _ _ (by decide), u2s, c6]; exact hR.1.2.2.1
      · rw [u2j _ _ _ (by decide), e2, u2s, u2k _ _ _ _ n1, c6]; exact hR.1.2.2.2.1
      · rw [u2s, c7]; exact hR.1.2.2.2.2
      · obtain ⟨q1, q2, q3, q4, q5, q6⟩ := hR.2 p hp
        refine ⟨?_, ?_, ?_, ?_, ?_, ?_⟩ <;> rw [far _ _ (by decide), t p hp _ (by decide) (by decide)] <;> assumption

