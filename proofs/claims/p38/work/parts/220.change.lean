/-! the class: the commands -/
def Out : Type := Int32 ⊕ ((Int32 × Int32) ⊕ (Nat × (Nat → Nat) × (Nat → Nat → Nat)))
def Out.no (r : Int32) : Out := Sum.inl r
def Out.ref (a b : Int32) : Out := Sum.inr (Sum.inl (a, b))
def Out.ok (r : Nat) (g : Nat → Nat) (f : Nat → Nat → Nat) : Out := Sum.inr (Sum.inr (r, g, f))
def IK (k : Nat) : Prop := (1 ≤ k ∧ k ≤ 7) ∨ AK k
def oQ (σ : SS) (Q : Int32 → SS → Prop) (z : Bool) (o : Out) : Prop := match (o : Int32 ⊕ ((Int32 × Int32) ⊕ (Nat × (Nat → Nat) × (Nat → Nat → Nat)))) with
  | Sum.inl r => Q r σ
  | Sum.inr (Sum.inl (a, b)) => ∀ τ, SB (fun k => AK k ∨ k = 94) σ τ → τ 94 0 = a → τ 94 1 = b → τ 94 2 = σ 0 12 → Q (-3) τ
  | Sum.inr (Sum.inr (r, g, f)) => ∀ τ, SB IK σ τ → RC 1 g f τ → Q (if z then 0 else nI r) τ
theorem sp_refuse {σ σ0 : SS} (k0 : SB AK σ0 σ) {a b : Int32} {Q : Int32 → SS → Prop} {z : Bool} (q : oQ σ0 Q z (.ref a b)) : wp_X9_refuse σ a b Q := by
  unfold wp_X9_refuse wp_X5_tell
  rintro τ rfl
  refine q _ ?_ ?_ ?_ ?_
  · refine SB.w (SB.w (SB.w (k0.mono fun _ => Or.inl) (Or.inr rfl)) (Or.inr rfl)) (Or.inr rfl)
  · rw [u2j _ _ _ (by decide), u2j _ _ _ (by decide), u2s]
  · rw [u2j _ _ _ (by decide), u2s]
  · rw [u2s, k0 0 (by unfold AK; omega)]
def setF (f : Nat → Nat → Nat) (p j v : Nat) : Nat → Nat → Nat := fun q k => if q = p ∧ k = j then v else f q k
theorem setF_s (f : Nat → Nat → Nat) (p j v : Nat) : setF f p j v p j = v := by unfold setF; rw [if_pos ⟨rfl, rfl⟩]
theorem setF_k (f : Nat → Nat → Nat) {p q j k : Nat} (v : Nat) (h : q ≠ p ∨ k ≠ j) : setF f p j v q k = f q k := by unfold setF; rw [if_neg (by omega)]
theorem RC.at {g : Nat → Nat} {f f' : Nat → Nat → Nat} {σ τ : SS} (h : RC 1 g f σ) (e1 : τ 1 = σ 1) (e : ∀ m p, m < 6 → p < 9 → τ (m + 2) p = if wv g f' m p = wv g f m p then σ (m + 2) p else wv g f' m p) : RC 1 g f' τ := by
  refine RC.of (a := 1) (by rw [e1]; exact h.1.1) (by rw [e1]; exact h.1.2.1) (by rw [e1]; exact h.1.2.2.1) (by rw [e1]; exact h.1.2.2.2.1) (by rw [e1]; exact h.1.2.2.2.2) fun m p hm hp => ?_
  have h1 := h.num hm hp
  rw [show 1 + (m + 1) = m + 2 by omega] at h1 ⊢
  rw [e m p hm hp]
  split
  · next c => rw [c]; exact h1
  · rfl
/-- one number of a post, but where its blind angle begins -/
theorem RC.set {g : Nat → Nat} {f : Nat → Nat → Nat} {σ : SS} (h : RC 1 g f σ) {p j v : Nat} (hp : p < g 0) (hj : j ≠ 3) (hj4 : j ≠ 4) (hj6 : j < 6) : RC 1 g (setF f p j v) (u2 σ (j + 2) p (nI v)) := by
  refine RC.of (a := 1) ?_ ?_ ?_ ?_ ?_ fun m q hm hq => ?_
  · rw [u2k _ _ _ _ (by omega)]; exact h.1.1
  · rw [u2k _ _ _ _ (by omega)]; exact h.1.2.1
  · rw [u2k _ _ _ _ (by omega)]; exact h.1.2.2.1
  · rw [u2k _ _ _ _ (by omega)]; exact h.1.2.2.2.1
  · rw [u2k _ _ _ _ (by omega)]; exact h.1.2.2.2.2
  · have h1 := h.num hm hq
    rw [u2i]
    by_cases c : 1 + (m + 1) = j + 2 ∧ q = p
    · rw [if_pos c]
      obtain ⟨c1, rfl⟩ := c
      have : m = j := by omega
      subst this
      rw [wv_in hp hj, setF_s]
    · rw [if_neg c, h1]
      unfold wv
      have e4 : setF f p j v q 4 = f q 4 := setF_k f v (by omega)
      have e3 : setF f p j v q 3 = f q 3 := setF_k f v (by omega)
      rw [e4, e3]
      by_cases cm : q = p ∧ m = j
      · omega
      · rw [setF_k f v (by omega)]
def bliF (f : Nat → Nat → Nat) (p s n : Nat) : Nat → Nat → Nat := setF (setF f p 3 s) p 4 n
theorem bli3 (f : Nat → Nat → Nat) (p s n : Nat) : bliF f p s n p 3 = s := by unfold bliF; rw [setF_k _ _ (by omega), setF_s]
theorem bli4 (f : Nat → Nat → Nat) (p s n : Nat) : bliF f p s n p 4 = n := by unfold bliF; rw [setF_s]
theorem bliK (f : Nat → Nat → Nat) {p q k : Nat} (s n : Nat) (h : q ≠ p ∨ (k ≠ 3 ∧ k ≠ 4)) : bliF f p s n q k = f q k := by unfold bliF; rw [setF_k _ _ (by omega), setF_k _ _ (by omega)]
theorem RC.bli {g : Nat → Nat} {f : Nat → Nat → Nat} {σ : SS} (h : RC 1 g f σ) {p s n : Nat} (hp : p < g 0) {x : Int32} (hx : x = if n = 0 then -4 else nI s) : RC 1 g (bliF f p s n) (u2 (u2 σ 5 p x) 6 p (nI n)) := by
  refine RC.of (a := 1) ?_ ?_ ?_ ?_ ?_ fun m q hm hq => ?_
  · rw [u2k _ _ _ _ (by omega), u2k _ _ _ _ (by omega)]; exact h.1.1
  · rw [u2k _ _ _ _ (by omega), u2k _ _ _ _ (by omega)]; exact h.1.2.1
  · rw [u2k _ _ _ _ (by omega), u2k _ _ _ _ (by omega)]; exact h.1.2.2.1
  · rw [u2k _ _ _ _ (by omega), u2k _ _ _ _ (by omega)]; exact h.1.2.2.2.1
  · rw [u2k _ _ _ _ (by omega), u2k _ _ _ _ (by omega)]; exact h.1.2.2.2.2
  · have h1 := h.num hm hq
    rw [u2i, u2i]
    by_cases c4 : m = 4 ∧ q = p
    · obtain ⟨rfl, rfl⟩ := c4
      rw [if_pos ⟨rfl, rfl⟩, wv_in hp (by decide), bli4]
    · rw [if_neg (by omega)]
      by_cases c3 : m = 3 ∧ q = p
      · obtain ⟨rfl, rfl⟩ := c3
        rw [if_pos ⟨rfl, rfl⟩, hx]
        unfold wv
        rw [if_pos hp, if_pos rfl, bli4, bli3]
      · rw [if_neg (by omega), h1]
        unfold wv
        by_cases cq : q = p
        · subst cq
          rw [bliK f s n (k := m) (by omega)]
          simp only [if_neg (show ¬ m = 3 by omega)]
        · rw [bliK f s n (k := m) (Or.inl cq), bliK f s n (k := 3) (Or.inl cq), bliK f s n (k := 4) (Or.inl cq)]
/-! the outcomes -/
def o_post (g : Nat → Nat) (f : Nat → Nat → Nat) (x y z : Int32) : Out := match ox x 24 with
  | none => .no (-1)
  | some s => match ox y 12 with
    | none => .no (-2)
    | some l => match ox z 12 with
      | none => .no (-2)
      | some r => match pon g f s with
        | some p => .ref 2 (nI p)
        | none => if g 0 < 9 then .ok (g 0) (addG g) (addF g f s l r) else .ref 1 9
theorem pon_lt {g : Nat → Nat} {f : Nat → Nat → Nat} {s p : Nat} (h : pon g f s = some p) : p < g 0 := (fnd_some h).1
theorem SB.ik {σ τ : SS} (h : SB (fun k => 1 ≤ k ∧ k ≤ 1 + 6) σ τ) : SB IK σ τ := h.mono fun k hk => Or.inl (by omega)
theorem sp_buildPost {g : Nat → Nat} {f : Nat → Nat → Nat} {σ : SS} (h : RC 1 g f σ) (ho : OkW g f) (x y z : Int32) {Q : Int32 → SS → Prop} (q : oQ σ Q false (o_post g f x y z)) : wp_X9_buildPost σ x y z Q := by
  have h9 := ho.1
  unfold wp_X9_buildPost
  unfold o_post at q
  refine sp_isStone x (fun s hs ex e => ?_) (fun e => by rw [e] at q; exact br_t rfl q)
  rw [e] at q
  refine br_f (by decide) (sp_isReach y (fun l hl ey e2 => ?_) (fun e => by rw [e] at q; exact br_t rfl q))
  rw [e2] at q
  refine br_f (by decide) (sp_isReach z (fun r hr ez e3 => ?_) (fun e => by rw [e] at q; exact br_t rfl q))
  rw [e3] at q
  subst ex ey ez
  refine br_f (by decide) (sp_postOnS h ho hs ?_)
  cases ep : pon g f s with
  | none =>
    simp only [ep] at q
    refine br_t rfl ?_
    rw [h.1.1, show (9 : Int32) = nI 9 from rfl, nI_ltI (by omega) (by omega)]
    by_cases c : g 0 < 9
    · simp only [if_pos c] at q
      exact br_t c (sp_add h ho c fun τ k hr' => q τ k.ik hr')
    · simp only [if_neg c] at q
      exact br_f c (sp_refuse SB.rf q)
  | some p =>
    simp only [ep] at q
    have := pon_lt ep
    exact br_f (nI_n1 (by omega)) (sp_refuse SB.rf q)
def o_tear (g : Nat → Nat) (f : Nat → Nat → Nat) (x : Int32) : Out := match ox x (g 0) with
  | none => .no (-1)
  | some p => .ok (g 0 - 1) (tearG g) (tearF f p)
theorem sp_tearDown {g : Nat → Nat} {f : Nat → Nat → Nat} {σ : SS} (h : RC 1 g f σ) (ho : OkW g f) (x : Int32) {Q : Int32 → SS → Prop} (q : oQ σ Q false (o_tear g f x)) : wp_X9_tearDown σ x Q := by
  unfold wp_X9_tearDown
  unfold o_tear at q
  refine sp_isPostX h ho x (fun p hp ex e => ?_) (fun e => by rw [e] at q; exact br_t rfl q)
  rw [e] at q
  subst ex
  refine br_f (by decide) (sp_remove h ho hp fun τ k hr => ?_)
  rw [hr.1.1]
  exact q τ k.ik hr
def o_reach (g : Nat → Nat) (f : Nat → Nat → Nat) (x y z : Int32) : Out := match ox x (g 0) with
  | none => .no (-1)
  | some p => match ox y 12 with
    | none => .no (-2)
    | some l => match ox z 12 with
      | none => .no (-2)
      | some r => if f p 1 = l ∧ f p 2 = r then .ref 3 (nI l) else .ok (100 * f p 1 + f p 2) g (setF (setF f p 1 l) p 2 r)
theorem sp_tellReaches {g : Nat → Nat} {f : Nat → Nat → Nat} {σ : SS} (h : RC 1 g f σ) (ho : OkW g f) (x y z : Int32) {Q : Int32 → SS → Prop} (q : oQ σ Q false (o_reach g f x y z)) : wp_X9_tellReaches σ x y z Q := by
  have h9 := ho.1
  unfold wp_X9_tellReaches
  unfold o_reach at q
  refine sp_isPostX h ho x (fun p hp ex e => ?_) (fun e => by rw [e] at q; exact br_t rfl q)
  rw [e] at q
  refine br_f (by decide) (sp_isReach y (fun l hl ey e2 => ?_) (fun e => by rw [e] at q; exact br_t rfl q))
  rw [e2] at q
  refine br_f (by decide) (sp_isReach z (fun r hr ez e3 => ?_) (fun e => by rw [e] at q; exact br_t rfl q))
  rw [e3] at q
  subst ex ey ez
  obtain ⟨o0, o1, o2, _⟩ := ho.2.2 p hp
  have ip : vp_in (nI p) 9 := pk_in p 9 (by omega)
  have e1 : σ 3 p = nI (f p 1) := by rw [← wv_in hp (j := 1) (by decide)]; exact h.num (m := 1) (by decide) (by omega)
  have e2 : σ 4 p = nI (f p 2) := by rw [← wv_in hp (j := 2) (by decide)]; exact h.num (m := 2) (by decide) (by omega)
  refine br_f (by decide) ⟨ip, ip, ?_⟩
  rw [pk_cl p, e1, e2]
  have go : ¬ (f p 1 = l ∧ f p 2 = r) → ∀ τ : SS, τ = u2 (u2 σ 3 p (nI l)) 4 p (nI r) → Q ((100 * nI (f p 1)) + nI (f p 2)) τ := by
    intro c τ eτ
    simp only [if_neg c] at q
    have hr := (h.set (j := 1) (v := l) hp (by decide) (by decide) (by decide)).set (j := 2) (v := r) hp (by decide) (by decide) (by decide)
    rw [show (100 : Int32) = nI 100 from rfl, pk_mul, nI_add]
    refine q τ ?_ (by rw [eτ]; exact hr)
    rw [eτ]
    exact (SB.rf.w (Or.inl (by omega))).w (Or.inl (by omega))
  refine pk_eq (f p 1) l (fun c1 => pk_eq (f p 2) r (fun c2 => ?_) (fun c2 => ⟨ip, ip, go (by omega)⟩)) (fun c1 => ⟨ip, ip, go (by omega)⟩)
  simp only [if_pos (And.intro c1 c2)] at q
  exact sp_refuse SB.rf q
def o_blind (g : Nat → Nat) (f : Nat → Nat → Nat) (x y z : Int32) : Out := match ox x (g 0) with
  | none => .no (-1)
  | some p => match ox y 24 with
    | none => .no (-1)
    | some s => match ox z 9 with
      | none => .no (-2)
      | some n => if n = 0 then .no (-2) else if f p 4 = n ∧ f p 3 = s then .ref 3 (nI s) else .ok (pc (NR g (bliF f p s n) p)) g (bliF f p s n)
theorem i_lt1 {x : Int32} (h : ¬ x < 1) : ¬ x < 0 ∧ x ≠ nI 0 := by
  rw [Int32.lt_iff_toInt_lt] at h
  rw [Int32.lt_iff_toInt_lt]
  have h1 : (1 : Int32).toInt = 1 := rfl
  have h0 : (0 : Int32).toInt = 0 := rfl
  refine ⟨by omega, fun e => ?_⟩
  subst e
  have h2 : (nI 0).toInt = 0 := rfl
  omega
theorem wv3 {g : Nat → Nat} {f : Nat → Nat → Nat} {p : Nat} (hp : p < g 0) : wv g f 3 p = if f p 4 = 0 then -4 else nI (f p 3) := by
  unfold wv; rw [if_pos hp, if_pos rfl]
theorem sp_tellBlind {g : Nat → Nat} {f : Nat → Nat → Nat} {σ : SS} (h : RC 1 g f σ) (ho : OkW g f) (x y z : Int32) {Q : Int32 → SS → Prop} (q : oQ σ Q true (o_blind g f x y z)) : wp_X9_tellBlindAngle σ x y z Q := by
  have h9 := ho.1
  unfold wp_X9_tellBlindAngle
  unfold o_blind at q
  refine sp_isPostX h ho x (fun p hp ex e => ?_) (fun e => by rw [e] at q; exact br_t rfl q)
  rw [e] at q
  refine br_f (by decide) (sp_isStone y (fun s hs ey e2 => ?_) (fun e => by rw [e] at q; exact br_t rfl q))
  rw [e2] at q
  subst ex ey
  refine br_f (by decide) ?_
  have ip : vp_in (nI p) 9 := pk_in p 9 (by omega)
  obtain ⟨o0, o1, o2, o4, o3, _⟩ := ho.2.2 p hp
  have e5 : σ 5 p = if f p 4 = 0 then -4 else nI (f p 3) := by rw [← wv3 hp]; exact h.num (m := 3) (by decide) (by omega)
  have e6 : σ 6 p = nI (f p 4) := by rw [← wv_in hp (j := 4) (by decide)]; exact h.num (m := 4) (by decide) (by omega)
  rcases ox_c z (n := 9) (by omega) with ⟨c, e', _⟩ | ⟨c, c', e', _⟩ | ⟨n, hn, rfl, e'⟩
  · rw [e'] at q
    refine br_t ?_ q
    rw [Int32.lt_iff_toInt_lt] at c ⊢
    have h1 : (1 : Int32).toInt = 1 := rfl
    have h0 : (0 : Int32).toInt = 0 := rfl
    omega
  · rw [e'] at q
    refine br_c (fun _ => q) (fun _ => br_f (i_nle2 8 (by omega) rfl c) q)
  · rw [e'] at q
    by_cases cn : n = 0
    · subst cn
      exact br_t (by decide) q
    · simp only [if_neg cn] at q
      refine br_f (by rw [show (1 : Int32) = nI 1 from rfl, nI_ltI (by omega) (by omega)]; omega) (br_t (by rw [show (8 : Int32) = nI 8 from rfl, nI_leI (by omega) (by omega)]; omega) ⟨ip, ?_⟩)
      rw [pk_cl p, e5, e6]
      have go : ¬ (f p 4 = n ∧ f p 3 = s) → ∀ τ : SS, τ = u2 (u2 σ 5 p (nI s)) 6 p (nI n) → Q 0 τ := by
        intro c τ eτ
        simp only [if_neg c] at q
        have hr := h.bli (s := s) (n := n) hp (x := nI s) (by rw [if_neg cn])
        refine q τ ?_ (by rw [eτ]; exact hr)
        rw [eτ]
        exact (SB.rf.w (Or.inl (by omega))).w (Or.inl (by omega))
      by_cases c4 : f p 4 = 0
      · rw [if_pos c4]
        exact br_f (fun e => nI_n4 (show s < 2 ^ 31 by omega) e.symm) ⟨ip, ip, go (by omega)⟩
      · rw [if_neg c4]
        have o3 := o3 c4
        refine pk_eq (f p 3) s (fun c1 => ⟨ip, pk_eq (f p 4) n (fun c2 => ?_) (fun c2 => ⟨ip, ip, go (by omega)⟩)⟩) (fun c1 => ⟨ip, ip, go (by omega)⟩)
        simp only [if_pos (And.intro c2 c1)] at q
        exact sp_refuse SB.rf q
def o_see (g : Nat → Nat) (f : Nat → Nat → Nat) (x : Int32) : Out := match ox x (g 0) with
  | none => .no (-1)
  | some p => if f p 4 = 0 then .ref 5 (nI p) else .ok (pc (NR g (bliF f p 0 0) p)) g (bliF f p 0 0)
theorem sp_dropBlind {g : Nat → Nat} {f : Nat → Nat → Nat} {σ : SS} (h : RC 1 g f σ) (ho : OkW g f) (x : Int32) {Q : Int32 → SS → Prop} (q : oQ σ Q true (o_see g f x)) : wp_X9_dropBlindAngle σ x Q := by
  have h9 := ho.1
  unfold wp_X9_dropBlindAngle
  unfold o_see at q
  refine sp_isPostX h ho x (fun p hp ex e => ?_) (fun e => by rw [e] at q; exact br_t rfl q)
  rw [e] at q
  subst ex
  have ip : vp_in (nI p) 9 := pk_in p 9 (by omega)
  obtain ⟨o0, o1, o2, o4, o3, _⟩ := ho.2.2 p hp
  have e6 : σ 6 p = nI (f p 4) := by rw [← wv_in hp (j := 4) (by decide)]; exact h.num (m := 4) (by decide) (by omega)
  refine br_f (by decide) ⟨ip, ?_⟩
  rw [pk_cl p, e6]
  refine pk_eq (f p 4) 0 (fun c => ?_) (fun c => ⟨ip, ip, fun τ eτ => ?_⟩)
  · simp only [if_pos c] at q
    exact sp_refuse SB.rf q
  · simp only [if_neg c] at q
    have hr := h.bli (s := 0) (n := 0) hp (x := -4) rfl
    refine q τ ?_ (by rw [eτ]; exact hr)
    rw [eτ]
    exact (SB.rf.w (Or.inl (by omega))).w (Or.inl (by omega))
def o_man (g : Nat → Nat) (f : Nat → Nat → Nat) (x y : Int32) : Out := match ox x (g 0) with
  | none => .no (-1)
  | some p => match ox y 2 with
    | none => .no (-2)
    | some b => if f p 5 = b then .ref 3 (nI b) else .ok (pc (sn g (setF f p 5 b))) g (setF f p 5 b)
theorem sp_letBe {g : Nat → Nat} {f : Nat → Nat → Nat} {σ : SS} (h : RC 1 g f σ) (ho : OkW g f) (x y : Int32) {Q : Int32 → SS → Prop} (q : oQ σ Q true (o_man g f x y)) : wp_X9_letBeManned σ x y Q := by
  have h9 := ho.1
  unfold wp_X9_letBeManned
  unfold o_man at q
  refine sp_isPostX h ho x (fun p hp ex e => ?_) (fun e => by rw [e] at q; exact br_t rfl q)
  rw [e] at q
  subst ex
  have ip : vp_in (nI p) 9 := pk_in p 9 (by omega)
  obtain ⟨o0, o1, o2, o4, o3, o5⟩ := ho.2.2 p hp
  have e7 : σ 7 p = nI (f p 5) := by rw [← wv_in hp (j := 5) (by decide)]; exact h.num (m := 5) (by decide) (by omega)
  refine br_f (by decide) ?_
  rw [pk_cl p, e7]
  have go : ∀ b, b < 2 → y = nI b → vp_in (nI p) 9 ∧ ((nI (f p 5) = y → wp_X9_refuse σ 3 y (fun r4 σ3 => Q r4 σ3)) ∧ (¬ nI (f p 5) = y → vp_in (nI p) 9 ∧ Q 0 (u2 σ 7 p y))) := by
    rintro b hb rfl
    rw [ox_in hb (by omega)] at q
    refine ⟨ip, pk_eq (f p 5) b (fun c => ?_) (fun c => ⟨ip, ?_⟩)⟩
    · simp only [if_pos c] at q
      exact sp_refuse SB.rf q
    · simp only [if_neg c] at q
      exact q _ (SB.rf.w (Or.inl (by omega))) (h.set (j := 5) (v := b) hp (by decide) (by decide) (by decide))
  refine br_c (fun c => go 0 (by decide) c) fun c0 => br_c (fun c => go 1 (by decide) c) fun c1 => ?_
  rw [ox_iff (by omega) fun k hk e => by
    rcases (show k = 0 ∨ k = 1 by omega) with rfl | rfl
    · exact c0 e
    · exact c1 e] at q
  exact q
def hourG (g : Nat → Nat) (h : Nat) : Nat → Nat := fun k => if k = 1 then h else g k
def o_hour (g : Nat → Nat) (f : Nat → Nat → Nat) (x : Int32) : Out := match ox x 12 with
  | none => .no (-2)
  | some h => if g 1 = h then .ref 3 (nI h) else .ok (g 1) (hourG g h) f
theorem sp_tellHour {g : Nat → Nat} {f : Nat → Nat → Nat} {σ : SS} (h : RC 1 g f σ) (ho : OkW g f) (x : Int32) {Q : Int32 → SS → Prop} (q : oQ σ Q false (o_hour g f x)) : wp_X9_tellHour σ x Q := by
  have h12 := ho.2.1
  unfold wp_X9_tellHour
  unfold o_hour at q
  refine sp_isHour x (fun hh hp ex e => ?_) (fun e => by rw [e] at q; exact br_t rfl q)
  rw [e] at q
  subst ex
  refine br_f (by decide) ?_
  rw [h.1.2.1]
  refine pk_eq (g 1) hh (fun c => ?_) (fun c => ?_)
  · simp only [if_pos c] at q
    exact sp_refuse SB.rf q
  · simp only [if_neg c] at q
    refine q _ (SB.rf.w (Or.inl (by omega))) (RC.of ?_ ?_ ?_ ?_ ?_ fun m p hm hp' => ?_)
    · rw [u2j _ _ _ (by decide)]; exact h.1.1
    · rw [u2s]; rfl
    · rw [u2j _ _ _ (by decide)]; exact h.1.2.2.1
    · rw [u2j _ _ _ (by decide)]; exact h.1.2.2.2.1
    · rw [u2j _ _ _ (by decide)]; exact h.1.2.2.2.2
    · rw [u2k _ _ _ _ (by omega)]; exact h.num hm hp'
def o_watch (g : Nat → Nat) (f : Nat → Nat → Nat) : Out := match few (NR g f) (g 0) with
  | none => .ref 4 (nI (uns g f))
  | some t => .ok (pc t) (manG g) (manF f t)
theorem sp_manFewest {g : Nat → Nat} {f : Nat → Nat → Nat} {σ : SS} (h : RC 1 g f σ) (ho : OkW g f) {Q : Int32 → SS → Prop} (q : oQ σ Q false (o_watch g f)) : wp_X9_manFewest σ Q := by
  have h9 := ho.1
  have h2 := p2_le h9
  unfold wp_X9_manFewest
  unfold o_watch at q
  refine sp_look h ho fun τ k hs => sp_trySets hs (NR_lt g f) h9 fun υ k2 e1 _ _ => ?_
  have hs2 := SB.sg hs k2 (by omega) (by omega)
  have kk := k.tr (k2.mono fun _ => AK_c)
  rw [e1]
  change ((oN (few (NR g f) (g 0)) = (-4) → _) ∧ (¬ oN (few (NR g f) (g 0)) = (-4) → wp_X8_manJust 1 υ (oN (few (NR g f) (g 0))) _))
  cases ef : few (NR g f) (g 0) with
  | none =>
    rw [ef] at q
    exact br_t rfl (sp_manyUnseen hs2 (sp_refuse kk q))
  | some t =>
    rw [ef] at q
    have ht := (few_lt h9 ef).1
    refine br_f (nI_n4 (by omega)) (sp_manJust (h.ak kk) ho ht fun ω k3 hr => ?_)
    have e2 : ω 82 2 = nI t := by
      rw [k3 82 (by omega), e1]
      change oN (few (NR g f) (g 0)) = _
      rw [ef]; rfl
    rw [e2]
    refine sp_bc (by omega) (q ω ?_ hr)
    exact (kk.mono fun _ => Or.inr).tr k3.ik
