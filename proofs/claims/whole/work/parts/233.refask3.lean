/-! the reference: next, greedy, spare, order, account -/
theorem rp_nextTo {g : Nat → Nat} {f : Nat → Nat → Nat} {σ : SS} (h : R0 g f σ) (ho : OkW g f) {S : Nat} (hS : S < 512) {Q : Int32 → SS → Prop} (q : Q (oN (a_next g f S)) σ) : wp_X10_nextTo σ (nI S) Q := by
  have h9 := ho.1
  unfold wp_X10_nextTo
  refine rp_seen h ho (by omega) ?_
  rw [show (16777215 : Int32) = nI ALL from rfl, mI_df]
  unfold a_next at q
  generalize df ALL (orS (NR g f) S 9) = X at *
  rw [bst_9 (fun p hp => NR_0 hp) h9] at q
  refine Liii.up (N := g 0) 0 (fun i τ v w u => τ = σ ∧ v = oN (bst (NR g f) (df 511 S) X i).1 ∧ w = nI (bst (NR g f) (df 511 S) X i).2 ∧ u = nI i) (by omega) ⟨rfl, rfl, rfl, rfl⟩ ?_ ?_
  · rintro rc i τ v w u _ hi ⟨rfl, rfl, rfl, rfl⟩ k
    unfold bd_X10_nextTo_20
    have hb := bst_le (NR g f) (df 511 S) X i
    have e := bst_s (NR g f) (df 511 S) X i
    have h5 : (511 : Nat).testBit i = true := by rw [show (511 : Nat) = 2 ^ 9 - 1 from rfl, Nat.testBit_two_pow_sub_one]; simp; omega
    have ed : (df 511 S).testBit i = !S.testBit i := by rw [df_bit (by decide), h5]; rfl
    have hm := pc_le (NR g f i &&& X)
    rw [h.g0]
    refine br_f (nI_gt hi (by omega)) (rp_has (by omega) (by omega) (fun c => br_f (by decide) ?_) (fun c => br_t rfl ?_))
    · rw [mny_f (by rw [ed, c]; rfl), if_neg (by omega)] at e
      refine br_t (nI_pos' (by omega)) (rp_max (b := 0) (by omega) (by omega) ?_)
      rw [if_neg (by omega), nI_1]
      exact k _ _ _ _ ⟨rfl, by rw [e], by rw [e], rfl⟩
    · rw [mny_t (by rw [ed, c]; rfl)] at e
      refine rp_sight h ho hi ?_
      rw [mI_and]
      refine rp_bits (m_and_lt (n := 24) _ (NR_lt g f i)) ?_
      rw [nI_leI (by omega) (by omega)]
      refine br_c (fun c => rp_max (by omega) (by omega) ?_) (fun c => rp_max (by omega) (by omega) ?_)
      · rw [if_neg (by omega)] at e ⊢
        rw [nI_1]
        exact k _ _ _ _ ⟨rfl, by rw [e], by rw [e], rfl⟩
      · rw [if_pos (by omega)] at e ⊢
        rw [nI_1]
        exact k _ _ _ _ ⟨rfl, by rw [e]; rfl, by rw [e], rfl⟩
  · rintro rc τ v w u ⟨rfl, rfl, rfl, rfl⟩
    unfold bd_X10_nextTo_20
    rw [h.g0]
    exact br_t (by rw [nI_leI (by omega) (by omega)]; omega) q
theorem rp_next {g : Nat → Nat} {f : Nat → Nat → Nat} {σ : SS} (h : R0 g f σ) (ho : OkW g f) {Q : Int32 → SS → Prop} (q : Q (oN (a_next g f (mns g f))) σ) : wp_X10_next σ Q := by
  unfold wp_X10_next
  exact rp_mannedSet h ho (rp_nextTo h ho (mns_lt ho) q)
theorem rp_greedy {g : Nat → Nat} {f : Nat → Nat → Nat} {σ : SS} (h : R0 g f σ) (ho : OkW g f) {Q : Int32 → SS → Prop} (q : Q (nI (pc (grd g f 9 (mns g f)))) σ) : wp_X10_greedy σ Q := by
  have hM := mns_lt ho
  unfold wp_X10_greedy
  refine rp_mannedSet h ho (rp_nextTo h ho hM ?_)
  obtain ⟨G, eG⟩ : ∃ G, G = grd g f 9 (mns g f) := ⟨_, rfl⟩
  rw [← eG] at q
  have key : ∀ k V τ, τ = σ → V < 512 → 9 ≤ pc V + k → grd g f k V = G → Lii (bd_X10_greedy_11 Q) (k + 1) τ (nI V) (oN (a_next g f V)) := by
    intro k
    induction k with
    | zero =>
      rintro V τ rfl hV hp e
      show bd_X10_greedy_11 Q _ τ (nI V) (oN (a_next g f V))
      unfold bd_X10_greedy_11
      have e : V = G := e
      cases en : a_next g f V with
      | none => exact br_t rfl (rp_bits (by omega) (by rw [e]; exact q))
      | some p =>
        obtain ⟨hp9, hpb⟩ := next_lt en
        have h1 := pc_or1 (a := V) (p := p) (by omega) hpb
        have h2 : V ||| 2 ^ p < 2 ^ 9 := m_or_lt (n := 9) hV (Nat.pow_lt_pow_right (by omega) hp9)
        have h3 := pc_lt9 (m := 9) h2
        omega
    | succ k ih =>
      rintro V τ rfl hV hp e
      show bd_X10_greedy_11 Q (Lii (bd_X10_greedy_11 Q) (k + 1)) τ (nI V) (oN (a_next g f V))
      unfold bd_X10_greedy_11
      unfold grd at e
      cases en : a_next g f V with
      | none =>
        rw [en] at e
        have e : V = G := e
        exact br_t rfl (rp_bits (by omega) (by rw [e]; exact q))
      | some p =>
        rw [en] at e
        obtain ⟨hp9, hpb⟩ := next_lt en
        have h1 := pc_or1 (a := V) (p := p) (by omega) hpb
        have h2 : V ||| 2 ^ p < 2 ^ 9 := m_or_lt (n := 9) hV (Nat.pow_lt_pow_right (by omega) hp9)
        refine br_f (nI_n4 (by omega)) ?_
        show wp_X10_nextTo τ (nI V ||| ((1 : Int32) <<< (nI p &&& 31))) (fun r8 σ7 => Lii (bd_X10_greedy_11 Q) (k + 1) σ7 (nI V ||| ((1 : Int32) <<< (nI p &&& 31))) r8)
        rw [mI_shl1 (by omega), mI_or]
        exact rp_nextTo h ho h2 (ih _ τ rfl h2 (by omega) e)
  exact ⟨_, key 9 (mns g f) σ rfl hM (by omega) eG.symm⟩
/-! which can be spared -/
theorem orS_mono {ρ : Nat → Nat} {S T : Nat} (h : sub2 S T) (n : Nat) : sub2 (orS ρ S n) (orS ρ T n) := fun s hs => by
  obtain ⟨p, h1, h2, h3⟩ := (orS_bit ρ S s n).mp hs
  exact (orS_bit ρ T s n).mpr ⟨p, h1, h p h2, h3⟩
theorem df_off {v n : Nat} (hv : v < 2 ^ 32) (h : v.testBit n = false) : df v (2 ^ n) = v := by
  refine m_ext (n := 32) (df_lt _ hv) hv fun i _ => ?_
  rw [df_bit hv, m_pow_bit]
  by_cases e : n = i
  · subst e; rw [h]; rfl
  · simp [e]
theorem spr_stuck {ρ : Nat → Nat} {S0 v n : Nat} (hv : v < 512) : ∀ j, (∀ k, n ≤ k → k < n + j → v.testBit k = true → orS ρ (df v (2 ^ k)) 9 ≠ S0) → spr ρ S0 (n + j) v = spr ρ S0 n v
  | 0, _ => rfl
  | j + 1, h => by
    rw [show n + (j + 1) = (n + j) + 1 from rfl]
    show spr ρ S0 (n + j) (if orS ρ (df v (2 ^ (n + j))) 9 = S0 then df v (2 ^ (n + j)) else v) = _
    have e : (if orS ρ (df v (2 ^ (n + j))) 9 = S0 then df v (2 ^ (n + j)) else v) = v := by
      cases hb : v.testBit (n + j) with
      | false => rw [df_off (by omega) hb]; split <;> rfl
      | true => rw [if_neg (h (n + j) (by omega) (by omega) hb)]
    rw [e]
    exact spr_stuck hv j fun k h1 h2 => h k h1 (by omega)
theorem pc_df1 {v n : Nat} (hv : v < 512) (hn : n < 9) (h : v.testBit n = true) : pc (df v (2 ^ n)) + 1 = pc v := by
  have h1 : (df v (2 ^ n)).testBit n = false := by rw [df_bit (by omega), m_pow_bit]; simp
  have h2 := pc_or1 (a := df v (2 ^ n)) (p := n) (by omega) h1
  have hd : df v (2 ^ n) ≤ v := df_le _ _
  have h3 : df v (2 ^ n) ||| 2 ^ n = v := by
    refine m_ext (n := 9) (m_or_lt (by omega) (Nat.pow_lt_pow_right (by omega) hn)) hv fun i _ => ?_
    rw [Nat.testBit_or, df_bit (by omega), m_pow_bit]
    by_cases e : n = i
    · subst e; rw [h]; simp
    · simp [e]
  rw [h3] at h2
  omega
theorem rp_spare {g : Nat → Nat} {f : Nat → Nat → Nat} {σ : SS} (h : R0 g f σ) (ho : OkW g f) {Q : Int32 → SS → Prop} (q : Q (nI (a_spare g f)) σ) : wp_X10_spare σ Q := by
  have h9 := ho.1
  have hM := mns_lt ho
  unfold wp_X10_spare
  refine rp_mannedSet h ho (rp_seen h ho (by omega) ?_)
  rw [h.g0]
  unfold a_spare at q
  have hl := sn_lt g f
  change ∃ k10, Liii (bd_X10_spare_23 Q (nI (sn g f))) k10 σ (nI (mns g f)) 0 (nI (g 0) - 1)
  obtain ⟨G, eG⟩ : ∃ G, G = spr (NR g f) (sn g f) 9 (mns g f) := ⟨_, rfl⟩
  rw [← eG] at q
  -- V: what is left; n: the posts below n are still to be tried
  have sub : ∀ v n, v < 2 ^ 32 → sub2 (df v (2 ^ n)) v := fun v n hv i hi => by
    rw [df_bit hv] at hi
    simp only [Bool.and_eq_true] at hi
    exact hi.1
  refine Liii.ex (fun τ v c w => τ = σ ∧ ∃ V n, v = nI V ∧ n ≤ g 0 ∧ w = nI n + (-1) ∧ V < 2 ^ g 0 ∧ sub2 V (mns g f) ∧ c = nI (pc (mns g f) - pc V) ∧ pc V ≤ pc (mns g f) ∧ spr (NR g f) (sn g f) n V = G ∧ ∀ k, n ≤ k → V.testBit k = true → orS (NR g f) (df V (2 ^ k)) 9 ≠ sn g f) (fun τ v c w => 20 * pc v.toNatClampNeg + (w + 1).toNatClampNeg) ?_ ?_
  · rintro rc τ v c w ⟨rfl, V, n, rfl, hn, rfl, hV, hsub, rfl, hpc, hs, hk⟩ k
    have hp := p2_le h9
    unfold bd_X10_spare_23
    cases n with
    | zero =>
      have hs : V = G := hs
      rw [← hs] at q
      exact br_t (by decide) q
    | succ n =>
      rw [pk_m1]
      have hd : df V (2 ^ n) ≤ V := df_le _ _
      have mu : ∀ m, (nI m + (-1) + 1).toNatClampNeg = (nI m).toNatClampNeg := fun m => by
        rw [show nI m + (-1) + 1 = nI m by rw [Int32.add_assoc]; simp]
      have mu0 : ∀ m, m < 1000 → (nI m).toNatClampNeg = m := fun m hm => pk_cl (x := nI m) m
      refine br_f (nI_n0 (by omega)) (rp_has (by omega) (by omega) (fun d => br_f (by decide) ?_) (fun d => br_t rfl ?_))
      · rw [mI_shl1 (by omega), mI_df]
        refine rp_seen h ho (by omega) ?_
        have hl2 := orS_lt (NR_lt g f) (df V (2 ^ n)) 9
        rw [nI_eq (by omega) (by omega)]
        have es : spr (NR g f) (sn g f) (n + 1) V = spr (NR g f) (sn g f) n (if orS (NR g f) (df V (2 ^ n)) 9 = sn g f then df V (2 ^ n) else V) := rfl
        rw [es] at hs
        refine br_c (fun c => ?_) (fun c => ?_)
        · rw [if_pos c] at hs
          intro x9 e9
          subst e9
          rw [h.g0]
          have hp1 := pc_df1 (v := V) (n := n) (by omega) (by omega) d
          have hsub2 : sub2 (df V (2 ^ n)) (mns g f) := fun i hi => hsub i (sub V n (by omega) i hi)
          -- what is above n stays
          have stuck : ∀ kk, n ≤ kk → (df V (2 ^ n)).testBit kk = true → orS (NR g f) (df (df V (2 ^ n)) (2 ^ kk)) 9 ≠ sn g f := by
            intro kk hkk hb z
            rw [df_bit (by omega)] at hb
            simp only [Bool.and_eq_true, Bool.not_eq_true', m_pow_bit, decide_eq_false_iff_not] at hb
            refine hk kk (by omega) hb.1 ?_
            -- between the two
            have m1 : sub2 (orS (NR g f) (df (df V (2 ^ n)) (2 ^ kk)) 9) (orS (NR g f) (df V (2 ^ kk)) 9) := orS_mono (fun i hi => by
              rw [df_bit (by omega)] at hi ⊢
              rw [df_bit (by omega)] at hi
              simp only [Bool.and_eq_true] at hi ⊢
              exact ⟨hi.1.1, hi.2⟩) 9
            have m2 : sub2 (orS (NR g f) (df V (2 ^ kk)) 9) (orS (NR g f) (mns g f) 9) := orS_mono (fun i hi => hsub i (sub V kk (by omega) i hi)) 9
            rw [z] at m1
            have hl3 := orS_lt (NR_lt g f) (df V (2 ^ kk)) 9
            refine m_ext (n := 24) hl3 hl fun i _ => ?_
            cases hb1 : (orS (NR g f) (df V (2 ^ kk)) 9).testBit i with
            | true => exact (m2 i hb1).symm
            | false =>
              cases hb2 : (sn g f).testBit i with
              | false => rfl
              | true => rw [m1 i hb2] at hb1; cases hb1
          refine k _ _ _ _ ⟨rfl, df V (2 ^ n), g 0, rfl, Nat.le_refl _, rfl, by omega, hsub2, ?_, by omega, ?_, fun kk hkk hb => ?_⟩ ?_
          · rw [nI_1]; congr 1; omega
          · have hj := spr_stuck (ρ := NR g f) (S0 := sn g f) (v := df V (2 ^ n)) (n := n) (by omega) (g 0 - n) (fun kk h1 _ hb => stuck kk h1 hb)
            rw [show n + (g 0 - n) = g 0 by omega] at hj
            rw [hj]; exact hs
          · exact stuck kk (by omega) hb
          · show 20 * pc (nI (df V (2 ^ n))).toNatClampNeg + (nI (g 0) + (-1) + 1).toNatClampNeg < 20 * pc (nI V).toNatClampNeg + (nI (n + 1) + (-1) + 1).toNatClampNeg
            rw [mu, mu, mu0 (df V (2 ^ n)) (by omega), mu0 (g 0) (by omega), mu0 V (by omega), mu0 (n + 1) (by omega)]
            omega
        · rw [if_neg c] at hs
          refine k _ _ _ _ ⟨rfl, V, n, rfl, by omega, rfl, hV, hsub, rfl, hpc, hs, fun kk hkk hb => ?_⟩ ?_
          · by_cases e : kk = n
            · subst e; exact c
            · exact hk kk (by omega) hb
          · show 20 * pc (nI V).toNatClampNeg + (nI n + (-1) + 1).toNatClampNeg < 20 * pc (nI V).toNatClampNeg + (nI (n + 1) + (-1) + 1).toNatClampNeg
            rw [mu, mu, mu0 V (by omega), mu0 n (by omega), mu0 (n + 1) (by omega)]
            omega
      · have es : spr (NR g f) (sn g f) (n + 1) V = spr (NR g f) (sn g f) n (if orS (NR g f) (df V (2 ^ n)) 9 = sn g f then df V (2 ^ n) else V) := rfl
        rw [es, df_off (by omega) d] at hs
        have hs : spr (NR g f) (sn g f) n V = G := by split at hs <;> exact hs
        refine k _ _ _ _ ⟨rfl, V, n, rfl, by omega, rfl, hV, hsub, rfl, hpc, hs, fun kk hkk hb => ?_⟩ ?_
        · by_cases e : kk = n
          · subst e; rw [d] at hb; cases hb
          · exact hk kk (by omega) hb
        · show 20 * pc (nI V).toNatClampNeg + (nI n + (-1) + 1).toNatClampNeg < 20 * pc (nI V).toNatClampNeg + (nI (n + 1) + (-1) + 1).toNatClampNeg
          rw [mu, mu, mu0 V (by omega), mu0 n (by omega), mu0 (n + 1) (by omega)]
          omega
  · have hMg : mns g f < 2 ^ g 0 := by rw [mns_cut ho]; exact mnk_lt ho _
    refine ⟨rfl, mns g f, g 0, rfl, Nat.le_refl _, by rw [Int32.sub_eq_add_neg], hMg, fun i hi => hi, by rw [Nat.sub_self]; rfl, Nat.le_refl _, ?_, fun kk hkk hb => ?_⟩
    · have hj := spr_stuck (ρ := NR g f) (S0 := sn g f) (v := mns g f) (n := g 0) hM (9 - g 0) (fun kk h1 _ hb => by rw [m_hi hMg h1] at hb; cases hb)
      rw [show g 0 + (9 - g 0) = 9 by omega] at hj
      rw [eG, hj]
    · rw [m_hi hMg hkk] at hb; cases hb
/-! order -/
theorem rp_isAhead {g : Nat → Nat} {f : Nat → Nat → Nat} {σ : SS} (h : R0 g f σ) (ho : OkW g f) {o a b : Nat} (ho3 : o < 3) (ha : a < g 0) (hb : b < g 0) {Q : Int32 → SS → Prop} (h1 : ahd (a_key g f o) a b = true → Q 1 σ) (h0 : ahd (a_key g f o) a b = false → Q 0 σ) : wp_X10_isAhead σ (nI o) (nI a) (nI b) Q := by
  have h9 := ho.1
  have tail : ∀ d : Int32, d.toInt = a_key g f o a - a_key g f o b → (((d = 0 → ((nI b ≤ nI a → Q 0 σ) ∧ (¬ nI b ≤ nI a → Q 1 σ))) ∧ (¬ d = 0 → ((d ≤ 0 → Q 0 σ) ∧ (¬ d ≤ 0 → Q 1 σ))))) := by
    intro d hd
    have z0 : (0 : Int32).toInt = 0 := rfl
    unfold ahd at h1 h0
    refine br_c (fun c => ?_) (fun c => ?_)
    · have e : a_key g f o a = a_key g f o b := by rw [c, z0] at hd; omega
      rw [nI_leI (by omega) (by omega)]
      exact br_c (fun d => h0 (by simp [e]; omega)) (fun d => h1 (by simp [e]; omega))
    · have e : a_key g f o a ≠ a_key g f o b := fun z => c (by rw [← Int32.toInt_inj, hd, z0]; omega)
      rw [Int32.le_iff_toInt_le, hd, z0]
      exact br_c (fun d => h0 (by simp [e]; omega)) (fun d => h1 (by simp [e]; omega))
  have df2 : ∀ x y : Nat, x ≤ 24 → y ≤ 24 → (nI x - nI y).toInt = (x : Int) - y := fun x y hx hy => by
    have e1 : (nI x).toInt = (x : Int) := nI_toInt (by omega)
    have e2 : (nI y).toInt = (y : Int) := nI_toInt (by omega)
    rw [fb_subI (by omega) (by omega), e1, e2]
  unfold wp_X10_isAhead
  refine pk_eq o 0 (fun c => ?_) (fun c => pk_eq o 1 (fun c1 => ?_) (fun c1 => ?_))
  · refine rp_sight h ho ha (rp_bits (NR_lt g f a) (rp_sight h ho hb (rp_bits (NR_lt g f b) (tail _ ?_))))
    rw [df2 _ _ (pc_le _) (pc_le _)]
    unfold a_key
    rw [if_pos c, if_pos c]
  · refine rp_of h ho (j := 0) hb (by decide) (by omega) (rp_of h ho (j := 0) ha (by decide) (by omega) (tail _ ?_))
    have s1 := (ho.2.2 a ha).1
    have s2 := (ho.2.2 b hb).1
    rw [df2 _ _ (by omega) (by omega)]
    unfold a_key
    rw [if_neg c, if_neg c, if_pos c1, if_pos c1]
    omega
  · refine rp_alone h ho ha (rp_alone h ho hb (tail _ ?_))
    rw [df2 _ _ (aln_le _ _) (aln_le _ _)]
    unfold a_key
    rw [if_neg c, if_neg c, if_neg c1, if_neg c1]
theorem ahd_self (K : Nat → Int) (a : Nat) : ahd K a a = false := by unfold ahd; simp
theorem plc_lt (K : Nat → Int) {m b : Nat} (hb : b < m) : plc K m b < m := by
  unfold plc
  have h := fb_ct_not (fun a => ahd K a b) m
  have h2 : 0 < fb_ct (fun a => !ahd K a b) m := fb_ct_pos.mpr ⟨b, hb, by simp [ahd_self]⟩
  omega
theorem rp_ranked {g : Nat → Nat} {f : Nat → Nat → Nat} {σ : SS} (h : R0 g f σ) (ho : OkW g f) (x y : Int32) {Q : Int32 → SS → Prop} (q : Q (a_ranked g f x y) σ) : wp_X10_ranked σ x y Q := by
  have h9 := ho.1
  unfold wp_X10_ranked
  unfold a_ranked at q
  refine rp_in0 (n := 3) (by decide) rfl x (fun o ho3 ex e => br_f (by decide) ?_) (fun e => by rw [e] at q; exact br_t rfl q)
  rw [e] at q
  subst ex
  obtain ⟨K, eK⟩ : ∃ K, K = a_key g f o := ⟨_, rfl⟩
  have q : Q (match ox y (g 0) with | none => -1 | some j => o1 (a_at K (g 0) j)) σ := by rw [eK]; exact q
  have yes : ∀ b, b < g 0 → nI (plc K (g 0) b) = y → (∀ r, r < b → nI (plc K (g 0) r) ≠ y) → Q (nI b) σ := by
    intro b hb e hn
    rw [← e, ox_in (plc_lt K hb) (by omega)] at q
    have ea : a_at K (g 0) (plc K (g 0) b) = some b := fnd_of hb (by simp) fun r hr => by
      simp only [beq_eq_false_iff_ne]
      intro z
      exact hn r hr (by rw [z]; exact e)
    rw [← e] at hn
    have q : Q (o1 (a_at K (g 0) (plc K (g 0) b))) σ := q
    rw [ea] at q; exact q
  have no : (∀ r, r < g 0 → nI (plc K (g 0) r) ≠ y) → Q (-1) σ := by
    intro hn
    rcases ox_c y (n := g 0) (by omega) with ⟨_, e, _⟩ | ⟨_, _, e, _⟩ | ⟨j, hj, ey, e⟩
    · rw [e] at q; exact q
    · rw [e] at q; exact q
    · rw [e] at q
      have ea : a_at K (g 0) j = none := fnd_no fun r hr => by
        simp only [beq_eq_false_iff_ne]
        intro z
        exact hn r hr (by rw [z]; exact ey.symm)
      have q : Q (o1 (a_at K (g 0) j)) σ := q
      rw [ea] at q; exact q
  refine Li.ex (fun τ v => τ = σ ∧ ∃ b, v = nI b ∧ b ≤ g 0 ∧ ∀ r, r < b → nI (plc K (g 0) r) ≠ y) (fun τ v => g 0 - v.toNatClampNeg) ?_ ⟨rfl, 0, rfl, by omega, fun r hr => absurd hr (by omega)⟩
  rintro rc τ v ⟨rfl, b, rfl, hb, hn⟩ k
  unfold bd_X10_ranked_14
  rw [h.g0]
  refine pk_le (g 0) b (fun c => no fun r hr => hn r (by omega)) (fun c => ?_)
  refine Lii.up (N := g 0) 0 (fun i τ' v w => τ' = τ ∧ v = nI (fb_ct (fun a => ahd K a b) i) ∧ w = nI i) (by omega) ⟨rfl, rfl, rfl⟩ ?_ ?_
  · rintro rc' i τ' v w _ hi ⟨rfl, rfl, rfl⟩ k'
    unfold bd_X10_ranked_30
    rw [h.g0]
    refine br_f (nI_gt hi (by omega)) (pk_eq i b (fun d => ?_) (fun d => rp_isAhead h ho ho3 hi c (fun z => br_f (by decide) ?_) (fun z => br_t rfl ?_)))
    · rw [show (0 : Int32) = nI 0 from rfl, nI_add, nI_1]
      exact k' _ _ _ ⟨rfl, by rw [fb_ct_succ, d, ahd_self]; rfl, rfl⟩
    · rw [nI_1, nI_1]
      exact k' _ _ _ ⟨rfl, by rw [fb_ct_succ, eK, if_pos z], rfl⟩
    · rw [show (0 : Int32) = nI 0 from rfl, nI_add, nI_1]
      exact k' _ _ _ ⟨rfl, by rw [fb_ct_succ, eK, if_neg (by rw [z]; decide)], rfl⟩
  · rintro rc' τ' v w ⟨rfl, rfl, rfl⟩
    unfold bd_X10_ranked_30
    rw [h.g0]
    refine br_t (by rw [nI_leI (by omega) (by omega)]; omega) (br_c (fun e => yes b c e hn) (fun e => ?_))
    rw [nI_1]
    refine k _ _ ⟨rfl, b + 1, rfl, by omega, fun r hr => ?_⟩ ?_
    · by_cases z : r = b
      · subst z; exact e
      · exact hn r (by omega)
    · rw [pk_cl (x := nI (b + 1)) (b + 1), pk_cl (x := nI b) b]; omega
theorem rp_account {g : Nat → Nat} {f : Nat → Nat → Nat} {σ : SS} (h : R0 g f σ) (ho : OkW g f) (x : Int32) {Q : Int32 → SS → Prop} (q : Q (a_account g f (σ 95 13) (σ 95 4) x) σ) : wp_X10_account σ x Q := by
  have hM := mns_lt ho
  have h12 := ho.2.1
  unfold wp_X10_account
  unfold a_account at q
  have at' : ∀ i, i < 13 → x = nI i → Q (if i = 11 then σ 95 13 else if i = 12 then σ 95 4 else if i < 7 then nI (a_sight g f i) else nI (g (i - 6))) σ := by
    rintro i hi rfl
    rw [ox_in hi (by omega)] at q; exact q
  refine br_c (fun c => ?_) (fun n0 => br_c (fun c => ?_) (fun n1 => br_c (fun c => ?_) (fun n2 => br_c (fun c => ?_) (fun n3 => br_c (fun c => ?_) (fun n4 => br_c (fun c => ?_) (fun n5 => br_c (fun c => ?_) (fun n6 => br_c (fun c => ?_) (fun n7 => br_c (fun c => ?_) (fun n8 => br_c (fun c => ?_) (fun n9 => br_c (fun c => ?_) (fun n10 => br_c (fun c => ?_) (fun n11 => br_c (fun c => ?_) (fun n12 => ?_)))))))))))))
  · rw [h.g0]; exact at' 0 (by decide) c
  · exact rp_mannedSet h ho (rp_bits (by omega) (at' 1 (by decide) c))
  · exact rp_seenNow h ho (rp_bits (sn_lt g f) (at' 2 (by decide) c))
  · exact rp_overlaps h ho (at' 3 (by decide) c)
  · exact rp_gapMany h ho (at' 4 (by decide) c)
  · exact rp_longestGap h ho (at' 5 (by decide) c)
  · refine rp_uns h ho ?_
    rw [i_uns]; exact at' 6 (by decide) c
  · rw [h.g1]; exact at' 7 (by decide) c
  · have := at' 8 (by decide) c
    subst c
    refine ⟨pk_in 2 59 (by decide), ?_⟩
    rw [pk_cl 2]
    have e : σ 96 2 = nI (g 2) := h.1.2.2.1
    rw [e]; exact this
  · have := at' 9 (by decide) c
    subst c
    refine ⟨pk_in 3 59 (by decide), ?_⟩
    rw [pk_cl 3]
    have e : σ 96 3 = nI (g 3) := h.1.2.2.2.1
    rw [e]; exact this
  · have := at' 10 (by decide) c
    subst c
    refine ⟨pk_in 4 59 (by decide), ?_⟩
    rw [pk_cl 4]
    have e : σ 96 4 = nI (g 4) := h.1.2.2.2.2
    rw [e]; exact this
  · exact at' 11 (by decide) c
  · exact at' 12 (by decide) c
  · rw [ox_iff (by omega) fun k hk e => by
      rcases (show k = 0 ∨ k = 1 ∨ k = 2 ∨ k = 3 ∨ k = 4 ∨ k = 5 ∨ k = 6 ∨ k = 7 ∨ k = 8 ∨ k = 9 ∨ k = 10 ∨ k = 11 ∨ k = 12 by omega) with rfl | rfl | rfl | rfl | rfl | rfl | rfl | rfl | rfl | rfl | rfl | rfl | rfl
      · exact n0 e
      · exact n1 e
      · exact n2 e
      · exact n3 e
      · exact n4 e
      · exact n5 e
      · exact n6 e
      · exact n7 e
      · exact n8 e
      · exact n9 e
      · exact n10 e
      · exact n11 e
      · exact n12 e] at q
    exact q
theorem rp_refusal {σ : SS} (x : Int32) {Q : Int32 → SS → Prop} (q : Q (a_refusal (σ 95 5) (σ 95 6) (σ 95 7) x) σ) : wp_X10_refusal σ x Q := by
  unfold wp_X10_refusal
  unfold a_refusal at q
  refine rp_in0 (n := 3) (by decide) rfl x (fun i hi ex e => br_f (by decide) ?_) (fun e => by rw [e] at q; exact br_t rfl q)
  rw [e] at q
  subst ex
  refine br_c (fun c => ?_) fun c => pk_eq i 0 (fun c1 => ?_) fun c1 => pk_eq i 1 (fun c2 => ?_) fun c2 => ?_
  · simp only [if_pos c] at q; exact q
  · simp only [if_neg c, if_pos c1] at q; exact q
  · simp only [if_neg c, if_neg c1, if_pos c2] at q; exact q
  · simp only [if_neg c, if_neg c1, if_neg c2] at q; exact q
