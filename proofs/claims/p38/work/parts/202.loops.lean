/-! by program: counted loops, by a relation that holds at the i-th turn; and which cells a method leaves -/
theorem Lfii.up {F : (SS → UInt32 → Int32 → Int32 → Prop) → SS → UInt32 → Int32 → Int32 → Prop} {N : Nat} (i0 : Nat) (P : Nat → SS → UInt32 → Int32 → Int32 → Prop) {σ : SS} {v0 : UInt32} {v1 : Int32} {v2 : Int32} (hi : i0 ≤ N) (h0 : P i0 σ v0 v1 v2)
    (step : ∀ (rc : SS → UInt32 → Int32 → Int32 → Prop) (i : Nat) τ w0 w1 w2, i0 ≤ i → i < N → P i τ w0 w1 w2 → (∀ τ' x0 x1 x2, P (i + 1) τ' x0 x1 x2 → rc τ' x0 x1 x2) → F rc τ w0 w1 w2)
    (last : ∀ (rc : SS → UInt32 → Int32 → Int32 → Prop) τ w0 w1 w2, P N τ w0 w1 w2 → F rc τ w0 w1 w2) : ∃ k, Lfii F k σ v0 v1 v2 := by
  have key : ∀ (d i : Nat) τ w0 w1 w2, i0 ≤ i → i + d = N → P i τ w0 w1 w2 → Lfii F (d + 1) τ w0 w1 w2 := by
    intro d
    induction d with
    | zero =>
      intro i τ w0 w1 w2 h1 h2 hp
      have e : i = N := by omega
      subst e
      exact last _ τ w0 w1 w2 hp
    | succ d ih =>
      intro i τ w0 w1 w2 h1 h2 hp
      exact step _ i τ w0 w1 w2 h1 (by omega) hp (fun τ' x0 x1 x2 hq => ih (i + 1) τ' x0 x1 x2 (by omega) (by omega) hq)
  exact ⟨_, key (N - i0) i0 σ v0 v1 v2 (Nat.le_refl _) (by omega) h0⟩
theorem Li.up {F : (SS → Int32 → Prop) → SS → Int32 → Prop} {N : Nat} (i0 : Nat) (P : Nat → SS → Int32 → Prop) {σ : SS} {v0 : Int32} (hi : i0 ≤ N) (h0 : P i0 σ v0)
    (step : ∀ (rc : SS → Int32 → Prop) (i : Nat) τ w0, i0 ≤ i → i < N → P i τ w0 → (∀ τ' x0, P (i + 1) τ' x0 → rc τ' x0) → F rc τ w0)
    (last : ∀ (rc : SS → Int32 → Prop) τ w0, P N τ w0 → F rc τ w0) : ∃ k, Li F k σ v0 := by
  have key : ∀ (d i : Nat) τ w0, i0 ≤ i → i + d = N → P i τ w0 → Li F (d + 1) τ w0 := by
    intro d
    induction d with
    | zero =>
      intro i τ w0 h1 h2 hp
      have e : i = N := by omega
      subst e
      exact last _ τ w0 hp
    | succ d ih =>
      intro i τ w0 h1 h2 hp
      exact step _ i τ w0 h1 (by omega) hp (fun τ' x0 hq => ih (i + 1) τ' x0 (by omega) (by omega) hq)
  exact ⟨_, key (N - i0) i0 σ v0 (Nat.le_refl _) (by omega) h0⟩
theorem Lii.up {F : (SS → Int32 → Int32 → Prop) → SS → Int32 → Int32 → Prop} {N : Nat} (i0 : Nat) (P : Nat → SS → Int32 → Int32 → Prop) {σ : SS} {v0 : Int32} {v1 : Int32} (hi : i0 ≤ N) (h0 : P i0 σ v0 v1)
    (step : ∀ (rc : SS → Int32 → Int32 → Prop) (i : Nat) τ w0 w1, i0 ≤ i → i < N → P i τ w0 w1 → (∀ τ' x0 x1, P (i + 1) τ' x0 x1 → rc τ' x0 x1) → F rc τ w0 w1)
    (last : ∀ (rc : SS → Int32 → Int32 → Prop) τ w0 w1, P N τ w0 w1 → F rc τ w0 w1) : ∃ k, Lii F k σ v0 v1 := by
  have key : ∀ (d i : Nat) τ w0 w1, i0 ≤ i → i + d = N → P i τ w0 w1 → Lii F (d + 1) τ w0 w1 := by
    intro d
    induction d with
    | zero =>
      intro i τ w0 w1 h1 h2 hp
      have e : i = N := by omega
      subst e
      exact last _ τ w0 w1 hp
    | succ d ih =>
      intro i τ w0 w1 h1 h2 hp
      exact step _ i τ w0 w1 h1 (by omega) hp (fun τ' x0 x1 hq => ih (i + 1) τ' x0 x1 (by omega) (by omega) hq)
  exact ⟨_, key (N - i0) i0 σ v0 v1 (Nat.le_refl _) (by omega) h0⟩
theorem Liii.up {F : (SS → Int32 → Int32 → Int32 → Prop) → SS → Int32 → Int32 → Int32 → Prop} {N : Nat} (i0 : Nat) (P : Nat → SS → Int32 → Int32 → Int32 → Prop) {σ : SS} {v0 : Int32} {v1 : Int32} {v2 : Int32} (hi : i0 ≤ N) (h0 : P i0 σ v0 v1 v2)
    (step : ∀ (rc : SS → Int32 → Int32 → Int32 → Prop) (i : Nat) τ w0 w1 w2, i0 ≤ i → i < N → P i τ w0 w1 w2 → (∀ τ' x0 x1 x2, P (i + 1) τ' x0 x1 x2 → rc τ' x0 x1 x2) → F rc τ w0 w1 w2)
    (last : ∀ (rc : SS → Int32 → Int32 → Int32 → Prop) τ w0 w1 w2, P N τ w0 w1 w2 → F rc τ w0 w1 w2) : ∃ k, Liii F k σ v0 v1 v2 := by
  have key : ∀ (d i : Nat) τ w0 w1 w2, i0 ≤ i → i + d = N → P i τ w0 w1 w2 → Liii F (d + 1) τ w0 w1 w2 := by
    intro d
    induction d with
    | zero =>
      intro i τ w0 w1 w2 h1 h2 hp
      have e : i = N := by omega
      subst e
      exact last _ τ w0 w1 w2 hp
    | succ d ih =>
      intro i τ w0 w1 w2 h1 h2 hp
      exact step _ i τ w0 w1 w2 h1 (by omega) hp (fun τ' x0 x1 x2 hq => ih (i + 1) τ' x0 x1 x2 (by omega) (by omega) hq)
  exact ⟨_, key (N - i0) i0 σ v0 v1 v2 (Nat.le_refl _) (by omega) h0⟩
/-- the cells outside P are as they were -/
def SB (P : Nat → Prop) (σ τ : SS) : Prop := ∀ k, ¬ P k → τ k = σ k
theorem SB.rf {P : Nat → Prop} {σ : SS} : SB P σ σ := fun _ _ => rfl
theorem SB.tr {P : Nat → Prop} {σ τ υ : SS} (h : SB P σ τ) (h2 : SB P τ υ) : SB P σ υ := fun k hk => (h2 k hk).trans (h k hk)
theorem SB.mono {P P' : Nat → Prop} {σ τ : SS} (h : SB P σ τ) (hp : ∀ k, P k → P' k) : SB P' σ τ := fun k hk => h k (fun z => hk (hp k z))
theorem SB.w {P : Nat → Prop} {σ τ : SS} {k j : Nat} {x : Int32} (h : SB P σ τ) (hk : P k) : SB P σ (u2 τ k j x) := fun q hq => by
  rw [u2_ne τ j x (fun e => hq (by rw [e]; exact hk))]; exact h q hq
theorem u2s (σ : SS) (k j : Nat) (x : Int32) : u2 σ k j x k j = x := by simp [u2, upd]
theorem u2k (σ : SS) {a k : Nat} (j i : Nat) (x : Int32) (h : a ≠ k) : u2 σ k j x a i = σ a i := by rw [u2_ne σ j x h]
theorem u2j (σ : SS) (k : Nat) {i j : Nat} (x : Int32) (h : i ≠ j) : u2 σ k j x k i = σ k i := by simp [u2, upd, h]
theorem u2i (σ : SS) (a k i j : Nat) (x : Int32) : u2 σ k j x a i = if a = k ∧ i = j then x else σ a i := by
  by_cases h : a = k
  · subst h
    by_cases h2 : i = j
    · subst h2; simp [u2, upd]
    · simp [u2, upd, h2]
  · simp [u2, h]
def oN (o : Option Nat) : Int32 := match o with
  | none => -4
  | some p => nI p
theorem c_nle {c : Int32} {i : Nat} (m : Nat) (h : i < m) (hc : c = nI m := by rfl) (hm : m < 2 ^ 31 := by omega) : ¬ c ≤ nI i := by
  subst hc; rw [nI_leI hm (by omega)]; omega
theorem c_yle {c : Int32} {i : Nat} (m : Nat) (h : m ≤ i) (hi : i < 2 ^ 31 := by omega) (hc : c = nI m := by rfl) : c ≤ nI i := by
  subst hc; rw [nI_leI (by omega) hi]; omega
theorem c_le {c : Int32} {m i : Nat} (hc : c = nI m) (hm : m < 2 ^ 31) (hi : i < 2 ^ 31) : c ≤ nI i ↔ m ≤ i := by rw [hc, nI_leI hm hi]
theorem nI_n4 {n : Nat} (h : n < 2 ^ 31) : ¬ nI n = (-4) := fun e => by
  have h1 := congrArg Int32.toInt e
  rw [nI_toInt h, show (-4 : Int32).toInt = -4 from by decide] at h1
  omega
theorem nI_n1 {n : Nat} (h : n < 2 ^ 31) : ¬ nI n = (-1) := fun e => by
  have h1 := congrArg Int32.toInt e
  rw [nI_toInt h, show (-1 : Int32).toInt = -1 from by decide] at h1
  omega
theorem nI_n0 {n : Nat} (h : n < 2 ^ 31) : ¬ nI n < 0 := nI_pos h
theorem nI_g0 {n : Nat} (h : n < 2 ^ 31) : 0 ≤ nI n := nI_pos' h
theorem i_not1 {x : Int32} (h : x < 0) : ¬ 0 ≤ x := by
  rw [Int32.le_iff_toInt_le]; rw [Int32.lt_iff_toInt_lt] at h; omega

