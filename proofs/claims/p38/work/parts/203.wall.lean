/-! the abstract wall: g 0 how many posts, g 1 the hour, g 2 built, g 3 torn, g 4 watches; f p 0 .. f p 5: a post's stone, left, right, blind from, blind many, manned -/
def ls (h : Nat) : Nat := if h < 6 then 0 else if h < 8 then 1 else if h < 10 then 2 else 3
theorem ls_le (h : Nat) : ls h ≤ 3 := by unfold ls; split <;> (try split) <;> (try split) <;> omega
/-- n stones from s on, round the ring -/
def str (s n : Nat) : Nat := ((2 ^ n - 1) * 2 ^ s ||| (2 ^ n - 1) * 2 ^ s / 16777216) % 16777216
theorem str_lt (s n : Nat) : str s n < 16777216 := Nat.mod_lt _ (by decide)
def sgt (f : Nat → Nat → Nat) (p h : Nat) : Nat :=
  if f p 4 = 0 then str ((f p 0 + 24 - (f p 1 - ls h)) % 24) (f p 1 - ls h + 1 + (f p 2 - ls h))
  else df (str ((f p 0 + 24 - (f p 1 - ls h)) % 24) (f p 1 - ls h + 1 + (f p 2 - ls h))) (str (f p 3) (f p 4))
theorem sgt_lt (f : Nat → Nat → Nat) (p h : Nat) : sgt f p h < 16777216 := by
  unfold sgt; split
  · exact str_lt _ _
  · exact Nat.lt_of_le_of_lt (df_le _ _) (str_lt _ _)
def row (g : Nat → Nat) (f : Nat → Nat → Nat) (h p : Nat) : Nat := if p < g 0 then sgt f p h else 0
theorem row_lt (g : Nat → Nat) (f : Nat → Nat → Nat) (h p : Nat) : row g f h p < 16777216 := by
  unfold row; split
  · exact sgt_lt f p h
  · decide
theorem row_0 {g : Nat → Nat} {f : Nat → Nat → Nat} {h p : Nat} (hp : g 0 ≤ p) : row g f h p = 0 := by
  unfold row; rw [if_neg (by omega)]
/-- what the posts of a set see -/
def orS (ρ : Nat → Nat) (S : Nat) : Nat → Nat
  | 0 => 0
  | n + 1 => if S.testBit n then orS ρ S n ||| ρ n else orS ρ S n
theorem orS_s (ρ : Nat → Nat) (S n : Nat) : orS ρ S (n + 1) = if S.testBit n then orS ρ S n ||| ρ n else orS ρ S n := rfl
theorem orS_lt {ρ : Nat → Nat} (hρ : ∀ p, ρ p < 16777216) (S : Nat) : ∀ n, orS ρ S n < 16777216
  | 0 => by show 0 < _; decide
  | n + 1 => by
    rw [orS_s]; split
    · exact m_or_lt (n := 24) (orS_lt hρ S n) (hρ n)
    · exact orS_lt hρ S n
theorem orS_cut {ρ : Nat → Nat} {S m : Nat} (h0 : ∀ p, m ≤ p → ρ p = 0) : ∀ k, orS ρ S (m + k) = orS ρ S m
  | 0 => rfl
  | k + 1 => by
    rw [show m + (k + 1) = (m + k) + 1 from rfl, orS_s, h0 (m + k) (by omega), Nat.or_zero, orS_cut h0 k]
    split <;> rfl
theorem orS_9 {ρ : Nat → Nat} {S m : Nat} (h0 : ∀ p, m ≤ p → ρ p = 0) (hm : m ≤ 9) : orS ρ S 9 = orS ρ S m := by
  have := orS_cut (S := S) h0 (9 - m)
  rwa [show m + (9 - m) = 9 by omega] at this
/-- who is manned, of the first n -/
def mnk (g : Nat → Nat) (f : Nat → Nat → Nat) : Nat → Nat
  | 0 => 0
  | n + 1 => mnk g f n ||| (if n < g 0 then f n 5 else 0) * 2 ^ n
def mns (g : Nat → Nat) (f : Nat → Nat → Nat) : Nat := mnk g f 9
def OkW (g : Nat → Nat) (f : Nat → Nat → Nat) : Prop := g 0 ≤ 9 ∧ g 1 < 12 ∧ ∀ p, p < g 0 → f p 0 < 24 ∧ f p 1 ≤ 11 ∧ f p 2 ≤ 11 ∧ f p 4 ≤ 8 ∧ (f p 4 ≠ 0 → f p 3 < 24) ∧ f p 5 ≤ 1
theorem OkW.mb {g : Nat → Nat} {f : Nat → Nat → Nat} (h : OkW g f) (p : Nat) : (if p < g 0 then f p 5 else 0) ≤ 1 := by
  split
  · next hp => exact (h.2.2 p hp).2.2.2.2.2
  · omega
theorem mnk_lt {g : Nat → Nat} {f : Nat → Nat → Nat} (h : OkW g f) : ∀ n, mnk g f n < 2 ^ n
  | 0 => by show 0 < 1; decide
  | n + 1 => by
    unfold mnk
    have h1 : mnk g f n < 2 ^ (n + 1) := Nat.lt_of_lt_of_le (mnk_lt h n) (Nat.pow_le_pow_right (by omega) (by omega))
    refine m_or_lt h1 ?_
    have h2 := h.mb n
    have h3 : 2 ^ n < 2 ^ (n + 1) := Nat.pow_lt_pow_right (by omega) (by omega)
    rcases (show (if n < g 0 then f n 5 else 0) = 0 ∨ (if n < g 0 then f n 5 else 0) = 1 by omega) with e | e <;> rw [e] <;> omega
theorem mns_lt {g : Nat → Nat} {f : Nat → Nat → Nat} (h : OkW g f) : mns g f < 512 := mnk_lt h 9
/-- one side's cells: the class's wall at a -/
def wv (g : Nat → Nat) (f : Nat → Nat → Nat) (j p : Nat) : Int32 :=
  if p < g 0 then (if j = 3 then (if f p 4 = 0 then -4 else nI (f p 3)) else nI (f p j)) else (if j = 0 then -1 else if j = 3 then -4 else 0)
def RC (a : Nat) (g : Nat → Nat) (f : Nat → Nat → Nat) (σ : SS) : Prop :=
  (σ a 6 = nI (g 0) ∧ σ a 7 = nI (g 1) ∧ σ a 8 = nI (g 2) ∧ σ a 9 = nI (g 3) ∧ σ a 10 = nI (g 4)) ∧
  ∀ p, p < 9 → σ (a + 1) p = wv g f 0 p ∧ σ (a + 2) p = wv g f 1 p ∧ σ (a + 3) p = wv g f 2 p ∧ σ (a + 4) p = wv g f 3 p ∧ σ (a + 5) p = wv g f 4 p ∧ σ (a + 6) p = wv g f 5 p
/-- the reference's row of 59, in the array c from o on -/
def RM (c o : Nat) (g : Nat → Nat) (f : Nat → Nat → Nat) (σ : SS) : Prop :=
  (σ c (o + 0) = nI (g 0) ∧ σ c (o + 1) = nI (g 1) ∧ σ c (o + 2) = nI (g 2) ∧ σ c (o + 3) = nI (g 3) ∧ σ c (o + 4) = nI (g 4)) ∧
  ∀ p, p < g 0 → σ c (o + (5 + 6 * p)) = nI (f p 0) ∧ σ c (o + (5 + 6 * p + 1)) = nI (f p 1) ∧ σ c (o + (5 + 6 * p + 2)) = nI (f p 2) ∧ (f p 4 ≠ 0 → σ c (o + (5 + 6 * p + 3)) = nI (f p 3)) ∧ σ c (o + (5 + 6 * p + 4)) = nI (f p 4) ∧ σ c (o + (5 + 6 * p + 5)) = nI (f p 5)
theorem RC.keep {a : Nat} {g : Nat → Nat} {f : Nat → Nat → Nat} {σ τ : SS} (h : RC a g f σ) (e : ∀ k, a ≤ k → k ≤ a + 6 → τ k = σ k) : RC a g f τ := by
  unfold RC at *
  rw [e a (by omega) (by omega), e (a + 1) (by omega) (by omega), e (a + 2) (by omega) (by omega), e (a + 3) (by omega) (by omega), e (a + 4) (by omega) (by omega), e (a + 5) (by omega) (by omega), e (a + 6) (by omega) (by omega)]
  exact h
theorem RM.keep {c o : Nat} {g : Nat → Nat} {f : Nat → Nat → Nat} {σ τ : SS} (h : RM c o g f σ) (e : τ c = σ c) : RM c o g f τ := by
  unfold RM at *
  rw [e]
  exact h
theorem wv_in {g : Nat → Nat} {f : Nat → Nat → Nat} {j p : Nat} (hp : p < g 0) (hj : j ≠ 3) : wv g f j p = nI (f p j) := by
  unfold wv; rw [if_pos hp, if_neg hj]
theorem wv_out {g : Nat → Nat} {f : Nat → Nat → Nat} {j p : Nat} (hp : ¬ p < g 0) : wv g f j p = if j = 0 then -1 else if j = 3 then -4 else 0 := by
  unfold wv; rw [if_neg hp]
