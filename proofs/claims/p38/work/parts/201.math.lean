/-! pure facts: ints as naturals, bits of naturals, the JDK's bitCount -/
theorem mI_and (a b : Nat) : nI a &&& nI b = nI (a &&& b) := by
  apply Int32.toBitVec_inj.1
  show BitVec.ofNat 32 a &&& BitVec.ofNat 32 b = BitVec.ofNat 32 (a &&& b)
  apply BitVec.eq_of_getLsbD_eq
  intro i hi
  simp [hi]
theorem mI_or (a b : Nat) : nI a ||| nI b = nI (a ||| b) := by
  apply Int32.toBitVec_inj.1
  show BitVec.ofNat 32 a ||| BitVec.ofNat 32 b = BitVec.ofNat 32 (a ||| b)
  apply BitVec.eq_of_getLsbD_eq
  intro i hi
  simp [hi]
theorem m_s5 : ∀ k, k < 32 → ((nI k &&& 31).toBitVec.smod 32).toNat = k := by decide +kernel
theorem m_u5 : ∀ k, k < 32 → (((nI k).toUInt32 &&& Int32.toUInt32 31).toBitVec % 32).toNat = k := by decide +kernel
theorem mI_shl {n k : Nat} (hk : k < 32) (h : n * 2 ^ k < 2 ^ 32) : nI n <<< (nI k &&& 31) = nI (n * 2 ^ k) := pk_shlN _ k (m_s5 k hk) h
theorem mI_shl1 {k : Nat} (hk : k < 32) : (1 : Int32) <<< (nI k &&& 31) = nI (2 ^ k) := by
  have h2 : 2 ^ k < 2 ^ 32 := Nat.pow_lt_pow_right (by omega) hk
  have h := mI_shl (n := 1) hk (by omega)
  rw [Nat.one_mul] at h
  exact h
theorem mI_ushr {n k : Nat} (hn : n < 2 ^ 32) (hk : k < 32) : ((nI n).toUInt32 >>> ((nI k).toUInt32 &&& Int32.toUInt32 31)).toInt32 = nI (n / 2 ^ k) := pk_ushrN hn _ k (m_u5 k hk)
theorem mI_shr {n k : Nat} (hn : n < 2 ^ 31) (hk : k < 32) : nI n >>> (nI k &&& 31) = nI (n / 2 ^ k) := pk_shrN hn _ k (m_s5 k hk)
theorem mI_1 (n : Nat) : nI n &&& 1 = nI (n % 2) := by
  have h := mI_and n 1
  rw [Nat.and_one_is_mod] at h
  exact h
/-- one bit, as the class and as the reference ask for it -/
theorem mI_bit {n k : Nat} (hn : n < 2 ^ 32) (hk : k < 32) : ((nI n).toUInt32 >>> ((nI k).toUInt32 &&& Int32.toUInt32 31)).toInt32 &&& 1 = nI (n.testBit k).toNat := by
  rw [mI_ushr hn hk, mI_1, Nat.toNat_testBit]
theorem mI_sbit {n k : Nat} (hn : n < 2 ^ 31) (hk : k < 32) : (nI n >>> (nI k &&& 31)) &&& 1 = nI (n.testBit k).toNat := by
  rw [mI_shr hn hk, mI_1, Nat.toNat_testBit]
/-- a without b: a & ~b -/
def df (a b : Nat) : Nat := a &&& (b ^^^ 4294967295)
theorem mI_df (a b : Nat) : nI a &&& (nI b ^^^ (-1)) = nI (df a b) := by
  rw [show (-1 : Int32) = nI 4294967295 from by decide, fb_xorI, mI_and]
  rfl
theorem m_all (i : Nat) : (4294967295 : Nat).testBit i = decide (i < 32) := by
  have h := Nat.testBit_two_pow_sub_one 32 i
  exact h
theorem m_hi {a n i : Nat} (h : a < 2 ^ n) (hi : n ≤ i) : a.testBit i = false := Nat.testBit_lt_two_pow (Nat.lt_of_lt_of_le h (Nat.pow_le_pow_right (by omega) hi))
theorem df_bit {a b : Nat} (h : a < 2 ^ 32) (i : Nat) : (df a b).testBit i = (a.testBit i && !b.testBit i) := by
  unfold df
  rw [Nat.testBit_and, Nat.testBit_xor, m_all]
  by_cases hi : i < 32
  · simp [hi]
  · rw [m_hi h (by omega)]; rfl
theorem df_le (a b : Nat) : df a b ≤ a := Nat.and_le_left
theorem m_ext {a b n : Nat} (ha : a < 2 ^ n) (hb : b < 2 ^ n) (h : ∀ i, i < n → a.testBit i = b.testBit i) : a = b := by
  apply Nat.eq_of_testBit_eq
  intro i
  by_cases hi : i < n
  · exact h i hi
  · rw [m_hi ha (by omega), m_hi hb (by omega)]
theorem m_or_lt {a b n : Nat} (ha : a < 2 ^ n) (hb : b < 2 ^ n) : a ||| b < 2 ^ n := Nat.or_lt_two_pow ha hb
theorem m_and_lt {a n : Nat} (b : Nat) (ha : a < 2 ^ n) : a &&& b < 2 ^ n := Nat.lt_of_le_of_lt Nat.and_le_left ha
theorem df_lt {a n : Nat} (b : Nat) (ha : a < 2 ^ n) : df a b < 2 ^ n := Nat.lt_of_le_of_lt (df_le a b) ha
theorem m_pow_bit (k i : Nat) : (2 ^ k).testBit i = decide (k = i) := Nat.testBit_two_pow
/-- how many bits, of 24 -/
def pc (x : Nat) : Nat := fb_ct (fun i => x.testBit i) 24
theorem pc_le (x : Nat) : pc x ≤ 24 := fb_ct_le _ 24
-- the JDK's way to count them
theorem m_split {a m : Nat} (y M : Nat) (ha : a < 256) (hm : m < 256) : (a + 256 * y) &&& (m + 256 * M) = (a &&& m) + 256 * (y &&& M) := by
  apply Nat.eq_of_testBit_eq
  intro i
  have h1 : (a &&& m) < 2 ^ 8 := Nat.lt_of_le_of_lt Nat.and_le_left ha
  rw [Nat.testBit_and, Nat.add_comm a, Nat.add_comm m, Nat.add_comm (a &&& m)]
  have e : (256 : Nat) = 2 ^ 8 := rfl
  rw [e, Nat.testBit_two_pow_mul_add _ (by simpa using ha), Nat.testBit_two_pow_mul_add _ (by simpa using hm), Nat.testBit_two_pow_mul_add _ h1]
  by_cases hi : i < 8
  · simp [hi, Nat.testBit_and]
  · simp [hi, Nat.testBit_and]
def b1 (a : Nat) : Nat := a - (a / 2 &&& 85)
def b2 (v : Nat) : Nat := (v &&& 51) + (v / 4 &&& 51)
def b3 (v : Nat) : Nat := (v + v / 16) &&& 15
def by3 (a b c : Nat) : Nat := a + 256 * (b + 256 * c)
theorem m_b1a : ∀ a, a < 256 → ∀ t, t < 2 → ((a / 2 + 128 * t) &&& 85) = (a / 2 &&& 85) := by decide +kernel
theorem m_b1c : ∀ a, a < 256 → (a / 2 &&& 21845) = (a / 2 &&& 85) := by decide +kernel
theorem m_b2a : ∀ a, a < 256 → ∀ t, t < 4 → ((a / 4 + 64 * t) &&& 51) = (a / 4 &&& 51) := by decide +kernel
theorem m_b2c : ∀ a, a < 256 → (a / 4 &&& 13107) = (a / 4 &&& 51) ∧ (a &&& 13107) = (a &&& 51) := by decide +kernel
theorem m_b3c : ∀ a, a < 256 → (a &&& 3855) = (a &&& 15) := by decide +kernel
theorem m_b3a : ∀ a, a < 128 → ∀ t, t < 8 → ((a + 16 * t) &&& 15) = (a &&& 15) := by decide +kernel
theorem m_bb : ∀ a, a < 256 → b1 a < 256 ∧ b2 (b1 a) < 69 ∧ b2 (b1 a) % 16 < 5 ∧ b3 (b2 (b1 a)) < 9 ∧ b3 (b2 (b1 a)) = fb_ct (fun i => a.testBit i) 8 := by decide +kernel
theorem m_t1 {a b c : Nat} (ha : a < 256) (hb : b < 256) (hc : c < 256) : by3 a b c - (by3 a b c / 2 &&& 1431655765) = by3 (b1 a) (b1 b) (b1 c) := by
  unfold by3 b1
  have e1 : (a + 256 * (b + 256 * c)) / 2 = (a / 2 + 128 * (b % 2)) + 256 * ((b / 2 + 128 * (c % 2)) + 256 * (c / 2)) := by omega
  have e2 : (1431655765 : Nat) = 85 + 256 * (85 + 256 * 21845) := by decide
  rw [e1, e2, m_split _ _ (by omega) (by omega), m_split _ _ (by omega) (by omega), m_b1a a ha _ (by omega), m_b1a b hb _ (by omega), m_b1c c hc]
  have q1 : (a / 2 &&& 85) ≤ a / 2 := Nat.and_le_left
  have q2 : (b / 2 &&& 85) ≤ b / 2 := Nat.and_le_left
  have q3 : (c / 2 &&& 85) ≤ c / 2 := Nat.and_le_left
  omega
theorem m_t2 {a b c : Nat} (ha : a < 256) (hb : b < 256) (hc : c < 256) : (by3 a b c &&& 858993459) + (by3 a b c / 4 &&& 858993459) = by3 (b2 a) (b2 b) (b2 c) := by
  unfold by3 b2
  have e1 : (a + 256 * (b + 256 * c)) / 4 = (a / 4 + 64 * (b % 4)) + 256 * ((b / 4 + 64 * (c % 4)) + 256 * (c / 4)) := by omega
  have e2 : (858993459 : Nat) = 51 + 256 * (51 + 256 * 13107) := by decide
  rw [e1, e2, m_split _ _ (by omega) (by omega), m_split _ _ (by omega) (by omega), m_split _ _ (by omega) (by omega), m_split _ _ (by omega) (by omega), m_b2a a ha _ (by omega), m_b2a b hb _ (by omega), (m_b2c c hc).1, (m_b2c c hc).2]
  omega
theorem m_t3 {a b c : Nat} (ha : a < 69) (hb : b < 69) (hc : c < 69) (hb2 : b % 16 < 5) (hc2 : c % 16 < 5) : (by3 a b c + by3 a b c / 16) &&& 252645135 = by3 (b3 a) (b3 b) (b3 c) := by
  unfold by3 b3
  have e1 : (a + 256 * (b + 256 * c)) + (a + 256 * (b + 256 * c)) / 16 = ((a + a / 16) + 16 * (b % 16)) + 256 * (((b + b / 16) + 16 * (c % 16)) + 256 * (c + c / 16)) := by omega
  have e2 : (252645135 : Nat) = 15 + 256 * (15 + 256 * 3855) := by decide
  rw [e1, e2, m_split _ _ (by omega) (by omega), m_split _ _ (by omega) (by omega), m_b3a (a + a / 16) (by omega) _ (by omega), m_b3a (b + b / 16) (by omega) _ (by omega), m_b3c (c + c / 16) (by omega)]
theorem m_by3 {x : Nat} (h : x < 16777216) : x = by3 (x % 256) (x / 256 % 256) (x / 65536) := by
  unfold by3; omega
theorem m_pc8 (x : Nat) (h : x < 16777216) : pc x = fb_ct (fun i => (x % 256).testBit i) 8 + fb_ct (fun i => (x / 256 % 256).testBit i) 8 + fb_ct (fun i => (x / 65536).testBit i) 8 := by
  unfold pc
  rw [show 24 = 8 + 16 from rfl, fb_ct_split, show 16 = 8 + 8 from rfl, fb_ct_split, ← Nat.add_assoc]
  congr 1
  · congr 1
    · refine fb_ct_cong fun k hk => ?_
      have := Nat.testBit_mod_two_pow x 8 k
      simp only [hk, decide_true, Bool.true_and] at this
      exact this.symm
    · refine fb_ct_cong fun k hk => ?_
      have h1 := Nat.testBit_mod_two_pow (x / 256) 8 k
      simp only [hk, decide_true, Bool.true_and] at h1
      have h2 : (x / 2 ^ 8).testBit k = x.testBit (k + 8) := Nat.testBit_div_two_pow x k
      rw [Nat.add_comm 8 k, ← h2]
      exact h1.symm
  · refine fb_ct_cong fun k hk => ?_
    have h2 : (x / 2 ^ 16).testBit k = x.testBit (k + 16) := Nat.testBit_div_two_pow x k
    rw [show 8 + (8 + k) = k + 16 by omega, ← h2]
theorem m_swar {x v1 v2 v3 : Nat} (h : x < 16777216) (e1 : v1 = x - (x / 2 &&& 1431655765)) (e2 : v2 = (v1 &&& 858993459) + (v1 / 4 &&& 858993459)) (e3 : v3 = (v2 + v2 / 16) &&& 252645135) :
    v1 < 16777216 ∧ v2 < 16777216 ∧ v3 < 16777216 ∧ ((v3 + v3 / 256) + (v3 + v3 / 256) / 65536) &&& 63 = pc x := by
  have ha : x % 256 < 256 := by omega
  have hb : x / 256 % 256 < 256 := by omega
  have hc : x / 65536 < 256 := by omega
  obtain ⟨a1, a2, a3, a4, a5⟩ := m_bb _ ha
  obtain ⟨p1, p2, p3, p4, p5⟩ := m_bb _ hb
  obtain ⟨c1, c2, c3, c4, c5⟩ := m_bb _ hc
  rw [m_by3 h, m_t1 ha hb hc] at e1
  rw [e1, m_t2 a1 p1 c1] at e2
  rw [e2, m_t3 a2 p2 c2 p3 c3] at e3
  rw [m_pc8 x h, ← a5, ← p5, ← c5]
  generalize b3 (b2 (b1 (x % 256))) = A at *
  generalize b3 (b2 (b1 (x / 256 % 256))) = B at *
  generalize b3 (b2 (b1 (x / 65536))) = C at *
  refine ⟨by rw [e1]; unfold by3; omega, by rw [e2]; unfold by3; omega, by rw [e3]; unfold by3; omega, ?_⟩
  have e63 : (63 : Nat) = 2 ^ 6 - 1 := rfl
  rw [e63, Nat.and_two_pow_sub_one_eq_mod, e3]
  unfold by3
  have g1 : (A + 256 * (B + 256 * C)) / 256 = B + 256 * C := by omega
  rw [g1]
  have g2 : (A + 256 * (B + 256 * C) + (B + 256 * C)) / 65536 = C := by omega
  rw [g2]
  omega

/-- the JDK's bitCount, of a number below 2^24 -/
theorem sp_bc {σ : SS} {x : Nat} (h : x < 16777216) {Q : Int32 → SS → Prop} (q : Q (nI (pc x)) σ) : wp_J6_bitCount_0f7a4 σ (nI x) Q := by
  unfold wp_J6_bitCount_0f7a4
  have u1 : ∀ {n : Nat}, n < 2 ^ 32 → ((nI n).toUInt32 >>> ((1 : Int32).toUInt32 &&& Int32.toUInt32 31)).toInt32 = nI (n / 2) := fun hn => mI_ushr (k := 1) hn (by decide)
  have u2 : ∀ {n : Nat}, n < 2 ^ 32 → ((nI n).toUInt32 >>> ((2 : Int32).toUInt32 &&& Int32.toUInt32 31)).toInt32 = nI (n / 4) := fun hn => mI_ushr (k := 2) hn (by decide)
  have u4 : ∀ {n : Nat}, n < 2 ^ 32 → ((nI n).toUInt32 >>> ((4 : Int32).toUInt32 &&& Int32.toUInt32 31)).toInt32 = nI (n / 16) := fun hn => mI_ushr (k := 4) hn (by decide)
  have u8 : ∀ {n : Nat}, n < 2 ^ 32 → ((nI n).toUInt32 >>> ((8 : Int32).toUInt32 &&& Int32.toUInt32 31)).toInt32 = nI (n / 256) := fun hn => mI_ushr (k := 8) hn (by decide)
  have u16 : ∀ {n : Nat}, n < 2 ^ 32 → ((nI n).toUInt32 >>> ((16 : Int32).toUInt32 &&& Int32.toUInt32 31)).toInt32 = nI (n / 65536) := fun hn => mI_ushr (k := 16) hn (by decide)
  obtain ⟨v1, e1⟩ : ∃ v1, v1 = x - (x / 2 &&& 1431655765) := ⟨_, rfl⟩
  obtain ⟨v2, e2⟩ : ∃ v2, v2 = (v1 &&& 858993459) + (v1 / 4 &&& 858993459) := ⟨_, rfl⟩
  obtain ⟨v3, e3⟩ : ∃ v3, v3 = (v2 + v2 / 16) &&& 252645135 := ⟨_, rfl⟩
  obtain ⟨g1, g2, g3, g4⟩ := m_swar h e1 e2 e3
  have hle : (x / 2 &&& 1431655765) ≤ x := Nat.le_trans Nat.and_le_left (Nat.div_le_self _ _)
  intro x1 h1
  rw [u1 (by omega), show (1431655765 : Int32) = nI 1431655765 from rfl, mI_and, pk_sub hle, ← e1] at h1
  subst h1
  intro x2 h2
  rw [u2 (by omega), show (858993459 : Int32) = nI 858993459 from rfl, mI_and, mI_and, nI_add, ← e2] at h2
  subst h2
  intro x3 h3
  rw [u4 (by omega), show (252645135 : Int32) = nI 252645135 from rfl, nI_add, mI_and, ← e3] at h3
  subst h3
  intro x4 h4
  rw [u8 (by omega), nI_add] at h4
  subst h4
  intro x5 h5
  rw [u16 (by omega), nI_add] at h5
  subst h5
  rw [show (63 : Int32) = nI 63 from rfl, mI_and, g4]
  exact q
