/-! the state behind both constructors -/
def sg0 : SS := fun _ _ => 0
def sgF : SS := u2 (u2 (u2 (u2 (u2 (u2 (u2 (u2 (sx12 sg0) 95 0 1) 95 1 1) 95 2 1) 95 3 1) 95 7 (-4)) 95 9 1) 95 11 1) 95 12 1
theorem sgF_refs : ∀ k, k < 103 → ∀ j, j < 16 → isRef k j = true → sgF k j = 1 := by decide +kernel
theorem kt_len : ∀ k, k < 103 → (kt k).2.2.length ≤ 16 := by decide +kernel
theorem kt_out {k : Nat} (h : 103 ≤ k) : kt k = (0, 0, []) := by
  unfold kt
  rw [List.getD_eq_getElem?_getD, List.getElem?_eq_none (by show 103 ≤ k; exact h)]
  rfl
theorem RS_sgF : RS sgF := by
  intro k j h
  by_cases hk : k < 103
  · by_cases hj : j < 16
    · exact sgF_refs k hk j hj h
    · exfalso
      have hl := kt_len k hk
      have e : (kt k).2.2.getD j none = none := by rw [List.getD_eq_getElem?_getD, List.getElem?_eq_none (by omega)]; rfl
      unfold isRef at h
      rw [e] at h
      simp at h
      omega
  · exfalso
    have e : (kt k).2.2.getD j none = none := by rw [kt_out (by omega)]; rfl
    unfold isRef at h
    rw [e] at h
    simp at h
    omega
theorem INV_sgF : INV sgF := by
  refine ⟨fun _ => 0, fun _ _ => 0, 0, fun _ => (fun _ => 0, fun _ _ => 0), [], [], fun _ => 0, fun _ _ => 0, false, ⟨⟨by decide, by decide, fun p hp => absurd hp (Nat.not_lt_zero p)⟩, by decide, fun i hi => absurd hi (Nat.not_lt_zero i), ⟨by decide, fun i hi => absurd hi (Nat.not_lt_zero i)⟩, by decide, fun z => (by cases z)⟩, ?_, ⟨?_, fun i hi => absurd hi (Nat.not_lt_zero i)⟩, ⟨?_, fun p hp => absurd hp (Nat.not_lt_zero p)⟩, ⟨?_, fun i hi => absurd hi (Nat.not_lt_zero i)⟩, ⟨⟨?_, fun i hi => absurd hi (Nat.not_lt_zero i)⟩, ⟨?_, fun i hi => absurd hi (Nat.not_lt_zero i)⟩, ?_, ?_, fun z => (by cases z), ⟨?_, fun i hi => absurd hi (Nat.not_lt_zero i)⟩, ⟨?_, fun i hi => absurd hi (Nat.not_lt_zero i)⟩, ?_, fun z => (by cases z)⟩, ?_, fun z => ?_⟩
  · unfold RC
    decide +kernel
  · decide +kernel
  · decide +kernel
  · decide +kernel
  · decide +kernel
  · decide +kernel
  · decide +kernel
  · decide +kernel
  · decide +kernel
  · decide +kernel
  · decide +kernel
  · decide +kernel
  · exact absurd (by decide +kernel : sgF 94 0 = 0) z
