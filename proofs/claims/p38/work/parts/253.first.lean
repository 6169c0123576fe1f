/-! the state behind the constructor -/
def sg0 : SS := fun _ _ => 0
def sgF : SS := sx12 sg0
theorem sgF_refs : ∀ k, k < 95 → ∀ j, j < 16 → isRef k j = true → sgF k j = 1 := by decide +kernel
theorem kt_len : ∀ k, k < 95 → (kt k).2.2.length ≤ 16 := by decide +kernel
theorem kt_out {k : Nat} (h : 95 ≤ k) : kt k = (0, 0, []) := by
  unfold kt
  rw [List.getD_eq_getElem?_getD, List.getElem?_eq_none (by show 95 ≤ k; exact h)]
  rfl
theorem RS_sgF : RS sgF := by
  intro k j h
  by_cases hk : k < 95
  · by_cases hj : j < 16
    · exact sgF_refs k hk j hj h
    · exfalso
      have hl := kt_len k hk
      have e : (kt k).2.2.getD j none = none := by rw [List.getD_eq_getElem?_getD, List.getElem?_eq_none (by omega)]; rfl
      unfold isRef at h
      rw [e] at h
      simp at h
      omega
  · exfalso
    have e : (kt k).2.2.getD j none = none := by rw [kt_out (by omega)]; rfl
    unfold isRef at h
    rw [e] at h
    simp at h
    omega
