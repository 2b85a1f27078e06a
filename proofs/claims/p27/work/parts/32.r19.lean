theorem tr_a {i : Int32} (h : 0 ≤ i ∧ i ≤ 20 - 1) : i.toNatClampNeg < 20 ∧ i = nI i.toNatClampNeg := by
  obtain ⟨a, b⟩ := in_n (c := i) (b := 19) ⟨h.1, Int32.le_trans h.2 (by decide)⟩ (by decide)
  exact ⟨by omega, b⟩
theorem tr_b {i x : Int32} {t : Nat} (h : 0 ≤ i ∧ i ≤ x - 1) (e : x = nI t) (ht : t < 20) : i.toNatClampNeg < 20 ∧ i = nI i.toNatClampNeg := by
  by_cases q : t = 0
  · subst q
    rw [e] at h
    exact absurd (Int32.le_trans h.1 h.2) (by decide)
  · obtain ⟨j, rfl⟩ : ∃ j, t = j + 1 := ⟨t - 1, by omega⟩
    rw [e, ← nI_1 j, Int32.sub_eq_add_neg, Int32.add_assoc, show (1 : Int32) + -1 = 0 from by decide, Int32.add_zero] at h
    obtain ⟨a, b⟩ := in_n h (by omega)
    exact ⟨by omega, b⟩
