/-- the class's state at its start -/
def X0 : FS := (fun i k => if i < 9 then (if 2 ≤ i ∧ k = 0 then nI (i - 2) else 0) else if i < 12 then (if k = 6 then 2 else 0) else if 21 ≤ i ∧ i < 39 then (if k = 0 then nI ((i - 21) % 6) else 0) else if i = 57 then (if k = 3 then 5 else if k = 4 then 1 else 0) else if i = 71 ∨ i = 74 ∨ i = 77 then (if k = 0 then 5 else if k = 1 then 1 else 0) else 0,
  fun _ _ => 0, fun _ _ => 0,
  fun i k => if i < 9 then none else if i < 12 then (if k = 7 then some (71 + 3 * (i - 9)) else none) else if 21 ≤ i ∧ i < 39 then (if k = 2 then some 2 else none) else if i = 71 ∨ i = 74 ∨ i = 77 then (if k = 2 then some (i + 1) else if k = 3 then some (i + 2) else none) else none,
  fun _ => 0, fun i => if i = 71 ∨ i = 74 ∨ i = 77 then 0 else 1, 9)
theorem X0_c : fC X0 = 9 := rfl
theorem X0_XI : XI X0 := by
  refine ⟨fun s hs => ⟨0, ?_, by omega⟩, fun s hs => ⟨0, ?_, by omega⟩, fun s hs => ⟨0, ?_, by omega⟩, ⟨fun s hs => ⟨71 + 3 * s, ?_, ?_⟩, ?_⟩, fun k hk => ⟨⟨2, ?_, by omega, by omega⟩, Or.inl ?_⟩, ?_, ?_, ⟨⟨0, rfl, by omega⟩, 0, rfl, by omega⟩, fun t ht => ⟨0, rfl, by omega⟩, 0, rfl, Or.inl ⟨rfl, rfl⟩⟩
  · rcases (show s = 0 ∨ s = 1 ∨ s = 2 by omega) with rfl | rfl | rfl <;> rfl
  · rcases (show s = 0 ∨ s = 1 ∨ s = 2 by omega) with rfl | rfl | rfl <;> rfl
  · rcases (show s = 0 ∨ s = 1 ∨ s = 2 by omega) with rfl | rfl | rfl <;> rfl
  · rcases (show s = 0 ∨ s = 1 ∨ s = 2 by omega) with rfl | rfl | rfl <;> rfl
  · have h : fK X0 (71 + 3 * s) = 0 ∧ fR X0 (71 + 3 * s) 2 = some (72 + 3 * s) ∧ fR X0 (71 + 3 * s) 3 = some (73 + 3 * s) ∧ fK X0 (72 + 3 * s) = 1 ∧ fK X0 (73 + 3 * s) = 1 := by
      rcases (show s = 0 ∨ s = 1 ∨ s = 2 by omega) with rfl | rfl | rfl <;> exact ⟨rfl, rfl, rfl, rfl, rfl⟩
    exact ⟨by omega, by rw [X0_c]; omega, h.1, _, _, 0, h.2.1, h.2.2.1, by omega, ⟨by omega, by rw [X0_c]; omega, h.2.2.2.1, rfl⟩, ⟨by omega, by rw [X0_c]; omega, h.2.2.2.2, rfl⟩⟩
  · intro p k a h1 h2 h3 h4
    rw [X0_c] at h2 ⊢
    have h5 : fR X0 p k = if p < 9 then none else if p < 12 then (if k = 7 then some (71 + 3 * (p - 9)) else none) else if 21 ≤ p ∧ p < 39 then (if k = 2 then some 2 else none) else if p = 71 ∨ p = 74 ∨ p = 77 then (if k = 2 then some (p + 1) else if k = 3 then some (p + 2) else none) else none := rfl
    rw [h5, if_neg (by omega), if_neg (by omega), if_neg (by omega)] at h4
    by_cases h6 : p = 71 ∨ p = 74 ∨ p = 77
    · rw [if_pos h6] at h4
      by_cases h7 : k = 2
      · rw [if_pos h7] at h4
        cases h4
        omega
      · rw [if_neg h7] at h4
        by_cases h8 : k = 3
        · rw [if_pos h8] at h4
          cases h4
          omega
        · rw [if_neg h8] at h4
          cases h4
    · rw [if_neg h6] at h4
      cases h4
  · show (if 21 + k < 9 then none else if 21 + k < 12 then _ else if 21 ≤ 21 + k ∧ 21 + k < 39 then (if 2 = 2 then some 2 else none) else _) = some 2
    rw [if_neg (by omega), if_neg (by omega), if_pos (by omega)]
    rfl
  · show (if 21 + k < 9 then (if 2 ≤ 21 + k ∧ 9 = 0 then nI (21 + k - 2) else 0) else if 21 + k < 12 then (if 9 = 6 then 2 else 0) else if 21 ≤ 21 + k ∧ 21 + k < 39 then (if 9 = 0 then nI ((21 + k - 21) % 6) else 0) else _) = (0 : Int32)
    rw [if_neg (by omega), if_neg (by omega), if_pos (by omega)]
    rfl
  · intro s k hs hk
    show (if 21 + 6 * s + k < 9 then _ else if 21 + 6 * s + k < 12 then _ else if 21 ≤ 21 + 6 * s + k ∧ 21 + 6 * s + k < 39 then (if 0 = 0 then nI ((21 + 6 * s + k - 21) % 6) else 0) else _) = nI k
    rw [if_neg (by omega), if_neg (by omega), if_pos (by omega), if_pos rfl, show (21 + 6 * s + k - 21) % 6 = k by omega]
  · intro q hq
    show (if 2 + q < 9 then (if 2 ≤ 2 + q ∧ 0 = 0 then nI (2 + q - 2) else 0) else _) = nI q
    rw [if_pos (by omega), if_pos ⟨by omega, rfl⟩, show 2 + q - 2 = q by omega]
