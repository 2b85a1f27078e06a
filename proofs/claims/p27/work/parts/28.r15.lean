theorem SV.V2 {B j y : Nat} {S T : FS} (k : SV B S) (h : VR j y S T) (hy : y ≤ B) : SV B T := fun c hc => by
  by_cases q : c = j
  · subst q
    exact ⟨y, hy, h.2.2.2.2.2⟩
  · obtain ⟨x, h1, h2⟩ := k c hc
    exact ⟨x, h1, (h.2.2.2.2.1 (12 * c + 6) (by omega)).trans h2⟩
