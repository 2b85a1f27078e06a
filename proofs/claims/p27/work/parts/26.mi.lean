theorem CA_slot {q : Nat} {w : Nat → Int32} {tk : Int32} {S0 S : FS} (h : CA q w tk 89 89 S0 S) {j : Nat} (hj : j < 5) : fF S 0 (sl5 j) = w j := by
  rw [← vec_lo S hj]
  exact h.2.2.2.2.2.1 j (by omega)
theorem CA_1 {q : Nat} {w : Nat → Int32} {tk : Int32} {S0 S : FS} (h : CA q w tk 89 89 S0 S) {i : Nat} (hi : i < 72) : fA S 1 i = w (5 + i) := by
  rw [← vec_s S hi]
  exact h.2.2.2.2.2.1 _ (by omega)
theorem CA_2 {q : Nat} {w : Nat → Int32} {tk : Int32} {S0 S : FS} (h : CA q w tk 89 89 S0 S) {i : Nat} (hi : i < 4) : fA S 2 i = w (77 + i) := by
  rw [← vec_se S hi]
  exact h.2.2.2.2.2.1 _ (by omega)
theorem CA_3 {q : Nat} {w : Nat → Int32} {tk : Int32} {S0 S : FS} (h : CA q w tk 89 89 S0 S) {i : Nat} (hi : i < 8) : fA S 3 i = w (81 + i) := by
  rw [← vec_co S]
  exact h.2.2.2.2.2.1 _ (by omega)
/-- in mind: what was kept of S, and how X may differ from it -/
def MI (S X : FS) (B : Nat) : Prop := fL X = fL S ∧ (∀ k, k ≠ 2 → k ≠ 12 → k ≠ 13 → k ≠ 15 → (k < 33 ∨ 38 < k) → fF X 0 k = fF S 0 k) ∧ fF X 0 15 = 1 ∧ (∀ i, i ≠ 1 → i ≠ 2 → i ≠ 3 → i ≠ 4 → i ≠ 14 → i ≠ 15 → i ≠ 16 → fA X i = fA S i) ∧ (∀ i, i < 89 → fA X 4 i = vec S i) ∧ (∀ i, i < 4 → fA X 2 i = fA S 2 i) ∧ (∀ i, i < 8 → fA X 3 i = fA S 3 i) ∧ (∀ i, i < 72 → (i % 12 < 3 ∨ 8 ≤ i % 12) → fA X 1 i = fA S 1 i) ∧ SV B X
/-- behind a question: all as it was, but what is only in mind -/
def QP (S X : FS) : Prop := fL X = fL S ∧ (∀ k, k ≠ 12 → k ≠ 13 → k ≠ 15 → (k < 33 ∨ 38 < k) → fF X 0 k = fF S 0 k) ∧ fF X 0 15 = 0 ∧ (∀ i, i ≠ 1 → i ≠ 2 → i ≠ 3 → i ≠ 4 → i ≠ 14 → i ≠ 15 → i ≠ 16 → fA X i = fA S i) ∧ (∀ i, i < 4 → fA X 2 i = fA S 2 i) ∧ (∀ i, i < 8 → fA X 3 i = fA S 3 i) ∧ ∀ i, i < 72 → fA X 1 i = fA S 1 i
theorem QP.rf {S : FS} (h : fF S 0 15 = 0) : QP S S := ⟨rfl, fun _ _ _ _ _ => rfl, h, fun _ _ _ _ _ _ _ _ => rfl, fun _ _ => rfl, fun _ _ => rfl, fun _ _ => rfl⟩
theorem vec15 (S : FS) (v : Int32) : vec (setF S 0 15 v) = vec S := vec_congr (fun m hm => by rcases (show m = 0 ∨ m = 1 ∨ m = 2 ∨ m = 3 ∨ m = 4 by omega) with rfl | rfl | rfl | rfl | rfl <;> rfl) rfl rfl rfl
theorem sl5_of {k : Nat} (h : k = 1 ∨ k = 2 ∨ k = 3 ∨ k = 5 ∨ k = 7) : ∃ j, j < 5 ∧ sl5 j = k := by
  rcases h with rfl | rfl | rfl | rfl | rfl
  · exact ⟨0, by omega, rfl⟩
  · exact ⟨1, by omega, rfl⟩
  · exact ⟨2, by omega, rfl⟩
  · exact ⟨3, by omega, rfl⟩
  · exact ⟨4, by omega, rfl⟩
theorem MI_open {S X : FS} {B : Nat} (h : CA 4 (vec (setF S 0 15 1)) 1 89 89 (setF S 0 15 1) X) (hS : SV B S) : MI S X B := by
  rw [vec15] at h
  refine ⟨h.1.1, fun k h2 h12 h13 h15 hk => ?_, ?_, fun i h1 h2 h3 h4 _ _ _ => h.2.2.1 i h1 h2 h3 h4, fun i hi => h.2.2.2.1 i hi, fun i hi => (CA_2 h hi).trans (vec_se S hi), fun i hi => (CA_3 h hi).trans (vec_co S), fun i hi _ => (CA_1 h hi).trans (vec_s S hi), fun c hc => ?_⟩
  · by_cases q : k = 1 ∨ k = 2 ∨ k = 3 ∨ k = 5 ∨ k = 7
    · obtain ⟨j, hj, rfl⟩ := sl5_of q
      rw [CA_slot h hj, vec_lo S hj]
    · rw [h.2.1 k (by omega) (by omega) (by omega) (by omega) (by omega) h12 h13, fF_setF, if_neg (by omega)]
  · rw [h.2.1 15 (by decide) (by decide) (by decide) (by decide) (by decide) (by decide) (by decide), fF_setF, if_pos ⟨rfl, rfl⟩]
  · obtain ⟨x, h1, h2⟩ := hS c hc
    exact ⟨x, h1, ((CA_1 h (by omega)).trans (vec_s S (by omega))).trans h2⟩
theorem MI_back {S X Y : FS} {B : Nat} (h : CA 4 (fA X 4) 0 89 89 X Y) (k : MI S X B) : fL Y = fL S ∧ (∀ k, k ≠ 12 → k ≠ 13 → k ≠ 15 → (k < 33 ∨ 38 < k) → fF Y 0 k = fF S 0 k) ∧ fF Y 0 15 = 1 ∧ (∀ i, i ≠ 1 → i ≠ 2 → i ≠ 3 → i ≠ 4 → i ≠ 14 → i ≠ 15 → i ≠ 16 → fA Y i = fA S i) ∧ (∀ i, i < 4 → fA Y 2 i = fA S 2 i) ∧ (∀ i, i < 8 → fA Y 3 i = fA S 3 i) ∧ (∀ i, i < 72 → fA Y 1 i = fA S 1 i) ∧ ∀ i, i < 89 → fA Y 4 i = vec S i := by
  obtain ⟨k1, k2, k3, k4, k5, -⟩ := k
  refine ⟨h.1.1.trans k1, fun j h12 h13 h15 hj => ?_, ?_, fun i h1 h2 h3 h4 a b c => (h.2.2.1 i h1 h2 h3 h4).trans (k4 i h1 h2 h3 h4 a b c), fun i hi => ((CA_2 h hi).trans (k5 _ (by omega))).trans (vec_se S hi), fun i hi => ((CA_3 h hi).trans (k5 _ (by omega))).trans (vec_co S), fun i hi => ((CA_1 h hi).trans (k5 _ (by omega))).trans (vec_s S hi), fun i hi => (h.2.2.2.1 i hi).trans (k5 i hi)⟩
  · by_cases q : j = 1 ∨ j = 2 ∨ j = 3 ∨ j = 5 ∨ j = 7
    · obtain ⟨m, hm, rfl⟩ := sl5_of q
      rw [CA_slot h hm, k5 m (by omega), vec_lo S hm]
    · rw [h.2.1 j (by omega) (by omega) (by omega) (by omega) (by omega) h12 h13]
      exact k2 j (by omega) h12 h13 h15 hj
  · rw [h.2.1 15 (by decide) (by decide) (by decide) (by decide) (by decide) (by decide) (by decide)]
    exact k3
theorem MI_again {S X Y : FS} {B C : Nat} (h : CA 4 (fA X 4) 0 89 89 X Y) (k : MI S X B) (hS : SV C S) : MI S Y C := by
  obtain ⟨a, b, c, d, e, f, g, i⟩ := MI_back h k
  exact ⟨a, fun k _ h12 h13 h15 hk => b k h12 h13 h15 hk, c, d, i, e, f, fun j hj _ => g j hj, fun c hc => by
    obtain ⟨x, h1, h2⟩ := hS c hc
    exact ⟨x, h1, (g _ (by omega)).trans h2⟩⟩
theorem MI_close {S X Y : FS} {B : Nat} (h : CA 4 (fA X 4) 0 89 89 X Y) (k : MI S X B) : QP S (setF Y 0 15 0) := by
  obtain ⟨a, b, c, d, e, f, g, i⟩ := MI_back h k
  exact ⟨a, fun k h12 h13 h15 hk => by rw [fF_setF, if_neg (by omega)]; exact b k h12 h13 h15 hk, by rw [fF_setF, if_pos ⟨rfl, rfl⟩], d, e, f, g⟩
theorem MI.M {S X Y : FS} {B C : Nat} (k : MI S X B) (h : MO X Y) (hS : SV C Y) : MI S Y C := by
  obtain ⟨k1, k2, k3, k4, k5, k6, k7, k8, -⟩ := k
  exact ⟨h.1.trans k1, fun j h2 h12 h13 h15 hj => (h.2.2.1 j (by omega) (by omega) (by omega) (by omega) (by omega) (by omega)).trans (k2 j h2 h12 h13 h15 hj), h.f (by decide) k3, fun i h1 h2 h3 h4 a b c => (h.2.2.2.1 i h1 a b c).trans (k4 i h1 h2 h3 h4 a b c), fun i hi => by rw [h.2.2.2.1 4 (by decide) (by decide) (by decide) (by decide)]; exact k5 i hi, fun i hi => by rw [h.2.2.2.1 2 (by decide) (by decide) (by decide) (by decide)]; exact k6 i hi, fun i hi => by rw [h.2.2.2.1 3 (by decide) (by decide) (by decide) (by decide)]; exact k7 i hi, fun i hi q => (h.2.2.2.2 i q).trans (k8 i hi q), hS⟩
theorem MI.off {S X : FS} {B : Nat} (k : MI S X B) (v : Int32) : MI S (setF X 0 2 v) B := by
  obtain ⟨k1, k2, k3, k4⟩ := k
  exact ⟨k1, fun j h2 h12 h13 h15 hj => by rw [fF_setF, if_neg (by omega)]; exact k2 j h2 h12 h13 h15 hj, k3, k4⟩
theorem MI.f {S X : FS} {B : Nat} (h : MI S X B) {k : Nat} (hk : k ≠ 2 ∧ k ≠ 12 ∧ k ≠ 13 ∧ k ≠ 15 ∧ k < 33) {v : Int32} (e : fF S 0 k = v) : fF X 0 k = v := (h.2.1 k hk.1 hk.2.1 hk.2.2.1 hk.2.2.2.1 (Or.inl hk.2.2.2.2)).trans e
theorem MI.HOK {S X : FS} {B : Nat} (h : MI S X B) (k : HOK S) : HOK X := by
  have e : ∀ i, 5 ≤ i → i < 14 → fA X i = fA S i := fun i a b => h.2.2.2.1 i (by omega) (by omega) (by omega) (by omega) (by omega) (by omega) (by omega)
  have e3 : fF X 0 3 = fF S 0 3 := h.f (by decide) rfl
  rcases k with k | ⟨n, h1, h2, z, c, g1, g2, g3, g4, g5⟩
  · exact Or.inl (e3.trans k)
  · refine Or.inr ⟨n, h1, e3.trans h2, z, c, g1, g2, by rw [e 8 (by omega) (by omega)]; exact g3, by rw [e 12 (by omega) (by omega)]; exact g4, fun i hi hw => ?_⟩
    rw [e 9 (by omega) (by omega)] at hw
    rw [e 11 (by omega) (by omega), e 7 (by omega) (by omega)]
    exact g5 i hi hw
theorem MI.SV {S X : FS} {B : Nat} (h : MI S X B) : SV B X := h.2.2.2.2.2.2.2.2
