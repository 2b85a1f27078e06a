/-- VISITS are at most B -/
def SV (B : Nat) (S : FS) : Prop := ∀ c, c < 6 → ∃ x : Nat, x ≤ B ∧ fA S 1 (12 * c + 6) = nI x
/-- what visits leave as it was -/
def MO (S X : FS) : Prop := fL X = fL S ∧ fR X = fR S ∧ (∀ k, k ≠ 33 → k ≠ 34 → k ≠ 35 → k ≠ 36 → k ≠ 37 → k ≠ 38 → fF X 0 k = fF S 0 k) ∧ (∀ i, i ≠ 1 → i ≠ 14 → i ≠ 15 → i ≠ 16 → fA X i = fA S i) ∧ ∀ i, (i % 12 < 3 ∨ 8 ≤ i % 12) → fA X 1 i = fA S 1 i
theorem MO.rf (S : FS) : MO S S := ⟨rfl, rfl, fun _ _ _ _ _ _ _ => rfl, fun _ _ _ _ _ => rfl, fun _ _ => rfl⟩
theorem MO.trans {S T U : FS} (h : MO S T) (k : MO T U) : MO S U := ⟨k.1.trans h.1, k.2.1.trans h.2.1, fun i a b c d e f => (k.2.2.1 i a b c d e f).trans (h.2.2.1 i a b c d e f), fun i a b c d => (k.2.2.2.1 i a b c d).trans (h.2.2.2.1 i a b c d), fun i a => (k.2.2.2.2 i a).trans (h.2.2.2.2 i a)⟩
theorem MO.setF {S T : FS} (h : MO S T) {k : Nat} (hk : 33 ≤ k ∧ k ≤ 38) (v : Int32) : MO S (setF T 0 k v) := ⟨h.1, h.2.1, fun i a b c d e f => by rw [fF_setF, if_neg (by omega)]; exact h.2.2.1 i a b c d e f, h.2.2.2⟩
theorem VR.M {j x : Nat} {S T : FS} (h : VR j x S T) : MO S T := ⟨h.1, h.2.1, fun i a b c _ _ _ => h.2.2.1 i a b c, h.2.2.2.1, fun i a => h.2.2.2.2.1 i (by omega)⟩
theorem HFr.M {S T : FS} (h : HFr S T) : MO S T := ⟨h.1, h.2.1, fun i _ _ _ _ _ _ => h.2.2.1 i, fun i _ a b c => h.2.2.2 i a b c, fun i _ => by rw [h.a (by decide)]⟩
theorem CTh.M {S T : FS} (h : MO S T) {n : Nat} (k : CTh S n) : CTh T n := by
  have e : ∀ i, 2 ≤ i → i < 14 → fA T i = fA S i := fun i a b => h.2.2.2.1 i (by omega) (by omega) (by omega) (by omega)
  obtain ⟨z, c, h1, h2, h3, h4, h5⟩ := k
  refine ⟨z, c, h1, h2, by rw [e 8 (by omega) (by omega)]; exact h3, by rw [e 12 (by omega) (by omega)]; exact h4, fun i hi hw => ?_⟩
  rw [e 9 (by omega) (by omega)] at hw
  rw [e 11 (by omega) (by omega), e 7 (by omega) (by omega)]
  exact h5 i hi hw
theorem HOK.M {S T : FS} (h : MO S T) (k : HOK S) : HOK T := by
  have e := h.2.2.1 3 (by decide) (by decide) (by decide) (by decide) (by decide) (by decide)
  rcases k with k | ⟨n, h1, h2, h3⟩
  · exact Or.inl (e.trans k)
  · exact Or.inr ⟨n, h1, e.trans h2, h3.M h⟩
theorem MO.f {S T : FS} (h : MO S T) {k : Nat} (hk : k < 33) {v : Int32} (e : fF S 0 k = v) : fF T 0 k = v := (h.2.2.1 k (by omega) (by omega) (by omega) (by omega) (by omega) (by omega)).trans e
theorem SV.H {B : Nat} {S T : FS} (h : HFr S T) (k : SV B S) : SV B T := fun c hc => by
  obtain ⟨x, h1, h2⟩ := k c hc
  exact ⟨x, h1, by rw [h.a (by decide)]; exact h2⟩
theorem SV.mono {B C : Nat} {S : FS} (k : SV B S) (h : B ≤ C) : SV C S := fun c hc => by
  obtain ⟨x, h1, h2⟩ := k c hc
  exact ⟨x, by omega, h2⟩
theorem SV.V {B j y : Nat} {S T : FS} (k : SV B S) (h : VR j y S T) (hy : y ≤ B + 1) (hj : j < 6) : SV (B + 1) T := fun c hc => by
  by_cases q : c = j
  · subst q
    exact ⟨y, hy, h.2.2.2.2.2⟩
  · obtain ⟨x, h1, h2⟩ := k c hc
    exact ⟨x, by omega, (h.2.2.2.2.1 (12 * c + 6) (by omega)).trans h2⟩
/-- on a SATURDAY, when k have come -/
def SVk (B k : Nat) (S0 S : FS) : Prop := ∀ c, c < 6 → ∃ x : Nat, fA S 1 (12 * c + 6) = nI x ∧ x ≤ B + 1 ∧ (k ≤ c → x ≤ B) ∧ (fF S0 0 15 = 0 → B ≤ 9999 → x ≤ 9999)
theorem SVk.of {B : Nat} {S : FS} (k : SV B S) : SVk B 0 S S := fun c hc => by
  obtain ⟨x, h1, h2⟩ := k c hc
  exact ⟨x, h2, by omega, fun _ => h1, fun _ _ => by omega⟩
theorem SVk.skip {B k : Nat} {S0 S : FS} (h : SVk B k S0 S) : SVk B (k + 1) S0 S := fun c hc => by
  obtain ⟨x, h1, h2, h3, h4⟩ := h c hc
  exact ⟨x, h1, h2, fun q => h3 (by omega), h4⟩
theorem SVk.V {B k x y : Nat} {S0 S T U : FS} (h : SVk B k S0 S) (hk : k < 6) (hx : fA S 1 (12 * k + 6) = nI x) (hx2 : x ≤ B) (hv : VR k y S T) (hy : y ≤ x + 1) (hy2 : fF S 0 15 = 0 → x ≤ 9999 → y ≤ 9999) (h15 : fF S 0 15 = fF S0 0 15) (hU : fA U 1 = fA T 1) : SVk B (k + 1) S0 U := fun c hc => by
  by_cases q : c = k
  · subst q
    exact ⟨y, by rw [hU]; exact hv.2.2.2.2.2, by omega, fun w => by omega, fun w1 w2 => hy2 (h15.trans w1) (by omega)⟩
  · obtain ⟨z, h1, h2, h3, h4⟩ := h c hc
    exact ⟨z, by rw [hU]; exact (hv.2.2.2.2.1 (12 * c + 6) (by omega)).trans h1, h2, fun w => h3 (by omega), h4⟩
theorem SVk.end_ {B k : Nat} {S0 S : FS} (h : SVk B k S0 S) : SV (B + 1) S ∧ (fF S0 0 15 = 0 → B ≤ 9999 → SV 9999 S) :=
  ⟨fun c hc => by obtain ⟨x, h1, h2, -, -⟩ := h c hc; exact ⟨x, h2, h1⟩, fun a b c hc => by obtain ⟨x, h1, -, -, h4⟩ := h c hc; exact ⟨x, h4 a b, h1⟩⟩
