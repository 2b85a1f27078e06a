/-- what asking a counter leaves as it was -/
def HFr (S S' : FS) : Prop := fL S' = fL S ∧ fR S' = fR S ∧ (∀ k, fF S' 0 k = fF S 0 k) ∧ ∀ i, i ≠ 14 → i ≠ 15 → i ≠ 16 → fA S' i = fA S i
theorem HFr.rf (S : FS) : HFr S S := ⟨rfl, rfl, fun _ => rfl, fun _ _ _ _ => rfl⟩
theorem HFr.trans {S T U : FS} (h : HFr S T) (k : HFr T U) : HFr S U := ⟨k.1.trans h.1, k.2.1.trans h.2.1, fun j => (k.2.2.1 j).trans (h.2.2.1 j), fun i a b c => (k.2.2.2 i a b c).trans (h.2.2.2 i a b c)⟩
theorem HFr.setA {S T : FS} (h : HFr S T) {i : Nat} (hi : i = 14 ∨ i = 15 ∨ i = 16) (f : Nat → Int32) : HFr S (setA T i f) := ⟨h.1, h.2.1, h.2.2.1, fun j a b c => by rw [fA_setA, if_neg (by omega)]; exact h.2.2.2 j a b c⟩
theorem HFr.a {S T : FS} (h : HFr S T) {i : Nat} (hi : i < 14) : fA T i = fA S i := h.2.2.2 i (by omega) (by omega) (by omega)
theorem CTh.H {S T : FS} (h : HFr S T) {n : Nat} (k : CTh S n) : CTh T n := by
  obtain ⟨z, c, h1, h2, h3, h4, h5⟩ := k
  refine ⟨z, c, h1, h2, by rw [h.a (by decide)]; exact h3, by rw [h.a (by decide)]; exact h4, fun i hi hw => ?_⟩
  rw [h.a (i := 9) (by decide)] at hw
  rw [h.a (i := 11) (by decide), h.a (i := 7) (by decide)]
  exact h5 i hi hw
/-- the counter that holds is one that has been read -/
def HOK (S : FS) : Prop := fF S 0 3 = -1 ∨ ∃ h : Nat, h < 6 ∧ fF S 0 3 = nI h ∧ CTh S h
theorem HOK.H {S T : FS} (h : HFr S T) (k : HOK S) : HOK T := by
  rcases k with k | ⟨n, h1, h2, h3⟩
  · exact Or.inl ((h.2.2.1 3).trans k)
  · exact Or.inr ⟨n, h1, (h.2.2.1 3).trans h2, h3.H h⟩
theorem HOK.pos {S : FS} (k : HOK S) (h : ¬ fF S 0 3 < 0) : ∃ h : Nat, h < 6 ∧ fF S 0 3 = nI h ∧ CTh S h := by
  rcases k with k | k
  · rw [k] at h
    exact absurd (by decide) h
  · exact k
theorem hr_pos {t : Nat → Int32} {z u : Nat} (h : ¬ hrS t z u < 0) : u < z := hr_lt (fun q => h (by rw [q]; decide))
theorem hr_eq {t : Nat → Int32} {z u : Nat} {c : Int32} (hlt : u < z) (h : hrS t z u = c) : t u = c := by
  unfold hrS at h
  rw [if_pos hlt] at h
  exact h
theorem hr_eqn {t : Nat → Int32} {z u : Nat} {c : Int32} (hlt : u < z) (h : ¬ hrS t z u = c) : ¬ t u = c := by
  unfold hrS at h
  rw [if_pos hlt] at h
  exact h
section IT
variable {t : Nat → Int32} {z a n q d : Nat}
theorem it_33 (hI : itr t z a n = (q, d)) (hlt : q < z) (e : hrS t z q = 33) : itr t z a (n + 1) = (q + 1, d) := by
  show stp t z (itr t z a n) = _
  rw [hI]
  exact stp_33 hlt (hr_eq hlt e)
theorem it_40 (hI : itr t z a n = (q, d)) (hlt : q < z) (e : hrS t z q = 40) : itr t z a (n + 1) = (q + 1, d + 1) := by
  show stp t z (itr t z a n) = _
  rw [hI]
  exact stp_40 hlt (hr_eq hlt e)
theorem it_41 (hI : itr t z a n = (q, d)) (hlt : q < z) (e : hrS t z q = 41) : itr t z a (n + 1) = (q + 1, d - 1) := by
  show stp t z (itr t z a n) = _
  rw [hI]
  exact stp_41 hlt (hr_eq hlt e)
theorem it_124 (hI : itr t z a n = (q, d)) (hlt : q < z) (e : hrS t z q = 124) : itr t z a (n + 1) = (q + 1, d) := by
  show stp t z (itr t z a n) = _
  rw [hI]
  exact stp_124 hlt (hr_eq hlt e)
theorem it_38 (hI : itr t z a n = (q, d)) (hlt : q < z) (e : hrS t z q = 38) : itr t z a (n + 1) = (q + 1, d) := by
  show stp t z (itr t z a n) = _
  rw [hI]
  exact stp_38 hlt (hr_eq hlt e)
theorem it_t4 (hI : itr t z a n = (q, d)) (hlt : q < z) (e0 : ¬ hrS t z q = 59) (e1 : ¬ hrS t z q = 33) (e2 : ¬ hrS t z q = 40) (e3 : ¬ hrS t z q = 41) (e4 : ¬ hrS t z q = 124) (e5 : ¬ hrS t z q = 38) (hd : 48 ≤ hrS t z (q + 3) ∧ hrS t z (q + 3) ≤ 57) : itr t z a (n + 1) = (q + 4, d) := by
  show stp t z (itr t z a n) = _
  rw [hI, stp_t hlt (hr_eqn hlt e0) (hr_eqn hlt e1) (hr_eqn hlt e2) (hr_eqn hlt e3) (hr_eqn hlt e4) (hr_eqn hlt e5), if_pos (hrS_dig hd)]
theorem it_t3 (hI : itr t z a n = (q, d)) (hlt : q < z) (e0 : ¬ hrS t z q = 59) (e1 : ¬ hrS t z q = 33) (e2 : ¬ hrS t z q = 40) (e3 : ¬ hrS t z q = 41) (e4 : ¬ hrS t z q = 124) (e5 : ¬ hrS t z q = 38) (hd : ¬ (48 ≤ hrS t z (q + 3) ∧ hrS t z (q + 3) ≤ 57)) : itr t z a (n + 1) = (q + 3, d) := by
  show stp t z (itr t z a n) = _
  rw [hI, stp_t hlt (hr_eqn hlt e0) (hr_eqn hlt e1) (hr_eqn hlt e2) (hr_eqn hlt e3) (hr_eqn hlt e4) (hr_eqn hlt e5), if_neg (hrS_dig_n hd)]
end IT
theorem OKs_lv {t : Nat → Int32} {z a n q d : Nat} (h : OKs t z a) (hI : itr t z a n = (q, d)) : d ≤ 4 ∧ (q < z → hrS t z q = 41 → 1 ≤ d) := by
  have k := h n
  rw [hI] at k
  exact ⟨k.1, fun a b => k.2 a (hr_eq a b)⟩
/-- what a visit of customer j leaves as it was; x is what its VISITS are behind it -/
def VR (j x : Nat) (S S' : FS) : Prop := fL S' = fL S ∧ fR S' = fR S ∧ (∀ k, k ≠ 33 → k ≠ 34 → k ≠ 35 → fF S' 0 k = fF S 0 k) ∧ (∀ i, i ≠ 1 → i ≠ 14 → i ≠ 15 → i ≠ 16 → fA S' i = fA S i) ∧ (∀ i, (i < 12 * j + 3 ∨ 12 * j + 8 ≤ i) → fA S' 1 i = fA S 1 i) ∧ fA S' 1 (12 * j + 6) = nI x
theorem VR.rf {j x : Nat} {S : FS} (h : fA S 1 (12 * j + 6) = nI x) : VR j x S S := ⟨rfl, rfl, fun _ _ _ _ => rfl, fun _ _ _ _ _ => rfl, fun _ _ => rfl, h⟩
theorem VR.H {j x : Nat} {S T U : FS} (h : VR j x S T) (k : HFr T U) : VR j x S U := ⟨k.1.trans h.1, k.2.1.trans h.2.1, fun i a b c => (k.2.2.1 i).trans (h.2.2.1 i a b c), fun i a b c d => (k.2.2.2 i b c d).trans (h.2.2.2.1 i a b c d), fun i q => by rw [k.a (by decide)]; exact h.2.2.2.2.1 i q, by rw [k.a (by decide)]; exact h.2.2.2.2.2⟩
theorem VR.setF {j x : Nat} {S T : FS} (h : VR j x S T) {k : Nat} (hk : k = 33 ∨ k = 34 ∨ k = 35) (v : Int32) : VR j x S (setF T 0 k v) := ⟨h.1, h.2.1, fun i a b c => by rw [fF_setF, if_neg (by omega)]; exact h.2.2.1 i a b c, h.2.2.2.1, h.2.2.2.2.1, h.2.2.2.2.2⟩
theorem VR.put {j x : Nat} {S T : FS} (h : VR j x S T) {k : Nat} (hk : k = 3 ∨ k = 4 ∨ k = 5 ∨ k = 7) (v : Int32) : VR j x S (setA T 1 (upd (fA T 1) (12 * j + k) v)) := ⟨h.1, h.2.1, h.2.2.1, fun i a b c d => by rw [fA_setA, if_neg a]; exact h.2.2.2.1 i a b c d, fun i q => by rw [fA_setA, if_pos rfl, pk_un (by omega)]; exact h.2.2.2.2.1 i q, by rw [fA_setA, if_pos rfl, pk_un (by omega)]; exact h.2.2.2.2.2⟩
theorem VR.put6 {j x y : Nat} {S T : FS} (h : VR j x S T) : VR j y S (setA T 1 (upd (fA T 1) (12 * j + 6) (nI y))) := ⟨h.1, h.2.1, h.2.2.1, fun i a b c d => by rw [fA_setA, if_neg a]; exact h.2.2.2.1 i a b c d, fun i q => by rw [fA_setA, if_pos rfl, pk_un (by omega)]; exact h.2.2.2.2.1 i q, by rw [fA_setA, if_pos rfl, pk_us]⟩
theorem CTh.V {S T : FS} {j x : Nat} (h : VR j x S T) {n : Nat} (k : CTh S n) : CTh T n := by
  have e : ∀ i, 2 ≤ i → i < 14 → fA T i = fA S i := fun i a b => h.2.2.2.1 i (by omega) (by omega) (by omega) (by omega)
  obtain ⟨z, c, h1, h2, h3, h4, h5⟩ := k
  refine ⟨z, c, h1, h2, by rw [e 8 (by omega) (by omega)]; exact h3, by rw [e 12 (by omega) (by omega)]; exact h4, fun i hi hw => ?_⟩
  rw [e 9 (by omega) (by omega)] at hw
  rw [e 11 (by omega) (by omega), e 7 (by omega) (by omega)]
  exact h5 i hi hw
theorem HOK.V {S T : FS} {j x : Nat} (h : VR j x S T) (k : HOK S) : HOK T := by
  have e := h.2.2.1 3 (by decide) (by decide) (by decide)
  rcases k with k | ⟨n, h1, h2, h3⟩
  · exact Or.inl (e.trans k)
  · exact Or.inr ⟨n, h1, e.trans h2, h3.V h⟩
