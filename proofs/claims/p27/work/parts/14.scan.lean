/-- one sign of a counter's text, as it is scanned when it is asked: the place and the level behind it -/
def stp (t : Nat → Int32) (z : Nat) (q : Nat × Nat) : Nat × Nat := if z ≤ q.1 ∨ t q.1 = 59 then q else if t q.1 = 33 then (q.1 + 1, q.2) else if t q.1 = 40 then (q.1 + 1, q.2 + 1) else if t q.1 = 41 then (q.1 + 1, q.2 - 1) else if t q.1 = 124 then (q.1 + 1, q.2) else if t q.1 = 38 then (q.1 + 1, q.2) else (q.1 + (if q.1 + 3 < z ∧ 48 ≤ t (q.1 + 3) ∧ t (q.1 + 3) ≤ 57 then 4 else 3), q.2)
def itr (t : Nat → Int32) (z a : Nat) : Nat → Nat × Nat
  | 0 => (a, 0)
  | n + 1 => stp t z (itr t z a n)
def OKs (t : Nat → Int32) (z a : Nat) : Prop := ∀ n, (itr t z a n).2 ≤ 4 ∧ ((itr t z a n).1 < z → t (itr t z a n).1 = 41 → 1 ≤ (itr t z a n).2)
def RPi (t : Nat → Int32) (z a p d : Nat) : Prop := ∃ n, itr t z a n = (p, d) ∧ (∀ m, m ≤ n → (itr t z a m).2 ≤ 4) ∧ ∀ m, m < n → (itr t z a m).1 < z → t (itr t z a m).1 = 41 → 1 ≤ (itr t z a m).2
theorem RPi_0 (t : Nat → Int32) (z a : Nat) : RPi t z a a 0 := ⟨0, rfl, fun m hm => by
  have : m = 0 := by omega
  subst this
  exact Nat.zero_le _, fun m hm => absurd hm (by omega)⟩
theorem RPi_step {t : Nat → Int32} {z a p d p' d' : Nat} (h : RPi t z a p d) (hs : stp t z (p, d) = (p', d')) (hd : d' ≤ 4) (h41 : p < z → t p = 41 → 1 ≤ d) : RPi t z a p' d' := by
  obtain ⟨n, e, h1, h2⟩ := h
  have e2 : itr t z a (n + 1) = (p', d') := by
    show stp t z (itr t z a n) = _
    rw [e, hs]
  refine ⟨n + 1, e2, fun m hm => ?_, fun m hm => ?_⟩
  · by_cases q : m ≤ n
    · exact h1 m q
    · have : m = n + 1 := by omega
      subst this
      rw [e2]
      exact hd
  · by_cases q : m < n
    · exact h2 m q
    · have : m = n := by omega
      subst this
      rw [e]
      exact h41
theorem RPi_le {t : Nat → Int32} {z a p d : Nat} (h : RPi t z a p d) : d ≤ 4 := by
  obtain ⟨n, e, h1, -⟩ := h
  have := h1 n (Nat.le_refl n)
  rw [e] at this
  exact this
theorem itr_stay {t : Nat → Int32} {z a n : Nat} (h : z ≤ (itr t z a n).1 ∨ t (itr t z a n).1 = 59) : ∀ k, itr t z a (n + k) = itr t z a n := by
  intro k
  induction k with
  | zero => rfl
  | succ k ih =>
    show stp t z (itr t z a (n + k)) = _
    rw [ih]
    unfold stp
    rw [if_pos h]
theorem RPi_OKs {t : Nat → Int32} {z a p d : Nat} (h : RPi t z a p d) (he : z ≤ p ∨ t p = 59) : OKs t z a := by
  obtain ⟨n, e, h1, h2⟩ := h
  have hst := itr_stay (t := t) (z := z) (a := a) (n := n) (by rw [e]; exact he)
  intro m
  by_cases q : m < n
  · exact ⟨h1 m (by omega), h2 m q⟩
  · obtain ⟨k, rfl⟩ : ∃ k, m = n + k := ⟨m - n, by omega⟩
    rw [hst k]
    refine ⟨h1 n (Nat.le_refl n), fun a1 a2 => ?_⟩
    rw [e] at a1 a2
    rcases he with he | he
    · exact absurd a1 (by show ¬ p < z; omega)
    · have : t p = 41 := a2
      rw [he] at this
      exact absurd this (by decide)
theorem stp_congr {t t' : Nat → Int32} {z : Nat} (h : ∀ p, p < z → t' p = t p) (q : Nat × Nat) : stp t' z q = stp t z q := by
  unfold stp
  by_cases h1 : z ≤ q.1
  · rw [if_pos (Or.inl h1), if_pos (Or.inl h1)]
  · rw [h q.1 (by omega)]
    by_cases h3 : q.1 + 3 < z
    · rw [h _ h3]
    · have e1 : ¬ (q.1 + 3 < z ∧ 48 ≤ t' (q.1 + 3) ∧ t' (q.1 + 3) ≤ 57) := fun z => h3 z.1
      have e2 : ¬ (q.1 + 3 < z ∧ 48 ≤ t (q.1 + 3) ∧ t (q.1 + 3) ≤ 57) := fun z => h3 z.1
      rw [if_neg e1, if_neg e2]
theorem itr_congr {t t' : Nat → Int32} {z a : Nat} (h : ∀ p, p < z → t' p = t p) : ∀ n, itr t' z a n = itr t z a n := by
  intro n
  induction n with
  | zero => rfl
  | succ n ih =>
    show stp t' z (itr t' z a n) = stp t z (itr t z a n)
    rw [ih, stp_congr h]
theorem OKs_congr {t t' : Nat → Int32} {z a : Nat} (h : ∀ p, p < z → t' p = t p) (k : OKs t z a) : OKs t' z a := by
  intro n
  rw [itr_congr h]
  refine ⟨(k n).1, fun a1 a2 => (k n).2 a1 ?_⟩
  rw [← h _ a1]
  exact a2
/-- the scan when asked: what one turn does -/
theorem stp_33 {t : Nat → Int32} {z p d : Nat} (h : p < z) (e : t p = 33) : stp t z (p, d) = (p + 1, d) := by
  unfold stp
  rw [if_neg (show ¬ (z ≤ p ∨ t p = 59) from fun q => q.elim (fun q => absurd h (Nat.not_lt.mpr q)) (fun q => absurd (e.symm.trans q) (by decide)))]
  rw [if_pos e]
theorem stp_40 {t : Nat → Int32} {z p d : Nat} (h : p < z) (e : t p = 40) : stp t z (p, d) = (p + 1, d + 1) := by
  unfold stp
  rw [if_neg (show ¬ (z ≤ p ∨ t p = 59) from fun q => q.elim (fun q => absurd h (Nat.not_lt.mpr q)) (fun q => absurd (e.symm.trans q) (by decide)))]
  rw [if_neg (by show ¬ t p = 33; rw [e]; decide), if_pos e]
theorem stp_41 {t : Nat → Int32} {z p d : Nat} (h : p < z) (e : t p = 41) : stp t z (p, d) = (p + 1, d - 1) := by
  unfold stp
  rw [if_neg (show ¬ (z ≤ p ∨ t p = 59) from fun q => q.elim (fun q => absurd h (Nat.not_lt.mpr q)) (fun q => absurd (e.symm.trans q) (by decide)))]
  rw [if_neg (by show ¬ t p = 33; rw [e]; decide), if_neg (by show ¬ t p = 40; rw [e]; decide), if_pos e]
theorem stp_124 {t : Nat → Int32} {z p d : Nat} (h : p < z) (e : t p = 124) : stp t z (p, d) = (p + 1, d) := by
  unfold stp
  rw [if_neg (show ¬ (z ≤ p ∨ t p = 59) from fun q => q.elim (fun q => absurd h (Nat.not_lt.mpr q)) (fun q => absurd (e.symm.trans q) (by decide)))]
  rw [if_neg (by show ¬ t p = 33; rw [e]; decide), if_neg (by show ¬ t p = 40; rw [e]; decide), if_neg (by show ¬ t p = 41; rw [e]; decide), if_pos e]
theorem stp_38 {t : Nat → Int32} {z p d : Nat} (h : p < z) (e : t p = 38) : stp t z (p, d) = (p + 1, d) := by
  unfold stp
  rw [if_neg (show ¬ (z ≤ p ∨ t p = 59) from fun q => q.elim (fun q => absurd h (Nat.not_lt.mpr q)) (fun q => absurd (e.symm.trans q) (by decide)))]
  rw [if_neg (by show ¬ t p = 33; rw [e]; decide), if_neg (by show ¬ t p = 40; rw [e]; decide), if_neg (by show ¬ t p = 41; rw [e]; decide), if_neg (by show ¬ t p = 124; rw [e]; decide), if_pos e]
theorem stp_t {t : Nat → Int32} {z p d : Nat} (h : p < z) (e0 : ¬ t p = 59) (e1 : ¬ t p = 33) (e2 : ¬ t p = 40) (e3 : ¬ t p = 41) (e4 : ¬ t p = 124) (e5 : ¬ t p = 38) : stp t z (p, d) = (p + (if p + 3 < z ∧ 48 ≤ t (p + 3) ∧ t (p + 3) ≤ 57 then 4 else 3), d) := by
  unfold stp
  rw [if_neg (show ¬ (z ≤ p ∨ t p = 59) from fun q => q.elim (fun q => absurd h (Nat.not_lt.mpr q)) e0)]
  rw [if_neg e1, if_neg e2, if_neg e3, if_neg e4, if_neg e5]
/-- the sign at a place of THE TEXT, -1 behind its end -/
def hrS (t : Nat → Int32) (z p : Nat) : Int32 := if p < z then t p else -1
theorem hrS_dig {t : Nat → Int32} {z p : Nat} (h : 48 ≤ hrS t z p ∧ hrS t z p ≤ 57) : p < z ∧ 48 ≤ t p ∧ t p ≤ 57 := by
  unfold hrS at h
  split at h
  · exact ⟨by assumption, h⟩
  · exact absurd h.1 (by decide)
theorem hrS_dig_n {t : Nat → Int32} {z p : Nat} (h : ¬ (48 ≤ hrS t z p ∧ hrS t z p ≤ 57)) : ¬ (p < z ∧ 48 ≤ t p ∧ t p ≤ 57) := by
  intro q
  apply h
  unfold hrS
  rw [if_pos q.1]
  exact q.2
def isLet (c : Int32) : Prop := c = 99 ∨ c = 107 ∨ c = 116 ∨ c = 111 ∨ c = 110 ∨ c = 100
theorem isLet_ne {c : Int32} (h : isLet c) : ¬ c = -1 ∧ ¬ c = 59 ∧ ¬ c = 33 ∧ ¬ c = 40 ∧ ¬ c = 41 ∧ ¬ c = 124 ∧ ¬ c = 38 := by
  rcases h with rfl | rfl | rfl | rfl | rfl | rfl <;> decide
def sumN (N : Nat → Nat) : Nat → Nat
  | 0 => N 0
  | d + 1 => sumN N d + N (d + 1)
theorem sumN_congr {N M : Nat → Nat} : ∀ {d : Nat}, (∀ j, j ≤ d → M j = N j) → sumN M d = sumN N d := by
  intro d
  induction d with
  | zero => intro h; exact h 0 (Nat.le_refl 0)
  | succ d ih =>
    intro h
    show sumN M d + M (d + 1) = sumN N d + N (d + 1)
    rw [ih (fun j hj => h j (by omega)), h (d + 1) (Nat.le_refl _)]
theorem sumN_ge (N : Nat → Nat) : ∀ d : Nat, N d ≤ sumN N d := by
  intro d
  cases d with
  | zero => exact Nat.le_refl _
  | succ d => exact Nat.le_add_left _ _
theorem sumN_up (N : Nat → Nat) (d x : Nat) : sumN (va_up N d x) d + N d = sumN N d + x := by
  cases d with
  | zero => show (va_up N 0 x 0) + N 0 = N 0 + x; rw [va_up_self]; omega
  | succ d =>
    show sumN (va_up N (d + 1) x) d + va_up N (d + 1) x (d + 1) + N (d + 1) = sumN N d + N (d + 1) + x
    rw [va_up_self, sumN_congr (N := N) (M := va_up N (d + 1) x) (fun j hj => va_up_ne _ _ (by omega))]
    omega
/-- the levels while an expression is read: how deep, how many are open, how many ! on each level -/
def XL (S : FS) (d o : Nat) (N : Nat → Nat) : Prop := fF S 0 28 = nI d ∧ fF S 0 29 = nI o ∧ (∀ j, j ≤ d → fA S 13 j = nI (N j)) ∧ o = d + sumN N d ∧ o ≤ 4
/-- what a sign's reading leaves as it was: all but the place and whether it failed -/
def QFr (S S' : FS) : Prop := fL S' = fL S ∧ fR S' = fR S ∧ (∀ k, k ≠ 25 → k ≠ 26 → fF S' 0 k = fF S 0 k) ∧ ∀ i, fA S' i = fA S i
theorem QFr.rf (S : FS) : QFr S S := ⟨rfl, rfl, fun _ _ _ => rfl, fun _ => rfl⟩
theorem QFr.trans {S T U : FS} (h : QFr S T) (k : QFr T U) : QFr S U := ⟨k.1.trans h.1, k.2.1.trans h.2.1, fun j a b => (k.2.2.1 j a b).trans (h.2.2.1 j a b), fun i => (k.2.2.2 i).trans (h.2.2.2 i)⟩
theorem QFr.setF {S T : FS} (h : QFr S T) {k : Nat} (hk : k = 25 ∨ k = 26) (v : Int32) : QFr S (setF T 0 k v) := ⟨h.1, h.2.1, fun j a b => by rw [fF_setF, if_neg (by omega)]; exact h.2.2.1 j a b, h.2.2.2⟩
theorem QFr.f17 {S T : FS} (h : QFr S T) {v : Int32} (e : fF S 0 17 = v) : fF T 0 17 = v := (h.2.2.1 17 (by decide) (by decide)).trans e
theorem QFr.a6 {S T : FS} (h : QFr S T) : fA T 6 = fA S 6 := h.2.2.2 6
theorem QFr.XL {S T : FS} (h : QFr S T) {d o : Nat} {N : Nat → Nat} (k : XL S d o N) : XL T d o N := ⟨(h.2.2.1 28 (by decide) (by decide)).trans k.1, (h.2.2.1 29 (by decide) (by decide)).trans k.2.1, fun j hj => by rw [h.2.2.2 13]; exact k.2.2.1 j hj, k.2.2.2⟩
/-- what reading a counter leaves as it was -/
def PFr (S S' : FS) : Prop := fL S' = fL S ∧ fR S' = fR S ∧ (∀ k, k ≠ 25 → k ≠ 26 → k ≠ 28 → k ≠ 29 → fF S' 0 k = fF S 0 k) ∧ ∀ i, i ≠ 13 → fA S' i = fA S i
theorem PFr.rf (S : FS) : PFr S S := ⟨rfl, rfl, fun _ _ _ _ _ => rfl, fun _ _ => rfl⟩
theorem PFr.trans {S T U : FS} (h : PFr S T) (k : PFr T U) : PFr S U := ⟨k.1.trans h.1, k.2.1.trans h.2.1, fun j a b c d => (k.2.2.1 j a b c d).trans (h.2.2.1 j a b c d), fun i a => (k.2.2.2 i a).trans (h.2.2.2 i a)⟩
theorem PFr.setF {S T : FS} (h : PFr S T) {k : Nat} (hk : k = 25 ∨ k = 26 ∨ k = 28 ∨ k = 29) (v : Int32) : PFr S (setF T 0 k v) := ⟨h.1, h.2.1, fun j a b c d => by rw [fF_setF, if_neg (by omega)]; exact h.2.2.1 j a b c d, h.2.2.2⟩
theorem PFr.setA {S T : FS} (h : PFr S T) (f : Nat → Int32) : PFr S (setA T 13 f) := ⟨h.1, h.2.1, h.2.2.1, fun i a => by rw [fA_setA, if_neg a]; exact h.2.2.2 i a⟩
theorem PFr.f17 {S T : FS} (h : PFr S T) {v : Int32} (e : fF S 0 17 = v) : fF T 0 17 = v := (h.2.2.1 17 (by decide) (by decide) (by decide) (by decide)).trans e
theorem PFr.a6 {S T : FS} (h : PFr S T) : fA T 6 = fA S 6 := h.2.2.2 6 (by decide)
theorem lN_ne {v : Nat} (hv : v < 2 ^ 62) (h : ¬ lg_cmp (lN v) 0 = 0) : 0 < v := by
  rcases Nat.eq_zero_or_pos v with q | q
  · subst q
    exact absurd (show lg_cmp (lN 0) 0 = 0 by decide) h
  · exact q
def dgS (t : Nat → Int32) (z p : Nat) : Prop := 48 ≤ hrS t z p ∧ hrS t z p ≤ 57
theorem QFr.P {S T : FS} (h : QFr S T) : PFr S T := ⟨h.1, h.2.1, fun k a b _ _ => h.2.2.1 k a b, fun i _ => h.2.2.2 i⟩
theorem XL_le {S : FS} {d o : Nat} {N : Nat → Nat} (h : XL S d o N) : N d ≤ o ∧ d ≤ o ∧ d ≤ 4 ∧ o ≤ 4 := by
  obtain ⟨-, -, -, h1, h2⟩ := h
  have := sumN_ge N d
  omega
theorem XL_end {S : FS} {d o : Nat} {N : Nat → Nat} (h : XL S d o N) : XL (setA (setF S 0 29 (nI (o - N d))) 13 (upd (fA S 13) d 0)) d (o - N d) (va_up N d 0) := by
  have hl := XL_le h
  obtain ⟨h1, h2, h3, h4, h5⟩ := h
  refine ⟨h1, ?_, fun j hj => ?_, ?_, by omega⟩
  · show fF (setF S 0 29 (nI (o - N d))) 0 29 = _
    rw [fF_setF, if_pos ⟨rfl, rfl⟩]
  · rw [fA_setA, if_pos rfl]
    by_cases q : j = d
    · subst q
      rw [pk_us, va_up_self, nI_0]
    · rw [pk_un q, va_up_ne _ _ q]
      exact h3 j hj
  · have := sumN_up N d 0
    omega
theorem XL_open {S : FS} {d o : Nat} {N : Nat → Nat} (h : XL S d o N) (ho : o < 4) (v w : Int32) : XL (setA (setF (setF (setF (setF S 0 26 v) 0 29 (nI (o + 1))) 0 25 w) 0 28 (nI (d + 1))) 13 (upd (fA S 13) (d + 1) 0)) (d + 1) (o + 1) (va_up N (d + 1) 0) := by
  obtain ⟨h1, h2, h3, h4, h5⟩ := h
  refine ⟨?_, ?_, fun j hj => ?_, ?_, by omega⟩
  · rfl
  · rfl
  · rw [fA_setA, if_pos rfl]
    by_cases q : j = d + 1
    · subst q
      rw [pk_us, va_up_self, nI_0]
    · rw [pk_un q, va_up_ne _ _ q]
      exact h3 j (by omega)
  · show o + 1 = d + 1 + (sumN (va_up N (d + 1) 0) d + va_up N (d + 1) 0 (d + 1))
    rw [va_up_self, sumN_congr (N := N) (fun j hj => va_up_ne _ _ (by omega))]
    omega
theorem XL_not {S : FS} {d o : Nat} {N : Nat → Nat} (h : XL S d o N) (ho : o < 4) (v w : Int32) : XL (setA (setF (setF (setF S 0 26 v) 0 29 (nI (o + 1))) 0 25 w) 13 (upd (fA S 13) d (nI (N d + 1)))) d (o + 1) (va_up N d (N d + 1)) := by
  obtain ⟨h1, h2, h3, h4, h5⟩ := h
  refine ⟨h1, rfl, fun j hj => ?_, ?_, by omega⟩
  · rw [fA_setA, if_pos rfl]
    by_cases q : j = d
    · subst q
      rw [pk_us, va_up_self]
    · rw [pk_un q, va_up_ne _ _ q]
      exact h3 j hj
  · have := sumN_up N d (N d + 1)
    omega
theorem XL_0 {S : FS} (v : Int32) : XL (setA (setF (setF S 0 28 0) 0 29 0) 13 (upd (fA S 13) 0 0)) 0 0 (fun _ => 0) := by
  refine ⟨nI_0.symm ▸ rfl, nI_0.symm ▸ rfl, fun j hj => ?_, rfl, by omega⟩
  have : j = 0 := by omega
  subst this
  rw [fA_setA, if_pos rfl, pk_us, nI_0]
/-- behind ): one level up; then the level's ! end -/
theorem XL_close {S : FS} {d o : Nat} {N : Nat → Nat} (h : XL S (d + 1) o N) (hN : N (d + 1) = 0) (w : Int32) : XL (setF (setF (setF S 0 25 w) 0 28 (nI d)) 0 29 (nI (o - 1))) d (o - 1) N := by
  obtain ⟨h1, h2, h3, h4, h5⟩ := h
  refine ⟨rfl, ?_, fun j hj => h3 j (by omega), ?_, by omega⟩
  · rw [fF_setF, if_pos ⟨rfl, rfl⟩]
  · have : sumN N (d + 1) = sumN N d + N (d + 1) := rfl
    omega
/-- behind an expression -/
def EXe (S0 S : FS) (z a : Nat) : Prop := PFr S0 S ∧ ∃ u : Nat, fF S 0 25 = nI u ∧ u ≤ z ∧ (fF S 0 26 = 1 ∨ (fF S 0 26 = 0 ∧ RPi (fA S0 6) z a u 0))
/-- what readOpening says -/
def ROp (u d o : Nat) (N : Nat → Nat) (c : Int32) (S S' : FS) : Prop := (o = 4 ∧ S' = setF S 0 26 1) ∨ (o < 4 ∧ c = 40 ∧ S' = setA (setF (setF (setF (setF S 0 26 0) 0 29 (nI (o + 1))) 0 25 (nI (u + 1))) 0 28 (nI (d + 1))) 13 (upd (fA S 13) (d + 1) 0)) ∨ (o < 4 ∧ ¬ c = 40 ∧ S' = setA (setF (setF (setF S 0 26 0) 0 29 (nI (o + 1))) 0 25 (nI (u + 1))) 13 (upd (fA S 13) d (nI (N d + 1))))
/-- what readTest says -/
def RTe (z u : Nat) (S S' : FS) : Prop := PFr S S' ∧ ((¬ (fF S 0 26 = 0 ∧ isLet (hrS (fA S 6) z u)) ∧ fF S' 0 26 = 1 ∧ fF S' 0 25 = nI u) ∨ ((fF S 0 26 = 0 ∧ isLet (hrS (fA S 6) z u)) ∧ ¬ (60 ≤ hrS (fA S 6) z (u + 1) ∧ hrS (fA S 6) z (u + 1) ≤ 62) ∧ fF S' 0 26 = 1 ∧ fF S' 0 25 = nI (u + 1)) ∨ ((fF S 0 26 = 0 ∧ isLet (hrS (fA S 6) z u)) ∧ (60 ≤ hrS (fA S 6) z (u + 1) ∧ hrS (fA S 6) z (u + 1) ≤ 62) ∧ ¬ dgS (fA S 6) z (u + 2) ∧ fF S' 0 26 = 1 ∧ fF S' 0 25 = nI (u + 2)) ∨ ((fF S 0 26 = 0 ∧ isLet (hrS (fA S 6) z u)) ∧ (60 ≤ hrS (fA S 6) z (u + 1) ∧ hrS (fA S 6) z (u + 1) ≤ 62) ∧ dgS (fA S 6) z (u + 2) ∧ fF S' 0 26 = 0 ∧ ((dgS (fA S 6) z (u + 3) ∧ fF S' 0 25 = nI (u + 4)) ∨ (¬ dgS (fA S 6) z (u + 3) ∧ fF S' 0 25 = nI (u + 3)))))
theorem hr_lt {t : Nat → Int32} {z u : Nat} (h : ¬ hrS t z u = -1) : u < z := by
  unfold hrS at h
  split at h
  · assumption
  · exact absurd rfl h
def TKP (z u : Nat) (c : Int32) (S S' : FS) : Prop := QFr S S' ∧ ((fF S 0 26 = 0 ∧ hrS (fA S 6) z u = c ∧ fF S' 0 25 = nI (u + 1) ∧ fF S' 0 26 = 0) ∨ (¬ (fF S 0 26 = 0 ∧ hrS (fA S 6) z u = c) ∧ fF S' 0 25 = nI u ∧ fF S' 0 26 = 1))
def RDP (z u : Nat) (S : FS) (r : Int32) (S' : FS) : Prop := QFr S S' ∧ ((fF S 0 26 = 0 ∧ dgS (fA S 6) z u ∧ fF S' 0 25 = nI (u + 1) ∧ fF S' 0 26 = 0 ∧ r = fA S 6 u - 48) ∨ (¬ (fF S 0 26 = 0 ∧ dgS (fA S 6) z u) ∧ fF S' 0 25 = nI u ∧ fF S' 0 26 = 1 ∧ r = 0))
theorem RD_ok {z u : Nat} {S S' : FS} {r : Int32} (h : RDP z u S r S') (hb : fF S' 0 26 = 0) : fF S 0 26 = 0 ∧ dgS (fA S 6) z u ∧ fF S' 0 25 = nI (u + 1) ∧ r = fA S 6 u - 48 := by
  rcases h.2 with ⟨a, b, c, d, e⟩ | ⟨a, b, c, d⟩
  · exact ⟨a, b, c, e⟩
  · rw [c] at hb
    exact absurd hb (by decide)
theorem RD_bad {z u : Nat} {S S' : FS} {r : Int32} (h : RDP z u S r S') (hb : ¬ fF S' 0 26 = 0) : ¬ (fF S 0 26 = 0 ∧ dgS (fA S 6) z u) ∧ fF S' 0 25 = nI u ∧ fF S' 0 26 = 1 ∧ r = 0 := by
  rcases h.2 with ⟨a, b, c, d, e⟩ | h
  · exact absurd d hb
  · exact h
theorem RD_yes {z u : Nat} {S S' : FS} {r : Int32} (h : RDP z u S r S') (hb : fF S 0 26 = 0) (hd : dgS (fA S 6) z u) : fF S' 0 25 = nI (u + 1) ∧ fF S' 0 26 = 0 ∧ r = fA S 6 u - 48 := by
  rcases h.2 with ⟨a, b, c, d, e⟩ | ⟨a, -⟩
  · exact ⟨c, d, e⟩
  · exact absurd ⟨hb, hd⟩ a
def RNP (z u : Nat) (S : FS) (r : Int32) (S' : FS) : Prop := QFr S S' ∧ ((¬ (fF S 0 26 = 0 ∧ dgS (fA S 6) z u) ∧ fF S' 0 26 = 1 ∧ fF S' 0 25 = nI u ∧ r = 0) ∨ ((fF S 0 26 = 0 ∧ dgS (fA S 6) z u) ∧ ¬ dgS (fA S 6) z (u + 1) ∧ fF S' 0 26 = 0 ∧ fF S' 0 25 = nI (u + 1) ∧ r = fA S 6 u - 48) ∨ ((fF S 0 26 = 0 ∧ dgS (fA S 6) z u) ∧ dgS (fA S 6) z (u + 1) ∧ fF S' 0 26 = 0 ∧ fF S' 0 25 = nI (u + 2) ∧ r = 10 * (fA S 6 u - 48) + (fA S 6 (u + 1) - 48)))
/-- behind some signs: where it stands, and whether it failed -/
def TA (S0 S : FS) (z : Nat) : Prop := QFr S0 S ∧ ∃ u : Nat, u ≤ z ∧ fF S 0 25 = nI u ∧ (fF S 0 26 = 1 ∨ (fF S 0 26 = 0 ∧ fF S0 0 26 = 0))
theorem TA.trans {S T U : FS} {z : Nat} (h : TA S T z) (k : TA T U z) : TA S U z := by
  obtain ⟨h1, u, hu, hp, hb⟩ := h
  obtain ⟨k1, v, kv, kp, kb⟩ := k
  refine ⟨h1.trans k1, v, kv, kp, ?_⟩
  rcases kb with kb | ⟨kb, kc⟩
  · exact Or.inl kb
  · rcases hb with hb | ⟨-, hb⟩
    · rw [hb] at kc
      exact absurd kc (by decide)
    · exact Or.inr ⟨kb, hb⟩
theorem TA_take {z u : Nat} {c : Int32} {S S' : FS} (h : TKP z u c S S') (hu : u ≤ z) (hc : ¬ c = -1) : TA S S' z := by
  obtain ⟨hq, h⟩ := h
  refine ⟨hq, ?_⟩
  rcases h with ⟨a, b, d, e⟩ | ⟨-, b, d⟩
  · exact ⟨u + 1, hr_lt (by rw [b]; exact hc), d, Or.inr ⟨e, a⟩⟩
  · exact ⟨u, hu, b, Or.inl d⟩
theorem TA_num {z u : Nat} {r : Int32} {S S' : FS} (h : RNP z u S r S') (hu : u ≤ z) : TA S S' z := by
  obtain ⟨hq, h⟩ := h
  refine ⟨hq, ?_⟩
  rcases h with ⟨-, a, b, -⟩ | ⟨a, -, b, d, -⟩ | ⟨a, a2, b, d, -⟩
  · exact ⟨u, hu, b, Or.inl a⟩
  · exact ⟨u + 1, (hrS_dig a.2).1, d, Or.inr ⟨b, a.1⟩⟩
  · exact ⟨u + 2, (hrS_dig a2).1, d, Or.inr ⟨b, a.1⟩⟩
theorem isL_t {r c : Int32} (h : (r = 1 ∧ isLet c) ∨ (r = 0 ∧ ¬ isLet c)) (q : ¬ r = 0) : isLet c := h.elim (fun h => h.2) (fun h => absurd h.1 q)
theorem isL_f {r c : Int32} (h : (r = 1 ∧ isLet c) ∨ (r = 0 ∧ ¬ isLet c)) (q : r = 0) : ¬ isLet c := h.elim (fun h => absurd (h.1.symm.trans q) (by decide)) (fun h => h.2)
theorem RTe_of {z u x d o : Nat} {N : Nat → Nat} {S S2 S3 S' : FS} {r : Int32} (hX : XL S d o N) (h2 : PFr S S2) (h25 : fF S2 0 25 = nI x) (hX2 : XL S2 d o N) (hN : RNP z x S2 r S3) (e : S' = setA (setF S3 0 29 (nI (o - N d))) 13 (upd (fA S3 13) d 0))
    (hc : (fF S2 0 26 = 1 ∧ ((¬ (fF S 0 26 = 0 ∧ isLet (hrS (fA S 6) z u)) ∧ x = u) ∨ ((fF S 0 26 = 0 ∧ isLet (hrS (fA S 6) z u)) ∧ ¬ (60 ≤ hrS (fA S 6) z (u + 1) ∧ hrS (fA S 6) z (u + 1) ≤ 62) ∧ x = u + 1))) ∨ (fF S2 0 26 = 0 ∧ (fF S 0 26 = 0 ∧ isLet (hrS (fA S 6) z u)) ∧ (60 ≤ hrS (fA S 6) z (u + 1) ∧ hrS (fA S 6) z (u + 1) ≤ 62) ∧ x = u + 2)) : RTe z u S S' ∧ XL S' d (o - N d) (va_up N d 0) := by
  obtain ⟨hq, hN⟩ := hN
  have a6 : fA S2 6 = fA S 6 := h2.a6
  rw [a6] at hN
  have e25 : fF S' 0 25 = fF S3 0 25 := by rw [e]; rfl
  have e26 : fF S' 0 26 = fF S3 0 26 := by rw [e]; rfl
  refine ⟨⟨by rw [e]; exact ((h2.trans hq.P).setF (by decide) _).setA _, ?_⟩, by rw [e]; exact XL_end (hq.XL hX2)⟩
  rw [e25, e26]
  rcases hc with ⟨hb, hc⟩ | ⟨hb, hL, hC, rfl⟩
  · have hbad : fF S3 0 26 = 1 ∧ fF S3 0 25 = nI x := by
      rcases hN with ⟨-, h1, h3, -⟩ | ⟨h1, -⟩ | ⟨h1, -⟩
      · exact ⟨h1, h3⟩
      · exact absurd (hb.symm.trans h1.1) (by decide)
      · exact absurd (hb.symm.trans h1.1) (by decide)
    rcases hc with ⟨h1, rfl⟩ | ⟨h1, h3, rfl⟩
    · exact Or.inl ⟨h1, hbad⟩
    · exact Or.inr (Or.inl ⟨h1, h3, hbad⟩)
  · rcases hN with ⟨h1, h3, h4, -⟩ | ⟨h1, h3, h4, h5, -⟩ | ⟨h1, h3, h4, h5, -⟩
    · exact Or.inr (Or.inr (Or.inl ⟨hL, hC, fun q => h1 ⟨hb, q⟩, h3, h4⟩))
    · exact Or.inr (Or.inr (Or.inr ⟨hL, hC, h1.2, h4, Or.inr ⟨h3, h5⟩⟩))
    · exact Or.inr (Or.inr (Or.inr ⟨hL, hC, h1.2, h4, Or.inl ⟨h3, h5⟩⟩))
theorem XL_25 {S : FS} {d o : Nat} {N : Nat → Nat} (h : XL S d o N) (k : Nat) (hk : k = 25 ∨ k = 26) (v : Int32) : XL (setF S 0 k v) d o N := ⟨by rw [fF_setF, if_neg (by omega)]; exact h.1, by rw [fF_setF, if_neg (by omega)]; exact h.2.1, h.2.2⟩
theorem XL_close2 {S : FS} {d o : Nat} {N : Nat → Nat} {w : Int32} (h : XL S d o N) (hN : N d = 0) (hd : 0 < d) : XL (setF (setF (setF S 0 25 w) 0 28 (nI (d - 1))) 0 29 (nI (o - 1))) (d - 1) (o - 1) N := by
  obtain ⟨k, rfl⟩ : ∃ k, d = k + 1 := ⟨d - 1, by omega⟩
  exact XL_close h hN w
/-- a clause's reading: what it leaves -/
def CF (k0 k1 : Nat) (S S' : FS) : Prop := fL S' = fL S ∧ fR S' = fR S ∧ (∀ k, k ≠ 25 → k ≠ 26 → k ≠ 28 → k ≠ 29 → fF S' 0 k = fF S 0 k) ∧ (∀ i, i ≠ 9 → i ≠ 10 → i ≠ 11 → i ≠ 13 → fA S' i = fA S i) ∧ ∀ i j, (i = 9 ∨ i = 10 ∨ i = 11) → (j < k0 ∨ k1 ≤ j) → fA S' i j = fA S i j
theorem CF.rf (a b : Nat) (S : FS) : CF a b S S := ⟨rfl, rfl, fun _ _ _ _ _ => rfl, fun _ _ _ _ _ => rfl, fun _ _ _ _ => rfl⟩
theorem CF.trans {a b : Nat} {S T U : FS} (h : CF a b S T) (k : CF a b T U) : CF a b S U := ⟨k.1.trans h.1, k.2.1.trans h.2.1, fun j a b c d => (k.2.2.1 j a b c d).trans (h.2.2.1 j a b c d), fun i a b c d => (k.2.2.2.1 i a b c d).trans (h.2.2.2.1 i a b c d), fun i j a b => (k.2.2.2.2 i j a b).trans (h.2.2.2.2 i j a b)⟩
theorem CF.mono {a b c d : Nat} {S T : FS} (h : CF a b S T) (h1 : c ≤ a) (h2 : b ≤ d) : CF c d S T := ⟨h.1, h.2.1, h.2.2.1, h.2.2.2.1, fun i j e f => h.2.2.2.2 i j e (by omega)⟩
theorem PFr.C {S T : FS} (h : PFr S T) (a b : Nat) : CF a b S T := ⟨h.1, h.2.1, h.2.2.1, fun i _ _ _ q => h.2.2.2 i q, fun i j q _ => by rw [h.2.2.2 i (by omega)]⟩
theorem CF.setA {a b k i : Nat} {S T : FS} (h : CF a b S T) (hi : i = 9 ∨ i = 10 ∨ i = 11) (hk : a ≤ k ∧ k < b) (v : Int32) : CF a b S (setA T i (upd (fA T i) k v)) := ⟨h.1, h.2.1, h.2.2.1, fun j q1 q2 q3 q4 => by rw [fA_setA, if_neg (by omega)]; exact h.2.2.2.1 j q1 q2 q3 q4, fun x j hx hj => by
  by_cases e : x = i
  · subst e
    rw [fA_setA, if_pos rfl, pk_un (by omega)]
    exact h.2.2.2.2 x j hx hj
  · rw [fA_setA, if_neg e]
    exact h.2.2.2.2 x j hx hj⟩
theorem CF.f17 {a b : Nat} {S T : FS} (h : CF a b S T) {v : Int32} (e : fF S 0 17 = v) : fF T 0 17 = v := (h.2.2.1 17 (by decide) (by decide) (by decide) (by decide)).trans e
theorem CF.f20 {a b : Nat} {S T : FS} (h : CF a b S T) {v : Int32} (e : fF S 0 20 = v) : fF T 0 20 = v := (h.2.2.1 20 (by decide) (by decide) (by decide) (by decide)).trans e
theorem CF.a6 {a b : Nat} {S T : FS} (h : CF a b S T) : fA T 6 = fA S 6 := h.2.2.2.1 6 (by decide) (by decide) (by decide) (by decide)
/-- what readClause says -/
def RCl (z k : Nat) (S S' : FS) : Prop := CF k (k + 1) S S' ∧ ∃ u : Nat, u ≤ z ∧ fF S' 0 25 = nI u ∧ (fF S' 0 26 = 1 ∨ (fF S' 0 26 = 0 ∧ fF S 0 26 = 0 ∧ (fA S' 9 k < 2 → ∃ a : Nat, a ≤ z ∧ fA S' 11 k = nI a ∧ RPi (fA S 6) z a u 0)))
theorem RCl_of {z k : Nat} {S S' : FS} (h : CF k (k + 1) S S') {u : Nat} (hu : u ≤ z) (hp : fF S' 0 25 = nI u) (hb : fF S' 0 26 = 1 ∨ (fF S' 0 26 = 0 ∧ fF S 0 26 = 0 ∧ ¬ fA S' 9 k < 2)) : RCl z k S S' := ⟨h, u, hu, hp, hb.elim Or.inl (fun q => Or.inr ⟨q.1, q.2.1, fun w => absurd w q.2.2⟩)⟩
theorem bad1 {S0 S : FS} {z u : Nat} {P : Prop} (h : fF S 0 26 = 1 ∨ (fF S 0 26 = 0 ∧ P)) (q : ¬ fF S 0 26 = 0) : fF S 0 26 = 1 := h.elim id (fun w => absurd w.1 q)
theorem bad0 {S : FS} {P : Prop} (h : fF S 0 26 = 1 ∨ (fF S 0 26 = 0 ∧ P)) (q : fF S 0 26 = 0) : P := h.elim (fun w => absurd (w.symm.trans q) (by decide)) (fun w => w.2)
theorem RCl_exp {z k v : Nat} {S C S' : FS} (hC : CF k (k + 1) S C) (hv : v ≤ z) (h11 : fA C 11 k = nI v) (h0 : fF S 0 26 = 0) (hE : EXe C S' z v) : RCl z k S S' := by
  obtain ⟨hf, u, h1, h2, h3⟩ := hE
  refine ⟨hC.trans (hf.C k (k + 1)), u, h2, h1, ?_⟩
  rcases h3 with h3 | ⟨h3, h4⟩
  · exact Or.inl h3
  · refine Or.inr ⟨h3, h0, fun _ => ⟨v, hv, ?_, ?_⟩⟩
    · rw [hf.2.2.2 11 (by decide)]
      exact h11
    · rw [← hC.a6]
      exact h4
theorem ge2 {x y : Int32} (e : x = y) (h : 2 ≤ y) : ¬ x < 2 := by rw [e]; exact Int32.not_lt.mpr h
/-- the clauses of counter h that are read so far -/
def CLs (S : FS) (t : Nat → Int32) (z h n : Nat) : Prop := ∀ i, i < n → fA S 9 (10 * h + i) < 2 → ∃ a : Nat, a ≤ z ∧ fA S 11 (10 * h + i) = nI a ∧ OKs t z a
/-- a counter that has been read: its text's length, its clauses, where they begin -/
def CTh (S : FS) (h : Nat) : Prop := ∃ z k : Nat, z ≤ 100 ∧ k ≤ 10 ∧ fA S 8 h = nI z ∧ fA S 12 h = nI k ∧ CLs S (fun p => fA S 7 (100 * h + p)) z h k
/-- while a counter is read -/
def KI (S0 S : FS) (z h n : Nat) (en : Int32) (fu : Nat) : Prop := CF (10 * h) (10 * h + n) S0 S ∧ n ≤ 10 ∧ (en = 0 ∨ en = 1) ∧ 0 < fu ∧ ∃ u : Nat, u ≤ z ∧ fF S 0 25 = nI u ∧ (fF S 0 26 = 1 ∨ (fF S 0 26 = 0 ∧ CLs S (fA S0 6) z h n ∧ (en = 0 → n < 10 ∧ 11 < n + fu)))
theorem KI_step {S0 S S1 : FS} {z h n fu : Nat} {en : Int32} (hK : KI S0 S z h n en (fu + 1)) (hR : RCl z (10 * h + n) S S1) (hn : n < 10) : CF (10 * h) (10 * h + (n + 1)) S0 S1 ∧ ∃ u : Nat, u ≤ z ∧ fF S1 0 25 = nI u ∧ (fF S1 0 26 = 1 ∨ (fF S1 0 26 = 0 ∧ ((z ≤ u ∨ fA S0 6 u = 59) → CLs S1 (fA S0 6) z h (n + 1)))) := by
  obtain ⟨hC, -, -, -, v, hv, hp, hb⟩ := hK
  obtain ⟨hc, u, hu, hq, h2⟩ := hR
  refine ⟨(hC.mono (Nat.le_refl _) (by omega)).trans (hc.mono (by omega) (by omega)), u, hu, hq, ?_⟩
  rcases h2 with h2 | ⟨h2, h3, h4⟩
  · exact Or.inl h2
  · refine Or.inr ⟨h2, fun hz i hi hw => ?_⟩
    rcases hb with hb | ⟨-, hb, -⟩
    · exact absurd (hb.symm.trans h3) (by decide)
    · by_cases q : i = n
      · subst q
        obtain ⟨a, h5, h6, h7⟩ := h4 hw
        rw [hC.a6] at h7
        exact ⟨a, h5, h6, RPi_OKs h7 hz⟩
      · have e9 := hc.2.2.2.2 9 (10 * h + i) (Or.inl rfl) (Or.inl (by omega))
        have e11 := hc.2.2.2.2 11 (10 * h + i) (Or.inr (Or.inr rfl)) (Or.inl (by omega))
        rw [e9] at hw
        rw [e11]
        exact hb i (by omega) hw
theorem CLs_take {S T : FS} {t : Nat → Int32} {z h n : Nat} (hq : QFr S T) (k : CLs S t z h n) : CLs T t z h n := by
  intro i hi hw
  rw [hq.2.2.2 9] at hw
  rw [hq.2.2.2 11]
  exact k i hi hw
/-- a counter's reading from the whole: what it leaves, what it adds -/
def CNT (nc : Nat) (S S' : FS) : Prop := fL S' = fL S ∧ fR S' = fR S ∧ (∀ k, k ≠ 3 → k ≠ 8 → k ≠ 17 → k ≠ 20 → k ≠ 25 → k ≠ 26 → k ≠ 28 → k ≠ 29 → fF S' 0 k = fF S 0 k) ∧ (∀ i, i ≠ 7 → i ≠ 8 → i ≠ 9 → i ≠ 10 → i ≠ 11 → i ≠ 12 → i ≠ 13 → fA S' i = fA S i) ∧ (∀ h, h < nc → CTh S h → CTh S' h) ∧ ((fF S' 0 20 = nI nc ∧ fF S' 0 3 = fF S 0 3) ∨ (nc < 6 ∧ fF S' 0 20 = nI (nc + 1) ∧ fF S' 0 3 = nI nc ∧ CTh S' nc)) ∧ (fF S' 0 17 = 0 ∨ fF S' 0 17 = fF S 0 17)
theorem CTh_CF {S T : FS} {h nc m : Nat} (hh : h < nc) (hc : CF (10 * nc) (10 * nc + m) S T) (k : CTh S h) : CTh T h := by
  obtain ⟨z, c, h1, h2, h3, h4, h5⟩ := k
  have e7 : fA T 7 = fA S 7 := hc.2.2.2.1 7 (by decide) (by decide) (by decide) (by decide)
  refine ⟨z, c, h1, h2, by rw [hc.2.2.2.1 8 (by decide) (by decide) (by decide) (by decide)]; exact h3, by rw [hc.2.2.2.1 12 (by decide) (by decide) (by decide) (by decide)]; exact h4, fun i hi hw => ?_⟩
  rw [e7]
  have e9 := hc.2.2.2.2 9 (10 * h + i) (Or.inl rfl) (Or.inl (by omega))
  have e11 := hc.2.2.2.2 11 (10 * h + i) (Or.inr (Or.inr rfl)) (Or.inl (by omega))
  rw [e9] at hw
  rw [e11]
  exact h5 i hi hw
/-- n signs of row 6 put behind place b of row 7 -/
def cpt (f g : Nat → Int32) (b k : Nat) : Nat → Int32 := fun x => if b ≤ x ∧ x < b + k then g (x - b) else f x
theorem cpt_0 (S : FS) (g : Nat → Int32) (b : Nat) : S = setA S 7 (cpt (fA S 7) g b 0) := by
  have h : cpt (fA S 7) g b 0 = fA S 7 := funext fun i => by unfold cpt; rw [if_neg (by omega)]
  rw [h]
  unfold setA
  refine congrArg (fun z => (S.1, z, S.2.2)) (funext fun j => ?_)
  by_cases h : j = 7
  · subst h; simp [va_up]
  · simp [va_up, h]
theorem cpt_step (T : FS) (f g : Nat → Int32) (b k : Nat) : setA (setA T 7 (cpt f g b k)) 7 (upd (fA (setA T 7 (cpt f g b k)) 7) (b + k) (g k)) = setA T 7 (cpt f g b (k + 1)) := by
  rw [setA_setA]
  refine congrArg (setA T 7) (funext fun i => ?_)
  rw [fA_setA, if_pos rfl]
  by_cases h : i = b + k
  · subst h
    rw [pk_us]
    unfold cpt
    rw [if_pos (by omega), Nat.add_sub_cancel_left]
  · rw [pk_un h]
    unfold cpt
    by_cases h2 : b ≤ i ∧ i < b + k
    · rw [if_pos h2, if_pos (by omega)]
    · rw [if_neg h2, if_neg (by omega)]
theorem KI_bad {T S1 : FS} {z h n fu : Nat} (hC : CF (10 * h) (10 * h + (n + 1)) T S1) (hn : n < 10) (hf : 0 < fu) {u : Nat} (hu : u ≤ z) (hq : fF S1 0 25 = nI u) : KI T (setF S1 0 26 1) z h (n + 1) 0 fu := ⟨hC.trans (((PFr.rf S1).setF (by decide) _).C _ _), by omega, Or.inl rfl, hf, u, hu, hq, Or.inl rfl⟩
theorem KI_end {T S1 : FS} {z h n fu : Nat} (hC : CF (10 * h) (10 * h + (n + 1)) T S1) (hn : n < 10) (hf : 0 < fu) {u : Nat} (hu : u ≤ z) (hq : fF S1 0 25 = nI u) (hb : fF S1 0 26 = 0) (h2 : fF S1 0 26 = 1 ∨ (fF S1 0 26 = 0 ∧ ((z ≤ u ∨ fA T 6 u = 59) → CLs S1 (fA T 6) z h (n + 1)))) (hz : u = z) : KI T S1 z h (n + 1) 1 fu :=
  ⟨hC, by omega, Or.inr rfl, hf, u, hu, hq, Or.inr ⟨hb, bad0 h2 hb (Or.inl (by omega)), fun q => absurd q (by decide)⟩⟩
theorem KI_take {T S1 S2 : FS} {z h n fu : Nat} (hC : CF (10 * h) (10 * h + (n + 1)) T S1) (hn : n + 1 ≠ 10) (hn9 : n < 10) (hf : 11 < n + (fu + 1)) {u : Nat} (hu : u ≤ z) (h2 : fF S1 0 26 = 1 ∨ (fF S1 0 26 = 0 ∧ ((z ≤ u ∨ fA T 6 u = 59) → CLs S1 (fA T 6) z h (n + 1)))) (hT : TKP z u 59 S1 S2) : KI T S2 z h (n + 1) 0 fu := by
  obtain ⟨hq, hT⟩ := hT
  refine ⟨hC.trans (hq.P.C _ _), by omega, Or.inl rfl, by omega, ?_⟩
  rcases hT with ⟨a, b, c, d⟩ | ⟨-, b, c⟩
  · rw [hC.a6] at b
    have hlt := hr_lt (by rw [b]; decide : ¬ hrS (fA T 6) z u = -1)
    have ht : fA T 6 u = 59 := by rw [← b]; unfold hrS; rw [if_pos hlt]
    exact ⟨u + 1, hlt, c, Or.inr ⟨d, CLs_take hq (bad0 h2 a (Or.inr ht)), fun _ => ⟨by omega, by omega⟩⟩⟩
  · exact ⟨u, hu, b, Or.inl c⟩
theorem CNT_bad {nc m : Nat} {S T S1 : FS} (hT : T = setF S 0 8 0) (hC : CF (10 * nc) (10 * nc + m) T S1) (hn : fF S 0 20 = nI nc) : CNT nc S (setF S1 0 17 0) := by
  subst hT
  refine ⟨hC.1, hC.2.1, fun k h3 h8 h17 h20 h25 h26 h28 h29 => ?_, fun i h7 h8 h9 h10 h11 h12 h13 => hC.2.2.2.1 i h9 h10 h11 h13, fun h hh k => ?_, Or.inl ⟨?_, ?_⟩, Or.inl rfl⟩
  · rw [fF_setF, if_neg (by omega), hC.2.2.1 k h25 h26 h28 h29, fF_setF, if_neg (by omega)]
  · exact (CTh_CF hh hC (show CTh (setF S 0 8 0) h from k) : CTh S1 h)
  · exact hC.f20 (v := nI nc) hn
  · exact hC.2.2.1 3 (by decide) (by decide) (by decide) (by decide)
theorem CNT_ok {nc n z : Nat} {S T S1 SM S' : FS} (hT : T = setF S 0 8 0) (hC : CF (10 * nc) (10 * nc + n) T S1) (hnc : nc < 6) (hn : n ≤ 10) (hz : fF T 0 17 = nI z) (hz1 : z ≤ 100) (hCL : CLs S1 (fA T 6) z nc n) (hM : SM = setA (setF S1 0 17 0) 7 (cpt (fA S1 7) (fA S 6) (100 * nc) z))
    (e : S' = setF (setF (setA (setA SM 8 (upd (fA SM 8) nc (fF S1 0 17))) 12 (upd (fA SM 12) nc (nI n))) 0 3 (nI nc)) 0 20 (nI (nc + 1))) : CNT nc S S' := by
  subst hT
  have a7 : fA S' 7 = cpt (fA S1 7) (fA S 6) (100 * nc) z := by rw [e, hM]; rfl
  have a8 : fA S' 8 = upd (fA S1 8) nc (fF S1 0 17) := by rw [e, hM]; rfl
  have a12 : fA S' 12 = upd (fA S1 12) nc (nI n) := by rw [e, hM]; rfl
  have aO : ∀ i, i ≠ 7 → i ≠ 8 → i ≠ 12 → fA S' i = fA S1 i := fun i q7 q8 q12 => by
    rw [e, hM, fA_setF, fA_setF, fA_setA, if_neg q12, fA_setA, if_neg q8, fA_setA, if_neg q7]
    rfl
  have s7 : fA S1 7 = fA S 7 := hC.2.2.2.1 7 (by decide) (by decide) (by decide) (by decide)
  have s8 : fA S1 8 = fA S 8 := hC.2.2.2.1 8 (by decide) (by decide) (by decide) (by decide)
  have s12 : fA S1 12 = fA S 12 := hC.2.2.2.1 12 (by decide) (by decide) (by decide) (by decide)
  refine ⟨by rw [e, hM]; exact hC.1, by rw [e, hM]; exact hC.2.1, fun k h3 h8 h17 h20 h25 h26 h28 h29 => ?_, fun i h7 h8 h9 h10 h11 h12 h13 => ?_, fun h hh k => ?_, Or.inr ⟨hnc, by rw [e]; rfl, by rw [e]; rfl, ?_⟩, Or.inl (by rw [e, hM]; rfl)⟩
  · rw [e, hM, fF_setF, if_neg (by omega), fF_setF, if_neg (by omega)]
    show fF (setF S1 0 17 0) 0 k = _
    rw [fF_setF, if_neg (by omega), hC.2.2.1 k h25 h26 h28 h29, fF_setF, if_neg (by omega)]
  · rw [aO i h7 h8 h12]
    exact hC.2.2.2.1 i h9 h10 h11 h13
  · obtain ⟨y, c, g1, g2, g3, g4, g5⟩ := k
    refine ⟨y, c, g1, g2, by rw [a8, pk_un (by omega), s8]; exact g3, by rw [a12, pk_un (by omega), s12]; exact g4, fun i hi hw => ?_⟩
    have e9 := hC.2.2.2.2 9 (10 * h + i) (Or.inl rfl) (Or.inl (by omega))
    have e11 := hC.2.2.2.2 11 (10 * h + i) (Or.inr (Or.inr rfl)) (Or.inl (by omega))
    rw [aO 9 (by decide) (by decide) (by decide), e9] at hw
    rw [aO 11 (by decide) (by decide) (by decide), e11]
    obtain ⟨a, q1, q2, q3⟩ := g5 i hi hw
    refine ⟨a, q1, q2, OKs_congr (fun p hp => ?_) q3⟩
    show fA S' 7 (100 * h + p) = _
    rw [a7]
    unfold cpt
    rw [if_neg (by omega), s7]
  · refine ⟨z, n, hz1, hn, by rw [a8, pk_us]; exact hC.f17 hz, by rw [a12, pk_us], fun i hi hw => ?_⟩
    rw [aO 9 (by decide) (by decide) (by decide)] at hw
    rw [aO 11 (by decide) (by decide) (by decide)]
    obtain ⟨a, q1, q2, q3⟩ := hCL i hi hw
    refine ⟨a, q1, q2, OKs_congr (fun p hp => ?_) q3⟩
    show fA S' 7 (100 * nc + p) = _
    rw [a7]
    unfold cpt
    rw [if_pos (by omega), Nat.add_sub_cancel_left]
    rfl
theorem CNT_full {nc : Nat} {S : FS} (hn : fF S 0 20 = nI nc) : CNT nc S (setF S 0 8 0) := ⟨rfl, rfl, fun k _ h8 _ _ _ _ _ _ => by rw [fF_setF, if_neg (by omega)], fun _ _ _ _ _ _ _ _ => rfl, fun _ _ k => k, Or.inl ⟨hn, rfl⟩, Or.inr rfl⟩
