/-- one sign of a counter's text, as it is scanned when it is asked: the place and the level behind it -/
def stp (t : Nat → Int32) (z : Nat) (q : Nat × Nat) : Nat × Nat := if z ≤ q.1 ∨ t q.1 = 59 then q else if t q.1 = 33 then (q.1 + 1, q.2) else if t q.1 = 40 then (q.1 + 1, q.2 + 1) else if t q.1 = 41 then (q.1 + 1, q.2 - 1) else if t q.1 = 124 then (q.1 + 1, q.2) else if t q.1 = 38 then (q.1 + 1, q.2) else (q.1 + (if q.1 + 3 < z ∧ 48 ≤ t (q.1 + 3) ∧ t (q.1 + 3) ≤ 57 then 4 else 3), q.2)
def itr (t : Nat → Int32) (z a : Nat) : Nat → Nat × Nat
  | 0 => (a, 0)
  | n + 1 => stp t z (itr t z a n)
def OKs (t : Nat → Int32) (z a : Nat) : Prop := ∀ n, (itr t z a n).2 ≤ 4 ∧ ((itr t z a n).1 < z → t (itr t z a n).1 = 41 → 1 ≤ (itr t z a n).2)
def RPi (t : Nat → Int32) (z a p d : Nat) : Prop := ∃ n, itr t z a n = (p, d) ∧ (∀ m, m ≤ n → (itr t z a m).2 ≤ 4) ∧ ∀ m, m < n → (itr t z a m).1 < z → t (itr t z a m).1 = 41 → 1 ≤ (itr t z a m).2
theorem RPi_0 (t : Nat → Int32) (z a : Nat) : RPi t z a a 0 := ⟨0, rfl, fun m hm => by
  have : m = 0 := by omega
  subst this
  exact Nat.zero_le _, fun m hm => absurd hm (by omega)⟩
theorem RPi_step {t : Nat → Int32} {z a p d p' d' : Nat} (h : RPi t z a p d) (hs : stp t z (p, d) = (p', d')) (hd : d' ≤ 4) (h41 : p < z → t p = 41 → 1 ≤ d) : RPi t z a p' d' := by
  obtain ⟨n, e, h1, h2⟩ := h
  have e2 : itr t z a (n + 1) = (p', d') := by
    show stp t z (itr t z a n) = _
    rw [e, hs]
  refine ⟨n + 1, e2, fun m hm => ?_, fun m hm => ?_⟩
  · by_cases q : m ≤ n
    · exact h1 m q
    · have : m = n + 1 := by omega
      subst this
      rw [e2]
      exact hd
  · by_cases q : m < n
    · exact h2 m q
    · have : m = n := by omega
      subst this
      rw [e]
      exact h41
theorem RPi_le {t : Nat → Int32} {z a p d : Nat} (h : RPi t z a p d) : d ≤ 4 := by
  obtain ⟨n, e, h1, -⟩ := h
  have := h1 n (Nat.le_refl n)
  rw [e] at this
  exact this
theorem itr_stay {t : Nat → Int32} {z a n : Nat} (h : z ≤ (itr t z a n).1 ∨ t (itr t z a n).1 = 59) : ∀ k, itr t z a (n + k) = itr t z a n := by
  intro k
  induction k with
  | zero => rfl
  | succ k ih =>
    show stp t z (itr t z a (n + k)) = _
    rw [ih]
    unfold stp
    rw [if_pos h]
theorem RPi_OKs {t : Nat → Int32} {z a p d : Nat} (h : RPi t z a p d) (he : z ≤ p ∨ t p = 59) : OKs t z a := by
  obtain ⟨n, e, h1, h2⟩ := h
  have hst := itr_stay (t := t) (z := z) (a := a) (n := n) (by rw [e]; exact he)
  intro m
  by_cases q : m < n
  · exact ⟨h1 m (by omega), h2 m q⟩
  · obtain ⟨k, rfl⟩ : ∃ k, m = n + k := ⟨m - n, by omega⟩
    rw [hst k]
    refine ⟨h1 n (Nat.le_refl n), fun a1 a2 => ?_⟩
    rw [e] at a1 a2
    rcases he with he | he
    · exact absurd a1 (by show ¬ p < z; omega)
    · have : t p = 41 := a2
      rw [he] at this
      exact absurd this (by decide)
theorem stp_congr {t t' : Nat → Int32} {z : Nat} (h : ∀ p, p < z → t' p = t p) (q : Nat × Nat) : stp t' z q = stp t z q := by
  unfold stp
  by_cases h1 : z ≤ q.1
  · rw [if_pos (Or.inl h1), if_pos (Or.inl h1)]
  · rw [h q.1 (by omega)]
    by_cases h3 : q.1 + 3 < z
    · rw [h _ h3]
    · have e1 : ¬ (q.1 + 3 < z ∧ 48 ≤ t' (q.1 + 3) ∧ t' (q.1 + 3) ≤ 57) := fun z => h3 z.1
      have e2 : ¬ (q.1 + 3 < z ∧ 48 ≤ t (q.1 + 3) ∧ t (q.1 + 3) ≤ 57) := fun z => h3 z.1
      rw [if_neg e1, if_neg e2]
theorem itr_congr {t t' : Nat → Int32} {z a : Nat} (h : ∀ p, p < z → t' p = t p) : ∀ n, itr t' z a n = itr t z a n := by
  intro n
  induction n with
  | zero => rfl
  | succ n ih =>
    show stp t' z (itr t' z a n) = stp t z (itr t z a n)
    rw [ih, stp_congr h]
theorem OKs_congr {t t' : Nat → Int32} {z a : Nat} (h : ∀ p, p < z → t' p = t p) (k : OKs t z a) : OKs t' z a := by
  intro n
  rw [itr_congr h]
  refine ⟨(k n).1, fun a1 a2 => (k n).2 a1 ?_⟩
  rw [← h _ a1]
  exact a2
/-- the scan when asked: what one turn does -/
theorem stp_33 {t : Nat → Int32} {z p d : Nat} (h : p < z) (e : t p = 33) : stp t z (p, d) = (p + 1, d) := by
  unfold stp
  rw [if_neg (show ¬ (z ≤ p ∨ t p = 59) from fun q => q.elim (fun q => absurd h (Nat.not_lt.mpr q)) (fun q => absurd (e.symm.trans q) (by decide)))]
  rw [if_pos e]
theorem stp_40 {t : Nat → Int32} {z p d : Nat} (h : p < z) (e : t p = 40) : stp t z (p, d) = (p + 1, d + 1) := by
  unfold stp
  rw [if_neg (show ¬ (z ≤ p ∨ t p = 59) from fun q => q.elim (fun q => absurd h (Nat.not_lt.mpr q)) (fun q => absurd (e.symm.trans q) (by decide)))]
  rw [if_neg (by show ¬ t p = 33; rw [e]; decide), if_pos e]
theorem stp_41 {t : Nat → Int32} {z p d : Nat} (h : p < z) (e : t p = 41) : stp t z (p, d) = (p + 1, d - 1) := by
  unfold stp
  rw [if_neg (show ¬ (z ≤ p ∨ t p = 59) from fun q => q.elim (fun q => absurd h (Nat.not_lt.mpr q)) (fun q => absurd (e.symm.trans q) (by decide)))]
  rw [if_neg (by show ¬ t p = 33; rw [e]; decide), if_neg (by show ¬ t p = 40; rw [e]; decide), if_pos e]
theorem stp_124 {t : Nat → Int32} {z p d : Nat} (h : p < z) (e : t p = 124) : stp t z (p, d) = (p + 1, d) := by
  unfold stp
  rw [if_neg (show ¬ (z ≤ p ∨ t p = 59) from fun q => q.elim (fun q => absurd h (Nat.not_lt.mpr q)) (fun q => absurd (e.symm.trans q) (by decide)))]
  rw [if_neg (by show ¬ t p = 33; rw [e]; decide), if_neg (by show ¬ t p = 40; rw [e]; decide), if_neg (by show ¬ t p = 41; rw [e]; decide), if_pos e]
theorem stp_38 {t : Nat → Int32} {z p d : Nat} (h : p < z) (e : t p = 38) : stp t z (p, d) = (p + 1, d) := by
  unfold stp
  rw [if_neg (show ¬ (z ≤ p ∨ t p = 59) from fun q => q.elim (fun q => absurd h (Nat.not_lt.mpr q)) (fun q => absurd (e.symm.trans q) (by decide)))]
  rw [if_neg (by show ¬ t p = 33; rw [e]; decide), if_neg (by show ¬ t p = 40; rw [e]; decide), if_neg (by show ¬ t p = 41; rw [e]; decide), if_neg (by show ¬ t p = 124; rw [e]; decide), if_pos e]
theorem stp_t {t : Nat → Int32} {z p d : Nat} (h : p < z) (e0 : ¬ t p = 59) (e1 : ¬ t p = 33) (e2 : ¬ t p = 40) (e3 : ¬ t p = 41) (e4 : ¬ t p = 124) (e5 : ¬ t p = 38) : stp t z (p, d) = (p + (if p + 3 < z ∧ 48 ≤ t (p + 3) ∧ t (p + 3) ≤ 57 then 4 else 3), d) := by
  unfold stp
  rw [if_neg (show ¬ (z ≤ p ∨ t p = 59) from fun q => q.elim (fun q => absurd h (Nat.not_lt.mpr q)) e0)]
  rw [if_neg e1, if_neg e2, if_neg e3, if_neg e4, if_neg e5]
/-- the sign at a place of THE TEXT, -1 behind its end -/
def hrS (t : Nat → Int32) (z p : Nat) : Int32 := if p < z then t p else -1
theorem hrS_lt {t : Nat → Int32} {z p : Nat} {c : Int32} (h : hrS t z p = c) (hc : ¬ c = -1) : p < z ∧ t p = c := by
  unfold hrS at h
  split at h
  · exact ⟨by assumption, h⟩
  · exact absurd h.symm hc
theorem hrS_dig {t : Nat → Int32} {z p : Nat} (h : 48 ≤ hrS t z p ∧ hrS t z p ≤ 57) : p < z ∧ 48 ≤ t p ∧ t p ≤ 57 := by
  unfold hrS at h
  split at h
  · exact ⟨by assumption, h⟩
  · exact absurd h.1 (by decide)
theorem hrS_dig_n {t : Nat → Int32} {z p : Nat} (h : ¬ (48 ≤ hrS t z p ∧ hrS t z p ≤ 57)) : ¬ (p < z ∧ 48 ≤ t p ∧ t p ≤ 57) := by
  intro q
  apply h
  unfold hrS
  rw [if_pos q.1]
  exact q.2
def isLet (c : Int32) : Prop := c = 99 ∨ c = 107 ∨ c = 116 ∨ c = 111 ∨ c = 110 ∨ c = 100
theorem isLet_ne {c : Int32} (h : isLet c) : ¬ c = -1 ∧ ¬ c = 59 ∧ ¬ c = 33 ∧ ¬ c = 40 ∧ ¬ c = 41 ∧ ¬ c = 124 ∧ ¬ c = 38 := by
  rcases h with rfl | rfl | rfl | rfl | rfl | rfl <;> decide
def sumN (N : Nat → Nat) : Nat → Nat
  | 0 => N 0
  | d + 1 => sumN N d + N (d + 1)
theorem sumN_congr {N M : Nat → Nat} : ∀ {d : Nat}, (∀ j, j ≤ d → M j = N j) → sumN M d = sumN N d := by
  intro d
  induction d with
  | zero => intro h; exact h 0 (Nat.le_refl 0)
  | succ d ih =>
    intro h
    show sumN M d + M (d + 1) = sumN N d + N (d + 1)
    rw [ih (fun j hj => h j (by omega)), h (d + 1) (Nat.le_refl _)]
theorem sumN_ge (N : Nat → Nat) : ∀ d : Nat, N d ≤ sumN N d := by
  intro d
  cases d with
  | zero => exact Nat.le_refl _
  | succ d => exact Nat.le_add_left _ _
theorem sumN_up (N : Nat → Nat) (d x : Nat) : sumN (va_up N d x) d + N d = sumN N d + x := by
  cases d with
  | zero => show (va_up N 0 x 0) + N 0 = N 0 + x; rw [va_up_self]; omega
  | succ d =>
    show sumN (va_up N (d + 1) x) d + va_up N (d + 1) x (d + 1) + N (d + 1) = sumN N d + N (d + 1) + x
    rw [va_up_self, sumN_congr (N := N) (M := va_up N (d + 1) x) (fun j hj => va_up_ne _ _ (by omega))]
    omega
/-- the levels while an expression is read: how deep, how many are open, how many ! on each level -/
def XL (S : FS) (d o : Nat) (N : Nat → Nat) : Prop := fF S 0 28 = nI d ∧ fF S 0 29 = nI o ∧ (∀ j, j ≤ d → fA S 13 j = nI (N j)) ∧ o = d + sumN N d ∧ o ≤ 4
/-- what reading a counter leaves as it was -/
def PFr (S S' : FS) : Prop := fL S' = fL S ∧ fR S' = fR S ∧ (∀ k, k ≠ 25 → k ≠ 26 → k ≠ 28 → k ≠ 29 → fF S' 0 k = fF S 0 k) ∧ ∀ i, i ≠ 13 → fA S' i = fA S i
theorem PFr.rf (S : FS) : PFr S S := ⟨rfl, rfl, fun _ _ _ _ _ => rfl, fun _ _ => rfl⟩
theorem PFr.trans {S T U : FS} (h : PFr S T) (k : PFr T U) : PFr S U := ⟨k.1.trans h.1, k.2.1.trans h.2.1, fun j a b c d => (k.2.2.1 j a b c d).trans (h.2.2.1 j a b c d), fun i a => (k.2.2.2 i a).trans (h.2.2.2 i a)⟩
theorem PFr.setF {S T : FS} (h : PFr S T) {k : Nat} (hk : k = 25 ∨ k = 26 ∨ k = 28 ∨ k = 29) (v : Int32) : PFr S (setF T 0 k v) := ⟨h.1, h.2.1, fun j a b c d => by rw [fF_setF, if_neg (by omega)]; exact h.2.2.1 j a b c d, h.2.2.2⟩
theorem PFr.setA {S T : FS} (h : PFr S T) (f : Nat → Int32) : PFr S (setA T 13 f) := ⟨h.1, h.2.1, h.2.2.1, fun i a => by rw [fA_setA, if_neg a]; exact h.2.2.2 i a⟩
theorem PFr.f17 {S T : FS} (h : PFr S T) {v : Int32} (e : fF S 0 17 = v) : fF T 0 17 = v := (h.2.2.1 17 (by decide) (by decide) (by decide) (by decide)).trans e
theorem PFr.a6 {S T : FS} (h : PFr S T) : fA T 6 = fA S 6 := h.2.2.2 6 (by decide)
theorem lN_ne {v : Nat} (hv : v < 2 ^ 62) (h : ¬ lg_cmp (lN v) 0 = 0) : 0 < v := by
  rcases Nat.eq_zero_or_pos v with q | q
  · subst q
    exact absurd (show lg_cmp (lN 0) 0 = 0 by decide) h
  · exact q
theorem lx_n {c x : Int32} {n : Nat} (h : 0 ≤ c ∧ c ≤ x - 1) (e : x = nI n) (hn : n < 2 ^ 31) : c.toNatClampNeg < n ∧ c = nI c.toNatClampNeg := by
  obtain ⟨j, hj, rfl⟩ := nI_of (x := c) (Int32.not_lt.mpr h.1)
  rw [nI_clamp (by omega)]
  refine ⟨?_, rfl⟩
  have h2 := h.2
  subst e
  cases n with
  | zero =>
    have h3 := Int32.le_iff_toInt_le.mp h2
    rw [nI_toInt hj] at h3
    have : (nI 0 - 1 : Int32).toInt = -1 := by decide
    omega
  | succ n =>
    rw [nI_pred] at h2
    have := (nI_leI hj (by omega)).mp h2
    omega
/-- a reading's next place and whether it has failed -/
def RS (S : FS) (p : Nat) (b : Int32) : Prop := fF S 0 25 = nI p ∧ fF S 0 26 = b
def dgS (t : Nat → Int32) (z p : Nat) : Prop := 48 ≤ hrS t z p ∧ hrS t z p ≤ 57
