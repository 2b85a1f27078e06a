theorem n_add {x y : Int32} {a b : Nat} (h : x = nI a) (k : y = nI b) : x + y = nI (a + b) := by rw [h, k, nI_add]
theorem n_mul {x y : Int32} {a b : Nat} (h : x = nI a) (k : y = nI b) : x * y = nI (a * b) := by rw [h, k, pk_mul]
theorem isC_t {c x : Int32} {n : Nat} (h : 0 ≤ c ∧ c ≤ x - 1) (e : x = nI n) (hn : n ≤ 6) : ∃ j, j < n ∧ c = nI j := by
  obtain ⟨j, hj, rfl⟩ := nI_of (x := c) (Int32.not_lt.mpr h.1)
  refine ⟨j, ?_, rfl⟩
  have h2 := h.2
  subst e
  cases n with
  | zero =>
    have h3 := Int32.le_iff_toInt_le.mp h2
    rw [nI_toInt hj] at h3
    have : (nI 0 - 1 : Int32).toInt = -1 := by decide
    omega
  | succ n =>
    rw [nI_pred] at h2
    have := (nI_leI hj (by omega)).mp h2
    omega
theorem in_t {c : Int32} {b : Nat} (h : 0 ≤ c ∧ c ≤ nI b) (hb : b < 2 ^ 31) : ∃ j, j ≤ b ∧ c = nI j := by
  obtain ⟨j, hj, rfl⟩ := nI_of (x := c) (Int32.not_lt.mpr h.1)
  exact ⟨j, (nI_leI hj hb).mp h.2, rfl⟩
theorem q_ne {q : Nat} (h : q = 4 ∨ q = 5) : q ≠ 0 := by omega
theorem q_lt {q : Nat} (h : q = 4 ∨ q = 5) : q < 23 := by omega
theorem q_ty {q : Nat} (h : q = 4 ∨ q = 5) : rTy q ≠ 1 := by rcases h with rfl | rfl <;> decide
theorem cR_q (G : GG) (ad : Nat → Nat) (S : FS) {q : Nat} (h : q = 4 ∨ q = 5) : cR G ad S q = .inl (G.2.1 0, 89, .inl (fA S q)) := by rcases h with rfl | rfl <;> rfl
/-- the numbers that an image keeps, in their order -/
def vec (S : FS) (j : Nat) : Int32 := if j = 0 then fF S 0 1 else if j = 1 then fF S 0 2 else if j = 2 then fF S 0 3 else if j = 3 then fF S 0 5 else if j = 4 then fF S 0 7 else if j < 77 then fA S 1 (j - 5) else if j < 81 then fA S 2 (j - 77) else fA S 3 (j - 81)
def sl5 (j : Nat) : Nat := match j with
  | 0 => 1 | 1 => 2 | 2 => 3 | 3 => 5 | _ => 7
theorem vec_lo (S : FS) {j : Nat} (h : j < 5) : vec S j = fF S 0 (sl5 j) := by
  rcases (show j = 0 ∨ j = 1 ∨ j = 2 ∨ j = 3 ∨ j = 4 by omega) with rfl | rfl | rfl | rfl | rfl <;> rfl
theorem vec_s (S : FS) {i : Nat} (h : i < 72) : vec S (5 + i) = fA S 1 i := by
  unfold vec
  rw [if_neg (by omega), if_neg (by omega), if_neg (by omega), if_neg (by omega), if_neg (by omega), if_pos (by omega), Nat.add_sub_cancel_left]
theorem vec_se (S : FS) {i : Nat} (h : i < 4) : vec S (77 + i) = fA S 2 i := by
  unfold vec
  rw [if_neg (by omega), if_neg (by omega), if_neg (by omega), if_neg (by omega), if_neg (by omega), if_neg (by omega), if_pos (by omega), Nat.add_sub_cancel_left]
theorem vec_co (S : FS) {i : Nat} : vec S (81 + i) = fA S 3 i := by
  unfold vec
  rw [if_neg (by omega), if_neg (by omega), if_neg (by omega), if_neg (by omega), if_neg (by omega), if_neg (by omega), if_neg (by omega), Nat.add_sub_cancel_left]
theorem vec_congr {S S' : FS} (h1 : ∀ j, j < 5 → fF S' 0 (sl5 j) = fF S 0 (sl5 j)) (h2 : fA S' 1 = fA S 1) (h3 : fA S' 2 = fA S 2) (h4 : fA S' 3 = fA S 3) : vec S' = vec S := by
  funext j
  by_cases hj : j < 5
  · rw [vec_lo S' hj, vec_lo S hj, h1 j hj]
  · unfold vec
    rw [h2, h3, h4]
    simp only [show ¬ j = 0 by omega, show ¬ j = 1 by omega, show ¬ j = 2 by omega, show ¬ j = 3 by omega, show ¬ j = 4 by omega, if_false]
theorem vec_setF {S : FS} {j : Nat} (h : j < 5) (x : Int32) (i : Nat) : vec (setF S 0 (sl5 j) x) i = if i = j then x else vec S i := by
  by_cases hi : i < 5
  · rw [vec_lo _ hi, fF_setF]
    by_cases e : i = j
    · subst e
      simp
    · rw [if_neg e, if_neg, vec_lo _ hi]
      intro q
      have q := q.2
      rcases (show i = 0 ∨ i = 1 ∨ i = 2 ∨ i = 3 ∨ i = 4 by omega) with rfl | rfl | rfl | rfl | rfl <;> rcases (show j = 0 ∨ j = 1 ∨ j = 2 ∨ j = 3 ∨ j = 4 by omega) with rfl | rfl | rfl | rfl | rfl <;> first | exact e rfl | exact absurd q (by decide)
  · rw [if_neg (by omega)]
    unfold vec
    simp only [show ¬ i = 0 by omega, show ¬ i = 1 by omega, show ¬ i = 2 by omega, show ¬ i = 3 by omega, show ¬ i = 4 by omega, if_false]
    rfl
theorem vec_set1 {S : FS} {k : Nat} (hk : k < 72) (x : Int32) (i : Nat) : vec (setA S 1 (upd (fA S 1) k x)) i = if i = 5 + k then x else vec S i := by
  by_cases h : i < 5
  · rw [vec_lo _ h, vec_lo _ h, if_neg (by omega)]
    rfl
  · by_cases h2 : i < 77
    · obtain ⟨m, rfl⟩ : ∃ m, i = 5 + m := ⟨i - 5, by omega⟩
      rw [vec_s _ (by omega), vec_s _ (by omega), fA_setA, if_pos rfl]
      by_cases e : m = k
      · subst e
        rw [if_pos rfl, pk_us]
      · rw [if_neg (by omega), pk_un e]
    · rw [if_neg (by omega)]
      unfold vec
      simp only [show ¬ i = 0 by omega, show ¬ i = 1 by omega, show ¬ i = 2 by omega, show ¬ i = 3 by omega, show ¬ i = 4 by omega, h2, if_false]
      rfl
theorem vec_set2 {S : FS} {k : Nat} (hk : k < 4) (x : Int32) (i : Nat) : vec (setA S 2 (upd (fA S 2) k x)) i = if i = 77 + k then x else vec S i := by
  by_cases h : i < 5
  · rw [vec_lo _ h, vec_lo _ h, if_neg (by omega)]
    rfl
  · by_cases h2 : 77 ≤ i ∧ i < 81
    · obtain ⟨m, rfl⟩ : ∃ m, i = 77 + m := ⟨i - 77, by omega⟩
      rw [vec_se _ (by omega), vec_se _ (by omega), fA_setA, if_pos rfl]
      by_cases e : m = k
      · subst e
        rw [if_pos rfl, pk_us]
      · rw [if_neg (by omega), pk_un e]
    · rw [if_neg (by omega)]
      unfold vec
      by_cases h3 : i < 77
      · simp only [show ¬ i = 0 by omega, show ¬ i = 1 by omega, show ¬ i = 2 by omega, show ¬ i = 3 by omega, show ¬ i = 4 by omega, h3, if_false, if_true]
        rfl
      · simp only [show ¬ i = 0 by omega, show ¬ i = 1 by omega, show ¬ i = 2 by omega, show ¬ i = 3 by omega, show ¬ i = 4 by omega, h3, show ¬ i < 81 by omega, if_false]
        rfl
theorem vec_set3 {S : FS} {k : Nat} (x : Int32) (i : Nat) : vec (setA S 3 (upd (fA S 3) k x)) i = if i = 81 + k then x else vec S i := by
  by_cases h : i < 5
  · rw [vec_lo _ h, vec_lo _ h, if_neg (by omega)]
    rfl
  · by_cases h2 : 81 ≤ i
    · obtain ⟨m, rfl⟩ : ∃ m, i = 81 + m := ⟨i - 81, by omega⟩
      rw [vec_co, vec_co, fA_setA, if_pos rfl]
      by_cases e : m = k
      · subst e
        rw [if_pos rfl, pk_us]
      · rw [if_neg (by omega), pk_un e]
    · rw [if_neg (by omega)]
      unfold vec
      by_cases h3 : i < 77
      · simp only [show ¬ i = 0 by omega, show ¬ i = 1 by omega, show ¬ i = 2 by omega, show ¬ i = 3 by omega, show ¬ i = 4 by omega, h3, if_false, if_true]
        rfl
      · simp only [show ¬ i = 0 by omega, show ¬ i = 1 by omega, show ¬ i = 2 by omega, show ¬ i = 3 by omega, show ¬ i = 4 by omega, h3, show i < 81 by omega, if_false, if_true]
        rfl
/-- in the midst of carryAll: ja numbers have been carried to the row q, jv have been put -/
def CA (q : Nat) (w : Nat → Int32) (tk : Int32) (ja jv : Nat) (S0 S : FS) : Prop :=
  (fL S = fL S0 ∧ fR S 0 14 = some q ∧ fF S 0 13 = tk ∧ fF S 0 12 = nI ja) ∧
  (∀ k, k ≠ 1 → k ≠ 2 → k ≠ 3 → k ≠ 5 → k ≠ 7 → k ≠ 12 → k ≠ 13 → fF S 0 k = fF S0 0 k) ∧
  (∀ i, i ≠ 1 → i ≠ 2 → i ≠ 3 → i ≠ q → fA S i = fA S0 i) ∧
  (∀ i, i < ja → fA S q i = w i) ∧ (∀ i, ja ≤ i → fA S q i = fA S0 q i) ∧
  (∀ i, i < jv → vec S i = w i) ∧ (∀ i, jv ≤ i → vec S i = vec S0 i)
/-- what is carried: the state's own numbers, or the row's -/
def CAw (q : Nat) (w : Nat → Int32) (tk : Int32) (S0 : FS) : Prop := (tk = 1 ∧ ∀ i, w i = vec S0 i) ∨ (tk = 0 ∧ ∀ i, w i = fA S0 q i)
theorem CAw.b {q : Nat} {w : Nat → Int32} {tk : Int32} {S0 : FS} (h : CAw q w tk S0) : tk = 0 ∨ tk = 1 := h.elim (fun h => Or.inr h.1) (fun h => Or.inl h.1)
def carryP (q j : Nat) (v : Int32) (S : FS) (r : Int32) (S' : FS) : Prop := S' = (if fF S 0 13 = 0 then setF S 0 12 (nI (j + 1)) else setF (setA S q (upd (fA S q) j v)) 0 12 (nI (j + 1))) ∧ r = if fF S 0 13 = 0 then fA S q j else v
theorem CA_carry {q : Nat} (hq : q = 4 ∨ q = 5) {w : Nat → Int32} {tk : Int32} {j : Nat} {S0 S S' : FS} {v r : Int32} (hw : CAw q w tk S0) (h : CA q w tk j j S0 S) (hv : v = vec S j) (hp : carryP q j v S r S') : r = w j ∧ CA q w tk (j + 1) j S0 S' := by
  obtain ⟨⟨hL, hR, h13, h12⟩, hF, hA, ha1, ha2, hv1, hv2⟩ := h
  obtain ⟨rfl, hr⟩ := hp
  rcases hw with ⟨rfl, hw⟩ | ⟨rfl, hw⟩
  · rw [h13, if_neg (by decide)] at hr ⊢
    have er : r = w j := by rw [hr, hv, hv2 j (Nat.le_refl j), hw]
    refine ⟨er, ⟨hL, hR, ?_, ?_⟩, ?_, ?_, ?_, ?_, ?_, ?_⟩
    · rw [fF_setF, if_neg (by decide)]; exact h13
    · rw [fF_setF, if_pos ⟨rfl, rfl⟩]
    · intro k h1 h2 h3 h5 h7 h12' h13'
      rw [fF_setF, if_neg (fun z => h12' z.2)]
      exact hF k h1 h2 h3 h5 h7 h12' h13'
    · intro i h1 h2 h3 h4
      rw [fA_setF, fA_setA, if_neg h4]
      exact hA i h1 h2 h3 h4
    · intro i hi
      rw [fA_setF, fA_setA, if_pos rfl]
      by_cases e : i = j
      · subst e
        rw [pk_us, ← hr, er]
      · rw [pk_un e]
        exact ha1 i (by omega)
    · intro i hi
      rw [fA_setF, fA_setA, if_pos rfl, pk_un (by omega)]
      exact ha2 i (by omega)
    · intro i hi
      rw [show vec (setF (setA S q (upd (fA S q) j v)) 0 12 (nI (j + 1))) = vec S from vec_congr (fun m hm => by rcases (show m = 0 ∨ m = 1 ∨ m = 2 ∨ m = 3 ∨ m = 4 by omega) with rfl | rfl | rfl | rfl | rfl <;> rfl) (by rw [fA_setF, fA_setA, if_neg (by omega)]) (by rw [fA_setF, fA_setA, if_neg (by omega)]) (by rw [fA_setF, fA_setA, if_neg (by omega)])]
      exact hv1 i hi
    · intro i hi
      rw [show vec (setF (setA S q (upd (fA S q) j v)) 0 12 (nI (j + 1))) = vec S from vec_congr (fun m hm => by rcases (show m = 0 ∨ m = 1 ∨ m = 2 ∨ m = 3 ∨ m = 4 by omega) with rfl | rfl | rfl | rfl | rfl <;> rfl) (by rw [fA_setF, fA_setA, if_neg (by omega)]) (by rw [fA_setF, fA_setA, if_neg (by omega)]) (by rw [fA_setF, fA_setA, if_neg (by omega)])]
      exact hv2 i hi
  · rw [h13, if_pos rfl] at hr ⊢
    have er : r = w j := by rw [hr, ha2 j (Nat.le_refl j), hw]
    have ev : vec (setF S 0 12 (nI (j + 1))) = vec S := vec_congr (fun m hm => by rcases (show m = 0 ∨ m = 1 ∨ m = 2 ∨ m = 3 ∨ m = 4 by omega) with rfl | rfl | rfl | rfl | rfl <;> rfl) rfl rfl rfl
    refine ⟨er, ⟨hL, hR, ?_, ?_⟩, ?_, ?_, ?_, ?_, ?_, ?_⟩
    · rw [fF_setF, if_neg (by decide)]; exact h13
    · rw [fF_setF, if_pos ⟨rfl, rfl⟩]
    · intro k h1 h2 h3 h5 h7 h12' h13'
      rw [fF_setF, if_neg (fun z => h12' z.2)]
      exact hF k h1 h2 h3 h5 h7 h12' h13'
    · intro i h1 h2 h3 h4
      exact hA i h1 h2 h3 h4
    · intro i hi
      show fA S q i = _
      by_cases e : i = j
      · subst e
        rw [← hr, er]
      · exact ha1 i (by omega)
    · intro i hi
      exact ha2 i (by omega)
    · intro i hi
      rw [ev]
      exact hv1 i hi
    · intro i hi
      rw [ev]
      exact hv2 i hi
theorem CA_put {q : Nat} {w : Nat → Int32} {tk : Int32} {j : Nat} {S0 S S' : FS} (h : CA q w tk (j + 1) j S0 S) (hL : fL S' = fL S) (hR : fR S' = fR S) (hF : ∀ k, k ≠ 1 → k ≠ 2 → k ≠ 3 → k ≠ 5 → k ≠ 7 → fF S' 0 k = fF S 0 k) (hA : ∀ i, i ≠ 1 → i ≠ 2 → i ≠ 3 → fA S' i = fA S i) (hq : q = 4 ∨ q = 5) (hv : ∀ i, vec S' i = if i = j then w j else vec S i) : CA q w tk (j + 1) (j + 1) S0 S' := by
  obtain ⟨⟨h1, h2, h13, h12⟩, g1, g2, g3, g4, g5, g6⟩ := h
  refine ⟨⟨hL.trans h1, by rw [hR]; exact h2, ?_, ?_⟩, ?_, ?_, ?_, ?_, ?_, ?_⟩
  · rw [hF 13 (by decide) (by decide) (by decide) (by decide) (by decide)]; exact h13
  · rw [hF 12 (by decide) (by decide) (by decide) (by decide) (by decide)]; exact h12
  · intro k a1 a2 a3 a5 a7 a12 a13
    rw [hF k a1 a2 a3 a5 a7]
    exact g1 k a1 a2 a3 a5 a7 a12 a13
  · intro i a1 a2 a3 a4
    rw [hA i a1 a2 a3]
    exact g2 i a1 a2 a3 a4
  · intro i hi
    rw [hA q (by omega) (by omega) (by omega)]
    exact g3 i hi
  · intro i hi
    rw [hA q (by omega) (by omega) (by omega)]
    exact g4 i hi
  · intro i hi
    rw [hv i]
    by_cases e : i = j
    · rw [if_pos e, e]
    · rw [if_neg e]
      exact g5 i (by omega)
  · intro i hi
    rw [hv i, if_neg (by omega)]
    exact g6 i (by omega)
theorem CA_putF {q : Nat} {w : Nat → Int32} {tk : Int32} {j : Nat} {S0 S : FS} (h : CA q w tk (j + 1) j S0 S) (hq : q = 4 ∨ q = 5) (hj : j < 5) : CA q w tk (j + 1) (j + 1) S0 (setF S 0 (sl5 j) (w j)) := by
  refine CA_put h rfl rfl (fun k a1 a2 a3 a5 a7 => ?_) (fun _ _ _ _ => rfl) hq (vec_setF hj (w j))
  rw [fF_setF, if_neg]
  intro z
  have z := z.2
  rcases (show j = 0 ∨ j = 1 ∨ j = 2 ∨ j = 3 ∨ j = 4 by omega) with rfl | rfl | rfl | rfl | rfl
  · exact a1 z
  · exact a2 z
  · exact a3 z
  · exact a5 z
  · exact a7 z
theorem CA_put1 {q : Nat} {w : Nat → Int32} {tk : Int32} {k : Nat} {S0 S : FS} (h : CA q w tk (5 + k + 1) (5 + k) S0 S) (hq : q = 4 ∨ q = 5) (hk : k < 72) : CA q w tk (5 + k + 1) (5 + k + 1) S0 (setA S 1 (upd (fA S 1) k (w (5 + k)))) :=
  CA_put h rfl rfl (fun _ _ _ _ _ _ => rfl) (fun i a1 _ _ => by rw [fA_setA, if_neg a1]) hq (fun i => vec_set1 hk _ i)
theorem CA_put2 {q : Nat} {w : Nat → Int32} {tk : Int32} {k : Nat} {S0 S : FS} (h : CA q w tk (77 + k + 1) (77 + k) S0 S) (hq : q = 4 ∨ q = 5) (hk : k < 4) : CA q w tk (77 + k + 1) (77 + k + 1) S0 (setA S 2 (upd (fA S 2) k (w (77 + k)))) :=
  CA_put h rfl rfl (fun _ _ _ _ _ _ => rfl) (fun i _ a2 _ => by rw [fA_setA, if_neg a2]) hq (fun i => vec_set2 hk _ i)
theorem CA_put3 {q : Nat} {w : Nat → Int32} {tk : Int32} {k : Nat} {S0 S : FS} (h : CA q w tk (81 + k + 1) (81 + k) S0 S) (hq : q = 4 ∨ q = 5) : CA q w tk (81 + k + 1) (81 + k + 1) S0 (setA S 3 (upd (fA S 3) k (w (81 + k)))) :=
  CA_put h rfl rfl (fun _ _ _ _ _ _ => rfl) (fun i _ _ a3 => by rw [fA_setA, if_neg a3]) hq (fun i => vec_set3 _ i)
theorem CA_init (q : Nat) (w : Nat → Int32) (tk : Int32) (S : FS) : CA q w tk 0 0 S (setF (setF (setR S 0 14 (some q)) 0 13 tk) 0 12 0) := by
  refine ⟨⟨rfl, ?_, ?_, ?_⟩, ?_, fun _ _ _ _ _ => rfl, fun i hi => absurd hi (by omega), fun _ _ => rfl, fun i hi => absurd hi (by omega), ?_⟩
  · rw [fR_setF, fR_setF, fR_setR, if_pos ⟨rfl, rfl⟩]
  · rw [fF_setF, if_neg (by decide), fF_setF, if_pos ⟨rfl, rfl⟩]
  · rw [fF_setF, if_pos ⟨rfl, rfl⟩]
    exact nI_0.symm
  · intro k _ _ _ _ _ h12 h13
    rw [fF_setF, if_neg (fun z => h12 z.2), fF_setF, if_neg (fun z => h13 z.2)]
    rfl
  · intro i _
    exact congrFun (vec_congr (fun m hm => by rcases (show m = 0 ∨ m = 1 ∨ m = 2 ∨ m = 3 ∨ m = 4 by omega) with rfl | rfl | rfl | rfl | rfl <;> rfl) rfl rfl rfl) i
theorem isC_n {c x : Int32} {n : Nat} (h : 0 ≤ c ∧ c ≤ x - 1) (e : x = nI n) (hn : n ≤ 6) : c.toNatClampNeg < n ∧ c = nI c.toNatClampNeg := by
  obtain ⟨j, hj, rfl⟩ := isC_t h e hn
  rw [nI_clamp (by omega)]
  exact ⟨hj, rfl⟩
theorem in_n {c : Int32} {b : Nat} (h : 0 ≤ c ∧ c ≤ nI b) (hb : b < 2 ^ 31) : c.toNatClampNeg ≤ b ∧ c = nI c.toNatClampNeg := by
  obtain ⟨j, hj, rfl⟩ := in_t h hb
  rw [nI_clamp (by omega)]
  exact ⟨hj, rfl⟩
theorem nI_ne {a b : Nat} (h : ¬ nI a = nI b) : a ≠ b := fun e => h (by rw [e])
theorem setA_setA (S : FS) (i : Nat) (f g : Nat → Int32) : setA (setA S i f) i g = setA S i g := by
  unfold setA
  refine congrArg (fun z => (S.1, z, S.2.2)) (funext fun j => ?_)
  by_cases h : j = i <;> simp [va_up, h]
theorem setL_setL (S : FS) (i : Nat) (f g : Nat → Int64) : setL (setL S i f) i g = setL S i g := by
  unfold setL
  refine congrArg (fun z => (S.1, S.2.1, z, S.2.2.2)) (funext fun j => ?_)
  by_cases h : j = i <;> simp [va_up, h]
def zs (f : Nat → Int32) (n k : Nat) : Nat → Int32 := fun i => if 12 * n ≤ i ∧ i < 12 * n + k then 0 else f i
theorem zs_0 (S : FS) (n : Nat) : S = setA S 1 (zs (fA S 1) n 0) := by
  have h : zs (fA S 1) n 0 = fA S 1 := funext fun i => by unfold zs; rw [if_neg (by omega)]
  rw [h]
  unfold setA
  refine congrArg (fun z => (S.1, z, S.2.2)) (funext fun j => ?_)
  by_cases h : j = 1
  · subst h; simp [va_up]
  · simp [va_up, h]
theorem zs_step (T : FS) (f : Nat → Int32) (n k : Nat) : setA (setA T 1 (zs f n k)) 1 (upd (fA (setA T 1 (zs f n k)) 1) (12 * n + k) 0) = setA T 1 (zs f n (k + 1)) := by
  rw [setA_setA]
  refine congrArg (setA T 1) (funext fun i => ?_)
  rw [fA_setA, if_pos rfl]
  by_cases h : i = 12 * n + k
  · subst h
    rw [pk_us]
    unfold zs
    rw [if_pos (by omega)]
  · rw [pk_un h]
    unfold zs
    by_cases h2 : 12 * n ≤ i ∧ i < 12 * n + k
    · rw [if_pos h2, if_pos (by omega)]
    · rw [if_neg h2, if_neg (by omega)]
/-- the twelve numbers of a new customer -/
def cs (f : Nat → Int32) (n : Nat) (kind v wants : Int32) : Nat → Int32 := upd (upd (upd (upd (zs f n 12) (12 * n + 0) kind) (12 * n + 1) v) (12 * n + 2) wants) (12 * n + 3) 3
def slw (what : Int32) : Nat := if what = 0 then 2 else if what = 1 then 3 else if what = 2 then 4 else 7
def AB (x : Int32) : Int32 := if x = 0 then -1 else if x < 4 then 0 else x - 3
def TK (f k : Int32) : Prop := f = k ∨ AB f = k ∨ (0 < AB f ∧ AB (AB f) = k)
def zr (f : Nat → Int64) (t k : Nat) : Nat → Int64 := fun i => if 60 * t ≤ i ∧ i < 60 * t + k then 0 else f i
theorem zr_0 (S : FS) (t : Nat) : S = setL S 20 (zr (fL S 20) t 0) := by
  have h : zr (fL S 20) t 0 = fL S 20 := funext fun i => by unfold zr; rw [if_neg (by omega)]
  rw [h]
  unfold setL
  refine congrArg (fun z => (S.1, S.2.1, z, S.2.2.2)) (funext fun j => ?_)
  by_cases h : j = 20
  · subst h; simp [va_up]
  · simp [va_up, h]
theorem zr_step (T : FS) (f : Nat → Int64) (n k : Nat) : setL (setL T 20 (zr f n k)) 20 (vp_updL (fL (setL T 20 (zr f n k)) 20) (60 * n + k) 0) = setL T 20 (zr f n (k + 1)) := by
  rw [setL_setL]
  refine congrArg (setL T 20) (funext fun i => ?_)
  rw [fL_setL, if_pos rfl]
  by_cases h : i = 60 * n + k
  · subst h
    rw [pk_uLs]
    unfold zr
    rw [if_pos (by omega)]
  · rw [pk_uLn h]
    unfold zr
    by_cases h2 : 60 * n ≤ i ∧ i < 60 * n + k
    · rw [if_pos h2, if_pos (by omega)]
    · rw [if_neg h2, if_neg (by omega)]
def nrw (v : Int64) (sort : Int32) : Int64 := if sort = 0 then v.toInt32.toInt8.toInt32.toInt64 else if sort = 1 then v.toInt32.toInt16.toInt32.toInt64 else if sort = 2 then v.toInt32.toInt64 else if sort = 3 then v else if v = 0 then 0 else 1
theorem i64_add (i n m : Int32) (hi : ¬ i < 0) (hn : ¬ n < 0) : (¬ 0 < lg_cmp (i.toInt64 + n.toInt64) m.toInt64) ↔ i.toInt + n.toInt ≤ m.toInt := by
  have h1 : (i.toInt64 + n.toInt64).toInt = i.toInt + n.toInt := by
    rw [Int64.toInt_add, Int32.toInt_toInt64, Int32.toInt_toInt64]
    have a1 := i.toInt_lt; have a2 := i.le_toInt; have a3 := n.toInt_lt; have a4 := n.le_toInt
    exact Int.bmod_eq_of_le (by omega) (by omega)
  constructor
  · intro h
    have := Int64.le_iff_toInt_le.mp (lc_le h)
    rw [h1, Int32.toInt_toInt64] at this
    exact this
  · intro h z
    refine lc_gt z (Int64.le_iff_toInt_le.mpr ?_)
    rw [h1, Int32.toInt_toInt64]
    exact h
theorem i64_addlt (i n m : Int32) (hi : ¬ i < 0) (hn : ¬ n < 0) : lg_cmp (i.toInt64 + n.toInt64) m.toInt64 < 0 ↔ i.toInt + n.toInt < m.toInt := by
  have h1 : (i.toInt64 + n.toInt64).toInt = i.toInt + n.toInt := by
    rw [Int64.toInt_add, Int32.toInt_toInt64, Int32.toInt_toInt64]
    have a1 := i.toInt_lt; have a2 := i.le_toInt; have a3 := n.toInt_lt; have a4 := n.le_toInt
    exact Int.bmod_eq_of_le (by omega) (by omega)
  constructor
  · intro h
    have := lc_lt h
    rw [Int64.not_le, Int64.lt_iff_toInt_lt, h1, Int32.toInt_toInt64] at this
    exact this
  · intro h
    refine Classical.byContradiction fun z => ?_
    have := Int64.le_iff_toInt_le.mp (lc_ge z)
    rw [h1, Int32.toInt_toInt64] at this
    omega
/-- n items of a row of long numbers, moved -/
def mvL (f : Nat → Int64) (a b n : Nat) : Nat → Int64 := fun x => if b ≤ x ∧ x < b + n then f (a + (x - b)) else f x
/-- the tape's rows: kinds, lengths -/
def TPok (S : FS) : Prop := ∀ t, t < 6 → ∃ m, m ≤ 60 ∧ fA S 19 t = nI m
theorem tp_ix {S : FS} (h : TPok S) {t : Nat} (ht : t < 6) {i : Int32} (hi : 0 ≤ i ∧ i ≤ fA S 19 t - 1) : i.toNatClampNeg < 60 ∧ i = nI i.toNatClampNeg := by
  obtain ⟨m, hm, e⟩ := h t ht
  obtain ⟨j, hj, rfl⟩ := nI_of (x := i) (Int32.not_lt.mpr hi.1)
  rw [nI_clamp (by omega)]
  refine ⟨?_, rfl⟩
  have h2 := hi.2
  rw [e] at h2
  cases m with
  | zero =>
    have h3 := Int32.le_iff_toInt_le.mp h2
    rw [nI_toInt hj] at h3
    have : (nI 0 - 1 : Int32).toInt = -1 := by decide
    omega
  | succ n =>
    rw [nI_pred] at h2
    have := (nI_leI hj (by omega)).mp h2
    omega
theorem nn_n {i : Int32} (h : ¬ i < 0) : i.toNatClampNeg < 2 ^ 31 ∧ i = nI i.toNatClampNeg := by
  obtain ⟨j, hj, rfl⟩ := nI_of h
  rw [nI_clamp (by omega)]
  exact ⟨hj, rfl⟩
theorem tp_sum {S : FS} (h : TPok S) {t : Nat} (ht : t < 6) {i n : Int32} (hi : ¬ i < 0) (hn : ¬ n < 0) (hs : i.toInt + n.toInt ≤ (fA S 19 t).toInt) : i.toNatClampNeg + n.toNatClampNeg ≤ 60 := by
  obtain ⟨m, hm, e⟩ := h t ht
  obtain ⟨a, ha, rfl⟩ := nI_of hi
  obtain ⟨b, hb, rfl⟩ := nI_of hn
  rw [e, nI_toInt ha, nI_toInt hb, nI_toInt (by omega)] at hs
  rw [nI_clamp (by omega), nI_clamp (by omega)]
  omega
/-- the trail: a body's number -/
def ntS (t : Nat) (S : FS) (b : Int32) : FS := setF (if t < 20 then setA S 17 (upd (fA S 17) t b) else S) 0 40 (nI (t + 1))
def ntl : Nat → FS → List Int32 → FS
  | _, S, [] => S
  | t, S, b :: bs => ntl (t + 1) (ntS t S b) bs
theorem ntl_append (a b : List Int32) : ∀ (t : Nat) (S : FS), ntl t S (a ++ b) = ntl (t + a.length) (ntl t S a) b := by
  induction a with
  | nil => intro t S; rfl
  | cons x a ih =>
    intro t S
    show ntl (t + 1) (ntS t S x) (a ++ b) = _
    rw [ih]
    show ntl (t + 1 + a.length) _ b = ntl (t + (a.length + 1)) _ b
    rw [show t + 1 + a.length = t + (a.length + 1) by omega]
    rfl
theorem ntS_fF (t : Nat) (S : FS) (b : Int32) {k : Nat} (h : k ≠ 40) : fF (ntS t S b) 0 k = fF S 0 k := by
  unfold ntS
  rw [fF_setF, if_neg (fun z => h z.2)]
  split <;> rfl
theorem ntS_40 (t : Nat) (S : FS) (b : Int32) : fF (ntS t S b) 0 40 = nI (t + 1) := by
  unfold ntS
  rw [fF_setF, if_pos ⟨rfl, rfl⟩]
theorem ntl_fF (bs : List Int32) : ∀ (t : Nat) (S : FS) {k : Nat} (h : k ≠ 40), fF (ntl t S bs) 0 k = fF S 0 k := by
  induction bs with
  | nil => intro t S k h; rfl
  | cons b bs ih =>
    intro t S k h
    show fF (ntl (t + 1) (ntS t S b) bs) 0 k = _
    rw [ih _ _ h, ntS_fF _ _ _ h]
theorem ntl_40 (bs : List Int32) : ∀ (t : Nat) (S : FS), fF S 0 40 = nI t → fF (ntl t S bs) 0 40 = nI (t + bs.length) := by
  induction bs with
  | nil => intro t S h; exact h
  | cons b bs ih =>
    intro t S h
    show fF (ntl (t + 1) (ntS t S b) bs) 0 40 = _
    rw [ih _ _ (ntS_40 t S b)]
    show nI (t + 1 + bs.length) = nI (t + (bs.length + 1))
    rw [show t + 1 + bs.length = t + (bs.length + 1) by omega]
/-- acts: bodies and answers, by the kind's number -/
def aB (κ : Int32) : List Int32 := if κ = 2 then [30, 10] else if κ = 4 then [50, 10] else if κ = 5 then [30, 10] else if κ = 6 then [71, 10] else [10]
def aV (κ v i x : Int32) : Int32 := if κ = 2 then x * 3 + i else if κ = 4 then -(x + i) else if κ = 5 then x * 3 + i else if κ = 6 then (x + i) ^^^ v else x + i
def bP (κ : Int32) : List Int32 := 11 :: aB κ
def bPV (κ v i x : Int32) : Int32 := aV κ v i x - v
def bB (κ : Int32) : List Int32 := if κ = 1 then 20 :: bP κ else if κ = 4 then 51 :: 20 :: bP κ else if κ = 6 then 70 :: (bP κ ++ [10]) else bP κ
def bV (κ v i x : Int32) : Int32 := if κ = 1 then bPV κ v i x ^^^ 6 else if κ = 4 then bPV κ v i (x + 1) ^^^ 6 else if κ = 6 then bPV κ v i x + (2 + i) else bPV κ v i x
def tP (κ : Int32) : List Int32 := 12 :: bB κ
def tlB (κ : Int32) : List Int32 := if κ = 3 then 40 :: (tP κ ++ bB κ) else if κ = 5 then 60 :: tP κ else if κ = 6 then 40 :: (tP κ ++ bB κ) else tP κ
def tlV (κ v i x : Int32) : Int32 := if κ = 3 then bV κ v i x * 2 + bV κ v i 1 else if κ = 5 then bV κ v i (x - i) * 2 else if κ = 6 then bV κ v i x * 2 + bV κ v i 1 else bV κ v i x * 2
theorem ntS_41 (t : Nat) (S : FS) (b : Int32) : fF (ntS t S b) 0 41 = fF S 0 41 := ntS_fF t S b (by decide)
theorem ntS_42 (t : Nat) (S : FS) (b : Int32) : fF (ntS t S b) 0 42 = fF S 0 42 := ntS_fF t S b (by decide)
theorem ntS_43 (t : Nat) (S : FS) (b : Int32) : fF (ntS t S b) 0 43 = fF S 0 43 := ntS_fF t S b (by decide)
theorem ntl_41 (t : Nat) (S : FS) (b : List Int32) : fF (ntl t S b) 0 41 = fF S 0 41 := ntl_fF b t S (by decide)
theorem ntl_42 (t : Nat) (S : FS) (b : List Int32) : fF (ntl t S b) 0 42 = fF S 0 42 := ntl_fF b t S (by decide)
theorem ntl_43 (t : Nat) (S : FS) (b : List Int32) : fF (ntl t S b) 0 43 = fF S 0 43 := ntl_fF b t S (by decide)
theorem aB_len (κ : Int32) : (aB κ).length ≤ 2 := by unfold aB; split <;> (try split) <;> (try split) <;> (try split) <;> simp
theorem bP_len (κ : Int32) : (bP κ).length ≤ 3 := by have := aB_len κ; unfold bP; simp; omega
theorem bB_len (κ : Int32) : (bB κ).length ≤ 5 := by have := bP_len κ; unfold bB; split <;> (try split) <;> (try split) <;> simp <;> omega
theorem tP_len (κ : Int32) : (tP κ).length ≤ 6 := by have := bB_len κ; unfold tP; simp; omega
theorem tlB_len (κ : Int32) : (tlB κ).length ≤ 12 := by have := bB_len κ; have := tP_len κ; unfold tlB; split <;> (try split) <;> (try split) <;> simp <;> omega
theorem lc_eq {a b : Int64} (h : lg_cmp a b = 0) : a = b := by
  unfold lg_cmp at h
  split at h
  · exact absurd h (by decide)
  · split at h
    · assumption
    · exact absurd h (by decide)
theorem lc_ne {a b : Int64} (h : ¬ lg_cmp a b = 0) : ¬ a = b := by
  intro e
  subst e
  apply h
  unfold lg_cmp
  rw [if_neg (show ¬ a > a from Int64.lt_irrefl), if_pos rfl]
def cpF (f c : Nat → Int64) (a k : Nat) : Nat → Int64 := fun x => if x < k then f (a + x) else c x
theorem cpF_0 (S : FS) (f : Nat → Int64) (a : Nat) : S = setL S 21 (cpF f (fL S 21) a 0) := by
  have h : cpF f (fL S 21) a 0 = fL S 21 := funext fun i => by unfold cpF; rw [if_neg (by omega)]
  rw [h]
  unfold setL
  refine congrArg (fun z => (S.1, S.2.1, z, S.2.2.2)) (funext fun j => ?_)
  by_cases h : j = 21
  · subst h; simp [va_up]
  · simp [va_up, h]
theorem cpF_step (T : FS) (f c : Nat → Int64) (a k : Nat) : setL (setL T 21 (cpF f c a k)) 21 (vp_updL (fL (setL T 21 (cpF f c a k)) 21) k (f (a + k))) = setL T 21 (cpF f c a (k + 1)) := by
  rw [setL_setL]
  refine congrArg (setL T 21) (funext fun i => ?_)
  rw [fL_setL, if_pos rfl]
  by_cases h : i = k
  · subst h
    rw [pk_uLs]
    unfold cpF
    rw [if_pos (by omega)]
  · rw [pk_uLn h]
    unfold cpF
    by_cases h2 : i < k
    · rw [if_pos h2, if_pos (by omega)]
    · rw [if_neg h2, if_neg (by omega)]
theorem mvL_0 (S : FS) (a b : Nat) : S = setL S 20 (mvL (fL S 20) a b 0) := by
  have h : mvL (fL S 20) a b 0 = fL S 20 := funext fun i => by unfold mvL; rw [if_neg (by omega)]
  rw [h]
  unfold setL
  refine congrArg (fun z => (S.1, S.2.1, z, S.2.2.2)) (funext fun j => ?_)
  by_cases h : j = 20
  · subst h; simp [va_up]
  · simp [va_up, h]
theorem mvL_step (T : FS) (f : Nat → Int64) (a b k : Nat) : setL (setL T 20 (mvL f a b k)) 20 (vp_updL (fL (setL T 20 (mvL f a b k)) 20) (b + k) (f (a + k))) = setL T 20 (mvL f a b (k + 1)) := by
  rw [setL_setL]
  refine congrArg (setL T 20) (funext fun i => ?_)
  rw [fL_setL, if_pos rfl]
  by_cases h : i = b + k
  · subst h
    rw [pk_uLs]
    unfold mvL
    rw [if_pos (by omega), Nat.add_sub_cancel_left]
  · rw [pk_uLn h]
    unfold mvL
    by_cases h2 : b ≤ i ∧ i < b + k
    · rw [if_pos h2, if_pos (by omega)]
    · rw [if_neg h2, if_neg (by omega)]
theorem tp_lt {S : FS} (h : TPok S) {t : Nat} (ht : t < 6) {i : Int32} {k : Nat} (hi : ¬ i < 0) (hk : k < 2 ^ 31) (hs : i.toInt + (nI k).toInt < (fA S 19 t).toInt) : i.toNatClampNeg + k < 60 := by
  obtain ⟨m, hm, e⟩ := h t ht
  obtain ⟨a, ha, rfl⟩ := nI_of hi
  rw [e, nI_toInt ha, nI_toInt hk, nI_toInt (by omega)] at hs
  rw [nI_clamp (by omega)]
  omega
