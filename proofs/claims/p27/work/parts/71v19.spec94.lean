theorem nor2 {x : Int32} {a b : Int32} : ¬ (x < a ∨ b < x) ↔ (a ≤ x ∧ x ≤ b) := ⟨fun h => ⟨Int32.not_lt.mp (fun q => h (Or.inl q)), Int32.not_lt.mp (fun q => h (Or.inr q))⟩, fun h q => q.elim (fun q => Int32.not_lt.mpr h.1 q) (fun q => Int32.not_lt.mpr h.2 q)⟩
theorem nan2 {x : Int32} {a b : Int32} (h : x < a ∨ b < x) : ¬ (a ≤ x ∧ x ≤ b) := fun q => nor2.mpr q h
theorem inC {x : Int32} {n j : Nat} (hn : n ≤ 6) (hj : j < n) (e : x = nI j) : isC n x := by
  show 0 ≤ x ∧ x ≤ nI n - 1
  rw [e]
  cases n with
  | zero => exact absurd hj (by omega)
  | succ n =>
    rw [nI_pred]
    exact ⟨(nI_leI (a := 0) (by omega) (by omega)).mpr (Nat.zero_le _), (nI_leI (by omega) (by omega)).mpr (by omega)⟩
theorem outC {x : Int32} {n : Nat} (hn : n ≤ 6) (h : x < 0 ∨ nI n ≤ x) : ¬ isC n x := fun z => by
  have z : 0 ≤ x ∧ x ≤ nI n - 1 := z
  rcases h with h | h
  · exact Int32.not_lt.mpr z.1 h
  · have h2 := Int32.le_trans h z.2
    cases n with
    | zero => exact absurd h2 (by decide)
    | succ n =>
      rw [nI_pred] at h2
      have := (nI_leI (a := n + 1) (b := n) (by omega) (by omega)).mp h2
      omega
/-- the trial shop is now as the shop is -/
theorem try_of {n pz : Nat} {K : Nat → Nat} {τ : Nat → Int32} {C : Cls} {S S1 : FS} (hb : BE S 2 0 n S1) (hr : fR S1 (9 + 2) 7 = fR S (9 + 0) 7) (hF : Fr (fun j k => (j = 11 ∧ 3 ≤ k ∧ k ≤ 7) ∨ (33 ≤ j ∧ j < 39 ∧ 2 ≤ k ∧ k ≤ 9) ∨ (51 ≤ j ∧ j < 57 ∧ k = 99) ∨ ((j = 17 ∨ j = 20) ∧ k = 99)) S S1) (hc : CuF S 0 n pz τ C K) (hn6 : n ≤ 6) : CuF S1 2 n pz τ C K ∧ (∀ d, d < n → gX S1 (21 + 6 * 2 + d) (K d) = gX S (21 + 6 * 0 + d) (K d)) ∧ (∀ k, 3 ≤ k → k ≤ 6 → fF S1 (9 + 2) k = fF S (9 + 0) k) ∧ ∀ k, k < 4 → fA S1 (9 + 2 + 6) k = fA S (9 + 0 + 6) k := by
  obtain ⟨a, b, c, d, e⟩ := hc.fr (by omega) hn6 hF (fun c hc => by omega) (by omega) (fun j k a b => by omega)
  refine ⟨⟨fun x hx => ⟨((hb.2.1 x hx).2.1).trans (hc.1 x hx).1, (hc.1 x hx).2⟩, hr.trans hc.2.1, c, d, e⟩, fun x hx => ?_, hb.1, hb.2.2.1⟩
  obtain ⟨g1, g2, g3⟩ := hb.2.1 x hx
  funext k
  unfold gX
  by_cases k0 : k = 0
  · rw [if_pos k0, if_pos k0]
  · rw [if_neg k0, if_neg k0]
    by_cases k8 : k < 8
    · rw [if_pos k8, if_pos k8]
      exact g1 _ (by omega) (by omega)
    · rw [if_neg k8, if_neg k8]
      by_cases k12 : k < 12
      · rw [if_pos k12, if_pos k12]
        exact g3 _ (by omega)
      · rw [if_neg k12, if_neg k12]
section STS
variable {α : Type} {mi off ln pr : Int32} {τ : Nat → Int32} {C : ClA α} {n w k : Nat} {Y Y' G : Nat → Nat → Int32}
theorem st_st {R : Nat → Nat → Int32} (h : stF mi off ln τ C n (w - k) (cutF n Y) = R) (hk : k < w) (hG : ∀ d, d < n → Y' d = saG mi off ln τ C n Y d) : stF mi off ln τ C n (w - (k + 1)) (cutF n Y') = R := by
  rw [← h, show w - k = w - (k + 1) + 1 by omega, cut_sa hG]
  rfl
theorem st_en {R : Nat → Nat → Int32} (h : stF mi off ln τ C n (w - k) (cutF n Y) = R) (hk : w ≤ k) : cutF n Y = R := by
  rw [show w - k = 0 by omega] at h
  exact h
theorem bs_st {v R : Int32} (h : v + bsF mi off ln τ C n (w - k) (cutF n Y) = R) (hk : k < w) (hG : ∀ d, d < n → Y' d = saG mi off ln τ C n Y d) : v + sbN off τ C Y n + bsF mi off ln τ C n (w - (k + 1)) (cutF n Y') = R := by
  rw [← h, show w - k = w - (k + 1) + 1 by omega, cut_sa hG]
  show _ = v + (sbN off τ C (cutF n Y) n + bsF mi off ln τ C n (w - (k + 1)) (saG mi off ln τ C n (cutF n Y)))
  rw [show sbN off τ C (cutF n Y) n = sbN off τ C Y n from sb_cg (fun d hd => cut_at hd), Int32.add_assoc]
theorem bs_en {v R : Int32} (h : v + bsF mi off ln τ C n (w - k) (cutF n Y) = R) (hk : w ≤ k) : v = R := by
  rw [show w - k = 0 by omega] at h
  exact (Int32.add_zero v).symm.trans h
theorem me_st {v R : Nat} (h : v + meN off ln τ C n (w - k) (cutF n Y) = R) (hk : k < w) (hG : ∀ d, d < n → Y' d = saG 1 off ln τ C n Y d) : v + (sbN off τ C Y n - asN Y n).toNatClampNeg + meN off ln τ C n (w - (k + 1)) (cutF n Y') = R := by
  rw [← h, show w - k = w - (k + 1) + 1 by omega, cut_sa hG]
  show _ = v + ((sbN off τ C (cutF n Y) n - asN (cutF n Y) n).toNatClampNeg + meN off ln τ C n (w - (k + 1)) (saG 1 off ln τ C n (cutF n Y)))
  rw [show sbN off τ C (cutF n Y) n = sbN off τ C Y n from sb_cg (fun d hd => cut_at hd), show asN (cutF n Y) n = asN Y n from as_cg (fun d hd => cut_at hd), Nat.add_assoc]
theorem me_en {v R : Nat} (h : v + meN off ln τ C n (w - k) (cutF n Y) = R) (hk : w ≤ k) : v = R := by
  rw [show w - k = 0 by omega] at h
  exact h
theorem vn_st {v R : Nat} (h : v + vsF mi off ln τ C n (w - k) (cutF n Y) = R) (hk : k < w) (hG : ∀ d, d < n → Y' d = saG mi off ln τ C n Y d) : v + stN Y n + vsF mi off ln τ C n (w - (k + 1)) (cutF n Y') = R := by
  rw [← h, show w - k = w - (k + 1) + 1 by omega, cut_sa hG]
  show _ = v + (stN (cutF n Y) n + vsF mi off ln τ C n (w - (k + 1)) (saG mi off ln τ C n (cutF n Y)))
  rw [show stN (cutF n Y) n = stN Y n from st_cg (fun d hd => cut_at hd), Nat.add_assoc]
theorem vn_en {v R : Nat} (h : v + vsF mi off ln τ C n (w - k) (cutF n Y) = R) (hk : w ≤ k) : v = R := by
  rw [show w - k = 0 by omega] at h
  exact h
end STS
/-- long fractions -/
theorem lI_toInt {x : Nat} (h : x < 2 ^ 31) : (lI x).toInt = x := by
  unfold lI
  rw [Int32.toInt_toInt64, nI_toInt h]
theorem lI_eq {a b : Int64} (h : a.toInt = b.toInt) : a = b := Int64.toInt_inj.mp h
theorem lI_add {a b : Nat} (h : a + b < 2 ^ 31) : lI a + lI b = lI (a + b) := lI_eq (by
  rw [Int64.toInt_add, lI_toInt (by omega), lI_toInt (by omega), lI_toInt h, Int.bmod_eq_of_le (by omega) (by omega)]
  omega)
theorem lI_me {a x y : Nat} (ha : a < 2 ^ 29) (hx : x < 2 ^ 29) (hy : y < 2 ^ 29) : lI a - (nI x).toInt64 + (nI (x + y)).toInt64 = lI (a + y) := lI_eq (by
  show (lI a - lI x + lI (x + y)).toInt = _
  rw [Int64.toInt_add, Int64.toInt_sub, lI_toInt (by omega), lI_toInt (by omega), lI_toInt (by omega), lI_toInt (by omega), Int.bmod_eq_of_le (n := (a : Int) - x) (by omega) (by omega), Int.bmod_eq_of_le (by omega) (by omega)]
  omega)
theorem lI_div {a b : Nat} (ha : a < 2 ^ 31) (hb : b < 2 ^ 31) : lI a / lI b = lI (a / b) := lI_eq (by
  have h1 : a / b ≤ a := Nat.div_le_self a b
  rw [Int64.toInt_div, lI_toInt ha, lI_toInt hb, lI_toInt (by omega), show ((a : Int).tdiv b) = ((a / b : Nat) : Int) from rfl]
  generalize a / b = q at h1 ⊢
  rw [Int.bmod_eq_of_le (by omega) (by omega)])
theorem lI_rem {a b : Nat} (ha : a < 2 ^ 31) (hb : b < 2 ^ 31) : lI a - lI a / lI b * lI b = lI (a % b) := lI_eq (by
  have h1 : a / b ≤ a := Nat.div_le_self a b
  have h2 : a % b ≤ a := Nat.mod_le a b
  have h3 := Nat.mod_add_div a b
  have h4 : a / b * b ≤ a := Nat.div_mul_le_self a b
  have h5 : ((a / b : Nat) : Int) * (b : Int) = ((a / b * b : Nat) : Int) := by simp
  rw [lI_div ha hb, Int64.toInt_sub, Int64.toInt_mul, lI_toInt ha, lI_toInt (by omega), lI_toInt hb, lI_toInt (by omega), h5, Int.bmod_eq_of_le (n := ((a / b * b : Nat) : Int)) (by omega) (by omega), Int.bmod_eq_of_le (by omega) (by omega)]
  rw [Nat.mul_comm b] at h3
  omega)
theorem lI_0 {b : Nat} (hb : b < 2 ^ 31) : lI b = 0 ↔ b = 0 := by
  constructor
  · intro h
    have := congrArg Int64.toInt h
    rw [lI_toInt hb, show (0 : Int64).toInt = 0 from rfl] at this
    omega
  · intro h
    rw [h]
    rfl
/-- Euclid in at most a hundred steps -/
def euN (a b : Nat) : Nat → Nat × Nat
  | 0 => (a, b)
  | k + 1 => if (euN a b k).2 = 0 then euN a b k else ((euN a b k).2, (euN a b k).1 % (euN a b k).2)
theorem eu_g (a b : Nat) : ∀ k, Nat.gcd (euN a b k).1 (euN a b k).2 = Nat.gcd a b := by
  intro k
  induction k with
  | zero => rfl
  | succ k ih =>
    unfold euN
    split
    · exact ih
    · rename_i h
      exact (gcd_stp h).trans ih
theorem eu_lt (a b : Nat) (hb : b < 2 ^ 31) : ∀ k, k ≤ 31 → (euN a b (2 * k)).2 < 2 ^ (31 - k) ∨ (euN a b (2 * k)).2 = 0 := by
  intro k
  induction k with
  | zero => exact fun _ => Or.inl hb
  | succ k ih =>
    intro hk
    have h := ih (by omega)
    rw [show 2 * (k + 1) = 2 * k + 1 + 1 by omega]
    by_cases c : (euN a b (2 * k)).2 = 0
    · have e1 : euN a b (2 * k + 1) = euN a b (2 * k) := if_pos c
      have e2 : euN a b (2 * k + 1 + 1) = euN a b (2 * k + 1) := if_pos (by rw [e1]; exact c)
      rw [e2, e1]
      exact Or.inr c
    · have e1 : euN a b (2 * k + 1) = ((euN a b (2 * k)).2, (euN a b (2 * k)).1 % (euN a b (2 * k)).2) := if_neg c
      by_cases d : (euN a b (2 * k + 1)).2 = 0
      · have e2 : euN a b (2 * k + 1 + 1) = euN a b (2 * k + 1) := if_pos d
        rw [e2]
        exact Or.inr d
      · have e2 : euN a b (2 * k + 1 + 1) = ((euN a b (2 * k + 1)).2, (euN a b (2 * k + 1)).1 % (euN a b (2 * k + 1)).2) := if_neg d
        rw [e2, e1]
        rw [e1] at d
        refine Or.inl ?_
        have h2 := h.resolve_right c
        rw [show 31 - k = 31 - (k + 1) + 1 by omega] at h2
        exact half_stp h2 d
theorem eu_0 (a b : Nat) (hb : b < 2 ^ 31) : ∀ k, 62 ≤ k → (euN a b k).2 = 0 := by
  have h62 : (euN a b 62).2 = 0 := by
    have := eu_lt a b hb 31 (by omega)
    rw [show 2 * 31 = 62 by omega, show 31 - 31 = 0 by omega] at this
    omega
  intro k
  induction k with
  | zero => exact fun h => by omega
  | succ k ih =>
    intro h
    rcases (show k + 1 = 62 ∨ 62 ≤ k by omega) with q | q
    · rw [q]
      exact h62
    · have e : euN a b (k + 1) = euN a b k := if_pos (ih q)
      rw [e]
      exact ih q
theorem eu_e {a b k : Nat} (hb : b < 2 ^ 31) (h : 100 ≤ k ∨ (euN a b k).2 = 0) : (euN a b k).1 = Nat.gcd a b := by
  have h0 : (euN a b k).2 = 0 := h.elim (fun q => eu_0 a b hb k (by omega)) id
  have := eu_g a b k
  rw [h0, Nat.gcd_zero_right] at this
  exact this
