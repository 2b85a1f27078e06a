/-- a customer of the class as twelve numbers -/
def gX (S : FS) (i q : Nat) : Nat → Int32 := fun k => if k = 0 then nI q else if k < 8 then fF S i (k + 2) else if k < 12 then fA S (i + 18) (k - 8) else 0
/-- bounds -/
def GB (B : Nat) (g : Nat → Int32) : Prop := (∃ t : Nat, t ≤ 20 ∧ g 3 = nI t) ∧ (∃ t : Nat, t ≤ 99 ∧ g 5 = nI t) ∧ (∃ t : Nat, t ≤ B ∧ g 6 = nI t) ∧ (g 7 = 0 ∨ g 7 = 1)
theorem GB.mono {A B : Nat} {g : Nat → Int32} (h : GB A g) (k : A ≤ B) : GB B g := by
  obtain ⟨a, b, ⟨t, c, d⟩, e⟩ := h
  exact ⟨a, b, ⟨t, by omega, d⟩, e⟩
theorem cl_nat (m : Nat) (hm : m < 1000) (x : Int32) : ∃ t : Nat, t ≤ m ∧ cl (nI m) x = nI t := by
  unfold cl
  by_cases a : x < 0
  · rw [if_pos a]
    exact ⟨0, by omega, rfl⟩
  · rw [if_neg a]
    by_cases b : x ≤ nI m
    · rw [if_pos b]
      obtain ⟨j, hj, rfl⟩ := nI_of (x := x) a
      exact ⟨j, (nI_leI (a := j) (b := m) hj (by omega)).mp b, rfl⟩
    · rw [if_neg b]
      exact ⟨m, Nat.le_refl _, rfl⟩
theorem GB.vis {B : Nat} {mi ln mo : Int32} {g : Nat → Int32} (h : GB B g) (hB : B < 1000000) : GB (B + 1) (visF mi ln mo g) := by
  obtain ⟨-, ⟨n, n1, n2⟩, ⟨x, x1, x2⟩, h7⟩ := h
  refine ⟨cl_nat 20 (by decide) _, ?_, ?_, ?_⟩
  · show ∃ t : Nat, t ≤ 99 ∧ nsF mo g = nI t
    unfold nsF
    split
    · rename_i c
      rw [n2] at c ⊢
      exact ⟨n + 1, (nI_ltI (a := n) (b := 99) (by omega) (by omega)).mp c.2, nI_1 n⟩
    · exact ⟨n, n1, n2⟩
  · show ∃ t : Nat, t ≤ B + 1 ∧ (if ¬ mi = 0 ∨ g 6 < 9999 then g 6 + 1 else g 6) = nI t
    split
    · exact ⟨x + 1, by omega, by rw [x2]; exact nI_1 x⟩
    · exact ⟨x, by omega, x2⟩
  · show (if letF g < mo ∧ g 0 = 5 ∧ 3 ≤ nsF mo g then 1 else g 7) = 0 ∨ (if letF g < mo ∧ g 0 = 5 ∧ 3 ≤ nsF mo g then 1 else g 7) = 1
    split
    · exact Or.inr rfl
    · exact h7
theorem mx_m (m y : Int32) : (if m < y then y else m) = mx m y := by
  unfold mx
  by_cases a : m < y
  · rw [if_pos a, if_neg (fun b => Int32.lt_irrefl (Int32.lt_trans a b))]
  · rw [if_neg a]
    by_cases b : y < m
    · rw [if_pos b]
    · rw [if_neg b]
      exact Int32.le_antisymm (Int32.not_lt.mp b) (Int32.not_lt.mp a)
theorem mn_m (m y : Int32) (h : 0 ≤ m) : (if (if 0 < y then y else 0) < m then (if 0 < y then y else 0) else m) = cl m y := by
  unfold cl
  by_cases a : y < 0
  · rw [if_pos a, if_neg (fun b => Int32.lt_irrefl (Int32.lt_trans a b))]
    by_cases b : 0 < m
    · rw [if_pos b]
    · rw [if_neg b]
      exact Int32.le_antisymm (Int32.not_lt.mp b) h
  · rw [if_neg a]
    have e : (if 0 < y then y else 0) = y := by
      by_cases b : 0 < y
      · rw [if_pos b]
      · rw [if_neg b]
        exact Int32.le_antisymm (Int32.not_lt.mp a) (Int32.not_lt.mp b)
    rw [e]
    by_cases c : y ≤ m
    · rw [if_pos c]
      by_cases d : y < m
      · rw [if_pos d]
      · rw [if_neg d]
        exact Int32.le_antisymm (Int32.not_lt.mp d) c
    · rw [if_neg c, if_neg (fun d => c (Int32.le_of_lt d))]
section KX_
variable {S : FS} {i : Nat}
theorem aX_0 : askF (gX S i 0) = fF S i 4 := ask_d (g := gX S i 0) (show ¬ nI 0 = 1 by decide) (show ¬ nI 0 = 3 by decide) (show ¬ nI 0 = 4 by decide) (show ¬ nI 0 = 6 by decide)
theorem aX_1 : askF (gX S i 1) = if 1 < fF S i 4 - fF S i 6 then fF S i 4 - fF S i 6 else 1 := (ask_1 (g := gX S i 1) rfl).trans (mx_m _ _).symm
theorem aX_2 : askF (gX S i 2) = fF S i 4 := ask_d (g := gX S i 2) (show ¬ nI 2 = 1 by decide) (show ¬ nI 2 = 3 by decide) (show ¬ nI 2 = 4 by decide) (show ¬ nI 2 = 6 by decide)
theorem aX_3 : askF (gX S i 3) = fF S i 4 / 2 := ask_3 (g := gX S i 3) rfl
theorem aX_4 : askF (gX S i 4) = mx 1 (mx 1 (fF S i 4 - fF S i 6) - 2) := ask_4 (g := gX S i 4) rfl
theorem aX_5 : askF (gX S i 5) = fF S i 4 := ask_d (g := gX S i 5) (show ¬ nI 5 = 1 by decide) (show ¬ nI 5 = 3 by decide) (show ¬ nI 5 = 4 by decide) (show ¬ nI 5 = 6 by decide)
theorem aX_6 {x : Nat} (hx : fF S i 8 = nI x) (hx2 : x < 1000000) : askF (gX S i 6) = fF S i 4 / 2 + fA S (i + 18) (x % 4) := by
  refine (ask_6 (g := gX S i 6) (x := x) rfl hx hx2).trans ?_
  unfold gX
  rw [if_neg (by omega), if_pos (by omega), if_neg (by omega), if_neg (by omega), if_pos (by omega), show 8 + x % 4 - 8 = x % 4 by omega]
theorem lX_0 : letF (gX S i 0) = fF S i 3 := let_0 (g := gX S i 0) rfl
theorem lX_1 : letF (gX S i 1) = fF S i 3 / 2 := let_1 (g := gX S i 1) rfl
theorem lX_2 : letF (gX S i 2) = fF S i 3 * 2 := (let_2 (g := gX S i 2) rfl).trans (Int32.mul_comm _ _)
theorem lX_3 : letF (gX S i 3) = 99 := let_3 (g := gX S i 3) rfl
theorem lX_4 : letF (gX S i 4) = mx 0 (fF S i 3 / 2 - fF S i 6) := let_4 (g := gX S i 4) rfl
theorem lX_5 : letF (gX S i 5) = fF S i 3 * 2 := (let_5 (g := gX S i 5) rfl).trans (Int32.mul_comm _ _)
theorem lX_6 : letF (gX S i 6) = 99 := let_d (g := gX S i 6) (show ¬ nI 6 = 0 by decide) (show ¬ nI 6 = 1 by decide) (show ¬ nI 6 = 2 by decide) (show ¬ nI 6 = 4 by decide) (show ¬ nI 6 = 5 by decide)
end KX_
theorem x4_nn {x : Nat} (hx : x < 1000000) : 0 ≤ nI x ^^^ 4 := by
  have e : (nI x ^^^ 4 : Int32) = nI (x ^^^ 4) := by
    apply Int32.toBitVec_inj.mp
    show BitVec.ofNat 32 x ^^^ BitVec.ofNat 32 4 = BitVec.ofNat 32 (x ^^^ 4)
    rw [BitVec.ofNat_xor]
  have hl : x ^^^ 4 < 2 ^ 20 := Nat.xor_lt_two_pow (by omega) (by decide)
  rw [e]
  exact (nI_leI (a := 0) (b := x ^^^ 4) (by omega) (by omega)).mpr (Nat.zero_le _)
theorem fm_y {a b : Int32} {x : Nat} (ha : a = nI x) (hb : b = 4) (hx : x < 1000000) : a - a / b * b = nI (x % 4) := by
  subst ha
  subst hb
  exact pk_rem (a := x) (d := 4) (by omega) (by omega) (by omega)
theorem bo_y {mo : Int32} {g : Nat → Int32} (h : letF g < mo) : boF mo g = askF g + mo / 2 := by unfold boF; rw [if_pos h]
theorem bo_n {mo : Int32} {g : Nat → Int32} (h : ¬ letF g < mo) : boF mo g = askF g + mo := by unfold boF; rw [if_neg h]
theorem ns_b {n : Nat} (hn : n ≤ 99) : (if nI n + 1 < 99 then nI n + 1 else 99) = if nI n < 99 then nI n + 1 else nI n := by
  rw [nI_1]
  by_cases a : n < 98
  · rw [if_pos (show nI (n + 1) < 99 from (nI_ltI (a := n + 1) (b := 99) (by omega) (by omega)).mpr (by omega)), if_pos (show nI n < 99 from (nI_ltI (a := n) (b := 99) (by omega) (by omega)).mpr (by omega))]
  · by_cases b : n = 98
    · subst b
      rfl
    · obtain rfl : n = 99 := by omega
      rfl
theorem tr_no {t : Nat} (ht : t ≤ 20) : mx 0 (nI t - 2) = cl 20 (nI t + -2) := by
  rw [← Int32.sub_eq_add_neg]
  unfold mx cl
  by_cases a : nI t - 2 < 0
  · rw [if_pos a, if_pos a]
  · rw [if_neg a, if_neg a]
    have : ∀ t : Nat, t ≤ 20 → nI t - 2 ≤ 20 := by decide
    rw [if_pos (this t ht)]
theorem tr_ye {t l : Nat} (ht : t ≤ 20) (hl : l ≤ 99) : (if nI t + nI l < 20 then nI t + nI l else 20) = cl 20 (nI t + nI l) := by
  rw [nI_add]
  unfold cl
  rw [if_neg (show ¬ nI (t + l) < 0 from Int32.not_lt.mpr ((nI_leI (a := 0) (b := t + l) (by omega) (by omega)).mpr (Nat.zero_le _)))]
  by_cases a : t + l < 20
  · rw [if_pos (show nI (t + l) < 20 from (nI_ltI (a := t + l) (b := 20) (by omega) (by omega)).mpr a), if_pos (show nI (t + l) ≤ 20 from (nI_leI (a := t + l) (b := 20) (by omega) (by omega)).mpr (by omega))]
  · rw [if_neg (fun q : nI (t + l) < 20 => a ((nI_ltI (a := t + l) (b := 20) (by omega) (by omega)).mp q))]
    by_cases b : t + l ≤ 20
    · obtain e : t + l = 20 := by omega
      rw [e]
      rfl
    · rw [if_neg (fun q : nI (t + l) ≤ 20 => b ((nI_leI (a := t + l) (b := 20) (by omega) (by omega)).mp q))]
theorem lv_5 (x : Int32) : (if 3 ≤ x then 1 else 0 : Int32) = if nI 5 = 5 ∧ 3 ≤ x then 1 else 0 := by
  by_cases a : 3 ≤ x
  · rw [if_pos a, if_pos ⟨rfl, a⟩]
  · rw [if_neg a, if_neg (fun q => a q.2)]
theorem lv_n {n : Nat} (x : Int32) (h : ¬ nI n = 5) : (0 : Int32) = if nI n = 5 ∧ 3 ≤ x then 1 else 0 := (if_neg (fun q => h q.1)).symm
theorem vis_61 {ln mo : Int32} {g : Nat → Int32} : visF 1 ln mo g 6 = g 6 + 1 := by
  show (if ¬ (1 : Int32) = 0 ∨ g 6 < 9999 then g 6 + 1 else g 6) = _
  exact if_pos (Or.inl (by decide))
/-- a visit's numbers, where one says no; where one doesn't -/
theorem mv_no {B : Nat} {S S' : FS} {i q : Nat} {ln mo : Int32} (hB : GB B (gX S i q)) (hY : letF (gX S i q) < mo)
    (h5 : fF S' i 5 = mx 0 (fF S i 5 - 2)) (h6 : fF S' i 6 = cl 99 (boF mo (gX S i q) - fF S i 4)) (h7 : fF S' i 7 = if fF S i 7 + 1 < 99 then fF S i 7 + 1 else 99) (h8 : fF S' i 8 = fF S i 8 + 1) (h9 : fF S' i 9 = if nI q = 5 ∧ 3 ≤ fF S' i 7 then 1 else fF S i 9) :
    ∀ k, 3 ≤ k → k ≤ 7 → gX S' i q k = visF 1 ln mo (gX S i q) k := by
  obtain ⟨⟨t, t1, t2⟩, ⟨n, n1, n2⟩, -, -⟩ := hB
  have e5 : fF S i 5 = nI t := t2
  have e7 : fF S i 7 = nI n := n2
  have hns : fF S' i 7 = nsF mo (gX S i q) := by
    rw [h7, e7, ns_b n1]
    unfold nsF
    rw [show gX S i q 5 = nI n from n2]
    by_cases a : nI n < 99
    · rw [if_pos a, if_pos ⟨hY, a⟩]
    · rw [if_neg a, if_neg (fun z => a z.2)]
  intro k a b
  rcases (show k = 3 ∨ k = 4 ∨ k = 5 ∨ k = 6 ∨ k = 7 by omega) with rfl | rfl | rfl | rfl | rfl
  · show fF S' i 5 = cl 20 (fF S i 5 + if letF (gX S i q) < mo then -2 else ln)
    rw [h5, if_pos hY, e5]
    exact tr_no t1
  · exact h6
  · exact hns
  · exact h8.trans (vis_61 (ln := ln) (mo := mo) (g := gX S i q)).symm
  · show fF S' i 9 = if letF (gX S i q) < mo ∧ nI q = 5 ∧ 3 ≤ nsF mo (gX S i q) then 1 else fF S i 9
    rw [h9, hns]
    by_cases c : nI q = 5 ∧ 3 ≤ nsF mo (gX S i q)
    · rw [if_pos c, if_pos ⟨hY, c⟩]
    · rw [if_neg c, if_neg (fun z => c z.2)]
theorem mv_ye {B l : Nat} {S S' : FS} {i q : Nat} {mo : Int32} (hB : GB B (gX S i q)) (hN : ¬ letF (gX S i q) < mo) (hl : l ≤ 99)
    (h5 : fF S' i 5 = if fF S i 5 + nI l < 20 then fF S i 5 + nI l else 20) (h6 : fF S' i 6 = cl 99 (boF mo (gX S i q) - fF S i 4)) (h7 : fF S' i 7 = fF S i 7) (h8 : fF S' i 8 = fF S i 8 + 1) (h9 : fF S' i 9 = fF S i 9) :
    ∀ k, 3 ≤ k → k ≤ 7 → gX S' i q k = visF 1 (nI l) mo (gX S i q) k := by
  obtain ⟨⟨t, t1, t2⟩, -, -, -⟩ := hB
  have e5 : fF S i 5 = nI t := t2
  intro k a b
  rcases (show k = 3 ∨ k = 4 ∨ k = 5 ∨ k = 6 ∨ k = 7 by omega) with rfl | rfl | rfl | rfl | rfl
  · show fF S' i 5 = cl 20 (fF S i 5 + if letF (gX S i q) < mo then -2 else nI l)
    rw [h5, if_neg hN, e5]
    exact tr_ye t1 hl
  · exact h6
  · show fF S' i 7 = nsF mo (gX S i q)
    rw [h7]
    exact (if_neg (fun z => hN z.1)).symm
  · exact h8.trans (vis_61 (ln := nI l) (mo := mo) (g := gX S i q)).symm
  · show fF S' i 9 = if letF (gX S i q) < mo ∧ nI q = 5 ∧ 3 ≤ nsF mo (gX S i q) then 1 else fF S i 9
    rw [h9, if_neg (fun z => hN z.1)]
theorem sno_e {S U : FS} {i q : Nat} {x ns : Int32} (h6 : fF U i 6 = fF S i 6) (h8 : fF U i 8 = fF S i 8) (h7 : fF U i 7 = ns) (h5 : fF U i 5 = mx 0 (fF S i 5 - 2)) (hx : x = ns)
    (h9 : ((if nI q = 5 ∧ 3 ≤ x then 1 else 0 : Int32) = 0 ∧ fF U i 9 = fF S i 9) ∨ (¬ (if nI q = 5 ∧ 3 ≤ x then 1 else 0 : Int32) = 0 ∧ fF U i 9 = 1)) :
    fF U i 6 = fF S i 6 ∧ fF U i 8 = fF S i 8 ∧ fF U i 7 = ns ∧ fF U i 5 = mx 0 (fF S i 5 - 2) ∧ fF U i 9 = if nI q = 5 ∧ 3 ≤ fF U i 7 then 1 else fF S i 9 := by
  refine ⟨h6, h8, h7, h5, ?_⟩
  rw [h7]
  subst hx
  by_cases c : nI q = 5 ∧ 3 ≤ x
  · rw [if_pos c]
    rcases h9 with ⟨a, b⟩ | ⟨a, b⟩
    · rw [if_pos c] at a
      exact absurd a (by decide)
    · exact b
  · rw [if_neg c]
    rcases h9 with ⟨a, b⟩ | ⟨a, b⟩
    · exact b
    · rw [if_neg c] at a
      exact absurd rfl a
/-- alone, visit after visit; who is gone stays -/
def vsG {α : Type} (mi off ln : Int32) (τ : Nat → Int32) (C : ClA α) (c : Int32) (g : Nat → Int32) : Nat → Int32 := if g 7 = 1 then g else visF mi ln (moF off τ C c g) g
def boG {α : Type} (off : Int32) (τ : Nat → Int32) (C : ClA α) (c : Int32) (g : Nat → Int32) : Int32 := if g 7 = 1 then 0 else boF (moF off τ C c g) g
def alN {α : Type} (mi off ln : Int32) (τ : Nat → Int32) (C : ClA α) (c : Int32) : Nat → (Nat → Int32) → Int32 × (Nat → Int32)
  | 0, g => (0, g)
  | n + 1, g => (boG off τ C c g + (alN mi off ln τ C c n (vsG mi off ln τ C c g)).1, (alN mi off ln τ C c n (vsG mi off ln τ C c g)).2)
section AL
variable {α : Type} {mi off ln : Int32} {τ : Nat → Int32} {C : ClA α} {c : Int32}
theorem al_gone : ∀ (n : Nat) (g : Nat → Int32), g 7 = 1 → alN mi off ln τ C c n g = (0, g) := by
  intro n
  induction n with
  | zero => exact fun _ _ => rfl
  | succ n ih =>
    intro g h
    have e : vsG mi off ln τ C c g = g := if_pos h
    show (boG off τ C c g + (alN mi off ln τ C c n (vsG mi off ln τ C c g)).1, (alN mi off ln τ C c n (vsG mi off ln τ C c g)).2) = _
    rw [e, ih g h]
    show (boG off τ C c g + 0, g) = _
    rw [show boG off τ C c g = 0 from if_pos h]
    rfl
theorem al_step {n k : Nat} {v : Int32} {g g' : Nat → Int32} {R : Int32 × (Nat → Int32)} (hk : k < n) (hg : ¬ g 7 = 1) (h : (v + (alN mi off ln τ C c (n - k) g).1, (alN mi off ln τ C c (n - k) g).2) = R) (e : g' = visF mi ln (moF off τ C c g) g) : (v + boF (moF off τ C c g) g + (alN mi off ln τ C c (n - (k + 1)) g').1, (alN mi off ln τ C c (n - (k + 1)) g').2) = R := by
  rw [show n - k = n - (k + 1) + 1 by omega] at h
  rw [← h, e]
  show _ = (v + (boG off τ C c g + (alN mi off ln τ C c (n - (k + 1)) (vsG mi off ln τ C c g)).1), (alN mi off ln τ C c (n - (k + 1)) (vsG mi off ln τ C c g)).2)
  rw [show vsG mi off ln τ C c g = visF mi ln (moF off τ C c g) g from if_neg hg, show boG off τ C c g = boF (moF off τ C c g) g from if_neg hg, Int32.add_assoc]
theorem al_end {n k : Nat} {v : Int32} {g : Nat → Int32} {R : Int32 × (Nat → Int32)} (h : (v + (alN mi off ln τ C c (n - k) g).1, (alN mi off ln τ C c (n - k) g).2) = R) (hc : n ≤ k ∨ g 7 = 1) : (v, g) = R := by
  have e : alN mi off ln τ C c (n - k) g = (0, g) := by
    rcases hc with q | q
    · rw [show n - k = 0 by omega]
      rfl
    · exact al_gone _ _ q
  rw [← h, e]
  show (v, g) = (v + 0, g)
  rw [Int32.add_zero]
end AL
theorem gx_of {P : Nat → Nat → Prop} {S S' : FS} {i q : Nat} {f : Nat → Int32} (hF : Fr P S S') (hi : i < 39) (n1 : ¬ P i 3) (n2 : ¬ P i 4) (n3 : ¬ P (i + 18) 99) (h : ∀ k, 3 ≤ k → k ≤ 7 → gX S' i q k = f k) (hf : ∀ k, (k < 3 ∨ 7 < k) → f k = gX S i q k) : gX S' i q = f := by
  funext k
  by_cases a : 3 ≤ k ∧ k ≤ 7
  · exact h k a.1 a.2
  · rw [hf k (by omega)]
    unfold gX
    by_cases b : k = 0
    · rw [if_pos b, if_pos b]
    · rw [if_neg b, if_neg b]
      by_cases d : k < 8
      · rw [if_pos d, if_pos d]
        rcases (show k = 1 ∨ k = 2 by omega) with rfl | rfl
        · exact hF.F (lt71 (by omega)) n1
        · exact hF.F (lt71 (by omega)) n2
      · rw [if_neg d, if_neg d, hF.A (lt71 (by omega)) n3]
theorem vis_out {mi ln mo : Int32} {g : Nat → Int32} {k : Nat} (h : k < 3 ∨ 7 < k) : visF mi ln mo g k = g k := by
  unfold visF
  rw [if_neg (by omega), if_neg (by omega), if_neg (by omega), if_neg (by omega), if_neg (by omega)]
