def b2n (b : Bool) : Nat := if b = true then 1 else 0
/-- what a reading says by the tests E -/
def vaA (E : Int32 → Int32 → Bool) : Al Bool := (E, fun a => !a, fun a b => a && b, fun a b => a || b)
/-- one code, on the bits that wait -/
def stp1 (E : Int32 → Int32 → Bool) (c : Int32 × Int32) (x : Nat) : Nat := if c.1 = 18 then (if x % 2 = 0 then x + 1 else x - 1) else if c.1 = 19 then (if x % 2 = 1 then x / 2 else x / 2 - x / 2 % 2) else if c.1 = 20 then (if x % 2 = 1 ∧ x / 2 % 2 = 0 then x / 2 + 1 else x / 2) else 2 * x + b2n (E c.1 c.2)
def exe (E : Int32 → Int32 → Bool) : List (Int32 × Int32) → Nat → Nat
  | [], x => x
  | c :: L, x => exe E L (stp1 E c x)
def bnd (E : Int32 → Int32 → Bool) (B : Nat) : List (Int32 × Int32) → Nat → Prop
  | [], x => x < B
  | c :: L, x => x < B ∧ bnd E B L (stp1 E c x)
section EXE
variable {E : Int32 → Int32 → Bool}
theorem exe_app (L M : List (Int32 × Int32)) : ∀ x, exe E (L ++ M) x = exe E M (exe E L x) := by
  induction L with
  | nil => exact fun _ => rfl
  | cons c L ih => exact fun x => ih _
theorem bnd_app {B : Nat} {L M : List (Int32 × Int32)} : ∀ {x : Nat}, bnd E B L x → bnd E B M (exe E L x) → bnd E B (L ++ M) x := by
  induction L with
  | nil => exact fun _ k => k
  | cons c L ih => exact fun h k => ⟨h.1, ih h.2 k⟩
theorem bnd_mono {B B' : Nat} (hb : B ≤ B') {L : List (Int32 × Int32)} : ∀ {x : Nat}, bnd E B L x → bnd E B' L x := by
  induction L with
  | nil => exact fun h => Nat.lt_of_lt_of_le h hb
  | cons c L ih => exact fun h => ⟨Nat.lt_of_lt_of_le h.1 hb, ih h.2⟩
theorem b2n_2 (b : Bool) : b2n b < 2 := by cases b <;> decide
/-- codes that put one bit, at most h of them waiting at once -/
def Put (E : Int32 → Int32 → Bool) (h : Nat) (v : List (Int32 × Int32) × Bool) : Prop := (∀ x, exe E v.1 x = 2 * x + b2n v.2) ∧ (∀ x j, x < 2 ^ j → bnd E (2 ^ (j + h)) v.1 x) ∧ ∀ c ∈ v.1, ¬ c.1 = 21
theorem put_mono {h h' : Nat} (hh : h ≤ h') {v : List (Int32 × Int32) × Bool} (k : Put E h v) : Put E h' v := ⟨k.1, fun x j hx => bnd_mono (Nat.pow_le_pow_right (by decide) (by omega)) (k.2.1 x j hx), k.2.2⟩
theorem two_lt {x j b : Nat} (hx : x < 2 ^ j) (hb : b < 2) : 2 * x + b < 2 ^ (j + 1) := by
  rw [Nat.pow_succ]
  omega
theorem put_t {c n : Int32} (h1 : ¬ c = 18) (h2 : ¬ c = 19) (h3 : ¬ c = 20) (h4 : ¬ c = 21) : Put E 1 ([(c, n)], E c n) := by
  have e : ∀ x, stp1 E (c, n) x = 2 * x + b2n (E c n) := fun x => by
    unfold stp1
    rw [if_neg h1, if_neg h2, if_neg h3]
  refine ⟨e, fun x j hx => ⟨Nat.lt_of_lt_of_le hx (Nat.pow_le_pow_right (by decide) (by omega)), ?_⟩, fun d hd => by rw [List.mem_singleton.mp hd]; exact h4⟩
  show stp1 E (c, n) x < _
  rw [e]
  exact two_lt hx (b2n_2 _)
theorem put_n {h : Nat} (h1 : 1 ≤ h) {v : List (Int32 × Int32) × Bool} (k : Put E h v) : Put E h (v.1 ++ [(18, 0)], !v.2) := by
  have e : ∀ x, stp1 E (18, 0) (2 * x + b2n v.2) = 2 * x + b2n (!v.2) := fun x => by
    unfold stp1
    rw [if_pos rfl]
    cases v.2
    · show (if (2 * x + 0) % 2 = 0 then _ else _) = 2 * x + 1
      rw [if_pos (by omega)]
      rfl
    · show (if (2 * x + 1) % 2 = 0 then _ else _) = 2 * x + 0
      rw [if_neg (by omega)]
      rfl
  refine ⟨fun x => ?_, fun x j hx => bnd_app (k.2.1 x j hx) ⟨?_, ?_⟩, fun d hd => (List.mem_append.mp hd).elim (k.2.2 d) (fun q => by rw [List.mem_singleton.mp q]; exact (by decide : ¬ (18 : Int32) = 21))⟩
  · rw [exe_app, k.1]
    exact e x
  · rw [k.1]
    exact Nat.lt_of_lt_of_le (two_lt hx (b2n_2 _)) (Nat.pow_le_pow_right (by decide) (by omega))
  · show stp1 E (18, 0) (exe E v.1 x) < _
    rw [k.1, e]
    exact Nat.lt_of_lt_of_le (two_lt hx (b2n_2 _)) (Nat.pow_le_pow_right (by decide) (by omega))
theorem put_b {h : Nat} {v w : List (Int32 × Int32) × Bool} {c : Int32} {r : Bool} (h21 : ¬ c = 21) (k : Put E (h + 1) v) (m : Put E h w) (e : ∀ x, stp1 E (c, 0) (2 * (2 * x + b2n v.2) + b2n w.2) = 2 * x + b2n r) : Put E (h + 1) (v.1 ++ w.1 ++ [(c, 0)], r) := by
  refine ⟨fun x => ?_, fun x j hx => bnd_app (bnd_app (k.2.1 x j hx) ?_) ⟨?_, ?_⟩, fun d hd => (List.mem_append.mp hd).elim (fun hd => (List.mem_append.mp hd).elim (k.2.2 d) (m.2.2 d)) (fun q => by rw [List.mem_singleton.mp q]; exact h21)⟩
  · rw [exe_app, exe_app, k.1, m.1]
    exact e x
  · rw [k.1]
    have := m.2.1 (2 * x + b2n v.2) (j + 1) (two_lt hx (b2n_2 _))
    rw [show j + 1 + h = j + (h + 1) by omega] at this
    exact this
  · have := m.2.1 (2 * x + b2n v.2) (j + 1) (two_lt hx (b2n_2 _))
    rw [exe_app, k.1]
    have l : ∀ (L : List (Int32 × Int32)) (y B : Nat), bnd E B L y → exe E L y < B := by
      intro L
      induction L with
      | nil => exact fun _ _ h => h
      | cons c L ih => exact fun y B h => ih _ _ h.2
    rw [show j + (h + 1) = j + 1 + h by omega]
    exact l _ _ _ this
  · show stp1 E (c, 0) (exe E (v.1 ++ w.1) x) < _
    rw [exe_app, k.1, m.1, e]
    exact Nat.lt_of_lt_of_le (two_lt hx (b2n_2 _)) (Nat.pow_le_pow_right (by decide) (by omega))
theorem st_and (x : Nat) (b c : Bool) : (if (2 * (2 * x + b2n b) + b2n c) % 2 = 1 then (2 * (2 * x + b2n b) + b2n c) / 2 else (2 * (2 * x + b2n b) + b2n c) / 2 - (2 * (2 * x + b2n b) + b2n c) / 2 % 2) = 2 * x + b2n (b && c) := by
  have h0 : b2n false = 0 := rfl
  have h1 : b2n true = 1 := rfl
  cases b <;> cases c <;> simp only [Bool.and_true, Bool.and_false, h0, h1] <;> split <;> omega
theorem st_or (x : Nat) (b c : Bool) : (if (2 * (2 * x + b2n b) + b2n c) % 2 = 1 ∧ (2 * (2 * x + b2n b) + b2n c) / 2 % 2 = 0 then (2 * (2 * x + b2n b) + b2n c) / 2 + 1 else (2 * (2 * x + b2n b) + b2n c) / 2) = 2 * x + b2n (b || c) := by
  have h0 : b2n false = 0 := rfl
  have h1 : b2n true = 1 := rfl
  cases b <;> cases c <;> simp only [Bool.or_true, Bool.or_false, h0, h1] <;> split <;> omega
theorem put_a {h : Nat} {v w : List (Int32 × Int32) × Bool} (k : Put E (h + 1) v) (m : Put E h w) : Put E (h + 1) (v.1 ++ w.1 ++ [(19, 0)], v.2 && w.2) := by
  refine put_b (by decide) k m (fun x => ?_)
  unfold stp1
  rw [if_neg (by decide), if_pos rfl]
  exact st_and x v.2 w.2
theorem put_o {h : Nat} {v w : List (Int32 × Int32) × Bool} (k : Put E (h + 1) v) (m : Put E h w) : Put E (h + 1) (v.1 ++ w.1 ++ [(20, 0)], v.2 || w.2) := by
  refine put_b (by decide) k m (fun x => ?_)
  unfold stp1
  rw [if_neg (by decide), if_neg (by decide), if_pos rfl]
  exact st_or x v.2 w.2
/-- codes and what they say, at once -/
def pvA (E : Int32 → Int32 → Bool) : Al (List (Int32 × Int32) × Bool) := (fun c n => ([(c, n)], E c n), fun v => (v.1 ++ [(18, 0)], !v.2), fun v w => (v.1 ++ w.1 ++ [(19, 0)], v.2 && w.2), fun v w => (v.1 ++ w.1 ++ [(20, 0)], v.2 || w.2))
theorem hom_pv1 (E : Int32 → Int32 → Bool) : HOM (pvA E) cdA Prod.fst := ⟨fun _ _ => rfl, fun _ => rfl, fun _ _ => rfl, fun _ _ => rfl⟩
theorem hom_pv2 (E : Int32 → Int32 → Bool) : HOM (pvA E) (vaA E) Prod.snd := ⟨fun _ _ => rfl, fun _ => rfl, fun _ _ => rfl, fun _ _ => rfl⟩
theorem lix_r {c : Int32} (h : ¬ lix c < 0) : ∃ k : Nat, k < 6 ∧ lix c = nI k := by
  unfold lix at h ⊢
  split
  · exact ⟨0, by omega, rfl⟩
  · rename_i a1; rw [if_neg a1] at h; split
    · exact ⟨1, by omega, rfl⟩
    · rename_i a2; rw [if_neg a2] at h; split
      · exact ⟨2, by omega, rfl⟩
      · rename_i a3; rw [if_neg a3] at h; split
        · exact ⟨3, by omega, rfl⟩
        · rename_i a4; rw [if_neg a4] at h; split
          · exact ⟨4, by omega, rfl⟩
          · rename_i a5; rw [if_neg a5] at h; split
            · exact ⟨5, by omega, rfl⟩
            · rename_i a6; rw [if_neg a6] at h; exact absurd (by decide) h
theorem cix_r {c : Int32} (h : ¬ cix c < 0) : ∃ k : Nat, k < 3 ∧ cix c = nI k := by
  unfold cix at h ⊢
  split
  · exact ⟨0, by omega, rfl⟩
  · rename_i a1; rw [if_neg a1] at h; split
    · exact ⟨1, by omega, rfl⟩
    · rename_i a2; rw [if_neg a2] at h; split
      · exact ⟨2, by omega, rfl⟩
      · rename_i a3; rw [if_neg a3] at h; exact absurd (by decide) h
theorem code_r {c d : Int32} (h : ¬ lix c < 0) (k : ¬ cix d < 0) : ∃ i j : Nat, i < 6 ∧ j < 3 ∧ lix c = nI i ∧ cix d = nI j ∧ lix c * 3 + cix d = nI (3 * i + j) := by
  obtain ⟨i, hi, ei⟩ := lix_r h
  obtain ⟨j, hj, ej⟩ := cix_r k
  refine ⟨i, j, hi, hj, ei, ej, ?_⟩
  rw [ei, ej, show (3 : Int32) = nI 3 from rfl, pk_mul, nI_add, Nat.mul_comm]
def PutR (E : Int32 → Int32 → Bool) (h : Nat) (F : Nat → Option (List (Int32 × Int32) × Bool) × Nat) : Prop := ∀ p v, (F p).1 = some v → Put E h v
theorem put_tst {τ : Nat → Int32} : PutR E 1 (tstP (pvA E) τ) := by
  intro p v h
  unfold tstP at h
  split at h
  · cases h
  · rename_i c1
    split at h
    · cases h
    · rename_i c2
      obtain ⟨i, j, hi, hj, -, -, e⟩ := code_r c1 c2
      cases q : (numP τ (p + 2)).1 with
      | none => rw [thn_n q] at h; cases h
      | some n =>
        rw [thn_s q] at h
        cases h
        have ne : ∀ m : Nat, 18 ≤ m → m < 100 → ¬ lix (τ p) * 3 + cix (τ (p + 1)) = nI m := fun m h1 h2 x => by
          rw [e] at x
          have := (nI_eq (by omega) (by omega)).mp x
          omega
        exact put_t (ne 18 (by omega) (by omega)) (ne 19 (by omega) (by omega)) (ne 20 (by omega) (by omega)) (ne 21 (by omega) (by omega))
theorem put_seq {h : Nat} {F : Nat → Option (List (Int32 × Int32) × Bool) × Nat} {op : List (Int32 × Int32) × Bool → List (Int32 × Int32) × Bool → List (Int32 × Int32) × Bool} {sep : Int32} {τ : Nat → Int32} (hF : PutR E h F) (ho : ∀ v w, Put E (h + 1) v → Put E h w → Put E (h + 1) (op v w)) : ∀ (k : Nat) (v : List (Int32 × Int32) × Bool) (p : Nat) (w : List (Int32 × Int32) × Bool), Put E (h + 1) v → (seqP F op sep τ k v p).1 = some w → Put E (h + 1) w := by
  intro k
  induction k with
  | zero => intro v p w hv e; cases e; exact hv
  | succ k ih =>
    intro v p w hv e
    unfold seqP at e
    split at e
    · cases q : (F (p + 1)).1 with
      | none => rw [thn_n q] at e; cases e
      | some y =>
        rw [thn_s q] at e
        exact ih _ _ _ (ho v y hv (hF _ _ q)) e
    · cases e
      exact hv
theorem put_all {h : Nat} {F : Nat → Option (List (Int32 × Int32) × Bool) × Nat} {τ : Nat → Int32} (hF : PutR E h F) : PutR E (h + 1) (allP (pvA E) F τ) := by
  intro p v e
  unfold allP at e
  cases q : (F p).1 with
  | none => rw [thn_n q] at e; cases e
  | some y =>
    rw [thn_s q] at e
    exact put_seq hF (fun v w a b => put_a a b) 100 y _ v (put_mono (by omega) (hF _ _ q)) e
theorem put_any {h : Nat} {F : Nat → Option (List (Int32 × Int32) × Bool) × Nat} {τ : Nat → Int32} (hF : PutR E h F) : PutR E (h + 2) (anyP (pvA E) F τ) := by
  intro p v e
  unfold anyP at e
  cases q : (allP (pvA E) F τ p).1 with
  | none => rw [thn_n q] at e; cases e
  | some y =>
    rw [thn_s q] at e
    exact put_seq (put_all hF) (fun v w a b => put_o a b) 100 y _ v (put_mono (by omega) (put_all hF _ _ q)) e
theorem put_one {τ : Nat → Int32} : ∀ d : Nat, PutR E (2 * d + 1) (oneP (pvA E) τ d) := by
  intro d
  induction d with
  | zero => exact put_tst
  | succ d ih =>
    intro p v e
    unfold oneP at e
    split at e
    · cases q : (oneP (pvA E) τ d (p + 1)).1 with
      | none => rw [thn_n q] at e; cases e
      | some y =>
        rw [thn_s q] at e
        cases e
        exact put_mono (by omega) (put_n (by omega) (ih _ _ q))
    · split at e
      · cases q : (anyP (pvA E) (oneP (pvA E) τ d) τ (p + 1)).1 with
        | none => rw [thn_n q] at e; cases e
        | some y =>
          rw [thn_s q] at e
          split at e
          · cases e
            exact put_mono (by omega) (put_any ih _ _ q)
          · cases e
      · exact put_mono (by omega) (put_tst p v e)
/-- the codes of an expression say what the expression says -/
theorem codes_say {τ : Nat → Int32} {a q : Nat} {L : List (Int32 × Int32)} (h : anyP cdA (oneP cdA τ 4) τ a = (some L, q)) : ∃ b, anyP (vaA E) (oneP (vaA E) τ 4) τ a = (some b, q) ∧ Put E 11 (L, b) := by
  have e1 := ex_mp (τ := τ) (hom_pv1 E) 4 a
  have e2 := ex_mp (τ := τ) (hom_pv2 E) 4 a
  obtain ⟨o, q', e⟩ : ∃ o q', anyP (pvA E) (oneP (pvA E) τ 4) τ a = (o, q') := ⟨_, _, rfl⟩
  rw [e, h] at e1
  rw [e] at e2
  cases o with
  | none => cases congrArg Prod.fst e1
  | some v =>
    have e3 : q = q' := congrArg Prod.snd e1
    have e4 : L = v.1 := Option.some.inj (congrArg Prod.fst e1)
    subst e3
    subst e4
    exact ⟨v.2, e2, put_any (put_one 4) a v (by rw [e])⟩
end EXE
