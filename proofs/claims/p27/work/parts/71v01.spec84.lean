/-- the reference's way of saying what an expression says: level by level, or so far, and so far, turned -/
def hoR (τ : Nat → Int32) (E : Int32 → Int32 → Int32 → Bool) : Nat → Nat → (Nat → Bool) → (Nat → Bool) → (Nat → Bool) → Nat → Bool
  | 0, _, _, _, _, _ => false
  | f + 1, l, o, a, t, p => if τ p < 0 ∨ τ p = 59 then o 0 || a 0 else if τ p = 33 then hoR τ E f l o a (va_up t l (!t l)) (p + 1) else if τ p = 40 then hoR τ E f (l + 1) (va_up o (l + 1) false) (va_up a (l + 1) true) (va_up t (l + 1) false) (p + 1) else if τ p = 41 then hoR τ E f (l - 1) o (va_up a (l - 1) (a (l - 1) && ((o l || a l) != t (l - 1)))) (va_up t (l - 1) false) (p + 1) else if τ p = 124 then hoR τ E f l (va_up o l (o l || a l)) (va_up a l true) t (p + 1) else if τ p = 38 then hoR τ E f l o a t (p + 1) else hoR τ E f l o (va_up a l (a l && (E (τ p) (τ (p + 1)) (if dgt (τ (p + 3)) then 10 * (τ (p + 2) - 48) + (τ (p + 3) - 48) else τ (p + 2) - 48) != t l))) (va_up t l false) (if dgt (τ (p + 3)) then p + 4 else p + 3)
section HO
variable {τ : Nat → Int32} {E : Int32 → Int32 → Int32 → Bool} {f l p : Nat} {o a t : Nat → Bool}
theorem ho_end (h : τ p < 0 ∨ τ p = 59) : hoR τ E (f + 1) l o a t p = (o 0 || a 0) := if_pos h
theorem ho_33 (h : τ p = 33) : hoR τ E (f + 1) l o a t p = hoR τ E f l o a (va_up t l (!t l)) (p + 1) := (if_neg (by rw [h]; decide)).trans (if_pos h)
theorem ho_40 (h : τ p = 40) : hoR τ E (f + 1) l o a t p = hoR τ E f (l + 1) (va_up o (l + 1) false) (va_up a (l + 1) true) (va_up t (l + 1) false) (p + 1) := (if_neg (by rw [h]; decide)).trans ((if_neg (by rw [h]; decide)).trans (if_pos h))
theorem ho_41 (h : τ p = 41) : hoR τ E (f + 1) l o a t p = hoR τ E f (l - 1) o (va_up a (l - 1) (a (l - 1) && ((o l || a l) != t (l - 1)))) (va_up t (l - 1) false) (p + 1) := (if_neg (by rw [h]; decide)).trans ((if_neg (by rw [h]; decide)).trans ((if_neg (by rw [h]; decide)).trans (if_pos h)))
theorem ho_124 (h : τ p = 124) : hoR τ E (f + 1) l o a t p = hoR τ E f l (va_up o l (o l || a l)) (va_up a l true) t (p + 1) := (if_neg (by rw [h]; decide)).trans ((if_neg (by rw [h]; decide)).trans ((if_neg (by rw [h]; decide)).trans ((if_neg (by rw [h]; decide)).trans (if_pos h))))
theorem ho_38 (h : τ p = 38) : hoR τ E (f + 1) l o a t p = hoR τ E f l o a t (p + 1) := (if_neg (by rw [h]; decide)).trans ((if_neg (by rw [h]; decide)).trans ((if_neg (by rw [h]; decide)).trans ((if_neg (by rw [h]; decide)).trans ((if_neg (by rw [h]; decide)).trans (if_pos h)))))
theorem ho_t (h : ¬ (τ p < 0 ∨ τ p = 59)) (h1 : ¬ τ p = 33) (h2 : ¬ τ p = 40) (h3 : ¬ τ p = 41) (h4 : ¬ τ p = 124) (h5 : ¬ τ p = 38) : hoR τ E (f + 1) l o a t p = hoR τ E f l o (va_up a l (a l && (E (τ p) (τ (p + 1)) (if dgt (τ (p + 3)) then 10 * (τ (p + 2) - 48) + (τ (p + 3) - 48) else τ (p + 2) - 48) != t l))) (va_up t l false) (if dgt (τ (p + 3)) then p + 4 else p + 3) :=
  (if_neg h).trans ((if_neg h1).trans ((if_neg h2).trans ((if_neg h3).trans ((if_neg h4).trans (if_neg h5)))))
end HO
theorem lix_not {c : Int32} (h : ¬ lix c < 0) : ¬ (c < 0 ∨ c = 59) ∧ ¬ c = 33 ∧ ¬ c = 40 ∧ ¬ c = 41 ∧ ¬ c = 124 ∧ ¬ c = 38 := by
  rcases let_lix.mpr h with rfl | rfl | rfl | rfl | rfl | rfl <;> decide
theorem upb_le {N N' : Nat → Bool} {d e : Nat} {v : Bool} (h : ∀ j, j ≤ d → N j = N' j) : ∀ j, j ≤ d → va_up N e v j = va_up N' e v j := fun j hj => by
  by_cases q : j = e
  · subst q
    rw [va_up_self, va_up_self]
  · rw [va_up_ne _ _ q, va_up_ne _ _ q]
    exact h j hj
theorem upb_l1 {N N' : Nat → Bool} {d : Nat} {v : Bool} (h : ∀ j, j ≤ d → N j = N' j) : ∀ j, j ≤ d + 1 → va_up N (d + 1) v j = va_up N' (d + 1) v j := fun j hj => by
  by_cases q : j = d + 1
  · subst q
    rw [va_up_self, va_up_self]
  · rw [va_up_ne _ _ q, va_up_ne _ _ q]
    exact h j (by omega)
theorem ho_congr {τ : Nat → Int32} {E : Int32 → Int32 → Int32 → Bool} : ∀ (f l : Nat) (o a t o2 a2 t2 : Nat → Bool) (p : Nat), (∀ j, j ≤ l → o j = o2 j) → (∀ j, j ≤ l → a j = a2 j) → (∀ j, j ≤ l → t j = t2 j) → hoR τ E f l o a t p = hoR τ E f l o2 a2 t2 p := by
  intro f
  induction f with
  | zero => intros; rfl
  | succ f ih =>
    intro l o a t o2 a2 t2 p ho ha ht
    by_cases h0 : τ p < 0 ∨ τ p = 59
    · rw [ho_end h0, ho_end h0, ho 0 (Nat.zero_le _), ha 0 (Nat.zero_le _)]
    · by_cases h1 : τ p = 33
      · rw [ho_33 h1, ho_33 h1, ht l (Nat.le_refl _)]
        exact ih _ _ _ _ _ _ _ _ ho ha (upb_le ht)
      · by_cases h2 : τ p = 40
        · rw [ho_40 h2, ho_40 h2]
          exact ih _ _ _ _ _ _ _ _ (upb_l1 ho) (upb_l1 ha) (upb_l1 ht)
        · by_cases h3 : τ p = 41
          · rw [ho_41 h3, ho_41 h3, ho l (Nat.le_refl _), ha l (Nat.le_refl _), ha (l - 1) (by omega), ht (l - 1) (by omega)]
            exact ih _ _ _ _ _ _ _ _ (fun j hj => ho j (by omega)) (fun j hj => upb_le ha j (by omega)) (fun j hj => upb_le ht j (by omega))
          · by_cases h4 : τ p = 124
            · rw [ho_124 h4, ho_124 h4, ho l (Nat.le_refl _), ha l (Nat.le_refl _)]
              exact ih _ _ _ _ _ _ _ _ (upb_le ho) (upb_le ha) ht
            · by_cases h5 : τ p = 38
              · rw [ho_38 h5, ho_38 h5]
                exact ih _ _ _ _ _ _ _ _ ho ha ht
              · rw [ho_t h0 h1 h2 h3 h4 h5, ho_t h0 h1 h2 h3 h4 h5, ha l (Nat.le_refl _), ht l (Nat.le_refl _)]
                exact ih _ _ _ _ _ _ _ _ ho (upb_le ha) (upb_le ht)
section SAY
variable {τ : Nat → Int32} {E : Int32 → Int32 → Bool} {ER : Int32 → Int32 → Int32 → Bool}
/-- what a test says, by its signs and by its code -/
def ERE (ER : Int32 → Int32 → Int32 → Bool) (E : Int32 → Int32 → Bool) : Prop := ∀ c d n, ¬ lix c < 0 → ¬ cix d < 0 → ER c d n = E (lix c * 3 + cix d) n
/-- a reading within: from p to q the way says b at the level -/
def SayF (τ : Nat → Int32) (ER : Int32 → Int32 → Int32 → Bool) (F : Nat → Option Bool × Nat) : Prop := ∀ p b q, F p = (some b, q) → p < q ∧ ∀ (f l : Nat) (o a t : Nat → Bool), q ≤ p + f → ∃ g, f ≤ g + (q - p) ∧ hoR τ ER f l o a t p = hoR τ ER g l o (va_up a l (a l && (b != t l))) (va_up t l false) q
theorem num_gt {p q : Nat} {n : Int32} (e : numP τ p = (some n, q)) : p < q := by
  unfold numP at e
  split at e
  · split at e
    · cases e; omega
    · cases e; omega
  · cases e
theorem say_tst (hE : ERE ER E) : SayF τ ER (tstP (vaA E) τ) := by
  intro p b q h
  unfold tstP at h
  split at h
  · cases h
  · rename_i c1
    split at h
    · cases h
    · rename_i c2
      obtain ⟨n, q', e⟩ : ∃ n q', numP τ (p + 2) = (n, q') := ⟨_, _, rfl⟩
      cases n with
      | none => rw [thn_n (by rw [e])] at h; cases h
      | some n =>
        rw [thn_s (show (numP τ (p + 2)).1 = some n by rw [e])] at h
        have eq : (numP τ (p + 2)).2 = q' := by rw [e]
        rw [eq] at h
        cases h
        have hg := num_gt e
        obtain ⟨a0, a1, a2, a3, a4, a5⟩ := lix_not c1
        have eE : (if dgt (τ (p + 3)) then 10 * (τ (p + 2) - 48) + (τ (p + 3) - 48) else τ (p + 2) - 48) = n ∧ (if dgt (τ (p + 3)) then p + 4 else p + 3) = q := by
          unfold numP at e
          split at e
          · by_cases c3 : dgt (τ (p + 2 + 1))
            · rw [if_pos c3] at e
              cases e
              exact ⟨if_pos c3, if_pos c3⟩
            · rw [if_neg c3] at e
              cases e
              exact ⟨if_neg c3, if_neg c3⟩
          · cases e
        refine ⟨by omega, fun f l o a t hf => ?_⟩
        cases f with
        | zero => omega
        | succ f =>
          refine ⟨f, by omega, (ho_t a0 a1 a2 a3 a4 a5).trans ?_⟩
          rw [eE.1, eE.2, hE _ _ _ c1 c2]
          rfl
/-- factors with & between them -/
theorem say_seqA {F : Nat → Option Bool × Nat} (hF : SayF τ ER F) : ∀ (k : Nat) (v : Bool) (p : Nat) (b : Bool) (q : Nat), seqP F (fun a b => a && b) 38 τ k v p = (some b, q) → p ≤ q ∧ ∀ (f l : Nat) (o a t : Nat → Bool) (x : Bool), a l = (x && v) → t l = false → q ≤ p + f → ∃ g, f ≤ g + (q - p) ∧ hoR τ ER f l o a t p = hoR τ ER g l o (va_up a l (x && b)) t q := by
  intro k
  induction k with
  | zero =>
    intro v p b q h
    cases h
    exact ⟨Nat.le_refl _, fun f l o a t x ha _ _ => ⟨f, by omega, ho_congr _ _ _ _ _ _ _ _ _ (fun _ _ => rfl) (fun j _ => by
      by_cases z : j = l
      · subst z
        rw [va_up_self, ha]
      · rw [va_up_ne _ _ z]) (fun _ _ => rfl)⟩⟩
  | succ k ih =>
    intro v p b q h
    unfold seqP at h
    split at h
    · rename_i c
      obtain ⟨w, q1, e⟩ : ∃ w q1, F (p + 1) = (w, q1) := ⟨_, _, rfl⟩
      cases w with
      | none => rw [thn_n (by rw [e])] at h; cases h
      | some w =>
        rw [thn_s (show (F (p + 1)).1 = some w by rw [e])] at h
        have e2 : (F (p + 1)).2 = q1 := by rw [e]
        rw [e2] at h
        obtain ⟨h1, h2⟩ := hF (p + 1) w q1 e
        obtain ⟨h3, h4⟩ := ih (v && w) q1 b q h
        refine ⟨by omega, fun f l o a t x ha ht hf => ?_⟩
        cases f with
        | zero => omega
        | succ f =>
          obtain ⟨g, g1, g2⟩ := h2 f l o a t (by omega)
          obtain ⟨m, m1, m2⟩ := h4 g l o (va_up a l (a l && (w != t l))) (va_up t l false) x (by rw [va_up_self, ha, ht]; cases x <;> cases v <;> cases w <;> rfl) (va_up_self _ _ _) (by omega)
          refine ⟨m, by omega, (ho_38 c).trans (g2.trans (m2.trans (ho_congr _ _ _ _ _ _ _ _ _ (fun _ _ => rfl) (fun j _ => ?_) (fun j _ => ?_))))⟩
          · by_cases z : j = l
            · subst z
              rw [va_up_self, va_up_self]
            · rw [va_up_ne _ _ z, va_up_ne _ _ z, va_up_ne _ _ z]
          · by_cases z : j = l
            · subst z
              rw [va_up_self, ht]
            · rw [va_up_ne _ _ z]
    · cases h
      exact ⟨Nat.le_refl _, fun f l o a t x ha _ _ => ⟨f, by omega, ho_congr _ _ _ _ _ _ _ _ _ (fun _ _ => rfl) (fun j _ => by
        by_cases z : j = l
        · subst z
          rw [va_up_self, ha]
        · rw [va_up_ne _ _ z]) (fun _ _ => rfl)⟩⟩
/-- T: from nothing turned, and-ed to what is there -/
def SayT (τ : Nat → Int32) (ER : Int32 → Int32 → Int32 → Bool) (F : Nat → Option Bool × Nat) : Prop := ∀ p b q, F p = (some b, q) → p < q ∧ ∀ (f l : Nat) (o a t : Nat → Bool), t l = false → q ≤ p + f → ∃ g, f ≤ g + (q - p) ∧ hoR τ ER f l o a t p = hoR τ ER g l o (va_up a l (a l && b)) t q
theorem say_all {F : Nat → Option Bool × Nat} (hF : SayF τ ER F) : SayT τ ER (allP (vaA E) F τ) := by
  intro p b q h
  unfold allP at h
  obtain ⟨w, q1, e⟩ : ∃ w q1, F p = (w, q1) := ⟨_, _, rfl⟩
  cases w with
  | none => rw [thn_n (by rw [e])] at h; cases h
  | some w =>
    rw [thn_s (show (F p).1 = some w by rw [e])] at h
    have e2 : (F p).2 = q1 := by rw [e]
    rw [e2] at h
    obtain ⟨h1, h2⟩ := hF p w q1 e
    obtain ⟨h3, h4⟩ := say_seqA hF 100 w q1 b q h
    refine ⟨by omega, fun f l o a t ht hf => ?_⟩
    obtain ⟨g, g1, g2⟩ := h2 f l o a t (by omega)
    obtain ⟨m, m1, m2⟩ := h4 g l o (va_up a l (a l && (w != t l))) (va_up t l false) (a l) (by rw [va_up_self, ht]; cases w <;> rfl) (va_up_self _ _ _) (by omega)
    refine ⟨m, by omega, g2.trans (m2.trans (ho_congr _ _ _ _ _ _ _ _ _ (fun _ _ => rfl) (fun j _ => ?_) (fun j _ => ?_)))⟩
    · by_cases z : j = l
      · subst z
        rw [va_up_self, va_up_self]
      · rw [va_up_ne _ _ z, va_up_ne _ _ z, va_up_ne _ _ z]
    · by_cases z : j = l
      · subst z
        rw [va_up_self, ht]
      · rw [va_up_ne _ _ z]
theorem say_seqO {F : Nat → Option Bool × Nat} (hF : SayT τ ER F) : ∀ (k : Nat) (v : Bool) (p : Nat) (b : Bool) (q : Nat), seqP F (fun a b => a || b) 124 τ k v p = (some b, q) → p ≤ q ∧ ∀ (f l : Nat) (o a t : Nat → Bool), (o l || a l) = v → t l = false → q ≤ p + f → ∃ g o2 a2, f ≤ g + (q - p) ∧ (o2 l || a2 l) = b ∧ (∀ j, j < l → o2 j = o j) ∧ (∀ j, j < l → a2 j = a j) ∧ hoR τ ER f l o a t p = hoR τ ER g l o2 a2 t q := by
  intro k
  induction k with
  | zero =>
    intro v p b q h
    cases h
    exact ⟨Nat.le_refl _, fun f l o a t ha _ _ => ⟨f, o, a, by omega, ha, fun _ _ => rfl, fun _ _ => rfl, rfl⟩⟩
  | succ k ih =>
    intro v p b q h
    unfold seqP at h
    split at h
    · rename_i c
      obtain ⟨w, q1, e⟩ : ∃ w q1, F (p + 1) = (w, q1) := ⟨_, _, rfl⟩
      cases w with
      | none => rw [thn_n (by rw [e])] at h; cases h
      | some w =>
        rw [thn_s (show (F (p + 1)).1 = some w by rw [e])] at h
        have e2 : (F (p + 1)).2 = q1 := by rw [e]
        rw [e2] at h
        obtain ⟨h1, h2⟩ := hF (p + 1) w q1 e
        obtain ⟨h3, h4⟩ := ih (v || w) q1 b q h
        refine ⟨by omega, fun f l o a t ha ht hf => ?_⟩
        cases f with
        | zero => omega
        | succ f =>
          obtain ⟨g, g1, g2⟩ := h2 f l (va_up o l (o l || a l)) (va_up a l true) t ht (by omega)
          obtain ⟨m, o2, a2, m1, m2, m3, m4, m5⟩ := h4 g l (va_up o l (o l || a l)) (va_up (va_up a l true) l (va_up a l true l && w)) t (by rw [va_up_self, va_up_self, va_up_self, ha]; cases w <;> rfl) ht (by omega)
          exact ⟨m, o2, a2, by omega, m2, fun j hj => by rw [m3 j hj, va_up_ne _ _ (by omega)], fun j hj => by rw [m4 j hj, va_up_ne _ _ (by omega), va_up_ne _ _ (by omega)], (ho_124 c).trans (g2.trans m5)⟩
    · cases h
      exact ⟨Nat.le_refl _, fun f l o a t ha _ _ => ⟨f, o, a, by omega, ha, fun _ _ => rfl, fun _ _ => rfl, rfl⟩⟩
/-- E: from a level just opened -/
theorem say_any {F : Nat → Option Bool × Nat} (hF : SayF τ ER F) {p q : Nat} {b : Bool} (h : anyP (vaA E) F τ p = (some b, q)) : p < q ∧ ∀ (f l : Nat) (o a t : Nat → Bool), o l = false → a l = true → t l = false → q ≤ p + f → ∃ g o2 a2, f ≤ g + (q - p) ∧ (o2 l || a2 l) = b ∧ (∀ j, j < l → o2 j = o j) ∧ (∀ j, j < l → a2 j = a j) ∧ hoR τ ER f l o a t p = hoR τ ER g l o2 a2 t q := by
  unfold anyP at h
  obtain ⟨w, q1, e⟩ : ∃ w q1, allP (vaA E) F τ p = (w, q1) := ⟨_, _, rfl⟩
  cases w with
  | none => rw [thn_n (by rw [e])] at h; cases h
  | some w =>
    rw [thn_s (show (allP (vaA E) F τ p).1 = some w by rw [e])] at h
    have e2 : (allP (vaA E) F τ p).2 = q1 := by rw [e]
    rw [e2] at h
    obtain ⟨h1, h2⟩ := say_all hF p w q1 e
    obtain ⟨h3, h4⟩ := say_seqO (say_all hF) 100 w q1 b q h
    refine ⟨by omega, fun f l o a t ho ha ht hf => ?_⟩
    obtain ⟨g, g1, g2⟩ := h2 f l o a t ht (by omega)
    obtain ⟨m, o2, a2, m1, m2, m3, m4, m5⟩ := h4 g l o (va_up a l (a l && w)) t (by rw [va_up_self, ho, ha]; cases w <;> rfl) ht (by omega)
    exact ⟨m, o2, a2, by omega, m2, m3, fun j hj => by rw [m4 j hj, va_up_ne _ _ (by omega)], g2.trans m5⟩
theorem say_one (hE : ERE ER E) : ∀ d : Nat, SayF τ ER (oneP (vaA E) τ d) := by
  intro d
  induction d with
  | zero => exact say_tst hE
  | succ d ih =>
    intro p b q h
    unfold oneP at h
    split at h
    · rename_i c
      obtain ⟨w, q1, e⟩ : ∃ w q1, oneP (vaA E) τ d (p + 1) = (w, q1) := ⟨_, _, rfl⟩
      cases w with
      | none => rw [thn_n (by rw [e])] at h; cases h
      | some w =>
        rw [thn_s (show (oneP (vaA E) τ d (p + 1)).1 = some w by rw [e])] at h
        have e2 : (oneP (vaA E) τ d (p + 1)).2 = q1 := by rw [e]
        rw [e2] at h
        cases h
        obtain ⟨h1, h2⟩ := ih (p + 1) w q e
        refine ⟨by omega, fun f l o a t hf => ?_⟩
        cases f with
        | zero => omega
        | succ f =>
          obtain ⟨g, g1, g2⟩ := h2 f l o a (va_up t l (!t l)) (by omega)
          refine ⟨g, by omega, (ho_33 c).trans (g2.trans (ho_congr _ _ _ _ _ _ _ _ _ (fun _ _ => rfl) (fun j _ => ?_) (fun j _ => ?_)))⟩
          · by_cases z : j = l
            · subst z
              rw [va_up_self, va_up_self, va_up_self]
              show (a j && (w != !t j)) = (a j && ((!w) != t j))
              cases w <;> cases t j <;> rfl
            · rw [va_up_ne _ _ z, va_up_ne _ _ z]
          · by_cases z : j = l
            · subst z
              rw [va_up_self, va_up_self]
            · rw [va_up_ne _ _ z, va_up_ne _ _ z, va_up_ne _ _ z]
    · split at h
      · rename_i c
        obtain ⟨w, q1, e⟩ : ∃ w q1, anyP (vaA E) (oneP (vaA E) τ d) τ (p + 1) = (w, q1) := ⟨_, _, rfl⟩
        cases w with
        | none => rw [thn_n (by rw [e])] at h; cases h
        | some w =>
          rw [thn_s (show (anyP (vaA E) (oneP (vaA E) τ d) τ (p + 1)).1 = some w by rw [e])] at h
          have e2 : (anyP (vaA E) (oneP (vaA E) τ d) τ (p + 1)).2 = q1 := by rw [e]
          rw [e2] at h
          split at h
          · rename_i c41
            cases h
            obtain ⟨h1, h2⟩ := say_any ih e
            refine ⟨by omega, fun f l o a t hf => ?_⟩
            cases f with
            | zero => omega
            | succ f =>
              obtain ⟨g, o2, a2, g1, g2, g3, g4, g5⟩ := h2 f (l + 1) (va_up o (l + 1) false) (va_up a (l + 1) true) (va_up t (l + 1) false) (va_up_self _ _ _) (va_up_self _ _ _) (va_up_self _ _ _) (by omega)
              cases g with
              | zero => omega
              | succ g =>
                refine ⟨g, by omega, (ho_40 c).trans (g5.trans ((ho_41 c41).trans ?_))⟩
                rw [Nat.add_sub_cancel, g2]
                refine ho_congr _ _ _ _ _ _ _ _ _ (fun j hj => ?_) (fun j hj => ?_) (fun j hj => ?_)
                · rw [g3 j (by omega), va_up_ne _ _ (by omega)]
                · by_cases z : j = l
                  · subst z
                    rw [va_up_self, va_up_self, g4 j (by omega), va_up_ne _ _ (by omega), va_up_ne _ _ (by omega)]
                  · rw [va_up_ne _ _ z, va_up_ne _ _ z, g4 j (by omega), va_up_ne _ _ (by omega)]
                · by_cases z : j = l
                  · subst z
                    rw [va_up_self, va_up_self]
                  · rw [va_up_ne _ _ z, va_up_ne _ _ z, va_up_ne _ _ (by omega)]
          · cases h
      · exact say_tst hE p b q h
/-- the whole of an expression -/
theorem ho_any (hE : ERE ER E) {p q f : Nat} {b : Bool} (h : anyP (vaA E) (oneP (vaA E) τ 4) τ p = (some b, q)) (hq : τ q = -1 ∨ τ q = 59) (hf : q < p + f) : hoR τ ER f 0 (fun _ => false) (fun _ => true) (fun _ => false) p = b := by
  obtain ⟨h1, h2⟩ := say_any (say_one hE 4) h
  obtain ⟨g, o2, a2, g1, g2, -, -, g5⟩ := h2 f 0 (fun _ => false) (fun _ => true) (fun _ => false) rfl rfl rfl (by omega)
  cases g with
  | zero => omega
  | succ g => rw [g5, ho_end (hq.imp (fun z => by rw [z]; decide) id), g2]
end SAY
