/-- what a reading puts together: of a test, of a not, of an and, of an or -/
abbrev Al (α : Type) := (Int32 → Int32 → α) × (α → α) × (α → α → α) × (α → α → α)
abbrev dgt (c : Int32) : Prop := 48 ≤ c ∧ c ≤ 57
/-- on, if it is read; else where it ends -/
def thn {α β : Type} (r : Option α × Nat) (k : α → Nat → Option β × Nat) : Option β × Nat := match r.1 with | some v => k v r.2 | none => (none, r.2)
theorem thn_s {α β : Type} {r : Option α × Nat} {k : α → Nat → Option β × Nat} {v : α} (h : r.1 = some v) : thn r k = k v r.2 := by
  unfold thn
  rw [h]
theorem thn_n {α β : Type} {r : Option α × Nat} {k : α → Nat → Option β × Nat} (h : r.1 = none) : thn r k = (none, r.2) := by
  unfold thn
  rw [h]
def numP (τ : Nat → Int32) (p : Nat) : Option Int32 × Nat := if dgt (τ p) then if dgt (τ (p + 1)) then (some (10 * (τ p - 48) + (τ (p + 1) - 48)), p + 2) else (some (τ p - 48), p + 1) else (none, p)
def lix (c : Int32) : Int32 := if c = 99 then 0 else if c = 107 then 1 else if c = 116 then 2 else if c = 111 then 3 else if c = 110 then 4 else if c = 100 then 5 else -1
def cix (c : Int32) : Int32 := if c = 60 then 0 else if c = 61 then 1 else if c = 62 then 2 else -1
def tstP {α : Type} (A : Al α) (τ : Nat → Int32) (p : Nat) : Option α × Nat := if lix (τ p) < 0 then (none, p) else if cix (τ (p + 1)) < 0 then (none, p + 1) else thn (numP τ (p + 2)) (fun n q => (some (A.1 (lix (τ p) * 3 + cix (τ (p + 1))) n), q))
/-- operands with a sign between them -/
def seqP {α : Type} (f : Nat → Option α × Nat) (op : α → α → α) (sep : Int32) (τ : Nat → Int32) : Nat → α → Nat → Option α × Nat
  | 0, v, p => (some v, p)
  | k + 1, v, p => if τ p = sep then thn (f (p + 1)) (fun w q => seqP f op sep τ k (op v w) q) else (some v, p)
def allP {α : Type} (A : Al α) (f : Nat → Option α × Nat) (τ : Nat → Int32) (p : Nat) : Option α × Nat := thn (f p) (fun v q => seqP f A.2.2.1 38 τ 100 v q)
def anyP {α : Type} (A : Al α) (f : Nat → Option α × Nat) (τ : Nat → Int32) (p : Nat) : Option α × Nat := thn (allP A f τ p) (fun v q => seqP (allP A f τ) A.2.2.2 124 τ 100 v q)
def oneP {α : Type} (A : Al α) (τ : Nat → Int32) : Nat → Nat → Option α × Nat
  | 0, p => tstP A τ p
  | d + 1, p => if τ p = 33 then thn (oneP A τ d (p + 1)) (fun v q => (some (A.2.1 v), q)) else if τ p = 40 then thn (anyP A (oneP A τ d) τ (p + 1)) (fun v q => if τ q = 41 then (some v, q + 1) else (none, q)) else tstP A τ p
/-- the codes -/
def cdA : Al (List (Int32 × Int32)) := ⟨fun c n => [(c, n)], fun L => L ++ [(18, 0)], fun L M => L ++ M ++ [(19, 0)], fun L M => L ++ M ++ [(20, 0)]⟩
theorem hrs_lt {f : Nat → Int32} {z p : Nat} {c : Int32} (h : hrS f z p = c) (hc : ¬ c = -1) : p < z := by
  unfold hrS at h
  by_cases q : p < z
  · exact q
  · rw [if_neg q] at h
    exact absurd h.symm hc
theorem lix_ne {c : Int32} (h : ¬ lix c < 0) : ¬ c = -1 := fun e => h (by rw [e]; decide)
theorem cix_ne {c : Int32} (h : ¬ cix c < 0) : ¬ c = -1 := fun e => h (by rw [e]; decide)
theorem dgt_ne {c : Int32} (h : dgt c) : ¬ c = -1 := fun e => absurd h.1 (by rw [e]; decide)
theorem num_good {f : Nat → Int32} {z p : Nat} (h : p ≤ z) : p ≤ (numP (hrS f z) p).2 ∧ (numP (hrS f z) p).2 ≤ z ∧ ((numP (hrS f z) p).1 ≠ none → p + 1 ≤ (numP (hrS f z) p).2) := by
  unfold numP
  split
  · rename_i c
    have h1 := hrs_lt rfl (dgt_ne c)
    split
    · rename_i d
      have h2 := hrs_lt rfl (dgt_ne d)
      exact ⟨by show p ≤ p + 2; omega, by show p + 2 ≤ z; omega, fun _ => by show p + 1 ≤ p + 2; omega⟩
    · exact ⟨by show p ≤ p + 1; omega, by show p + 1 ≤ z; omega, fun _ => by show p + 1 ≤ p + 1; omega⟩
  · exact ⟨Nat.le_refl _, h, fun q => absurd rfl q⟩
/-- a reading that goes forward and puts down fewer codes than it reads signs -/
def GP (z : Nat) (f : Nat → Option (List (Int32 × Int32)) × Nat) : Prop := ∀ p, p ≤ z → p ≤ (f p).2 ∧ (f p).2 ≤ z ∧ ∀ L, (f p).1 = some L → p + L.length + 1 ≤ (f p).2
theorem tst_good {g : Nat → Int32} {z : Nat} : GP z (tstP cdA (hrS g z)) := by
  intro p hp
  unfold tstP
  split
  · exact ⟨Nat.le_refl _, hp, fun L h => by cases h⟩
  · rename_i c
    have h1 := hrs_lt rfl (lix_ne c)
    split
    · exact ⟨by show p ≤ p + 1; omega, by show p + 1 ≤ z; omega, fun L h => by cases h⟩
    · rename_i d
      have h2 := hrs_lt rfl (cix_ne d)
      obtain ⟨g1, g2, g3⟩ := num_good (f := g) (z := z) (p := p + 2) (by omega)
      cases e : (numP (hrS g z) (p + 2)).1 with
      | none =>
        rw [thn_n e]
        exact ⟨by show p ≤ (numP (hrS g z) (p + 2)).2; omega, g2, fun L h => by cases h⟩
      | some n =>
        rw [thn_s e]
        have g4 := g3 (by rw [e]; exact fun q => by cases q)
        refine ⟨by show p ≤ (numP (hrS g z) (p + 2)).2; omega, g2, fun L h => ?_⟩
        have h : some _ = some L := h
        cases h
        show p + 1 + 1 ≤ (numP (hrS g z) (p + 2)).2
        omega
theorem seq_good {z : Nat} {τ : Nat → Int32} {f : Nat → Option (List (Int32 × Int32)) × Nat} {op : List (Int32 × Int32) → List (Int32 × Int32) → List (Int32 × Int32)} {sep : Int32} (hf : GP z f) (hop : ∀ L M, (op L M).length = L.length + M.length + 1) (hs : ∀ p, τ p = sep → p < z) : ∀ (k : Nat) (v : List (Int32 × Int32)) (b p : Nat), p ≤ z → b + v.length + 1 ≤ p → p ≤ (seqP f op sep τ k v p).2 ∧ (seqP f op sep τ k v p).2 ≤ z ∧ ∀ L, (seqP f op sep τ k v p).1 = some L → b + L.length + 1 ≤ (seqP f op sep τ k v p).2 := by
  intro k
  induction k with
  | zero => exact fun v b p hp h => ⟨Nat.le_refl _, hp, fun L e => by have e : some v = some L := e; cases e; exact h⟩
  | succ k ih =>
    intro v b p hp h
    unfold seqP
    split
    · rename_i c
      have hz := hs p c
      obtain ⟨g1, g2, g3⟩ := hf (p + 1) (by omega)
      cases e : (f (p + 1)).1 with
      | none =>
        rw [thn_n e]
        exact ⟨by show p ≤ (f (p + 1)).2; omega, g2, fun L q => by cases q⟩
      | some w =>
        rw [thn_s e]
        have g4 := g3 w e
        have := ih (op v w) b (f (p + 1)).2 g2 (by rw [hop]; omega)
        exact ⟨by omega, this.2⟩
    · exact ⟨Nat.le_refl _, hp, fun L e => by have e : some v = some L := e; cases e; exact h⟩
theorem all_good {z : Nat} {g : Nat → Int32} {f : Nat → Option (List (Int32 × Int32)) × Nat} (hf : GP z f) : GP z (allP cdA f (hrS g z)) := by
  intro p hp
  obtain ⟨g1, g2, g3⟩ := hf p hp
  unfold allP
  cases e : (f p).1 with
  | none =>
    rw [thn_n e]
    exact ⟨g1, g2, fun L q => by cases q⟩
  | some w =>
    rw [thn_s e]
    have := seq_good hf (op := cdA.2.2.1) (sep := 38) (τ := hrS g z) (fun L M => by show (L ++ M ++ [(19, 0)]).length = _; simp; omega) (fun p c => hrs_lt c (by decide)) 100 w p (f p).2 g2 (g3 w e)
    exact ⟨by omega, this.2⟩
theorem any_good {z : Nat} {g : Nat → Int32} {f : Nat → Option (List (Int32 × Int32)) × Nat} (hf : GP z f) : GP z (anyP cdA f (hrS g z)) := by
  intro p hp
  have ha := all_good (g := g) hf
  obtain ⟨g1, g2, g3⟩ := ha p hp
  unfold anyP
  cases e : (allP cdA f (hrS g z) p).1 with
  | none =>
    rw [thn_n e]
    exact ⟨g1, g2, fun L q => by cases q⟩
  | some w =>
    rw [thn_s e]
    have := seq_good ha (op := cdA.2.2.2) (sep := 124) (τ := hrS g z) (fun L M => by show (L ++ M ++ [(20, 0)]).length = _; simp; omega) (fun p c => hrs_lt c (by decide)) 100 w p (allP cdA f (hrS g z) p).2 g2 (g3 w e)
    exact ⟨by omega, this.2⟩
theorem one_good {z : Nat} {g : Nat → Int32} : ∀ d : Nat, GP z (oneP cdA (hrS g z) d) := by
  intro d
  induction d with
  | zero => exact tst_good
  | succ d ih =>
    intro p hp
    unfold oneP
    split
    · rename_i c
      have h1 := hrs_lt c (by decide)
      obtain ⟨g1, g2, g3⟩ := ih (p + 1) (by omega)
      cases e : (oneP cdA (hrS g z) d (p + 1)).1 with
      | none =>
        rw [thn_n e]
        exact ⟨by show p ≤ (oneP cdA (hrS g z) d (p + 1)).2; omega, g2, fun L q => by cases q⟩
      | some w =>
        rw [thn_s e]
        have g4 := g3 w e
        refine ⟨by show p ≤ (oneP cdA (hrS g z) d (p + 1)).2; omega, g2, fun L q => ?_⟩
        have q : some (w ++ [(18, 0)]) = some L := q
        cases q
        show p + (w ++ [((18 : Int32), (0 : Int32))]).length + 1 ≤ (oneP cdA (hrS g z) d (p + 1)).2
        rw [List.length_append, List.length_cons, List.length_nil]
        omega
    · split
      · rename_i c
        have h1 := hrs_lt c (by decide)
        obtain ⟨g1, g2, g3⟩ := any_good (g := g) ih (p + 1) (by omega)
        cases e : (anyP cdA (oneP cdA (hrS g z) d) (hrS g z) (p + 1)).1 with
        | none =>
          rw [thn_n e]
          exact ⟨by show p ≤ (anyP cdA (oneP cdA (hrS g z) d) (hrS g z) (p + 1)).2; omega, g2, fun L q => by cases q⟩
        | some w =>
          rw [thn_s e]
          have g4 := g3 w e
          split
          · rename_i c2
            have h2 := hrs_lt c2 (by decide)
            refine ⟨by show p ≤ (anyP cdA (oneP cdA (hrS g z) d) (hrS g z) (p + 1)).2 + 1; omega, by show (anyP cdA (oneP cdA (hrS g z) d) (hrS g z) (p + 1)).2 + 1 ≤ z; omega, fun L q => ?_⟩
            have q : some w = some L := q
            cases q
            show p + w.length + 1 ≤ (anyP cdA (oneP cdA (hrS g z) d) (hrS g z) (p + 1)).2 + 1
            omega
          · exact ⟨by show p ≤ (anyP cdA (oneP cdA (hrS g z) d) (hrS g z) (p + 1)).2; omega, g2, fun L q => by cases q⟩
      · exact tst_good p hp
/-- how many signs are those of a word -/
def alk (τ : Nat → Int32) : List Int32 → Nat → Nat
  | [], _ => 0
  | b :: bs, p => if τ p = b then alk τ bs (p + 1) + 1 else 0
theorem alk_le (τ : Nat → Int32) (bs : List Int32) : ∀ p, alk τ bs p ≤ bs.length := by
  induction bs with
  | nil => exact fun _ => Nat.le_refl _
  | cons b bs ih =>
    intro p
    unfold alk
    split
    · have := ih (p + 1)
      rw [List.length_cons]
      omega
    · exact Nat.zero_le _
theorem alk_is {τ : Nat → Int32} {bs : List Int32} : ∀ {p n : Nat}, n ≤ bs.length → (∀ i, i < n → τ (p + i) = bs.getD i 0) → (n < bs.length → ¬ τ (p + n) = bs.getD n 0) → alk τ bs p = n := by
  induction bs with
  | nil =>
    intro p n hn _ _
    have : n = 0 := by simpa using hn
    subst this
    rfl
  | cons b bs ih =>
    intro p n hn h1 h2
    unfold alk
    cases n with
    | zero => exact if_neg (h2 (by rw [List.length_cons]; omega))
    | succ n =>
      rw [if_pos (show τ p = b from h1 0 (by omega)), ih (p := p + 1) (n := n) (by rw [List.length_cons] at hn; omega) (fun i hi => by
        have := h1 (i + 1) (by omega)
        rw [show p + 1 + i = p + (i + 1) by omega, this]
        rfl) (fun hl => by
        have := h2 (by rw [List.length_cons]; omega)
        rw [show p + 1 + n = p + (n + 1) by omega]
        exact this)]
theorem alk_z {g : Nat → Int32} {z : Nat} {bs : List Int32} (hb : ∀ b ∈ bs, ¬ b = -1) : ∀ {p : Nat}, p ≤ z → p + alk (hrS g z) bs p ≤ z := by
  induction bs with
  | nil => exact fun h => h
  | cons b bs ih =>
    intro p hp
    unfold alk
    split
    · rename_i c
      have h1 := hrs_lt c (hb b (List.mem_cons_self ..))
      have := ih (fun b hb2 => hb b (List.mem_cons_of_mem _ hb2)) (p := p + 1) (by omega)
      omega
    · exact hp
/-- the word that begins a clause; else how far one of the four goes -/
def wrdL (τ : Nat → Int32) (p : Nat) : Nat → Nat → Nat → Option Nat × Nat
  | 0, _, v => (none, p + v)
  | k + 1, c, v => if alk τ (bytS.getD c []) p = lenS.getD c 0 then (some c, p + lenS.getD c 0) else wrdL τ p k (c + 1) (max v (alk τ (bytS.getD c []) p))
def wrdP (τ : Nat → Int32) (p : Nat) : Option Nat × Nat := wrdL τ p 4 0 0
/-- a clause: word, number, expression -/
def clP {α : Type} (A : Al α) (τ : Nat → Int32) (p : Nat) : Option (Nat × Int32 × Option (Nat × α)) × Nat :=
  thn (wrdP τ p) (fun w q => if τ q = 32 then thn (numP τ (q + 1)) (fun n q2 => if 2 ≤ w then (some (w, n, none), q2) else if τ q2 = 32 then thn (anyP A (oneP A τ 4) τ (q2 + 1)) (fun v q3 => (some (w, n, some (q2 + 1, v)), q3)) else (none, q2)) else (none, q))
/-- a counter: at most ten clauses, up to the end -/
def cntL {α : Type} (A : Al α) (τ : Nat → Int32) (z : Nat) : Nat → Bool → List (Nat × Int32 × Option (Nat × α)) → Nat → Option (List (Nat × Int32 × Option (Nat × α))) × Nat
  | 0, _, _, p => (none, p)
  | f + 1, b, L, p => if b = true ∨ τ p = 59 then thn (clP A τ (if b = true then p else p + 1)) (fun c q => if q = z then (some (L ++ [c]), q) else cntL A τ z f false (L ++ [c]) q) else (none, p)
def cntP {α : Type} (A : Al α) (τ : Nat → Int32) (z : Nat) : Option (List (Nat × Int32 × Option (Nat × α))) × Nat := cntL A τ z 10 true [] 0
theorem byt_nm {c : Nat} (h : c < 4) : ∀ b ∈ bytS.getD c [], ¬ b = -1 := by
  rcases (show c = 0 ∨ c = 1 ∨ c = 2 ∨ c = 3 by omega) with rfl | rfl | rfl | rfl <;> decide
theorem wrdL_good {g : Nat → Int32} {z p : Nat} (hp : p ≤ z) : ∀ (k c v : Nat), c + k ≤ 4 → p + v ≤ z → p ≤ (wrdL (hrS g z) p k c v).2 ∧ (wrdL (hrS g z) p k c v).2 ≤ z ∧ ∀ w, (wrdL (hrS g z) p k c v).1 = some w → w < 4 ∧ p + 4 ≤ (wrdL (hrS g z) p k c v).2 := by
  intro k
  induction k with
  | zero => exact fun c v _ h => ⟨Nat.le_add_right _ _, h, fun w e => by cases e⟩
  | succ k ih =>
    intro c v hc hv
    have ha := alk_z (g := g) (z := z) (byt_nm (c := c) (by omega)) hp
    unfold wrdL
    split
    · rename_i e
      rw [e] at ha
      refine ⟨Nat.le_add_right _ _, ha, fun w q => ?_⟩
      cases q
      refine ⟨by omega, ?_⟩
      show p + 4 ≤ p + lenS.getD c 0
      rcases (show c = 0 ∨ c = 1 ∨ c = 2 ∨ c = 3 by omega) with rfl | rfl | rfl | rfl
      · exact Nat.le_refl _
      · exact Nat.le_refl _
      · exact Nat.le_succ _
      · exact Nat.le_succ _
    · exact ih (c + 1) (max v (alk (hrS g z) (bytS.getD c []) p)) (by omega) (by
        rcases Nat.le_total v (alk (hrS g z) (bytS.getD c []) p) with q | q
        · rw [Nat.max_eq_right q]
          exact ha
        · rw [Nat.max_eq_left q]
          exact hv)
theorem wrd_good {g : Nat → Int32} {z p : Nat} (hp : p ≤ z) : p ≤ (wrdP (hrS g z) p).2 ∧ (wrdP (hrS g z) p).2 ≤ z ∧ ∀ w, (wrdP (hrS g z) p).1 = some w → w < 4 ∧ p + 4 ≤ (wrdP (hrS g z) p).2 := wrdL_good hp 4 0 0 (by omega) (by omega)
/-- the codes of a clause -/
def ccd (c : Nat × Int32 × Option (Nat × List (Int32 × Int32))) : List (Int32 × Int32) := match c.2.2 with | some L => L.2 ++ [(21, if c.1 = 0 then c.2.1 else -c.2.1)] | none => []
theorem cl_good {g : Nat → Int32} {z p : Nat} (hp : p ≤ z) : p ≤ (clP cdA (hrS g z) p).2 ∧ (clP cdA (hrS g z) p).2 ≤ z ∧ ∀ c, (clP cdA (hrS g z) p).1 = some c → p + (ccd c).length + 1 ≤ (clP cdA (hrS g z) p).2 := by
  obtain ⟨a1, a2, a3⟩ := wrd_good (g := g) hp
  unfold clP
  cases e : (wrdP (hrS g z) p).1 with
  | none =>
    rw [thn_n e]
    exact ⟨a1, a2, fun c q => by cases q⟩
  | some w =>
    rw [thn_s e]
    obtain ⟨a4, a5⟩ := a3 w e
    split
    · rename_i h32
      have h1 := hrs_lt h32 (by decide)
      obtain ⟨b1, b2, b3⟩ := num_good (f := g) (z := z) (p := (wrdP (hrS g z) p).2 + 1) (by omega)
      cases e2 : (numP (hrS g z) ((wrdP (hrS g z) p).2 + 1)).1 with
      | none =>
        rw [thn_n e2]
        exact ⟨by show p ≤ (numP (hrS g z) ((wrdP (hrS g z) p).2 + 1)).2; omega, b2, fun c q => by cases q⟩
      | some n =>
        rw [thn_s e2]
        have b4 := b3 (by rw [e2]; exact fun q => by cases q)
        split
        · refine ⟨by show p ≤ (numP (hrS g z) ((wrdP (hrS g z) p).2 + 1)).2; omega, b2, fun c q => ?_⟩
          cases q
          show p + 0 + 1 ≤ (numP (hrS g z) ((wrdP (hrS g z) p).2 + 1)).2
          omega
        · split
          · rename_i k32
            have h2 := hrs_lt k32 (by decide)
            obtain ⟨c1, c2, c3⟩ := any_good (g := g) (z := z) (one_good 4) ((numP (hrS g z) ((wrdP (hrS g z) p).2 + 1)).2 + 1) (by omega)
            cases e3 : (anyP cdA (oneP cdA (hrS g z) 4) (hrS g z) ((numP (hrS g z) ((wrdP (hrS g z) p).2 + 1)).2 + 1)).1 with
            | none =>
              rw [thn_n e3]
              exact ⟨by show p ≤ (anyP cdA (oneP cdA (hrS g z) 4) (hrS g z) ((numP (hrS g z) ((wrdP (hrS g z) p).2 + 1)).2 + 1)).2; omega, c2, fun c q => by cases q⟩
            | some L =>
              rw [thn_s e3]
              have c4 := c3 L e3
              refine ⟨by show p ≤ (anyP cdA (oneP cdA (hrS g z) 4) (hrS g z) ((numP (hrS g z) ((wrdP (hrS g z) p).2 + 1)).2 + 1)).2; omega, c2, fun c q => ?_⟩
              cases q
              show p + (L ++ [((21 : Int32), if w = 0 then n else -n)]).length + 1 ≤ (anyP cdA (oneP cdA (hrS g z) 4) (hrS g z) ((numP (hrS g z) ((wrdP (hrS g z) p).2 + 1)).2 + 1)).2
              rw [List.length_append, List.length_cons, List.length_nil]
              omega
          · exact ⟨by show p ≤ (numP (hrS g z) ((wrdP (hrS g z) p).2 + 1)).2; omega, b2, fun c q => by cases q⟩
    · exact ⟨a1, a2, fun c q => by cases q⟩
/-- price and learn of a counter, as the last clause of the kind says -/
def lstW {α : Type} (k : Nat) (v : Int32) : List (Nat × Int32 × Option (Nat × α)) → Int32
  | [] => v
  | c :: C => lstW k (if c.1 = k then c.2.1 else v) C
theorem lstW_app {α : Type} (k : Nat) (C D : List (Nat × Int32 × Option (Nat × α))) : ∀ v, lstW k v (C ++ D) = lstW k (lstW k v C) D := by
  induction C with
  | nil => exact fun _ => rfl
  | cons c C ih => exact fun v => ih _
/-- all codes of a counter -/
def cds : List (Nat × Int32 × Option (Nat × List (Int32 × Int32))) → List (Int32 × Int32)
  | [] => []
  | c :: C => ccd c ++ cds C
theorem cds_app (C : List (Nat × Int32 × Option (Nat × List (Int32 × Int32)))) (c : Nat × Int32 × Option (Nat × List (Int32 × Int32))) : cds (C ++ [c]) = cds C ++ ccd c := by
  induction C with
  | nil => exact (List.append_nil _)
  | cons d C ih =>
    show ccd d ++ cds (C ++ [c]) = _
    rw [ih]
    exact (List.append_assoc _ _ _).symm
/-- of a word that was read, its number -/
def wcd (x : Option Nat × Nat) : Int32 := match x.1 with | some w => nI w | none => -1
