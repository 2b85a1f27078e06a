/-- customers as twelve numbers: kind, v, wants, trust, over, noes, visits, gone, four extras -/
def mx (m x : Int32) : Int32 := if x < m then m else x
def cl (m x : Int32) : Int32 := if x < 0 then 0 else if x ≤ m then x else m
def Eg (c : Int32) (g : Nat → Int32) : Int32 → Int32 → Bool := Ecu c (g 0) (g 3) (g 4) (g 5) (g 6)
/-- what one asks for, what one lets pass -/
def askF (g : Nat → Int32) : Int32 := if g 0 = 1 then mx 1 (g 2 - g 4) else if g 0 = 3 then g 2 / 2 else if g 0 = 4 then mx 1 (mx 1 (g 2 - g 4) - 2) else if g 0 = 6 then g 2 / 2 + g (8 + (g 6).toNatClampNeg % 4) else g 2
def letF (g : Nat → Int32) : Int32 := if g 0 = 0 then g 1 else if g 0 = 1 then g 1 / 2 else if g 0 = 2 then 2 * g 1 else if g 0 = 4 then mx 0 (g 1 / 2 - g 4) else if g 0 = 5 then 2 * g 1 else 99
abbrev ClA (α : Type) := List (Nat × Int32 × Option (Nat × α))
/-- how much more is cut -/
def moF {α : Type} (off : Int32) (τ : Nat → Int32) (C : ClA α) (c : Int32) (g : Nat → Int32) : Int32 := moX off (g 3) (addC (Eg c g) τ C 0)
def boF (mo : Int32) (g : Nat → Int32) : Int32 := askF g + (if letF g < mo then mo / 2 else mo)
def nsF (mo : Int32) (g : Nat → Int32) : Int32 := if letF g < mo ∧ g 5 < 99 then g 5 + 1 else g 5
/-- a visit -/
def visF (mi ln mo : Int32) (g : Nat → Int32) : Nat → Int32 := fun k => if k = 3 then cl 20 (g 3 + (if letF g < mo then -2 else ln)) else if k = 4 then cl 99 (boF mo g - g 2) else if k = 5 then nsF mo g else if k = 6 then (if ¬ mi = 0 ∨ g 6 < 9999 then g 6 + 1 else g 6) else if k = 7 then (if letF g < mo ∧ g 0 = 5 ∧ 3 ≤ nsF mo g then 1 else g 7) else g k
theorem addC_s {α : Type} {E : Int32 → Int32 → Bool} {τ : Nat → Int32} : ∀ (C : ClA α) (s : Int32), addC E τ C s = s + addC E τ C 0 := by
  intro C
  induction C with
  | nil => exact fun s => (Int32.add_zero s).symm
  | cons c C ih =>
    intro s
    show addC E τ C (s + addc E τ c) = s + addC E τ C (0 + addc E τ c)
    rw [ih, ih (0 + addc E τ c), Int32.zero_add, Int32.add_assoc]
theorem ere_cu {num κ tr ov no vi c : Int32} {V : Int32 → Int32} (h0 : V 99 = num) (h1 : V 107 = κ) (h2 : V 116 = tr) (h3 : V 111 = ov) (h4 : V 110 = no) (h5 : V 100 = vi - vi / 7 * 7) : ERE (fun l d n => cmpR d (V l) n) (Ecu num κ tr ov no vi) := by
  intro l d n hl hd
  have key : ∀ (i j : Nat) (L D : Int32), L = nI i → D = nI j → i < 6 → j < 3 → lix l = L → cix d = D → V l = val6 num κ tr ov no vi (nI i) → cmpR d (V l) n = Ecu num κ tr ov no vi (lix l * 3 + cix d) n := by
    intro i j L D hL hD hi hj e1 e2 e3
    have e4 : lix l * 3 + cix d = nI (3 * i + j) := by rw [e1, e2, hL, hD, show (3 : Int32) = nI 3 from rfl, pk_mul, nI_add, Nat.mul_comm]
    have e5 : nI (3 * i + j) / 3 = nI i := by
      rw [show (3 : Int32) = nI 3 from rfl, pk_div (by omega) (by omega) (by omega)]
      exact congrArg nI (by omega)
    have e6 : nI (3 * i + j) - nI i * 3 = nI j := by
      rw [show (3 : Int32) = nI 3 from rfl, pk_mul, pk_sub (by omega)]
      exact congrArg nI (by omega)
    have e7 : cix d = nI j := e2.trans hD
    have e8 : cmpR d (V l) n = cmpB (V l) (nI j) n := by
      unfold cix at e7
      unfold cmpR cmpB
      by_cases d0 : d = 60
      · rw [if_pos d0] at e7 ⊢
        rw [if_pos e7.symm]
      · rw [if_neg d0] at e7 ⊢
        by_cases d1 : d = 61
        · rw [if_pos d1] at e7 ⊢
          rw [if_neg (by rw [← e7]; decide), if_pos e7.symm]
        · rw [if_neg d1] at e7 ⊢
          by_cases d2 : d = 62
          · rw [if_pos d2] at e7
            rw [if_neg (by rw [← e7]; decide), if_neg (by rw [← e7]; decide)]
          · exact absurd (by unfold cix; rw [if_neg d0, if_neg d1, if_neg d2]; decide) hd
    rw [e8]
    unfold Ecu
    rw [e4, e5, e6, e3]
  obtain ⟨i, j, hi, hj, e1, e2, -⟩ := code_r hl hd
  refine key i j _ _ rfl rfl hi hj e1 e2 ?_
  unfold lix at e1
  by_cases c0 : l = 99
  · rw [if_pos c0] at e1
    rw [c0, h0, ← e1]
    rfl
  · rw [if_neg c0] at e1
    by_cases c1 : l = 107
    · rw [if_pos c1] at e1
      rw [c1, h1, ← e1]
      rfl
    · rw [if_neg c1] at e1
      by_cases c2 : l = 116
      · rw [if_pos c2] at e1
        rw [c2, h2, ← e1]
        rfl
      · rw [if_neg c2] at e1
        by_cases c3 : l = 111
        · rw [if_pos c3] at e1
          rw [c3, h3, ← e1]
          rfl
        · rw [if_neg c3] at e1
          by_cases c4 : l = 110
          · rw [if_pos c4] at e1
            rw [c4, h4, ← e1]
            rfl
          · rw [if_neg c4] at e1
            by_cases c5 : l = 100
            · rw [if_pos c5] at e1
              rw [c5, h5, ← e1]
              rfl
            · exact absurd (by unfold lix; rw [if_neg c0, if_neg c1, if_neg c2, if_neg c3, if_neg c4, if_neg c5]; decide) hl
/-- the clauses of a counter say something: each expression reads through to its end -/
def SAYS {α : Type} (A : Al α) (τ : Nat → Int32) (C : ClA α) : Prop := ∀ c ∈ C, ∀ x, c.2.2 = some x → ∃ q, anyP A (oneP A τ 4) τ x.1 = (some x.2, q) ∧ (τ q = -1 ∨ τ q = 59) ∧ x.1 ≤ 100 ∧ q ≤ 100
theorem cl_says {α : Type} {A : Al α} {τ : Nat → Int32} {p : Nat} {c : Nat × Int32 × Option (Nat × α)} (h : (clP A τ p).1 = some c) : ∀ x, c.2.2 = some x → anyP A (oneP A τ 4) τ x.1 = (some x.2, (clP A τ p).2) := by
  intro x hx
  unfold clP at h ⊢
  cases q : (wrdP τ p).1 with
  | none => rw [thn_n q] at h; cases h
  | some w =>
    rw [thn_s q] at h ⊢
    split at h
    · rename_i c32
      rw [if_pos c32]
      cases q2 : (numP τ ((wrdP τ p).2 + 1)).1 with
      | none => rw [thn_n q2] at h; cases h
      | some n =>
        rw [thn_s q2] at h ⊢
        split at h
        · cases h
          cases hx
        · rename_i w2
          rw [if_neg w2]
          split at h
          · rename_i c33
            rw [if_pos c33]
            cases q3 : (anyP A (oneP A τ 4) τ ((numP τ ((wrdP τ p).2 + 1)).2 + 1)).1 with
            | none => rw [thn_n q3] at h; cases h
            | some v =>
              rw [thn_s q3] at h ⊢
              cases h
              cases hx
              exact Prod.ext q3 rfl
          · cases h
    · cases h
theorem cl_end {α : Type} {A : Al α} {g : Nat → Int32} {z p : Nat} (hp : p ≤ z) : (clP A (hrS g z) p).2 ≤ z := by
  have h1 := cl_mp (τ := hrS g z) (A := A) (B := uA) (f := fun _ => ()) ⟨fun _ _ => rfl, fun _ => rfl, fun _ _ => rfl, fun _ _ => rfl⟩ p
  have h2 := cl_mp (τ := hrS g z) (A := cdA) (B := uA) (f := fun _ => ()) ⟨fun _ _ => rfl, fun _ => rfl, fun _ _ => rfl, fun _ _ => rfl⟩ p
  have h3 : (clP A (hrS g z) p).2 = (clP cdA (hrS g z) p).2 := (congrArg Prod.snd h1).symm.trans (congrArg Prod.snd h2)
  rw [h3]
  exact (cl_good hp).2.1
theorem cl_at {α : Type} {A : Al α} {g : Nat → Int32} {z p : Nat} {c : Nat × Int32 × Option (Nat × α)} (h : (clP A (hrS g z) p).1 = some c) : c.1 < 4 ∧ (c.2.2 = none → 2 ≤ c.1) ∧ ∀ x, c.2.2 = some x → c.1 < 2 ∧ x.1 ≤ z := by
  unfold clP at h
  cases q : (wrdP (hrS g z) p).1 with
  | none => rw [thn_n q] at h; cases h
  | some w =>
    have hw : w < 4 := by
      have l : ∀ (k c v w : Nat), c + k ≤ 4 → (wrdL (hrS g z) p k c v).1 = some w → w < 4 := by
        intro k
        induction k with
        | zero => exact fun c v w _ e => by cases e
        | succ k ih =>
          intro c v w hc e
          unfold wrdL at e
          split at e
          · cases e
            omega
          · exact ih _ _ _ (by omega) e
      exact l 4 0 0 w (by omega) q
    rw [thn_s q] at h
    split at h
    · cases q2 : (numP (hrS g z) ((wrdP (hrS g z) p).2 + 1)).1 with
      | none => rw [thn_n q2] at h; cases h
      | some n =>
        rw [thn_s q2] at h
        split at h
        · rename_i w2
          cases h
          exact ⟨hw, fun _ => w2, fun x hx => by cases hx⟩
        · rename_i w2
          split at h
          · rename_i c33
            cases q3 : (anyP A (oneP A (hrS g z) 4) (hrS g z) ((numP (hrS g z) ((wrdP (hrS g z) p).2 + 1)).2 + 1)).1 with
            | none => rw [thn_n q3] at h; cases h
            | some v =>
              rw [thn_s q3] at h
              cases h
              refine ⟨hw, (fun e => by cases e), fun x hx => ?_⟩
              cases hx
              have := hrs_lt c33 (by decide)
              exact ⟨by omega, this⟩
          · cases h
    · cases h
theorem SAYS.snoc {α : Type} {A : Al α} {g : Nat → Int32} {z p : Nat} {L : ClA α} {c : Nat × Int32 × Option (Nat × α)} (hz : z ≤ 100) (hp : p ≤ z) (hL : SAYS A (hrS g z) L) (h : (clP A (hrS g z) p).1 = some c) (he : hrS g z (clP A (hrS g z) p).2 = -1 ∨ hrS g z (clP A (hrS g z) p).2 = 59) : SAYS A (hrS g z) (L ++ [c]) := by
  intro d hd x hx
  rcases List.mem_append.mp hd with hd | hd
  · exact hL d hd x hx
  · have e := List.mem_singleton.mp hd
    subst e
    have h1 := cl_end (A := A) (g := g) hp
    have h2 := ((cl_at h).2.2 x hx).2
    exact ⟨_, cl_says h x hx, he, by omega, by omega⟩
theorem cnt_says {α : Type} {A : Al α} {g : Nat → Int32} {z : Nat} (hz : z ≤ 100) : ∀ (k : Nat) (b : Bool) (L : ClA α) (p : Nat) (M : ClA α), p ≤ z → (b = true ∨ hrS g z p = 59 → SAYS A (hrS g z) L) → (cntL A (hrS g z) z k b L p).1 = some M → SAYS A (hrS g z) M := by
  intro k
  induction k with
  | zero => exact fun b L p M _ _ e => by cases e
  | succ k ih =>
    intro b L p M hp hL e
    unfold cntL at e
    split at e
    · rename_i hb
      have hp2 : (if b = true then p else p + 1) ≤ z := by
        rcases hb with q | q
        · rw [if_pos q]
          exact hp
        · have := hrs_lt q (by decide)
          split <;> omega
      generalize hpp : (if b = true then p else p + 1) = p2 at e hp2
      cases q : (clP A (hrS g z) p2).1 with
      | none => rw [thn_n q] at e; cases e
      | some c =>
        rw [thn_s q] at e
        split at e
        · rename_i qz
          cases e
          refine SAYS.snoc hz hp2 (hL hb) q (Or.inl ?_)
          rw [qz]
          unfold hrS
          rw [if_neg (Nat.lt_irrefl z)]
        · refine ih false _ _ M (cl_end hp2) (fun w => ?_) e
          exact SAYS.snoc hz hp2 (hL hb) q (Or.inr (w.resolve_left (fun x => by cases x)))
    · cases e
theorem cntP_says {α : Type} {A : Al α} {g : Nat → Int32} {z : Nat} {M : ClA α} (hz : z ≤ 100) (h : (cntP A (hrS g z) z).1 = some M) : SAYS A (hrS g z) M := cnt_says hz 10 true [] 0 M (Nat.zero_le _) (fun _ => fun c hc => absurd hc (List.not_mem_nil)) h
/-- what a reading says doesn't hang on what is put together -/
theorem said_b {α : Type} {A : Al α} {E : Int32 → Int32 → Bool} {τ : Nat → Int32} {a q : Nat} {v : α} (h : anyP A (oneP A τ 4) τ a = (some v, q)) : anyP (vaA E) (oneP (vaA E) τ 4) τ a = (some (said E τ a), q) := by
  have h1 := ex_mp (τ := τ) (A := A) (B := uA) (f := fun _ => ()) ⟨fun _ _ => rfl, fun _ => rfl, fun _ _ => rfl, fun _ _ => rfl⟩ 4 a
  have h2 := ex_mp (τ := τ) (A := vaA E) (B := uA) (f := fun _ => ()) ⟨fun _ _ => rfl, fun _ => rfl, fun _ _ => rfl, fun _ _ => rfl⟩ 4 a
  rw [h] at h1
  rw [h1] at h2
  unfold said
  obtain ⟨o, q', e⟩ : ∃ o q', anyP (vaA E) (oneP (vaA E) τ 4) τ a = (o, q') := ⟨_, _, rfl⟩
  rw [e] at h2 ⊢
  cases o with
  | none => cases congrArg Prod.fst h2
  | some b =>
    have e3 : q = q' := congrArg Prod.snd h2
    rw [e3]
/-- the reference's way says what the expression says -/
theorem ho_said {α : Type} {A : Al α} {ER : Int32 → Int32 → Int32 → Bool} {E : Int32 → Int32 → Bool} {τ : Nat → Int32} {a q f : Nat} {v : α} (hE : ERE ER E) (h : anyP A (oneP A τ 4) τ a = (some v, q)) (hq : τ q = -1 ∨ τ q = 59) (hf : q < a + f) : hoR τ ER f 0 (fun _ => false) (fun _ => true) (fun _ => false) a = said E τ a := ho_any hE (said_b h) hq hf
/-- what the reference's counter h holds -/
def HE (S : FS) (h z : Nat) (τ : Nat → Int32) (C : ClU) : Prop := fA S 8 h = nI z ∧ z ≤ 100 ∧ hrS (fun p => fA S 7 (100 * h + p)) z = τ ∧ fA S 12 h = nI C.length ∧ C.length ≤ 10 ∧ (∀ k c, C[k]? = some c → fA S 9 (10 * h + k) = nI c.1 ∧ c.1 < 4 ∧ fA S 10 (10 * h + k) = c.2.1 ∧ (c.2.2 = none → 2 ≤ c.1) ∧ ∀ q, c.2.2 = some q → c.1 < 2 ∧ fA S 11 (10 * h + k) = nI q.1) ∧ SAYS uA τ C
/-- what holds -/
def HOX (S : FS) (z : Nat) (τ : Nat → Int32) (C : ClU) : Prop := (fF S 0 3 = -1 ∧ C = []) ∨ ∃ h : Nat, h < 6 ∧ fF S 0 3 = nI h ∧ HE S h z τ C
theorem HE.of {S T : FS} {h z : Nat} {τ : Nat → Int32} {C : ClU} (k : HE S h z τ C) (e : ∀ i, 2 ≤ i → i < 14 → fA T i = fA S i) : HE T h z τ C := by
  obtain ⟨h1, h2, h3, h4, h5, h6, h7⟩ := k
  refine ⟨by rw [e 8 (by omega) (by omega)]; exact h1, h2, by rw [e 7 (by omega) (by omega)]; exact h3, by rw [e 12 (by omega) (by omega)]; exact h4, h5, fun i c hc => ?_, h7⟩
  rw [e 9 (by omega) (by omega), e 10 (by omega) (by omega), e 11 (by omega) (by omega)]
  exact h6 i c hc
theorem HOX.of {S T : FS} {z : Nat} {τ : Nat → Int32} {C : ClU} (k : HOX S z τ C) (e3 : fF T 0 3 = fF S 0 3) (e : ∀ i, 2 ≤ i → i < 14 → fA T i = fA S i) : HOX T z τ C := by
  rcases k with ⟨a, b⟩ | ⟨h, a, b, c⟩
  · exact Or.inl ⟨e3.trans a, b⟩
  · exact Or.inr ⟨h, a, e3.trans b, c.of e⟩
theorem HOX.H {S T : FS} {z : Nat} {τ : Nat → Int32} {C : ClU} (k : HOX S z τ C) (h : HFr S T) : HOX T z τ C := k.of (h.2.2.1 3) (fun i a b => h.a (by omega))
theorem HOX.V {S T : FS} {z j x : Nat} {τ : Nat → Int32} {C : ClU} (k : HOX S z τ C) (h : VR j x S T) : HOX T z τ C := k.of (h.2.2.1 3 (by decide) (by decide) (by decide)) (fun i a b => h.2.2.2.1 i (by omega) (by omega) (by omega) (by omega))
theorem HOX.M {S T : FS} {z : Nat} {τ : Nat → Int32} {C : ClU} (k : HOX S z τ C) (h : MO S T) : HOX T z τ C := k.of (h.2.2.1 3 (by decide) (by decide) (by decide) (by decide) (by decide) (by decide)) (fun i a b => h.2.2.2.1 i (by omega) (by omega) (by omega) (by omega))
theorem HOX.pos {S : FS} {z : Nat} {τ : Nat → Int32} {C : ClU} (k : HOX S z τ C) (h : ¬ fF S 0 3 < 0) : ∃ h : Nat, h < 6 ∧ fF S 0 3 = nI h ∧ HE S h z τ C := by
  rcases k with k | k
  · rw [k.1] at h
    exact absurd (by decide) h
  · exact k
theorem HOX.neg {S : FS} {z : Nat} {τ : Nat → Int32} {C : ClU} (k : HOX S z τ C) (h : fF S 0 3 < 0) : C = [] := by
  rcases k with k | ⟨n, a, b, -⟩
  · exact k.2
  · rw [b] at h
    exact absurd h (Int32.not_lt.mpr ((nI_leI (a := 0) (b := n) (by omega) (by omega)).mpr (Nat.zero_le _)))
