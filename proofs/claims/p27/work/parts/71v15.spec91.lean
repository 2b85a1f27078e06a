/-- clauses: ten at most, their numbers have one or two digits -/
def N99 {α : Type} (C : ClA α) : Prop := C.length ≤ 10 ∧ ∀ c ∈ C, ∃ t : Nat, t ≤ 99 ∧ c.2.1 = nI t
theorem dgt_n {c : Int32} (h : dgt c) : ∃ d : Nat, d ≤ 9 ∧ c - 48 = nI d := by
  obtain ⟨j, hj, rfl⟩ := nI_of (x := c) (Int32.not_lt.mpr (Int32.le_trans (by decide) h.1))
  have h1 := (nI_leI (a := 48) (b := j) (by omega) hj).mp h.1
  have h2 := (nI_leI (a := j) (b := 57) hj (by omega)).mp h.2
  exact ⟨j - 48, by omega, by rw [show (48 : Int32) = nI 48 from rfl, pk_sub (by omega)]⟩
theorem num_99 {τ : Nat → Int32} {p : Nat} {n : Int32} (h : (numP τ p).1 = some n) : ∃ t : Nat, t ≤ 99 ∧ n = nI t := by
  unfold numP at h
  split at h
  · rename_i a
    obtain ⟨d, hd, ed⟩ := dgt_n a
    split at h
    · rename_i b
      obtain ⟨e, he, ee⟩ := dgt_n b
      have h := Option.some.inj h
      rw [ed, ee, show (10 : Int32) = nI 10 from rfl, pk_mul, nI_add] at h
      exact ⟨10 * d + e, by omega, h.symm⟩
    · have h := Option.some.inj h
      exact ⟨d, by omega, h.symm.trans ed⟩
  · cases h
theorem cl_99 {α : Type} {A : Al α} {τ : Nat → Int32} {p : Nat} {c : Nat × Int32 × Option (Nat × α)} (h : (clP A τ p).1 = some c) : ∃ t : Nat, t ≤ 99 ∧ c.2.1 = nI t := by
  unfold clP at h
  cases q : (wrdP τ p).1 with
  | none => rw [thn_n q] at h; cases h
  | some w =>
    rw [thn_s q] at h
    split at h
    · cases q2 : (numP τ ((wrdP τ p).2 + 1)).1 with
      | none => rw [thn_n q2] at h; cases h
      | some n =>
        rw [thn_s q2] at h
        have h99 := num_99 q2
        split at h
        · cases h
          exact h99
        · split at h
          · cases q3 : (anyP A (oneP A τ 4) τ ((numP τ ((wrdP τ p).2 + 1)).2 + 1)).1 with
            | none => rw [thn_n q3] at h; cases h
            | some v =>
              rw [thn_s q3] at h
              cases h
              exact h99
          · cases h
    · cases h
theorem cnt_99 {α : Type} {A : Al α} {τ : Nat → Int32} {z : Nat} : ∀ (k : Nat) (b : Bool) (L : ClA α) (p : Nat) (M : ClA α), (∀ c ∈ L, ∃ t : Nat, t ≤ 99 ∧ c.2.1 = nI t) → (cntL A τ z k b L p).1 = some M → M.length ≤ L.length + k ∧ ∀ c ∈ M, ∃ t : Nat, t ≤ 99 ∧ c.2.1 = nI t := by
  intro k
  induction k with
  | zero => exact fun b L p M _ e => by cases e
  | succ k ih =>
    intro b L p M hL e
    unfold cntL at e
    split at e
    · generalize (if b = true then p else p + 1) = p2 at e
      cases q : (clP A τ p2).1 with
      | none => rw [thn_n q] at e; cases e
      | some c =>
        rw [thn_s q] at e
        have hc := cl_99 q
        have hL2 : ∀ d ∈ L ++ [c], ∃ t : Nat, t ≤ 99 ∧ d.2.1 = nI t := fun d hd => (List.mem_append.mp hd).elim (hL d) (fun z => by rw [List.mem_singleton.mp z]; exact hc)
        have hl : (L ++ [c]).length = L.length + 1 := by simp
        split at e
        · cases e
          exact ⟨by omega, hL2⟩
        · have := ih false (L ++ [c]) _ M hL2 e
          exact ⟨by omega, this.2⟩
    · cases e
theorem cntP_99 {α : Type} {A : Al α} {τ : Nat → Int32} {z : Nat} {M : ClA α} (h : (cntP A τ z).1 = some M) : N99 M := by
  have := cnt_99 10 true [] 0 M (fun c hc => absurd hc List.not_mem_nil) h
  exact ⟨by have := this.1; simpa using this, this.2⟩
theorem lst_99 {α : Type} {k : Nat} : ∀ (C : ClA α) (v : Int32), (∃ t : Nat, t ≤ 99 ∧ v = nI t) → (∀ c ∈ C, ∃ t : Nat, t ≤ 99 ∧ c.2.1 = nI t) → ∃ t : Nat, t ≤ 99 ∧ lstW k v C = nI t := by
  intro C
  induction C with
  | nil => exact fun _ h _ => h
  | cons c C ih =>
    intro v h hC
    refine ih _ ?_ (fun d hd => hC d (List.mem_cons_of_mem c hd))
    split
    · exact hC c List.mem_cons_self
    · exact h
/-- the same clauses, whatever was put together beside them -/
def mU (C : Cls) : ClU := C.map (fun c => (c.1, c.2.1, c.2.2.map (fun x => (x.1, ()))))
theorem mU_99 {C : Cls} (h : N99 C) : N99 (mU C) := by
  refine ⟨by unfold mU; rw [List.length_map]; exact h.1, fun c hc => ?_⟩
  unfold mU at hc
  obtain ⟨d, hd, rfl⟩ := List.mem_map.mp hc
  exact h.2 d hd
theorem lst_u {k : Nat} : ∀ (C : Cls) (v : Int32), lstW k v (mU C) = lstW k v C := by
  intro C
  induction C with
  | nil => exact fun _ => rfl
  | cons c C ih => exact fun v => ih _
theorem add_u {E : Int32 → Int32 → Bool} {τ : Nat → Int32} : ∀ (C : Cls) (s : Int32), addC E τ (mU C) s = addC E τ C s := by
  intro C
  induction C with
  | nil => exact fun _ => rfl
  | cons c C ih =>
    intro s
    show addC E τ (mU C) (s + addc E τ (c.1, c.2.1, c.2.2.map (fun x => (x.1, ())))) = addC E τ C (s + addc E τ c)
    rw [ih, show addc E τ (c.1, c.2.1, c.2.2.map (fun x => (x.1, ()))) = addc E τ c by
      unfold addc
      cases c.2.2 <;> rfl]
/-- two lists of clauses that add alike -/
def AE {α β : Type} (τ : Nat → Int32) (C : ClA α) (D : ClA β) : Prop := ∀ off c g, moF off τ C c g = moF off τ D c g
theorem ae_u {τ : Nat → Int32} {C : Cls} : AE τ (mU C) C := fun off c g => by
  unfold moF
  rw [add_u]
section AE_
variable {α β : Type} {mi off ln : Int32} {τ : Nat → Int32} {C : ClA α} {D : ClA β}
theorem vs_ae (h : AE τ C D) (c : Int32) (g : Nat → Int32) : vsG mi off ln τ C c g = vsG mi off ln τ D c g := by
  unfold vsG
  rw [h]
theorem bo_ae (h : AE τ C D) (c : Int32) (g : Nat → Int32) : boG off τ C c g = boG off τ D c g := by
  unfold boG
  rw [h]
theorem al_ae (h : AE τ C D) (c : Int32) : ∀ (n : Nat) (g : Nat → Int32), alN mi off ln τ C c n g = alN mi off ln τ D c n g := by
  intro n
  induction n with
  | zero => exact fun _ => rfl
  | succ n ih =>
    intro g
    show (boG off τ C c g + (alN mi off ln τ C c n (vsG mi off ln τ C c g)).1, (alN mi off ln τ C c n (vsG mi off ln τ C c g)).2) = (boG off τ D c g + (alN mi off ln τ D c n (vsG mi off ln τ D c g)).1, (alN mi off ln τ D c n (vsG mi off ln τ D c g)).2)
    rw [vs_ae h, bo_ae h, ih]
theorem sa_ae (h : AE τ C D) (k : Nat) (G : Nat → Nat → Int32) : saG mi off ln τ C k G = saG mi off ln τ D k G := by
  funext d
  unfold saG
  rw [vs_ae h]
theorem sb_ae (h : AE τ C D) (G : Nat → Nat → Int32) : ∀ k, sbN off τ C G k = sbN off τ D G k := by
  intro k
  induction k with
  | zero => rfl
  | succ k ih =>
    show sbN off τ C G k + boG off τ C (nI k) (G k) = sbN off τ D G k + boG off τ D (nI k) (G k)
    rw [ih, bo_ae h]
theorem rf_ae (h : AE τ C D) (G : Nat → Nat → Int32) : ∀ k, rfN off τ C G k = rfN off τ D G k := by
  intro k
  induction k with
  | zero => rfl
  | succ k ih =>
    show rfN off τ C G k + (if ¬ G k 7 = 1 ∧ letF (G k) < moF off τ C (nI k) (G k) then 1 else 0) = rfN off τ D G k + (if ¬ G k 7 = 1 ∧ letF (G k) < moF off τ D (nI k) (G k) then 1 else 0)
    rw [ih, h]
theorem cs_ae (h : AE τ C D) (cn : Int32) (s : Nat → Int32) : ∀ (m k : Nat) (g : Nat → Int32), csN off ln τ C cn s m k g = csN off ln τ D cn s m k g := by
  intro m
  induction m with
  | zero => exact fun _ _ => rfl
  | succ m ih =>
    intro k g
    show (if g 7 = 1 ∨ ¬ askF g + moF off τ C cn g = s k then false else csN off ln τ C cn s m (k + 1) (visF 1 ln (moF off τ C cn g) g)) = (if g 7 = 1 ∨ ¬ askF g + moF off τ D cn g = s k then false else csN off ln τ D cn s m (k + 1) (visF 1 ln (moF off τ D cn g) g))
    rw [h, ih]
theorem st_ae (h : AE τ C D) (n : Nat) : ∀ (w : Nat) (G : Nat → Nat → Int32), stF mi off ln τ C n w G = stF mi off ln τ D n w G := by
  intro w
  induction w with
  | zero => exact fun _ => rfl
  | succ w ih =>
    intro G
    show stF mi off ln τ C n w (saG mi off ln τ C n G) = stF mi off ln τ D n w (saG mi off ln τ D n G)
    rw [sa_ae h, ih]
theorem bs_ae (h : AE τ C D) (n : Nat) : ∀ (w : Nat) (G : Nat → Nat → Int32), bsF mi off ln τ C n w G = bsF mi off ln τ D n w G := by
  intro w
  induction w with
  | zero => exact fun _ => rfl
  | succ w ih =>
    intro G
    show sbN off τ C G n + bsF mi off ln τ C n w (saG mi off ln τ C n G) = sbN off τ D G n + bsF mi off ln τ D n w (saG mi off ln τ D n G)
    rw [sa_ae h, sb_ae h, ih]
theorem vn_ae (h : AE τ C D) (n : Nat) : ∀ (w : Nat) (G : Nat → Nat → Int32), vsF mi off ln τ C n w G = vsF mi off ln τ D n w G := by
  intro w
  induction w with
  | zero => exact fun _ => rfl
  | succ w ih =>
    intro G
    show stN G n + vsF mi off ln τ C n w (saG mi off ln τ C n G) = stN G n + vsF mi off ln τ D n w (saG mi off ln τ D n G)
    rw [sa_ae h, ih]
theorem nob_ae (h : AE τ C D) (n : Nat) : ∀ (m k : Nat) (G : Nat → Nat → Int32), nobN off ln τ C n m k G = nobN off ln τ D n m k G := by
  intro m
  induction m with
  | zero => exact fun _ _ => rfl
  | succ m ih =>
    intro k G
    show (if rfN off τ C G n = 0 then nI k else nobN off ln τ C n m (k + 1) (saG 1 off ln τ C n G)) = (if rfN off τ D G n = 0 then nI k else nobN off ln τ D n m (k + 1) (saG 1 off ln τ D n G))
    rw [rf_ae h, sa_ae h, ih]
theorem lea_ae (h : AE τ C D) (c q : Int32) : ∀ (m k : Nat) (g : Nat → Int32), leaN off ln τ C c q m k g = leaN off ln τ D c q m k g := by
  intro m
  induction m with
  | zero => exact fun _ _ => rfl
  | succ m ih =>
    intro k g
    show (if moF off τ C c g ≤ q then nI k else leaN off ln τ C c q m (k + 1) (vsG 1 off ln τ C c g)) = (if moF off τ D c g ≤ q then nI k else leaN off ln τ D c q m (k + 1) (vsG 1 off ln τ D c g))
    rw [h, vs_ae h, ih]
end AE_
