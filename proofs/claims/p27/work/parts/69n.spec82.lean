def mp {α β : Type} (f : α → β) (x : Option α × Nat) : Option β × Nat := (x.1.map f, x.2)
theorem mp_n {α β : Type} (f : α → β) {x : Option α × Nat} (h : x.1 = none) : mp f x = (none, x.2) := by
  unfold mp
  rw [h]
  rfl
theorem mp_s {α β : Type} (f : α → β) {x : Option α × Nat} {v : α} (h : x.1 = some v) : mp f x = (some (f v), x.2) := by
  unfold mp
  rw [h]
  rfl
theorem thn_mp {α β γ δ : Type} {f : α → β} {g : γ → δ} {r : Option α × Nat} {k : α → Nat → Option γ × Nat} {k' : β → Nat → Option δ × Nat} (h : ∀ v q, r.1 = some v → k' (f v) q = mp g (k v q)) : thn (mp f r) k' = mp g (thn r k) := by
  cases e : r.1 with
  | none => rw [mp_n f e, thn_n (show ((none : Option β), r.2).1 = none from rfl), thn_n e]; rfl
  | some v => rw [mp_s f e, thn_s (show (some (f v), r.2).1 = some (f v) from rfl), thn_s e]; exact h v r.2 e
/-- one reading is the picture of the other -/
def HOM {α β : Type} (A : Al α) (B : Al β) (f : α → β) : Prop := (∀ c n, f (A.1 c n) = B.1 c n) ∧ (∀ v, f (A.2.1 v) = B.2.1 (f v)) ∧ (∀ v w, f (A.2.2.1 v w) = B.2.2.1 (f v) (f w)) ∧ ∀ v w, f (A.2.2.2 v w) = B.2.2.2 (f v) (f w)
section HOMS
variable {α β : Type} {A : Al α} {B : Al β} {f : α → β} {τ : Nat → Int32}
theorem tst_mp (h : HOM A B f) (p : Nat) : tstP B τ p = mp f (tstP A τ p) := by
  unfold tstP
  split
  · rfl
  · split
    · rfl
    · cases e : (numP τ (p + 2)).1 with
      | none => rw [thn_n e, thn_n e]; rfl
      | some n => rw [thn_s e, thn_s e]; show _ = (some (f _), _); rw [h.1]
theorem seq_mp {F : Nat → Option α × Nat} {G : Nat → Option β × Nat} {oa : α → α → α} {ob : β → β → β} {sep : Int32} (hF : ∀ p, G p = mp f (F p)) (ho : ∀ v w, f (oa v w) = ob (f v) (f w)) : ∀ (k : Nat) (v : α) (p : Nat), seqP G ob sep τ k (f v) p = mp f (seqP F oa sep τ k v p) := by
  intro k
  induction k with
  | zero => exact fun _ _ => rfl
  | succ k ih =>
    intro v p
    unfold seqP
    split
    · rw [hF]
      exact thn_mp (fun w q _ => by rw [← ho]; exact ih _ _)
    · rfl
theorem all_mp (h : HOM A B f) {F : Nat → Option α × Nat} {G : Nat → Option β × Nat} (hF : ∀ p, G p = mp f (F p)) (p : Nat) : allP B G τ p = mp f (allP A F τ p) := by
  unfold allP
  rw [hF]
  exact thn_mp (fun v q _ => seq_mp hF h.2.2.1 _ _ _)
theorem any_mp (h : HOM A B f) {F : Nat → Option α × Nat} {G : Nat → Option β × Nat} (hF : ∀ p, G p = mp f (F p)) (p : Nat) : anyP B G τ p = mp f (anyP A F τ p) := by
  unfold anyP
  rw [all_mp h hF]
  exact thn_mp (fun v q _ => seq_mp (all_mp h hF) h.2.2.2 _ _ _)
theorem one_mp (h : HOM A B f) : ∀ (d p : Nat), oneP B τ d p = mp f (oneP A τ d p) := by
  intro d
  induction d with
  | zero => exact tst_mp h
  | succ d ih =>
    intro p
    unfold oneP
    split
    · rw [ih]
      exact thn_mp (fun v q _ => by rw [← h.2.1]; rfl)
    · split
      · rw [any_mp h ih]
        exact thn_mp (fun v q _ => by split <;> rfl)
      · exact tst_mp h p
theorem ex_mp (h : HOM A B f) (d p : Nat) : anyP B (oneP B τ d) τ p = mp f (anyP A (oneP A τ d) τ p) := any_mp h (one_mp h d) p
theorem cl_mp (h : HOM A B f) (p : Nat) : clP B τ p = mp (fun c => (c.1, c.2.1, c.2.2.map (fun x => (x.1, f x.2)))) (clP A τ p) := by
  unfold clP
  cases e : (wrdP τ p).1 with
  | none => rw [thn_n e, thn_n e]; rfl
  | some w =>
    rw [thn_s e, thn_s e]
    split
    · cases e2 : (numP τ ((wrdP τ p).2 + 1)).1 with
      | none => rw [thn_n e2, thn_n e2]; rfl
      | some n =>
        rw [thn_s e2, thn_s e2]
        split
        · rfl
        · split
          · rw [ex_mp h]
            exact thn_mp (fun v q _ => rfl)
          · rfl
    · rfl
theorem cnt_mp (h : HOM A B f) (z : Nat) : ∀ (k : Nat) (b : Bool) (C : List (Nat × Int32 × Option (Nat × α))) (p : Nat), cntL B τ z k b (C.map (fun c => (c.1, c.2.1, c.2.2.map (fun x => (x.1, f x.2))))) p = mp (List.map (fun c => (c.1, c.2.1, c.2.2.map (fun x => (x.1, f x.2))))) (cntL A τ z k b C p) := by
  intro k
  induction k with
  | zero => exact fun _ _ _ => rfl
  | succ k ih =>
    intro b C p
    unfold cntL
    split
    · rw [cl_mp h]
      refine thn_mp (fun c q _ => ?_)
      split
      · show _ = (some (List.map _ (C ++ [c])), q)
        rw [List.map_append]
        rfl
      · rw [← ih, List.map_append]
        rfl
    · rfl
end HOMS
theorem hom_u {α : Type} (A : Al α) : HOM A uA (fun _ => ()) := ⟨fun _ _ => rfl, fun _ => rfl, fun _ _ => rfl, fun _ _ => rfl⟩
/-- goes forward -/
def GF (z : Nat) (F : Nat → Option Unit × Nat) : Prop := ∀ p, p ≤ z → p ≤ (F p).2 ∧ (F p).2 ≤ z ∧ ((F p).1 ≠ none → p + 1 ≤ (F p).2)
theorem gf_of {z : Nat} {F : Nat → Option (List (Int32 × Int32)) × Nat} {G : Nat → Option Unit × Nat} (h : GP z F) (e : ∀ p, G p = mp (fun _ => ()) (F p)) : GF z G := by
  intro p hp
  obtain ⟨a, b, c⟩ := h p hp
  rw [e]
  refine ⟨a, b, fun n => ?_⟩
  cases q : (F p).1 with
  | none => exact absurd (by rw [mp_n _ q]) n
  | some L =>
    have := c L q
    show p + 1 ≤ (F p).2
    omega
theorem gf_tst {g : Nat → Int32} {z : Nat} : GF z (tstP uA (hrS g z)) := gf_of tst_good (tst_mp (hom_u cdA))
theorem gf_one {g : Nat → Int32} {z : Nat} (d : Nat) : GF z (oneP uA (hrS g z) d) := gf_of (one_good d) (one_mp (hom_u cdA) d)
theorem gf_all {g : Nat → Int32} {z : Nat} (d : Nat) : GF z (allP uA (oneP uA (hrS g z) d) (hrS g z)) := gf_of (all_good (one_good d)) (all_mp (hom_u cdA) (one_mp (hom_u cdA) d))
theorem up_le {N N' : Nat → Nat} {d e v : Nat} (h : ∀ j, j ≤ d → N j = N' j) : ∀ j, j ≤ d → va_up N e v j = va_up N' e v j := fun j hj => by
  by_cases q : j = e
  · subst q
    rw [va_up_self, va_up_self]
  · rw [va_up_ne _ _ q, va_up_ne _ _ q]
    exact h j hj
theorem exR_congr {τ : Nat → Int32} : ∀ (f : Nat) (b : Bool) (p d o : Nat) (N N' : Nat → Nat), (∀ j, j ≤ d → N j = N' j) → exR τ f b p d o N = exR τ f b p d o N' := by
  intro f
  induction f with
  | zero => intro b p d o N N' _; cases b <;> rfl
  | succ f ih =>
    intro b p d o N N' h
    cases b with
    | false =>
      by_cases h1 : τ p = 38 ∨ τ p = 124
      · rw [xr_and h1, xr_and h1]
        exact ih _ _ _ _ _ _ h
      · by_cases h2 : τ p = 41 ∧ 0 < d
        · rw [xr_41 h2.1 h2.2, xr_41 h2.1 h2.2, h (d - 1) (by omega)]
          exact ih _ _ _ _ _ _ (fun j hj => up_le h j (by omega))
        · rw [xr_end h1 h2, xr_end h1 h2]
    | true =>
      by_cases h1 : τ p = 33 ∨ τ p = 40
      · by_cases ho : o = 4
        · rw [xr_4 h1 ho, xr_4 h1 ho]
        · by_cases h3 : τ p = 40
          · rw [xr_40 h3 ho, xr_40 h3 ho]
            refine ih _ _ _ _ _ _ (fun j hj => ?_)
            by_cases q : j = d + 1
            · subst q
              rw [va_up_self, va_up_self]
            · rw [va_up_ne _ _ q, va_up_ne _ _ q]
              exact h j (by omega)
          · rw [xr_33 (h1.resolve_right h3) ho, xr_33 (h1.resolve_right h3) ho, h d (Nat.le_refl _)]
            exact ih _ _ _ _ _ _ (up_le h)
      · have n1 : ¬ τ p = 33 := fun q => h1 (Or.inl q)
        have n2 : ¬ τ p = 40 := fun q => h1 (Or.inr q)
        obtain ⟨v, q, e⟩ : ∃ v q, tstP uA τ p = (v, q) := ⟨_, _, rfl⟩
        cases v with
        | none => rw [xr_tn n1 n2 e, xr_tn n1 n2 e]
        | some v =>
          rw [xr_ts n1 n2 e, xr_ts n1 n2 e, h d (Nat.le_refl _)]
          exact ih _ _ _ _ _ _ (up_le h)
theorem exR_fuel {g : Nat → Int32} {z : Nat} : ∀ (f f2 : Nat) (b : Bool) (p d o : Nat) (N : Nat → Nat), p ≤ z → z + 1 < p + f → z + 1 < p + f2 → exR (hrS g z) f b p d o N = exR (hrS g z) f2 b p d o N := by
  intro f
  induction f with
  | zero => intro f2 b p d o N h1 h2; omega
  | succ f ih =>
    intro f2 b p d o N hp h1 h2
    cases f2 with
    | zero => omega
    | succ f2 =>
      cases b with
      | false =>
        by_cases c1 : hrS g z p = 38 ∨ hrS g z p = 124
        · have hz : p < z := hr_lt (by rcases c1 with q | q <;> rw [q] <;> decide)
          rw [xr_and c1, xr_and c1]
          exact ih _ _ _ _ _ _ (by omega) (by omega) (by omega)
        · by_cases c2 : hrS g z p = 41 ∧ 0 < d
          · have hz : p < z := hr_lt (by rw [c2.1]; decide)
            rw [xr_41 c2.1 c2.2, xr_41 c2.1 c2.2]
            exact ih _ _ _ _ _ _ (by omega) (by omega) (by omega)
          · rw [xr_end c1 c2, xr_end c1 c2]
      | true =>
        by_cases c1 : hrS g z p = 33 ∨ hrS g z p = 40
        · have hz : p < z := hr_lt (by rcases c1 with q | q <;> rw [q] <;> decide)
          by_cases ho : o = 4
          · rw [xr_4 c1 ho, xr_4 c1 ho]
          · by_cases c3 : hrS g z p = 40
            · rw [xr_40 c3 ho, xr_40 c3 ho]
              exact ih _ _ _ _ _ _ (by omega) (by omega) (by omega)
            · rw [xr_33 (c1.resolve_right c3) ho, xr_33 (c1.resolve_right c3) ho]
              exact ih _ _ _ _ _ _ (by omega) (by omega) (by omega)
        · have n1 : ¬ hrS g z p = 33 := fun q => c1 (Or.inl q)
          have n2 : ¬ hrS g z p = 40 := fun q => c1 (Or.inr q)
          obtain ⟨v, q, e⟩ : ∃ v q, tstP uA (hrS g z) p = (v, q) := ⟨_, _, rfl⟩
          have hg := gf_tst (g := g) (z := z) p hp
          rw [e] at hg
          cases v with
          | none => rw [xr_tn n1 n2 e, xr_tn n1 n2 e]
          | some v =>
            have h3 : p + 1 ≤ q := hg.2.2 (fun q => by cases q)
            have h4 : q ≤ z := hg.2.1
            rw [xr_ts n1 n2 e, xr_ts n1 n2 e]
            exact ih _ _ _ _ _ _ h4 (by omega) (by omega)
/-- the way from where an operand is wanted -/
def SimW (τ : Nat → Int32) (z : Nat) (F : Nat → Option Unit × Nat) (d o : Nat) (N : Nat → Nat) (o2 : Nat) (N2 : Nat → Nat) : Prop := ∀ p f, p ≤ z → z + 1 < p + f → ((F p).1 = none → exR τ f true p d o N = (false, (F p).2)) ∧ ((F p).1 = some () → ∀ g, z + 1 < (F p).2 + g → exR τ f true p d o N = exR τ g false (F p).2 d o2 N2)
theorem sim_seq {g : Nat → Int32} {z d o : Nat} {N : Nat → Nat} {F : Nat → Option Unit × Nat} {op : Unit → Unit → Unit} {sep : Int32} {E : Nat → Prop} (hF : SimW (hrS g z) z F d o N o N) (hG : GF z F) (hE : ∀ p, p ≤ z → (F p).1 = some () → E (F p).2) (hs : sep = 38 ∨ sep = 124) : ∀ (k : Nat) (v : Unit) (p f : Nat), p ≤ z → z < p + k → E p → z + 1 < p + f → ((seqP F op sep (hrS g z) k v p).1 = none → exR (hrS g z) f false p d o N = (false, (seqP F op sep (hrS g z) k v p).2)) ∧ ((seqP F op sep (hrS g z) k v p).1 = some () → (seqP F op sep (hrS g z) k v p).2 ≤ z ∧ E (seqP F op sep (hrS g z) k v p).2 ∧ ¬ hrS g z (seqP F op sep (hrS g z) k v p).2 = sep ∧ ∀ f2, z + 1 < (seqP F op sep (hrS g z) k v p).2 + f2 → exR (hrS g z) f false p d o N = exR (hrS g z) f2 false (seqP F op sep (hrS g z) k v p).2 d o N) := by
  intro k
  induction k with
  | zero => intro v p f h1 h2; omega
  | succ k ih =>
    intro v p f hp hk he hf
    by_cases c : hrS g z p = sep
    · have hz : p < z := hr_lt (by rw [c]; rcases hs with q | q <;> rw [q] <;> decide)
      cases f with
      | zero => omega
      | succ f =>
        have ex := xr_and (f := f) (d := d) (o := o) (N := N) (show hrS g z p = 38 ∨ hrS g z p = 124 from hs.imp (fun q => c.trans q) (fun q => c.trans q))
        have e1 : seqP F op sep (hrS g z) (k + 1) v p = thn (F (p + 1)) (fun w q => seqP F op sep (hrS g z) k (op v w) q) := if_pos c
        obtain ⟨a1, a2⟩ := hF (p + 1) f (by omega) (by omega)
        obtain ⟨b1, b2, b3⟩ := hG (p + 1) (by omega)
        rw [e1, ex]
        cases e : (F (p + 1)).1 with
        | none =>
          rw [thn_n e]
          exact ⟨fun _ => a1 e, fun q => by cases q⟩
        | some w =>
          rw [thn_s e]
          have b4 := b3 (by rw [e]; exact fun q => by cases q)
          have h := ih (op v w) (F (p + 1)).2 (z + 2) b2 (by omega) (hE _ (by omega) e) (by omega)
          rw [a2 e (z + 2) (by omega)]
          exact h
    · have e1 : seqP F op sep (hrS g z) (k + 1) v p = (some v, p) := if_neg c
      rw [e1]
      exact ⟨(fun q => by cases q), fun _ => ⟨hp, he, c, fun f2 h2 => exR_fuel _ _ _ _ _ _ _ hp hf h2⟩⟩
theorem sim_all {g : Nat → Int32} {z d o : Nat} {N : Nat → Nat} {F : Nat → Option Unit × Nat} (hz : z ≤ 100) (hF : SimW (hrS g z) z F d o N o N) (hG : GF z F) : SimW (hrS g z) z (allP uA F (hrS g z)) d o N o N ∧ ∀ p, p ≤ z → (allP uA F (hrS g z) p).1 = some () → ¬ hrS g z (allP uA F (hrS g z) p).2 = 38 := by
  have key : ∀ p f, p ≤ z → z + 1 < p + f → ((allP uA F (hrS g z) p).1 = none → exR (hrS g z) f true p d o N = (false, (allP uA F (hrS g z) p).2)) ∧ ((allP uA F (hrS g z) p).1 = some () → ¬ hrS g z (allP uA F (hrS g z) p).2 = 38 ∧ ∀ f2, z + 1 < (allP uA F (hrS g z) p).2 + f2 → exR (hrS g z) f true p d o N = exR (hrS g z) f2 false (allP uA F (hrS g z) p).2 d o N) := by
    intro p f hp hf
    obtain ⟨a1, a2⟩ := hF p f hp hf
    obtain ⟨b1, b2, b3⟩ := hG p hp
    unfold allP
    cases e : (F p).1 with
    | none =>
      rw [thn_n e]
      exact ⟨fun _ => a1 e, fun q => by cases q⟩
    | some v =>
      rw [thn_s e]
      have b4 := b3 (by rw [e]; exact fun q => by cases q)
      obtain ⟨c1, c2⟩ := sim_seq (op := uA.2.2.1) (E := fun _ => True) hF hG (fun _ _ _ => trivial) (Or.inl rfl) 100 v (F p).2 (z + 2) b2 (by omega) trivial (by omega)
      rw [a2 e (z + 2) (by omega)]
      exact ⟨c1, fun q => ⟨(c2 q).2.2.1, (c2 q).2.2.2⟩⟩
  exact ⟨fun p f hp hf => ⟨(key p f hp hf).1, fun q => ((key p f hp hf).2 q).2⟩, fun p hp q => ((key p (z + 2) hp (by omega)).2 q).1⟩
theorem sim_any {g : Nat → Int32} {z d o : Nat} {N : Nat → Nat} {F : Nat → Option Unit × Nat} (hz : z ≤ 100) (hF : SimW (hrS g z) z F d o N o N) (hG : GF z F) (hG2 : GF z (allP uA F (hrS g z))) : ∀ p f, p ≤ z → z + 1 < p + f → ((anyP uA F (hrS g z) p).1 = none → exR (hrS g z) f true p d o N = (false, (anyP uA F (hrS g z) p).2)) ∧ ((anyP uA F (hrS g z) p).1 = some () → (anyP uA F (hrS g z) p).2 ≤ z ∧ ¬ (hrS g z (anyP uA F (hrS g z) p).2 = 38 ∨ hrS g z (anyP uA F (hrS g z) p).2 = 124) ∧ ∀ f2, z + 1 < (anyP uA F (hrS g z) p).2 + f2 → exR (hrS g z) f true p d o N = exR (hrS g z) f2 false (anyP uA F (hrS g z) p).2 d o N) := by
  obtain ⟨hA, hE⟩ := sim_all hz hF hG
  intro p f hp hf
  obtain ⟨a1, a2⟩ := hA p f hp hf
  obtain ⟨b1, b2, b3⟩ := hG2 p hp
  unfold anyP
  cases e : (allP uA F (hrS g z) p).1 with
  | none =>
    rw [thn_n e]
    exact ⟨fun _ => a1 e, fun q => by cases q⟩
  | some v =>
    rw [thn_s e]
    have b4 := b3 (by rw [e]; exact fun q => by cases q)
    obtain ⟨c1, c2⟩ := sim_seq (op := uA.2.2.2) (E := fun q => ¬ hrS g z q = 38) hA hG2 hE (Or.inr rfl) 100 v (allP uA F (hrS g z) p).2 (z + 2) b2 (by omega) (hE p hp e) (by omega)
    rw [a2 e (z + 2) (by omega)]
    exact ⟨c1, fun q => ⟨(c2 q).1, fun x => x.elim (c2 q).2.1 (c2 q).2.2.1, (c2 q).2.2.2⟩⟩
theorem up0_le {N : Nat → Nat} {d : Nat} (h : N d = 0) : ∀ j, j ≤ d → va_up N d 0 j = N j := fun j _ => by
  by_cases q : j = d
  · subst q
    rw [va_up_self, h]
  · rw [va_up_ne _ _ q]
theorem sim_one {g : Nat → Int32} {z : Nat} (hz : z ≤ 100) : ∀ (D d o : Nat) (N : Nat → Nat), o + D = 4 → N d + d ≤ o → SimW (hrS g z) z (oneP uA (hrS g z) D) d o N (o - N d) (va_up N d 0) := by
  have tst : ∀ (d o : Nat) (N : Nat → Nat) (p f : Nat), p ≤ z → z + 1 < p + f → ¬ hrS g z p = 33 → ¬ hrS g z p = 40 → ((tstP uA (hrS g z) p).1 = none → exR (hrS g z) f true p d o N = (false, (tstP uA (hrS g z) p).2)) ∧ ((tstP uA (hrS g z) p).1 = some () → ∀ f2, z + 1 < (tstP uA (hrS g z) p).2 + f2 → exR (hrS g z) f true p d o N = exR (hrS g z) f2 false (tstP uA (hrS g z) p).2 d (o - N d) (va_up N d 0)) := by
    intro d o N p f hp hf n1 n2
    cases f with
    | zero => omega
    | succ f =>
      have hg := gf_tst (g := g) (z := z) p hp
      obtain ⟨v, q, e⟩ : ∃ v q, tstP uA (hrS g z) p = (v, q) := ⟨_, _, rfl⟩
      rw [e] at hg ⊢
      cases v with
      | none => exact ⟨fun _ => xr_tn n1 n2 e, fun q => by cases q⟩
      | some v =>
        have h3 : p + 1 ≤ q := hg.2.2 (fun q => by cases q)
        have h4 : q ≤ z := hg.2.1
        exact ⟨fun q => (by cases q), fun _ f2 h2 => (xr_ts n1 n2 e).trans (exR_fuel _ _ _ _ _ _ _ h4 (by omega) h2)⟩
  intro D
  induction D with
  | zero =>
    intro d o N ho hN p f hp hf
    by_cases c : hrS g z p = 33 ∨ hrS g z p = 40
    · have e : oneP uA (hrS g z) 0 p = (none, p) := tst_0 (by rcases c with q | q <;> rw [q] <;> decide)
      rw [e]
      cases f with
      | zero => omega
      | succ f => exact ⟨fun _ => xr_4 c (by omega), fun q => by cases q⟩
    · exact tst d o N p f hp hf (fun q => c (Or.inl q)) (fun q => c (Or.inr q))
  | succ D ih =>
    intro d o N ho hN p f hp hf
    by_cases c33 : hrS g z p = 33
    · have hlt : p < z := hr_lt (by rw [c33]; decide)
      rw [one_33 c33]
      cases f with
      | zero => omega
      | succ f =>
        rw [xr_33 c33 (by omega)]
        obtain ⟨a1, a2⟩ := ih d (o + 1) (va_up N d (N d + 1)) (by omega) (by rw [va_up_self]; omega) (p + 1) f (by omega) (by omega)
        cases e : (oneP uA (hrS g z) D (p + 1)).1 with
        | none =>
          rw [thn_n e]
          exact ⟨fun _ => a1 e, fun q => by cases q⟩
        | some v =>
          rw [thn_s e]
          refine ⟨fun q => (by cases q), fun _ f2 h2 => ?_⟩
          rw [a2 e f2 h2, va_up_self, show o + 1 - (N d + 1) = o - N d by omega]
          exact exR_congr _ _ _ _ _ _ _ (fun j _ => by
            by_cases q : j = d
            · subst q
              rw [va_up_self, va_up_self]
            · rw [va_up_ne _ _ q, va_up_ne _ _ q, va_up_ne _ _ q])
    · by_cases c40 : hrS g z p = 40
      · have hlt : p < z := hr_lt (by rw [c40]; decide)
        rw [one_40 c33 c40]
        cases f with
        | zero => omega
        | succ f =>
          rw [xr_40 c40 (by omega)]
          have hw : SimW (hrS g z) z (oneP uA (hrS g z) D) (d + 1) (o + 1) (va_up N (d + 1) 0) (o + 1) (va_up N (d + 1) 0) := by
            intro p2 f2 h1 h2
            obtain ⟨a1, a2⟩ := ih (d + 1) (o + 1) (va_up N (d + 1) 0) (by omega) (by rw [va_up_self]; omega) p2 f2 h1 h2
            refine ⟨a1, fun q f3 h3 => ?_⟩
            rw [a2 q f3 h3, va_up_self, Nat.sub_zero]
            exact exR_congr _ _ _ _ _ _ _ (up0_le (va_up_self _ _ _))
          obtain ⟨a1, a2⟩ := sim_any hz hw (gf_one D) (gf_all D) (p + 1) f (by omega) (by omega)
          cases e : (anyP uA (oneP uA (hrS g z) D) (hrS g z) (p + 1)).1 with
          | none =>
            rw [thn_n e]
            exact ⟨fun _ => a1 e, fun q => by cases q⟩
          | some v =>
            rw [thn_s e]
            obtain ⟨a3, a4, a5⟩ := a2 e
            by_cases c41 : hrS g z (anyP uA (oneP uA (hrS g z) D) (hrS g z) (p + 1)).2 = 41
            · have hlt2 : (anyP uA (oneP uA (hrS g z) D) (hrS g z) (p + 1)).2 < z := hr_lt (by rw [c41]; decide)
              rw [if_pos c41]
              refine ⟨fun q => (by cases q), fun _ f2 h2 => ?_⟩
              have h2 : z + 1 < (anyP uA (oneP uA (hrS g z) D) (hrS g z) (p + 1)).2 + 1 + f2 := h2
              rw [a5 (f2 + 1) (by omega), xr_41 c41 (by omega), Nat.add_sub_cancel, Nat.add_sub_cancel, va_up_ne _ _ (show d ≠ d + 1 by omega)]
              exact exR_congr _ _ _ _ _ _ _ (fun j hj => by
                by_cases q : j = d
                · subst q
                  rw [va_up_self, va_up_self]
                · rw [va_up_ne _ _ q, va_up_ne _ _ q, va_up_ne _ _ (by omega)])
            · rw [if_neg c41]
              refine ⟨fun _ => ?_, fun q => by cases q⟩
              rw [a5 (z + 2) (by omega), xr_end a4 (fun q => c41 q.1), decide_eq_false (by omega)]
      · rw [one_t c33 c40]
        exact tst d o N p f hp hf c33 c40
/-- the two readings of an expression agree -/
theorem exR_any {g : Nat → Int32} {z a : Nat} (hz : z ≤ 100) (ha : a ≤ z) : exR (hrS g z) (z + 3) true a 0 0 (fun _ => 0) = ((anyP uA (oneP uA (hrS g z) 4) (hrS g z) a).1.isSome, (anyP uA (oneP uA (hrS g z) 4) (hrS g z) a).2) := by
  have hw : SimW (hrS g z) z (oneP uA (hrS g z) 4) 0 0 (fun _ => 0) 0 (fun _ => 0) := by
    intro p2 f2 h1 h2
    obtain ⟨a1, a2⟩ := sim_one hz 4 0 0 (fun _ => 0) (by omega) (by omega) p2 f2 h1 h2
    refine ⟨a1, fun q f3 h3 => ?_⟩
    rw [a2 q f3 h3]
    exact exR_congr _ _ _ _ _ _ _ (up0_le rfl)
  obtain ⟨a1, a2⟩ := sim_any hz hw (gf_one 4) (gf_all 4) a (z + 3) ha (by omega)
  cases e : (anyP uA (oneP uA (hrS g z) 4) (hrS g z) a).1 with
  | none => exact a1 e
  | some v =>
    obtain ⟨a3, a4, a5⟩ := a2 e
    rw [a5 (z + 2) (by omega), xr_end a4 (fun q => absurd q.2 (by omega)), decide_eq_true rfl]
    rfl
theorem cl_rw {α : Type} {A : Al α} {τ : Nat → Int32} {p : Nat} : clP A τ p = thn (rwP τ p) (fun w q => thn (numP τ q) (fun n q2 => if 2 ≤ w then (some (w, n, none), q2) else if τ q2 = 32 then thn (anyP A (oneP A τ 4) τ (q2 + 1)) (fun v q3 => (some (w, n, some (q2 + 1, v)), q3)) else (none, q2))) := by
  unfold clP rwP
  cases e : (wrdP τ p).1 with
  | none => rw [thn_n e, thn_n e]; rfl
  | some w =>
    rw [thn_s e, thn_s e]
    by_cases h : τ (wrdP τ p).2 = 32
    · rw [if_pos h, if_pos h]
      rfl
    · rw [if_neg h, if_neg h]
      rfl
/-- what readClause() leaves -/
def RcX (x : Option (Nat × Int32 × Option (Nat × Unit)) × Nat) (z k : Nat) (S' : FS) : Prop := SRs z S' (x.1.isSome, x.2) ∧ ∀ w n o, x.1 = some (w, n, o) → w < 4 ∧ fA S' 9 k = nI w ∧ fA S' 10 k = n ∧ (o = none → 2 ≤ w) ∧ ∀ q, o = some q → w < 2 ∧ fA S' 11 k = nI q.1
theorem ta_srs {S S' : FS} {z : Nat} {st : Bool × Nat} (hQ : QFr S S') (h : SRs z S' st) (hb : fF S 0 26 = 0) : TA S S' z := by
  refine ⟨hQ, st.2, h.2.2, h.1, ?_⟩
  rw [h.2.1]
  by_cases q : st.1 = true
  · rw [if_pos q]
    exact Or.inr ⟨rfl, hb⟩
  · rw [if_neg q]
    exact Or.inl rfl
/-- word and number of a clause, as the reference reads them -/
def WN (τ : Nat → Int32) (z u : Nat) (r v : Int32) (st : Bool × Nat) : Prop := st = ((rwP τ u).1.isSome && (numP τ (rwP τ u).2).1.isSome, if (rwP τ u).1.isSome = true then (numP τ (rwP τ u).2).2 else (rwP τ u).2) ∧ (∀ w, (rwP τ u).1 = some w → r = nI w) ∧ (r = 0 ∨ r = 1 ∨ r = 2 ∨ r = 3) ∧ ∀ n, (rwP τ u).1.isSome = true → (numP τ (rwP τ u).2).1 = some n → v = n
theorem wn_w {w : Nat} {r : Int32} (h : r = 0 ∨ r = 1 ∨ r = 2 ∨ r = 3) (e : r = nI w) (hw : w < 2 ^ 31) : w < 4 ∧ (2 ≤ r ↔ 2 ≤ w) := by
  rcases h with q | q | q | q
  · have : w = 0 := (nI_eq (a := w) (b := 0) hw (by omega)).mp (e.symm.trans q)
    subst this; rw [q]; decide
  · have : w = 1 := (nI_eq (a := w) (b := 1) hw (by omega)).mp (e.symm.trans q)
    subst this; rw [q]; decide
  · have : w = 2 := (nI_eq (a := w) (b := 2) hw (by omega)).mp (e.symm.trans q)
    subst this; rw [q]; decide
  · have : w = 3 := (nI_eq (a := w) (b := 3) hw (by omega)).mp (e.symm.trans q)
    subst this; rw [q]; decide
theorem rw_lt {g : Nat → Int32} {z u w : Nat} (hu : u ≤ z) (h : (rwP (hrS g z) u).1 = some w) : w < 4 := by
  obtain ⟨a1, a2, a3⟩ := wrd_good (g := g) hu
  unfold rwP at h
  cases e : (wrdP (hrS g z) u).1 with
  | none => rw [thn_n e] at h; cases h
  | some v =>
    rw [thn_s e] at h
    split at h
    · cases h
      exact (a3 _ e).1
    · cases h
theorem rcx_a {g : Nat → Int32} {z u k : Nat} {r v : Int32} {st : Bool × Nat} {S' : FS} (hu : u ≤ z) (hW : WN (hrS g z) z u r v st) (hs : SRs z S' st) (h9 : fA S' 9 k = r) (h10 : fA S' 10 k = v) (hend : 2 ≤ r ∨ ¬ fF S' 0 26 = 0) : RcX (clP uA (hrS g z) u) z k S' := by
  obtain ⟨e0, hw, hr, hn⟩ := hW
  rw [cl_rw]
  cases e : (rwP (hrS g z) u).1 with
  | none =>
    rw [e] at e0
    rw [thn_n e]
    rw [e0] at hs
    exact ⟨hs, fun w n o q => by cases q⟩
  | some w =>
    rw [e] at e0
    rw [thn_s e]
    have ew := hw w e
    have hw4 := rw_lt hu e
    cases e2 : (numP (hrS g z) (rwP (hrS g z) u).2).1 with
    | none =>
      rw [e2] at e0
      rw [thn_n e2]
      rw [e0] at hs
      exact ⟨hs, fun w n o q => by cases q⟩
    | some n =>
      rw [e2] at e0
      rw [thn_s e2]
      have hb : fF S' 0 26 = 0 := (srs_b hs).mpr (by rw [e0]; rfl)
      have h2 : 2 ≤ w := (wn_w hr ew (by omega)).2.mp (hend.resolve_right (fun q => q hb))
      rw [if_pos h2]
      rw [e0] at hs
      refine ⟨hs, fun w' n' o q => ?_⟩
      cases q
      exact ⟨hw4, h9.trans ew, h10.trans (hn n (by rw [e]; rfl) e2), fun _ => h2, fun q x => by cases x⟩
theorem rcx_b {g : Nat → Int32} {z u k : Nat} {r v : Int32} {st : Bool × Nat} {S' : FS} (hu : u ≤ z) (hW : WN (hrS g z) z u r v st) (hs : SRs z S' (tkF (hrS g z) st 32)) (hb : st.1 = true) (h2 : ¬ 2 ≤ r) (hend : ¬ fF S' 0 26 = 0) : RcX (clP uA (hrS g z) u) z k S' := by
  obtain ⟨e0, hw, hr, hn⟩ := hW
  rw [cl_rw]
  cases e : (rwP (hrS g z) u).1 with
  | none => rw [e0, e] at hb; cases hb
  | some w =>
    rw [e] at e0
    have ew := hw w e
    cases e2 : (numP (hrS g z) (rwP (hrS g z) u).2).1 with
    | none => rw [e0, e2] at hb; cases hb
    | some n =>
      rw [e2] at e0
      have hn2 : ¬ 2 ≤ w := fun q => h2 ((wn_w hr ew (by have := rw_lt hu e; omega)).2.mpr q)
      have h32 : ¬ hrS g z (numP (hrS g z) (rwP (hrS g z) u).2).2 = 32 := fun q => by
        have : tkF (hrS g z) st 32 = (true, st.2 + 1) := if_pos ⟨hb, by rw [e0]; exact q⟩
        rw [this] at hs
        exact hend hs.2.1
      have et : tkF (hrS g z) st 32 = (false, st.2) := if_neg (fun q => h32 (by have := q.2; rw [e0] at this; exact this))
      rw [et, e0] at hs
      rw [thn_s e, thn_s e2, if_neg hn2, if_neg h32]
      exact ⟨hs, fun w n o q => by cases q⟩
theorem rcx_c {g : Nat → Int32} {z u k u3 : Nat} {r v : Int32} {st : Bool × Nat} {S3 S' S5 : FS} (hu : u ≤ z) (hz : z ≤ 100) (hW : WN (hrS g z) z u r v st) (hs : SRs z S3 (tkF (hrS g z) st 32)) (hb : st.1 = true) (h2 : ¬ 2 ≤ r) (hb3 : fF S3 0 26 = 0) (h3 : fF S3 0 25 = nI u3) (hu3 : u3 ≤ z) (hg : hrS (fA S5 6) z = hrS g z) (hE : EXxe S5 S' z u3 (exR (hrS (fA S5 6) z) (z + 3) true u3 0 0 (fun _ => 0))) (h9 : fA S' 9 k = r) (h10 : fA S' 10 k = v) (h11 : fA S' 11 k = nI u3) : RcX (clP uA (hrS g z) u) z k S' := by
  obtain ⟨e0, hw, hr, hn⟩ := hW
  rw [hg, exR_any hz hu3] at hE
  obtain ⟨-, u4, f1, f2, f3⟩ := hE
  rw [cl_rw]
  cases e : (rwP (hrS g z) u).1 with
  | none => rw [e0, e] at hb; cases hb
  | some w =>
    rw [e] at e0
    have ew := hw w e
    have hw4 := rw_lt hu e
    cases e2 : (numP (hrS g z) (rwP (hrS g z) u).2).1 with
    | none => rw [e0, e2] at hb; cases hb
    | some n =>
      rw [e2] at e0
      have hn2 : ¬ 2 ≤ w := fun q => h2 ((wn_w hr ew (by omega)).2.mpr q)
      have ht := (srs_b hs).mp hb3
      have h32 : hrS g z st.2 = 32 := by
        by_cases q : hrS g z st.2 = 32
        · exact q
        · have : tkF (hrS g z) st 32 = (false, st.2) := if_neg (fun x => q x.2)
          rw [this] at ht
          cases ht
      have et : tkF (hrS g z) st 32 = (true, st.2 + 1) := if_pos ⟨hb, h32⟩
      rw [et] at hs
      have eu : u3 = st.2 + 1 := (nI_eq (by omega) (by have := hs.2.2; omega)).mp (h3.symm.trans hs.1)
      have es : st.2 = (numP (hrS g z) (rwP (hrS g z) u).2).2 := by rw [e0]; rfl
      rw [es] at h32 eu
      rw [thn_s e, thn_s e2, if_neg hn2, if_pos h32, ← eu]
      cases e3 : (anyP uA (oneP uA (hrS g z) 4) (hrS g z) u3).1 with
      | none =>
        rw [e3] at f3
        rw [thn_n e3]
        rcases f3 with ⟨a, b⟩ | ⟨-, -, b⟩
        · have : (anyP uA (oneP uA (hrS g z) 4) (hrS g z) u3).2 = u4 := congrArg Prod.snd b
          exact ⟨⟨by rw [this]; exact f1, a, by rw [this]; exact f2⟩, fun w n o q => by cases q⟩
        · cases congrArg Prod.fst b
      | some x =>
        rw [e3] at f3
        rw [thn_s e3]
        rcases f3 with ⟨-, b⟩ | ⟨a, -, b⟩
        · cases congrArg Prod.fst b
        · have : (anyP uA (oneP uA (hrS g z) 4) (hrS g z) u3).2 = u4 := congrArg Prod.snd b
          refine ⟨⟨by rw [this]; exact f1, a, by rw [this]; exact f2⟩, fun w' n' o q => ?_⟩
          cases q
          refine ⟨hw4, h9.trans ew, h10.trans (hn n (by rw [e]; rfl) e2), (fun x => by cases x), fun q x => ?_⟩
          cases x
          exact ⟨by omega, h11⟩
abbrev ClU := List (Nat × Int32 × Option (Nat × Unit))
/-- from a clause's start on -/
def cntG (τ : Nat → Int32) (z n : Nat) (C : ClU) (u : Nat) : Option ClU × Nat := thn (clP uA τ u) (fun c q => if q = z then (some (C ++ [c]), q) else cntL uA τ z (10 - (n + 1)) false (C ++ [c]) q)
def KX (τ : Nat → Int32) (z n : Nat) (en : Int32) (S : FS) : Prop := (fF S 0 26 = 1 ∧ (cntP uA τ z).1 = none ∧ fF S 0 25 = nI (cntP uA τ z).2) ∨ (fF S 0 26 = 0 ∧ ∃ C : ClU, C.length = n ∧ ((en = 0 ∧ ∃ u, fF S 0 25 = nI u ∧ u ≤ z ∧ cntG τ z n C u = cntP uA τ z) ∨ (¬ en = 0 ∧ cntP uA τ z = (some C, z))))
/-- what counter() answers -/
def CNx (τ : Nat → Int32) (z nc : Nat) (r : Int32) (S S' : FS) : Prop := (nc = 6 ∧ r = -4 ∧ S' = setF S 0 8 0) ∨ (nc < 6 ∧ fF S' 0 17 = 0 ∧ (((cntP uA τ z).1 = none ∧ r = -10 - nI (cntP uA τ z).2 ∧ fF S' 0 20 = nI nc) ∨ ∃ C, (cntP uA τ z).1 = some C ∧ r = nI nc ∧ fF S' 0 20 = nI (nc + 1) ∧ fF S' 0 3 = nI nc))
theorem KX_out {τ : Nat → Int32} {z n : Nat} {en : Int32} {S : FS} (h : KX τ z n en S) (hb : ¬ fF S 0 26 = 0) : (cntP uA τ z).1 = none ∧ fF S 0 25 = nI (cntP uA τ z).2 := h.elim (fun q => q.2) (fun q => absurd q.1 hb)
theorem KX_ok {τ : Nat → Int32} {z n : Nat} {en : Int32} {S : FS} (h : KX τ z n en S) (hb : fF S 0 26 = 0) (he : ¬ en = 0) : ∃ C, (cntP uA τ z).1 = some C := by
  rcases h with ⟨a, -⟩ | ⟨-, C, -, ⟨q, -⟩ | ⟨-, q⟩⟩
  · exact absurd (hb.symm.trans a) (by decide)
  · exact absurd q he
  · exact ⟨C, by rw [q]⟩
