/-- from S on, in a world that may grow, nothing has changed but at P (99: an int row, 98: a long row) -/
def Fr (P : Nat → Nat → Prop) (S S' : FS) : Prop := fC S ≤ fC S' ∧ ∀ j, j < 71 + fC S → (∀ k, ¬ P j k → fF S' j k = fF S j k ∧ fR S' j k = fR S j k) ∧ (¬ P j 99 → fA S' j = fA S j) ∧ (¬ P j 98 → fL S' j = fL S j) ∧ fN S' j = fN S j ∧ fK S' j = fK S j
theorem Fr.rf {P : Nat → Nat → Prop} {S : FS} : Fr P S S := ⟨Nat.le_refl _, fun _ _ => ⟨fun _ _ => ⟨rfl, rfl⟩, fun _ => rfl, fun _ => rfl, rfl, rfl⟩⟩
theorem Fr.F {P : Nat → Nat → Prop} {S S' : FS} (h : Fr P S S') {j k : Nat} (hj : j < 71 + fC S) (n : ¬ P j k) : fF S' j k = fF S j k := ((h.2 j hj).1 k n).1
theorem Fr.R {P : Nat → Nat → Prop} {S S' : FS} (h : Fr P S S') {j k : Nat} (hj : j < 71 + fC S) (n : ¬ P j k) : fR S' j k = fR S j k := ((h.2 j hj).1 k n).2
theorem Fr.A {P : Nat → Nat → Prop} {S S' : FS} (h : Fr P S S') {j : Nat} (hj : j < 71 + fC S) (n : ¬ P j 99) : fA S' j = fA S j := (h.2 j hj).2.1 n
theorem Fr.L {P : Nat → Nat → Prop} {S S' : FS} (h : Fr P S S') {j : Nat} (hj : j < 71 + fC S) (n : ¬ P j 98) : fL S' j = fL S j := (h.2 j hj).2.2.1 n
theorem Fr.N {P : Nat → Nat → Prop} {S S' : FS} (h : Fr P S S') {j : Nat} (hj : j < 71 + fC S) : fN S' j = fN S j := (h.2 j hj).2.2.2.1
theorem Fr.K {P : Nat → Nat → Prop} {S S' : FS} (h : Fr P S S') {j : Nat} (hj : j < 71 + fC S) : fK S' j = fK S j := (h.2 j hj).2.2.2.2
theorem Fr.mono {P P' : Nat → Nat → Prop} {S S' : FS} (h : Fr P S S') (hp : ∀ j k, P j k → P' j k) : Fr P' S S' :=
  ⟨h.1, fun j hj => ⟨fun k n => (h.2 j hj).1 k (fun z => n (hp j k z)), fun n => (h.2 j hj).2.1 (fun z => n (hp j 99 z)), fun n => (h.2 j hj).2.2.1 (fun z => n (hp j 98 z)), (h.2 j hj).2.2.2⟩⟩
theorem Fr.trans {P : Nat → Nat → Prop} {S S' S'' : FS} (h : Fr P S S') (g : Fr P S' S'') : Fr P S S'' :=
  ⟨Nat.le_trans h.1 g.1, fun j hj => by
    have hj' : j < 71 + fC S' := Nat.lt_of_lt_of_le hj (Nat.add_le_add_left h.1 71)
    exact ⟨fun k n => ⟨(g.F hj' n).trans (h.F hj n), (g.R hj' n).trans (h.R hj n)⟩, fun n => (g.A hj' n).trans (h.A hj n), fun n => (g.L hj' n).trans (h.L hj n), (g.N hj').trans (h.N hj), (g.K hj').trans (h.K hj)⟩⟩
theorem Fr.sF {P : Nat → Nat → Prop} {S0 S : FS} (h : Fr P S0 S) {i m : Nat} {v : Int32} (hp : P i m) : Fr P S0 (setF S i m v) :=
  h.trans ⟨Nat.le_refl _, fun j _ => ⟨fun k n => ⟨by
    rw [fF_setF, if_neg]
    rintro ⟨rfl, rfl⟩
    exact n hp, rfl⟩, fun _ => rfl, fun _ => rfl, rfl, rfl⟩⟩
theorem Fr.sR {P : Nat → Nat → Prop} {S0 S : FS} (h : Fr P S0 S) {i m : Nat} {v : Option Nat} (hp : P i m) : Fr P S0 (setR S i m v) :=
  h.trans ⟨Nat.le_refl _, fun j _ => ⟨fun k n => ⟨rfl, by
    rw [fR_setR, if_neg]
    rintro ⟨rfl, rfl⟩
    exact n hp⟩, fun _ => rfl, fun _ => rfl, rfl, rfl⟩⟩
theorem Fr.sA {P : Nat → Nat → Prop} {S0 S : FS} (h : Fr P S0 S) {i : Nat} {f : Nat → Int32} (hp : P i 99) : Fr P S0 (setA S i f) :=
  h.trans ⟨Nat.le_refl _, fun j _ => ⟨fun _ _ => ⟨rfl, rfl⟩, fun n => by
    rw [fA_setA, if_neg]
    rintro rfl
    exact n hp, fun _ => rfl, rfl, rfl⟩⟩
theorem Fr.sL {P : Nat → Nat → Prop} {S0 S : FS} (h : Fr P S0 S) {i : Nat} {f : Nat → Int64} (hp : P i 98) : Fr P S0 (setL S i f) :=
  h.trans ⟨Nat.le_refl _, fun j _ => ⟨fun _ _ => ⟨rfl, rfl⟩, fun _ => rfl, fun n => by
    rw [fL_setL, if_neg]
    rintro rfl
    exact n hp, rfl, rfl⟩⟩
def XSz (S : FS) : Prop := ∀ s, s < 3 → ∃ n, fF S (9 + s) 3 = nI n ∧ n ≤ 6
def XSe (S : FS) : Prop := ∀ s, s < 3 → ∃ n, fF S (9 + s) 4 = nI n ∧ n ≤ 4
def XBo (S : FS) : Prop := ∀ s, s < 3 → ∃ n, fF S (9 + s) 5 = nI n ∧ n ≤ 8
def DIN (S : FS) (a L : Nat) : Prop := 71 ≤ a ∧ a < 71 + fC S ∧ fK S a = 1 ∧ fN S a = L
def COK (S : FS) (p : Nat) : Prop := 71 ≤ p ∧ p < 71 + fC S ∧ fK S p = 0 ∧ ∃ a b L, fR S p 2 = some a ∧ fR S p 3 = some b ∧ L ≤ 100 ∧ DIN S a L ∧ DIN S b L
/-- what the later cells refer to lies in the world -/
def XDy (S : FS) : Prop := ∀ p k a, 71 ≤ p → p < 71 + fC S → fK S p = 0 → fR S p k = some a → a < 71 + fC S
def XCt (S : FS) : Prop := (∀ s, s < 3 → ∃ p, fR S (9 + s) 7 = some p ∧ COK S p) ∧ XDy S
def XKi (S : FS) : Prop := ∀ k, k < 18 → (∃ q, fR S (21 + k) 2 = some q ∧ 2 ≤ q ∧ q < 9) ∧ (fF S (21 + k) 9 = 0 ∨ fF S (21 + k) 9 = 1)
def XNu (S : FS) : Prop := ∀ s k, s < 3 → k < 6 → fF S (21 + 6 * s + k) 0 = nI k
def XKn (S : FS) : Prop := ∀ q, q < 7 → fF S (2 + q) 0 = nI q
def XTx (S : FS) : Prop := (∃ t, fF S 57 1 = nI t ∧ t ≤ 100) ∧ ∃ c, fF S 57 7 = nI c ∧ c ≤ 100
def XLe (S : FS) : Prop := ∀ t, t < 6 → ∃ L, fA S 63 t = nI L ∧ L ≤ 60
def XLi (S : FS) : Prop := ∃ z, fF S 61 2 = nI z ∧ ((fR S 61 1 = none ∧ z = 0) ∨ ∃ p, fR S 61 1 = some p ∧ 71 ≤ p ∧ p < 71 + fC S ∧ fK S p = 2 ∧ 2 ≤ fN S p ∧ fN S p ≤ 64 ∧ z ≤ fN S p ∧ ∀ i, i < z → ∃ j, j < 256 ∧ fR S p i = some j)
/-- what the class's methods want of its state -/
def XI (S : FS) : Prop := XSz S ∧ XSe S ∧ XBo S ∧ XCt S ∧ XKi S ∧ XNu S ∧ XKn S ∧ XTx S ∧ XLe S ∧ XLi S
theorem lt71 {S : FS} {j : Nat} (h : j < 71) : j < 71 + fC S := Nat.lt_of_lt_of_le h (Nat.le_add_right 71 _)
section XFR
variable {P : Nat → Nat → Prop} {S S' : FS}
theorem XSz.fr (h : XSz S) (f : Fr P S S') (n : ∀ s, s < 3 → ¬ P (9 + s) 3) : XSz S' := fun s hs => by
  obtain ⟨z, h1, h2⟩ := h s hs
  exact ⟨z, (f.F (lt71 (by omega)) (n s hs)).trans h1, h2⟩
theorem XSe.fr (h : XSe S) (f : Fr P S S') (n : ∀ s, s < 3 → ¬ P (9 + s) 4) : XSe S' := fun s hs => by
  obtain ⟨z, h1, h2⟩ := h s hs
  exact ⟨z, (f.F (lt71 (by omega)) (n s hs)).trans h1, h2⟩
theorem XBo.fr (h : XBo S) (f : Fr P S S') (n : ∀ s, s < 3 → ¬ P (9 + s) 5) : XBo S' := fun s hs => by
  obtain ⟨z, h1, h2⟩ := h s hs
  exact ⟨z, (f.F (lt71 (by omega)) (n s hs)).trans h1, h2⟩
theorem DIN.fr {a L : Nat} (h : DIN S a L) (f : Fr P S S') : DIN S' a L := by
  obtain ⟨h1, h2, h3, h4⟩ := h
  exact ⟨h1, Nat.lt_of_lt_of_le h2 (Nat.add_le_add_left f.1 71), (f.K h2).trans h3, (f.N h2).trans h4⟩
theorem COK.fr {p : Nat} (h : COK S p) (f : Fr P S S') (n : ∀ j k, 71 ≤ j → ¬ P j k) : COK S' p := by
  obtain ⟨h1, h2, h3, a, b, L, ha, hb, hL, da, db⟩ := h
  exact ⟨h1, Nat.lt_of_lt_of_le h2 (Nat.add_le_add_left f.1 71), (f.K h2).trans h3, a, b, L, (f.R h2 (n p 2 h1)).trans ha, (f.R h2 (n p 3 h1)).trans hb, hL, da.fr f, db.fr f⟩
theorem XDy.fr (h : XDy S) (f : Fr P S S') (hC : fC S' = fC S) (n2 : ∀ j k, 71 ≤ j → ¬ P j k) : XDy S' := fun p k a h1 h2 h3 h4 => by
  rw [hC] at h2 ⊢
  exact h p k a h1 h2 ((f.K h2).symm.trans h3) ((f.R h2 (n2 p k h1)).symm.trans h4)
theorem XCt.fr (h : XCt S) (f : Fr P S S') (hC : fC S' = fC S) (n : ∀ s, s < 3 → ¬ P (9 + s) 7) (n2 : ∀ j k, 71 ≤ j → ¬ P j k) : XCt S' := ⟨fun s hs => by
  obtain ⟨p, h1, h2⟩ := h.1 s hs
  exact ⟨p, (f.R (lt71 (by omega)) (n s hs)).trans h1, h2.fr f n2⟩, h.2.fr f hC n2⟩
theorem XKi.fr (h : XKi S) (f : Fr P S S') (n : ∀ k, k < 18 → ¬ P (21 + k) 2) (n2 : ∀ k, k < 18 → ¬ P (21 + k) 9) : XKi S' := fun k hk => by
  obtain ⟨⟨q, h1, h2⟩, h3⟩ := h k hk
  exact ⟨⟨q, (f.R (lt71 (by omega)) (n k hk)).trans h1, h2⟩, by rw [f.F (lt71 (by omega)) (n2 k hk)]; exact h3⟩
theorem XNu.fr (h : XNu S) (f : Fr P S S') (n : ∀ k, k < 18 → ¬ P (21 + k) 0) : XNu S' := fun s k hs hk => by
  refine (f.F (lt71 (by omega)) ?_).trans (h s k hs hk)
  have := n (6 * s + k) (by omega)
  rwa [← Nat.add_assoc] at this
theorem XKn.fr (h : XKn S) (f : Fr P S S') (n : ∀ q, q < 7 → ¬ P (2 + q) 0) : XKn S' := fun q hq => (f.F (lt71 (by omega)) (n q hq)).trans (h q hq)
theorem XTx.fr (h : XTx S) (f : Fr P S S') (n : ¬ P 57 1) (n2 : ¬ P 57 7) : XTx S' := by
  obtain ⟨⟨t, h1, h2⟩, c, h3, h4⟩ := h
  exact ⟨⟨t, (f.F (lt71 (by omega)) n).trans h1, h2⟩, c, (f.F (lt71 (by omega)) n2).trans h3, h4⟩
theorem XLe.fr (h : XLe S) (f : Fr P S S') (n : ¬ P 63 99) : XLe S' := fun t ht => by
  obtain ⟨L, h1, h2⟩ := h t ht
  exact ⟨L, by rw [f.A (lt71 (by omega)) n]; exact h1, h2⟩
theorem XLi.fr (h : XLi S) (f : Fr P S S') (n : ∀ k, ¬ P 61 k) (n2 : ∀ j k, 71 ≤ j → ¬ P j k) : XLi S' := by
  obtain ⟨z, h1, h2⟩ := h
  refine ⟨z, (f.F (lt71 (by omega)) (n 2)).trans h1, ?_⟩
  rcases h2 with ⟨h2, h3⟩ | ⟨p, h2, h3, h4, h5, h6, h7, h8, h9⟩
  · exact Or.inl ⟨(f.R (lt71 (by omega)) (n 1)).trans h2, h3⟩
  · refine Or.inr ⟨p, (f.R (lt71 (by omega)) (n 1)).trans h2, h3, Nat.lt_of_lt_of_le h4 (Nat.add_le_add_left f.1 71), (f.K h4).trans h5, by rw [f.N h4]; exact h6, by rw [f.N h4]; exact h7, by rw [f.N h4]; exact h8, fun i hi => ?_⟩
    obtain ⟨j, hj, h10⟩ := h9 i hi
    exact ⟨j, hj, (f.R h4 (n2 p i h3)).trans h10⟩
/-- where the invariant doesn't look -/
def nX (P : Nat → Nat → Prop) : Prop := (∀ s, s < 3 → ¬ P (9 + s) 3 ∧ ¬ P (9 + s) 4 ∧ ¬ P (9 + s) 5 ∧ ¬ P (9 + s) 7) ∧ (∀ k, k < 18 → ¬ P (21 + k) 0 ∧ ¬ P (21 + k) 2 ∧ ¬ P (21 + k) 9) ∧ (∀ q, q < 7 → ¬ P (2 + q) 0) ∧ ¬ P 57 1 ∧ ¬ P 57 7 ∧ ¬ P 63 99 ∧ (∀ k, ¬ P 61 k) ∧ ∀ j k, 71 ≤ j → ¬ P j k
theorem XI.fr (h : XI S) (f : Fr P S S') (hC : fC S' = fC S) (n : nX P) : XI S' := by
  obtain ⟨h1, h2, h3, h4, h5, h6, h7, h8, h9, h10⟩ := h
  obtain ⟨n1, n2, n3, n4, n5, n6, n7, n8⟩ := n
  exact ⟨h1.fr f (fun s hs => (n1 s hs).1), h2.fr f (fun s hs => (n1 s hs).2.1), h3.fr f (fun s hs => (n1 s hs).2.2.1), h4.fr f hC (fun s hs => (n1 s hs).2.2.2) n8, h5.fr f (fun k hk => (n2 k hk).2.1) (fun k hk => (n2 k hk).2.2), h6.fr f (fun k hk => (n2 k hk).1), h7.fr f n3, h8.fr f n4 n5, h9.fr f n6, h10.fr f n7 n8⟩
end XFR
theorem XI.sF {S : FS} (h : XI S) {i m : Nat} (v : Int32) (n : nX (fun j k => j = i ∧ k = m)) : XI (setF S i m v) := h.fr (Fr.sF Fr.rf ⟨rfl, rfl⟩) rfl n
theorem XI.sA {S : FS} (h : XI S) {i : Nat} (f : Nat → Int32) (n : i ≠ 63) : XI (setA S i f) := by
  obtain ⟨h1, h2, h3, h4, h5, h6, h7, h8, h9, h10⟩ := h
  have f0 : Fr (fun j k => j = i ∧ k = 99) S (setA S i f) := Fr.sA Fr.rf ⟨rfl, rfl⟩
  refine ⟨h1, h2, h3, h4, h5, h6, h7, h8, h9.fr f0 (fun z => n z.1.symm), h10⟩
theorem XI.sL {S : FS} (h : XI S) {i : Nat} (f : Nat → Int64) : XI (setL S i f) := h
theorem XI.len {S : FS} (h : XI S) (f : Nat → Int32) (hf : ∀ t, t < 6 → ∃ L, f t = nI L ∧ L ≤ 60) : XI (setA S 63 f) := by
  obtain ⟨h1, h2, h3, h4, h5, h6, h7, h8, h9, h10⟩ := h
  refine ⟨h1, h2, h3, h4, h5, h6, h7, h8, fun t ht => ?_, h10⟩
  rw [fA_setA, if_pos rfl]
  exact hf t ht
section XSET
variable {S : FS}
theorem XI.sz {s n : Nat} (h : XI S) (hs : s < 3) (hn : n ≤ 6) : XI (setF S (9 + s) 3 (nI n)) := by
  obtain ⟨h1, h2, h3, h4, h5, h6, h7, h8, h9, h10⟩ := h
  have f : Fr (fun j k => j = 9 + s ∧ k = 3) S (setF S (9 + s) 3 (nI n)) := Fr.sF Fr.rf ⟨rfl, rfl⟩
  refine ⟨fun t ht => ?_, h2.fr f (by omega), h3.fr f (by omega), h4.fr f rfl (by omega) (by omega), h5.fr f (by omega) (by omega), h6.fr f (by omega), h7.fr f (by omega), h8.fr f (by omega) (by omega), h9.fr f (by omega), h10.fr f (by omega) (by omega)⟩
  rw [fF_setF]
  by_cases e : 9 + t = 9 + s ∧ 3 = 3
  · rw [if_pos e]
    exact ⟨n, rfl, hn⟩
  · rw [if_neg e]
    exact h1 t ht
theorem XI.se {s n : Nat} (h : XI S) (hs : s < 3) (hn : n ≤ 4) : XI (setF S (9 + s) 4 (nI n)) := by
  obtain ⟨h1, h2, h3, h4, h5, h6, h7, h8, h9, h10⟩ := h
  have f : Fr (fun j k => j = 9 + s ∧ k = 4) S (setF S (9 + s) 4 (nI n)) := Fr.sF Fr.rf ⟨rfl, rfl⟩
  refine ⟨h1.fr f (by omega), fun t ht => ?_, h3.fr f (by omega), h4.fr f rfl (by omega) (by omega), h5.fr f (by omega) (by omega), h6.fr f (by omega), h7.fr f (by omega), h8.fr f (by omega) (by omega), h9.fr f (by omega), h10.fr f (by omega) (by omega)⟩
  rw [fF_setF]
  by_cases e : 9 + t = 9 + s ∧ 4 = 4
  · rw [if_pos e]
    exact ⟨n, rfl, hn⟩
  · rw [if_neg e]
    exact h2 t ht
theorem XI.bo {s n : Nat} (h : XI S) (hs : s < 3) (hn : n ≤ 8) : XI (setF S (9 + s) 5 (nI n)) := by
  obtain ⟨h1, h2, h3, h4, h5, h6, h7, h8, h9, h10⟩ := h
  have f : Fr (fun j k => j = 9 + s ∧ k = 5) S (setF S (9 + s) 5 (nI n)) := Fr.sF Fr.rf ⟨rfl, rfl⟩
  refine ⟨h1.fr f (by omega), h2.fr f (by omega), fun t ht => ?_, h4.fr f rfl (by omega) (by omega), h5.fr f (by omega) (by omega), h6.fr f (by omega), h7.fr f (by omega), h8.fr f (by omega) (by omega), h9.fr f (by omega), h10.fr f (by omega) (by omega)⟩
  rw [fF_setF]
  by_cases e : 9 + t = 9 + s ∧ 5 = 5
  · rw [if_pos e]
    exact ⟨n, rfl, hn⟩
  · rw [if_neg e]
    exact h3 t ht
theorem XI.ct {s p : Nat} (h : XI S) (hs : s < 3) (hp : COK S p) : XI (setR S (9 + s) 7 (some p)) := by
  obtain ⟨h1, h2, h3, h4, h5, h6, h7, h8, h9, h10⟩ := h
  have f : Fr (fun j k => j = 9 + s ∧ k = 7) S (setR S (9 + s) 7 (some p)) := Fr.sR Fr.rf ⟨rfl, rfl⟩
  refine ⟨h1.fr f (by omega), h2.fr f (by omega), h3.fr f (by omega), ⟨fun t ht => ?_, h4.2.fr (P := fun j k => j = 9 + s ∧ k = 7) f rfl (by omega)⟩, h5.fr f (by omega) (by omega), h6.fr f (by omega), h7.fr f (by omega), h8.fr f (by omega) (by omega), h9.fr f (by omega), h10.fr f (by omega) (by omega)⟩
  rw [fR_setR]
  by_cases e : 9 + t = 9 + s ∧ 7 = 7
  · rw [if_pos e]
    exact ⟨p, rfl, hp.fr f (by omega)⟩
  · rw [if_neg e]
    obtain ⟨p', e1, e2⟩ := h4.1 t ht
    exact ⟨p', e1, e2.fr f (by omega)⟩
theorem XI.ki {k q : Nat} (h : XI S) (hk : k < 18) (h2q : 2 ≤ q) (hq : q < 9) : XI (setR S (21 + k) 2 (some q)) := by
  obtain ⟨h1, h2, h3, h4, h5, h6, h7, h8, h9, h10⟩ := h
  have f : Fr (fun j m => j = 21 + k ∧ m = 2) S (setR S (21 + k) 2 (some q)) := Fr.sR Fr.rf ⟨rfl, rfl⟩
  refine ⟨h1.fr f (by omega), h2.fr f (by omega), h3.fr f (by omega), h4.fr f rfl (by omega) (by omega), fun t ht => ?_, h6.fr f (by omega), h7.fr f (by omega), h8.fr f (by omega) (by omega), h9.fr f (by omega), h10.fr f (by omega) (by omega)⟩
  refine ⟨?_, (h5 t ht).2⟩
  rw [fR_setR]
  by_cases e : 21 + t = 21 + k ∧ 2 = 2
  · rw [if_pos e]
    exact ⟨q, rfl, h2q, hq⟩
  · rw [if_neg e]
    exact (h5 t ht).1
theorem XI.go {k : Nat} {v : Int32} (h : XI S) (hk : k < 18) (hv : v = 0 ∨ v = 1) : XI (setF S (21 + k) 9 v) := by
  obtain ⟨h1, h2, h3, h4, h5, h6, h7, h8, h9, h10⟩ := h
  have f : Fr (fun j m => j = 21 + k ∧ m = 9) S (setF S (21 + k) 9 v) := Fr.sF Fr.rf ⟨rfl, rfl⟩
  refine ⟨h1.fr f (by omega), h2.fr f (by omega), h3.fr f (by omega), h4.fr f rfl (by omega) (by omega), fun t ht => ?_, h6.fr f (by omega), h7.fr f (by omega), h8.fr f (by omega) (by omega), h9.fr f (by omega), h10.fr f (by omega) (by omega)⟩
  refine ⟨(h5 t ht).1, ?_⟩
  rw [fF_setF]
  by_cases e : 21 + t = 21 + k ∧ 9 = 9
  · rw [if_pos e]
    exact hv
  · rw [if_neg e]
    exact (h5 t ht).2
theorem XI.tl {n : Nat} (h : XI S) (hn : n ≤ 100) : XI (setF S 57 1 (nI n)) := by
  obtain ⟨h1, h2, h3, h4, h5, h6, h7, ⟨h8, h8'⟩, h9, h10⟩ := h
  have f : Fr (fun j k => j = 57 ∧ k = 1) S (setF S 57 1 (nI n)) := Fr.sF Fr.rf ⟨rfl, rfl⟩
  refine ⟨h1.fr f (by omega), h2.fr f (by omega), h3.fr f (by omega), h4.fr f rfl (by omega) (by omega), h5.fr f (by omega) (by omega), h6.fr f (by omega), h7.fr f (by omega), ⟨⟨n, by rw [fF_setF, if_pos ⟨rfl, rfl⟩], hn⟩, ?_⟩, h9.fr f (by omega), h10.fr f (by omega) (by omega)⟩
  rw [fF_setF, if_neg (by omega)]
  exact h8'
theorem XI.cc {n : Nat} (h : XI S) (hn : n ≤ 100) : XI (setF S 57 7 (nI n)) := by
  obtain ⟨h1, h2, h3, h4, h5, h6, h7, ⟨h8, h8'⟩, h9, h10⟩ := h
  have f : Fr (fun j k => j = 57 ∧ k = 7) S (setF S 57 7 (nI n)) := Fr.sF Fr.rf ⟨rfl, rfl⟩
  refine ⟨h1.fr f (by omega), h2.fr f (by omega), h3.fr f (by omega), h4.fr f rfl (by omega) (by omega), h5.fr f (by omega) (by omega), h6.fr f (by omega), h7.fr f (by omega), ⟨?_, ⟨n, by rw [fF_setF, if_pos ⟨rfl, rfl⟩], hn⟩⟩, h9.fr f (by omega), h10.fr f (by omega) (by omega)⟩
  rw [fF_setF, if_neg (by omega)]
  exact h8
theorem XI.size {s : Nat} (h : XI S) (hs : s < 3) : ∃ n, fF S (9 + s) 3 = nI n ∧ n ≤ 6 := h.1 s hs
theorem XI.seen {s : Nat} (h : XI S) (hs : s < 3) : ∃ n, fF S (9 + s) 4 = nI n ∧ n ≤ 4 := h.2.1 s hs
theorem XI.book {s : Nat} (h : XI S) (hs : s < 3) : ∃ n, fF S (9 + s) 5 = nI n ∧ n ≤ 8 := h.2.2.1 s hs
theorem XI.ctr {s : Nat} (h : XI S) (hs : s < 3) : ∃ p, fR S (9 + s) 7 = some p ∧ COK S p := h.2.2.2.1.1 s hs
theorem XI.kind {k : Nat} (h : XI S) (hk : k < 18) : ∃ q, fR S (21 + k) 2 = some q ∧ 2 ≤ q ∧ q < 9 := (h.2.2.2.2.1 k hk).1
theorem XI.isgone {k : Nat} (h : XI S) (hk : k < 18) : fF S (21 + k) 9 = 0 ∨ fF S (21 + k) 9 = 1 := (h.2.2.2.2.1 k hk).2
theorem XI.num {s k : Nat} (h : XI S) (hs : s < 3) (hk : k < 6) : fF S (21 + 6 * s + k) 0 = nI k := h.2.2.2.2.2.1 s k hs hk
theorem XI.knum {q : Nat} (h : XI S) (hq : q < 7) : fF S (2 + q) 0 = nI q := h.2.2.2.2.2.2.1 q hq
theorem XI.tlen (h : XI S) : ∃ t, fF S 57 1 = nI t ∧ t ≤ 100 := h.2.2.2.2.2.2.2.1.1
theorem XI.lens (h : XI S) {t : Nat} (ht : t < 6) : ∃ L, fA S 63 t = nI L ∧ L ≤ 60 := h.2.2.2.2.2.2.2.2.1 t ht
theorem XI.list (h : XI S) : XLi S := h.2.2.2.2.2.2.2.2.2
end XSET
