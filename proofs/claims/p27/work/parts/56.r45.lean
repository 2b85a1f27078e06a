theorem pX_din {G : GG} {ad : Nat → Nat} {S : FS} {a L : Nat} (h : DIN S a L) (f : Nat → Int32) : (wX G ad S).set a (ad a, .inl (G.2.1 0, L, .inl f)) = wX G ad (setA S a f) := wX_setA h.2.1 (by
  have h' : DIN (setA S a f) a L := h
  rw [cX_din h', fA_setA, if_pos rfl])
/-- what is written into a place that wasn't there changes nothing old -/
theorem frnew {P : Nat → Nat → Prop} {S0 S : FS} {a : Nat} {f : Nat → Int32} (h : Fr P S0 S) (ha : 71 + fC S0 ≤ a) : Fr P S0 (setA S a f) :=
  ⟨h.1, fun j hj => ⟨(h.2 j hj).1, fun n => by rw [fA_setA, if_neg (by omega)]; exact h.A hj n, (h.2 j hj).2.2⟩⟩
theorem Fr.tr {P P' : Nat → Nat → Prop} {S0 S S1 : FS} (h : Fr P S0 S) (g : Fr P' S S1) (hp : ∀ j k, j < 71 + fC S0 → P' j k → P j k) : Fr P S0 S1 :=
  ⟨Nat.le_trans h.1 g.1, fun j hj => by
    have hj' : j < 71 + fC S := Nat.lt_of_lt_of_le hj (Nat.add_le_add_left h.1 71)
    exact ⟨fun k n => ⟨(g.F hj' (fun z => n (hp j k hj z))).trans (h.F hj n), (g.R hj' (fun z => n (hp j k hj z))).trans (h.R hj n)⟩, fun n => (g.A hj' (fun z => n (hp j 99 hj z))).trans (h.A hj n), fun n => (g.L hj' (fun z => n (hp j 98 hj z))).trans (h.L hj n), (g.N hj').trans (h.N hj), (g.K hj').trans (h.K hj)⟩⟩
theorem fit_arr {cA : ClassId} {n i : Nat} {f : Nat → Int32} {v : Value} (h : (vp_cell cA (n, .inl f)).slots[i]? = some v) : fits .int v = true := by
  have h' : (arrV cA n (fun j => .int (f j))).slots[i]? = some v := h
  by_cases hi : i < n
  · rw [arrV_read _ _ hi] at h'
    cases h'
    rfl
  · rw [Array.getElem?_eq_none (by rw [arrV_size]; omega)] at h'
    cases h'
theorem cz100 {cz : Nat} (h : cz < 2 ^ 31) (e : nI cz = 100) : cz = 100 := by
  have := congrArg Int32.toNatClampNeg e
  rwa [nI_clamp h] at this
theorem mn100 {cz : Nat} {r : Int32} (h : r = if nI cz < 100 then nI cz else 100) (hc : cz ≤ 100) : r = nI cz := by
  by_cases q : nI cz < 100
  · rw [if_pos q] at h
    exact h
  · rw [if_neg q] at h
    have := ci_nlt (a := cz) (b := 100) (by omega) (by omega) q
    rw [h, show cz = 100 by omega]
    rfl
theorem pX_ctrF {G : GG} {ad : Nat → Nat} {S : FS} {pz : Nat} (h71 : 71 ≤ pz) (hlt : pz < 71 + fC S) (hk : fK S pz = 0) (k : Nat) (hk2 : k < 2) (x : Int32) : (wX G ad S).set pz (ad pz, .inr (3, List.set [.int (fF S pz 0), .int (fF S pz 1), va_rf ((fR S pz 2).map ad), va_rf ((fR S pz 3).map ad)] k (.int x))) = wX G ad (setF S pz k x) :=
  wX_setF hlt (by
    have hk' : fK (setF S pz k x) pz = 0 := hk
    rw [cX_ctr h71 hk']
    rcases (show k = 0 ∨ k = 1 by omega) with rfl | rfl <;> simp [fF_setF, fR_setF])
theorem pX_ctrR {G : GG} {ad : Nat → Nat} {S : FS} {pz : Nat} (h71 : 71 ≤ pz) (hlt : pz < 71 + fC S) (hk : fK S pz = 0) (k : Nat) (hk2 : k = 2 ∨ k = 3) (x : Nat) : (wX G ad S).set pz (ad pz, .inr (3, List.set [.int (fF S pz 0), .int (fF S pz 1), va_rf ((fR S pz 2).map ad), va_rf ((fR S pz 3).map ad)] k (.ref (ad x)))) = wX G ad (setR S pz k (some x)) :=
  wX_setR hlt (by
    have hk' : fK (setR S pz k (some x)) pz = 0 := hk
    rw [cX_ctr h71 hk']
    rcases hk2 with rfl | rfl <;> simp [fF_setR, fR_setR, va_rf])
theorem XI.dF {S : FS} (h : XI S) {pz k : Nat} (v : Int32) (h71 : 71 ≤ pz) : XI (setF S pz k v) := by
  obtain ⟨h1, h2, h3, h4, h5, h6, h7, h8, h9, h10⟩ := h
  have f : Fr (fun j m => j = pz ∧ m = k) S (setF S pz k v) := Fr.sF Fr.rf ⟨rfl, rfl⟩
  refine ⟨h1.fr f (by omega), h2.fr f (by omega), h3.fr f (by omega), h4, h5.fr f (by omega) (by omega), h6.fr f (by omega), h7.fr f (by omega), h8.fr f (by omega) (by omega), h9.fr f (by omega), ?_⟩
  obtain ⟨z, e1, e2⟩ := h10
  exact ⟨z, (f.F (lt71 (by omega)) (by omega)).trans e1, e2⟩
theorem COK.at {P : Nat → Nat → Prop} {S S' : FS} {p : Nat} (h : COK S p) (f : Fr P S S') (n : ∀ k, ¬ P p k) : COK S' p := by
  obtain ⟨h1, h2, h3, a, b, L, ha, hb, hL, da, db⟩ := h
  exact ⟨h1, Nat.lt_of_lt_of_le h2 (Nat.add_le_add_left f.1 71), (f.K h2).trans h3, a, b, L, (f.R h2 (n 2)).trans ha, (f.R h2 (n 3)).trans hb, hL, da.fr f, db.fr f⟩
theorem XI.dR {S : FS} (h : XI S) {pz k : Nat} (a : Nat) (h71 : 71 ≤ pz) (hk : fK S pz = 0) (hn : ∀ s, s < 3 → fR S (9 + s) 7 ≠ some pz) (ha : a < 71 + fC S) : XI (setR S pz k (some a)) := by
  obtain ⟨h1, h2, h3, h4, h5, h6, h7, h8, h9, h10⟩ := h
  have f : Fr (fun j m => j = pz ∧ m = k) S (setR S pz k (some a)) := Fr.sR Fr.rf ⟨rfl, rfl⟩
  refine ⟨h1.fr f (by omega), h2.fr f (by omega), h3.fr f (by omega), ⟨fun s hs => ?_, fun p m b p1 p2 p3 p4 => ?_⟩, h5.fr f (by omega) (by omega), h6.fr f (by omega), h7.fr f (by omega), h8.fr f (by omega) (by omega), h9.fr f (by omega), ?_⟩
  · obtain ⟨p, e1, e2⟩ := h4.1 s hs
    have hp : p ≠ pz := fun q => hn s hs (q ▸ e1)
    exact ⟨p, (f.R (lt71 (by omega)) (by omega)).trans e1, e2.at f (by omega)⟩
  · rw [fR_setR] at p4
    by_cases q : p = pz ∧ m = k
    · rw [if_pos q] at p4
      cases p4
      exact ha
    · rw [if_neg q] at p4
      exact h4.2 p m b p1 p2 p3 p4
  · obtain ⟨z, e1, e2⟩ := h10
    refine ⟨z, e1, ?_⟩
    rcases e2 with ⟨e2, e3⟩ | ⟨p, e2, e3, e4, e5, e6, e7, e8, e9⟩
    · exact Or.inl ⟨(f.R (lt71 (by omega)) (by omega)).trans e2, e3⟩
    · have hp : p ≠ pz := fun q => by rw [q, hk] at e5; omega
      refine Or.inr ⟨p, (f.R (lt71 (by omega)) (by omega)).trans e2, e3, e4, e5, e6, e7, e8, fun i hi => ?_⟩
      obtain ⟨j, hj, e10⟩ := e9 i hi
      exact ⟨j, hj, (f.R e4 (by omega)).trans e10⟩
/-- no shop has this counter -/
def noSh (S : FS) (pz : Nat) : Prop := ∀ s, s < 3 → fR S (9 + s) 7 ≠ some pz
theorem noSh.fr {P : Nat → Nat → Prop} {S S' : FS} {pz : Nat} (h : noSh S pz) (f : Fr P S S') (n : ∀ s, s < 3 → ¬ P (9 + s) 7) : noSh S' pz := fun s hs => by
  rw [f.R (lt71 (by omega)) (n s hs)]
  exact h s hs
theorem noSh.new {S : FS} (h : XI S) : noSh S (71 + fC S) := fun s hs e => by
  obtain ⟨p, e1, e2⟩ := h.ctr hs
  rw [e1] at e
  cases e
  exact absurd e2.2.1 (Nat.lt_irrefl _)
