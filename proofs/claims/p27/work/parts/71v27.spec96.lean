def okS (w v : Int32) : Prop := if w = 0 then 10 ≤ v ∧ v ≤ 99 else if w = 1 then 0 ≤ v ∧ v ≤ 20 else if w = 2 then 0 ≤ v ∧ v ≤ 99 else 0 ≤ v ∧ v ≤ 1
section OKS
variable {w v : Int32}
theorem ok0 (h : w = 0) : okS w v ↔ (10 ≤ v ∧ v ≤ 99) := by unfold okS; rw [if_pos h]
theorem ok1 (h0 : ¬ w = 0) (h : w = 1) : okS w v ↔ (0 ≤ v ∧ v ≤ 20) := by unfold okS; rw [if_neg h0, if_pos h]
theorem ok2 (h0 : ¬ w = 0) (h1 : ¬ w = 1) (h : w = 2) : okS w v ↔ (0 ≤ v ∧ v ≤ 99) := by unfold okS; rw [if_neg h0, if_neg h1, if_pos h]
theorem ok3 (h0 : ¬ w = 0) (h1 : ¬ w = 1) (h2 : ¬ w = 2) : okS w v ↔ (0 ≤ v ∧ v ≤ 1) := by unfold okS; rw [if_neg h0, if_neg h1, if_neg h2]
theorem sl0 (h : w = 0) : slw w + 2 = 4 := by unfold slw; rw [if_pos h]
theorem sl1 (h0 : ¬ w = 0) (h : w = 1) : slw w + 2 = 5 := by unfold slw; rw [if_neg h0, if_pos h]
theorem sl2 (h0 : ¬ w = 0) (h1 : ¬ w = 1) (h : w = 2) : slw w + 2 = 6 := by unfold slw; rw [if_neg h0, if_neg h1, if_pos h]
theorem sl3 (h0 : ¬ w = 0) (h1 : ¬ w = 1) (h2 : ¬ w = 2) : slw w + 2 = 9 := by unfold slw; rw [if_neg h0, if_neg h1, if_neg h2]
end OKS
/-- what set() of the class answers and leaves -/
def SetP (n : Nat) (x w v r : Int32) (S S' : FS) : Prop := (((x < 0 ∨ nI n ≤ x) ∨ (w < 0 ∨ 3 < w)) ∧ r = -1 ∧ S' = S) ∨ ((∃ j, j < n ∧ x = nI j) ∧ ¬ (w < 0 ∨ 3 < w) ∧ ¬ okS w v ∧ r = -2 ∧ S' = S) ∨ (∃ j, j < n ∧ x = nI j ∧ ¬ (w < 0 ∨ 3 < w) ∧ okS w v ∧ r = fF S (21 + 6 * 0 + j) (slw w + 2) ∧ S' = setF S (21 + 6 * 0 + j) (slw w + 2) v)
theorem sp_y {n j i k : Nat} {x w v v' r : Int32} {S : FS} (hj : j < n) (ej : x = nI j) (hw : ¬ (w < 0 ∨ 3 < w)) (hok : okS w v) (hk : slw w + 2 = k) (hi : 21 + 6 * 0 + j = i) (hv : v' = v) (hr : r = fF S i k) : SetP n x w v r S (setF S i k v') := by
  subst hk hi hv
  exact Or.inr (Or.inr ⟨j, hj, ej, hw, hok, hr, rfl⟩)
theorem v01 {v : Int32} (h : 0 ≤ v ∧ v ≤ 1) (k : ¬ v = 1) : (0 : Int32) = v := by
  obtain ⟨j, hj, rfl⟩ := nI_of (x := v) (Int32.not_lt.mpr h.1)
  have h1 := (nI_leI (b := 1) hj (by omega)).mp h.2
  rcases (show j = 0 ∨ j = 1 by omega) with rfl | rfl
  · rfl
  · exact absurd rfl k
/-- a clause as it lies at place k -/
def CLE (S : FS) (k : Nat) (c : Nat × Int32 × Option (Nat × Unit)) : Prop := fA S 9 k = nI c.1 ∧ c.1 < 4 ∧ fA S 10 k = c.2.1 ∧ (c.2.2 = none → 2 ≤ c.1) ∧ ∀ q, c.2.2 = some q → c.1 < 2 ∧ fA S 11 k = nI q.1
def CLC (S : FS) (h : Nat) (C : ClU) : Prop := ∀ k c, C[k]? = some c → CLE S (10 * h + k) c
theorem CLE.of {S T : FS} {k : Nat} {c : Nat × Int32 × Option (Nat × Unit)} (h : CLE S k c) (e : ∀ i, (i = 9 ∨ i = 10 ∨ i = 11) → fA T i k = fA S i k) : CLE T k c := by
  obtain ⟨h1, h2, h3, h4, h5⟩ := h
  exact ⟨(e 9 (Or.inl rfl)).trans h1, h2, (e 10 (Or.inr (Or.inl rfl))).trans h3, h4, fun q hq => ⟨(h5 q hq).1, (e 11 (Or.inr (Or.inr rfl))).trans (h5 q hq).2⟩⟩
theorem CLC.of {S T : FS} {h : Nat} {C : ClU} (k : CLC S h C) (e : ∀ i j, (i = 9 ∨ i = 10 ∨ i = 11) → j < C.length → fA T i (10 * h + j) = fA S i (10 * h + j)) : CLC T h C := fun j c hc => (k j c hc).of (fun i hi => e i j hi (List.getElem?_eq_some_iff.mp hc).1)
theorem cle_of {S : FS} {z k : Nat} {x : Option (Nat × Int32 × Option (Nat × Unit)) × Nat} {c : Nat × Int32 × Option (Nat × Unit)} (h : RcX x z k S) (e : x.1 = some c) : CLE S k c := by
  obtain ⟨-, h⟩ := h
  obtain ⟨w, n, o⟩ := c
  obtain ⟨h1, h2, h3, h4, h5⟩ := h w n o e
  exact ⟨h2, h1, h3, h4, h5⟩
theorem CLC.snoc {S T : FS} {h n : Nat} {C : ClU} {c : Nat × Int32 × Option (Nat × Unit)} (k : CLC S h C) (hn : C.length = n) (hF : CF (10 * h + n) (10 * h + n + 1) S T) (hc : CLE T (10 * h + n) c) : CLC T h (C ++ [c]) := fun j d hd => by
  have hj := (List.getElem?_eq_some_iff.mp hd).1
  rw [List.length_append, List.length_singleton] at hj
  by_cases q : j < C.length
  · rw [List.getElem?_append_left q] at hd
    exact (k j d hd).of (fun i hi => hF.2.2.2.2 i _ hi (Or.inl (by omega)))
  · have e : j = n := by omega
    subst e
    rw [List.getElem?_append_right (by omega), hn, Nat.sub_self] at hd
    cases hd
    exact hc
def KCo (τ : Nat → Int32) (z nc n : Nat) (en : Int32) (S : FS) : Prop := (fF S 0 26 = 1 ∧ (cntP uA τ z).1 = none ∧ fF S 0 25 = nI (cntP uA τ z).2) ∨ (fF S 0 26 = 0 ∧ ∃ C : ClU, C.length = n ∧ CLC S nc C ∧ ((en = 0 ∧ ∃ u, fF S 0 25 = nI u ∧ u ≤ z ∧ cntG τ z n C u = cntP uA τ z) ∨ (¬ en = 0 ∧ cntP uA τ z = (some C, z))))
theorem KCo.X {τ : Nat → Int32} {z nc n : Nat} {en : Int32} {S : FS} (h : KCo τ z nc n en S) : KX τ z n en S := by
  rcases h with h | ⟨h, C, h1, -, h2⟩
  · exact Or.inl h
  · exact Or.inr ⟨h, C, h1, h2⟩
theorem KC_start {τ : Nat → Int32} {z nc : Nat} {S : FS} (h : fF S 0 26 = 0) (h2 : fF S 0 25 = 0) : KCo τ z nc 0 0 S :=
  Or.inr ⟨h, [], rfl, fun k c hc => by simp at hc, Or.inl ⟨rfl, 0, h2, Nat.zero_le _, ((if_pos (Or.inl rfl)).trans (by rw [if_pos rfl]; rfl) : cntL uA τ z 10 true [] 0 = _).symm⟩⟩
theorem KC_run {τ : Nat → Int32} {z nc n u : Nat} {en : Int32} {S : FS} (h : KCo τ z nc n en S) (hb : fF S 0 26 = 0) (he : en = 0) (hp : fF S 0 25 = nI u) (hu : u ≤ z) (hz : z ≤ 100) : ∃ C : ClU, C.length = n ∧ CLC S nc C ∧ cntG τ z n C u = cntP uA τ z := by
  rcases h with ⟨a, -⟩ | ⟨-, C, c1, c0, ⟨-, v, c2, c3, c4⟩ | ⟨c2, -⟩⟩
  · exact absurd (hb.symm.trans a) (by decide)
  · have e : v = u := (nI_eq (by omega) (by omega)).mp (c2.symm.trans hp)
    subst e
    exact ⟨C, c1, c0, c4⟩
  · exact absurd he c2
section KCS
variable {τ : Nat → Int32} {z nc n u u2 : Nat} {C : ClU} {S S1 S2 : FS}
theorem KC_cases (hz : z ≤ 100) (hG : cntG τ z n C u = cntP uA τ z) (hCn : C.length = n) (hCc : CLC S nc C) (hF : CF (10 * nc + n) (10 * nc + n + 1) S S1) (hR : RcX (clP uA τ u) z (10 * nc + n) S1) (hq : fF S1 0 25 = nI u2) (hu2 : u2 ≤ z) : (fF S1 0 26 = 1 ∧ cntP uA τ z = (none, u2)) ∨ (fF S1 0 26 = 0 ∧ ∃ c, CLC S1 nc (C ++ [c]) ∧ cntP uA τ z = if u2 = z then (some (C ++ [c]), u2) else cntL uA τ z (10 - (n + 1)) false (C ++ [c]) u2) := by
  have h1 := hR.1
  have e : (clP uA τ u).2 = u2 := (nI_eq (by have := h1.2.2; omega) (by omega)).mp (h1.1.symm.trans hq)
  unfold cntG at hG
  cases q : (clP uA τ u).1 with
  | none =>
    rw [thn_n q, e] at hG
    refine Or.inl ⟨?_, hG.symm⟩
    rw [h1.2.1, q]
    rfl
  | some c =>
    rw [thn_s q, e] at hG
    refine Or.inr ⟨?_, c, hCc.snoc hCn hF (cle_of hR q), hG.symm⟩
    rw [h1.2.1, q]
    rfl
theorem KC_bad (hz : z ≤ 100) (hG : cntG τ z n C u = cntP uA τ z) (hCn : C.length = n) (hCc : CLC S nc C) (hF : CF (10 * nc + n) (10 * nc + n + 1) S S1) (hR : RcX (clP uA τ u) z (10 * nc + n) S1) (hq : fF S1 0 25 = nI u2) (hu2 : u2 ≤ z) (h10 : n + 1 = 10) (hne : ¬ fF S1 0 26 = 0 ∨ ¬ u2 = z) : KCo τ z nc (n + 1) 0 (setF S1 0 26 1) := by
  refine Or.inl ⟨rfl, ?_⟩
  have hq' : fF (setF S1 0 26 1) 0 25 = nI u2 := hq
  rcases KC_cases hz hG hCn hCc hF hR hq hu2 with ⟨a, b⟩ | ⟨a, c, -, b⟩
  · rw [b]
    exact ⟨rfl, hq'⟩
  · rw [if_neg (hne.resolve_left (fun x => x a)), show 10 - (n + 1) = 0 by omega] at b
    rw [b]
    exact ⟨rfl, hq'⟩
theorem KC_end (hz : z ≤ 100) (hG : cntG τ z n C u = cntP uA τ z) (hCn : C.length = n) (hCc : CLC S nc C) (hF : CF (10 * nc + n) (10 * nc + n + 1) S S1) (hR : RcX (clP uA τ u) z (10 * nc + n) S1) (hq : fF S1 0 25 = nI u2) (hu2 : u2 ≤ z) (hb : fF S1 0 26 = 0) (he : u2 = z) : KCo τ z nc (n + 1) 1 S1 := by
  rcases KC_cases hz hG hCn hCc hF hR hq hu2 with ⟨a, -⟩ | ⟨-, c, d, b⟩
  · exact absurd (hb.symm.trans a) (by decide)
  · rw [if_pos he, he] at b
    exact Or.inr ⟨hb, C ++ [c], by rw [List.length_append, hCn]; rfl, d, Or.inr ⟨by decide, b⟩⟩
theorem KC_take (hz : z ≤ 100) (hG : cntG τ z n C u = cntP uA τ z) (hCn : C.length = n) (hCc : CLC S nc C) (hF : CF (10 * nc + n) (10 * nc + n + 1) S S1) (hR : RcX (clP uA τ u) z (10 * nc + n) S1) (hq : fF S1 0 25 = nI u2) (hu2 : u2 ≤ z) (hn : n < 10) (h10 : n + 1 ≠ 10) (hne : ¬ fF S1 0 26 = 0 ∨ ¬ u2 = z) (hτ : hrS (fA S1 6) z = τ) (hT : TKP z u2 59 S1 S2) : KCo τ z nc (n + 1) 0 S2 := by
  obtain ⟨hQ, hT⟩ := hT
  rw [hτ] at hT
  rcases KC_cases hz hG hCn hCc hF hR hq hu2 with ⟨a, b⟩ | ⟨a, c, cc, b⟩
  · rcases hT with ⟨d, -⟩ | ⟨-, d, e⟩
    · exact absurd (d.symm.trans a) (by decide)
    · refine Or.inl ⟨e, ?_⟩
      rw [b]
      exact ⟨rfl, d⟩
  · rw [if_neg (hne.resolve_left (fun x => x a)), show 10 - (n + 1) = (10 - (n + 1 + 1)) + 1 by omega] at b
    rcases hT with ⟨-, h59, d, e⟩ | ⟨h59, d, e⟩
    · have hlt : u2 < z := by
        rw [← hτ] at h59
        exact hr_lt (by rw [h59]; decide)
      refine Or.inr ⟨e, C ++ [c], by rw [List.length_append, hCn]; rfl, cc.of (fun i j _ _ => by rw [hQ.2.2.2 i]), Or.inl ⟨rfl, u2 + 1, d, hlt, ?_⟩⟩
      rw [b]
      exact ((if_pos (Or.inr h59)).trans (by rw [if_neg (fun x => by cases x)]; rfl) : cntL uA τ z (10 - (n + 1 + 1) + 1) false (C ++ [c]) u2 = _).symm
    · have hx : ¬ τ u2 = 59 := fun x => h59 ⟨a, x⟩
      have b2 : cntP uA τ z = (none, u2) := b.trans (if_neg (fun x => x.elim (fun x => by cases x) hx))
      refine Or.inl ⟨e, ?_⟩
      rw [b2]
      exact ⟨rfl, d⟩
end KCS
theorem KC_ok {τ : Nat → Int32} {z nc n : Nat} {en : Int32} {S : FS} (h : KCo τ z nc n en S) (hb : fF S 0 26 = 0) (he : ¬ en = 0) : ∃ C : ClU, C.length = n ∧ CLC S nc C ∧ cntP uA τ z = (some C, z) := by
  rcases h with ⟨a, -⟩ | ⟨-, C, h1, h2, ⟨q, -⟩ | ⟨-, q⟩⟩
  · exact absurd (hb.symm.trans a) (by decide)
  · exact absurd q he
  · exact ⟨C, h1, h2, q⟩
/-- the elder counters are kept -/
def EKP (nc : Nat) (S S' : FS) : Prop := ∀ h, h < nc → fA S' 8 h = fA S 8 h ∧ fA S' 12 h = fA S 12 h ∧ (∀ p, p < 100 → fA S' 7 (100 * h + p) = fA S 7 (100 * h + p)) ∧ ∀ i k, (i = 9 ∨ i = 10 ∨ i = 11) → k < 10 → fA S' i (10 * h + k) = fA S i (10 * h + k)
theorem hrs_cg {f g : Nat → Int32} {z : Nat} (h : ∀ p, p < z → f p = g p) : hrS f z = hrS g z := by
  funext p
  unfold hrS
  by_cases a : p < z
  · rw [if_pos a, if_pos a, h p a]
  · rw [if_neg a, if_neg a]
theorem HE.keep {S S' : FS} {h nc z : Nat} {τ : Nat → Int32} {C : ClU} (k : HE S h z τ C) (hh : h < nc) (e : EKP nc S S') : HE S' h z τ C := by
  obtain ⟨h1, h2, h3, h4, h5, h6, h7⟩ := k
  obtain ⟨e1, e2, e3, e4⟩ := e h hh
  refine ⟨e1.trans h1, h2, (hrs_cg (fun p hp => e3 p (by omega))).trans h3, e2.trans h4, h5, fun i c hc => ?_, h7⟩
  have hi : i < 10 := by have := (List.getElem?_eq_some_iff.mp hc).1; omega
  rw [e4 9 i (Or.inl rfl) hi, e4 10 i (Or.inr (Or.inl rfl)) hi, e4 11 i (Or.inr (Or.inr rfl)) hi]
  exact h6 i c hc
/-- what counter() leaves of the counters -/
def CNE (τ : Nat → Int32) (z nc : Nat) (S S' : FS) : Prop := EKP nc S S' ∧ ∀ C, (cntP uA τ z).1 = some C → nc < 6 → HE S' nc z τ C
theorem EKP.rf {nc : Nat} {S : FS} : EKP nc S S := fun _ _ => ⟨rfl, rfl, fun _ _ => rfl, fun _ _ _ _ => rfl⟩
theorem CNE_full {τ : Nat → Int32} {z nc : Nat} {S : FS} (h : nc = 6) : CNE τ z nc S (setF S 0 8 0) := ⟨EKP.rf, fun _ _ q => by omega⟩
theorem EKP.cf {nc m : Nat} {S T S1 : FS} (hT : T = setF S 0 8 0) (hC : CF (10 * nc) (10 * nc + m) T S1) : EKP nc S S1 := fun h hh => by
  subst hT
  exact ⟨congrFun (hC.2.2.2.1 8 (by decide) (by decide) (by decide) (by decide)) h, congrFun (hC.2.2.2.1 12 (by decide) (by decide) (by decide) (by decide)) h, fun p _ => congrFun (hC.2.2.2.1 7 (by decide) (by decide) (by decide) (by decide)) _, fun i k hi hk => hC.2.2.2.2 i _ hi (Or.inl (by omega))⟩
theorem CNE_bad {τ : Nat → Int32} {z nc m : Nat} {S T S1 : FS} (hT : T = setF S 0 8 0) (hC : CF (10 * nc) (10 * nc + m) T S1) (hn : (cntP uA τ z).1 = none) : CNE τ z nc S (setF S1 0 17 0) := ⟨fun h hh => (EKP.cf hT hC : EKP nc S S1) h hh, fun C e _ => by rw [hn] at e; cases e⟩
theorem CNE_ok {nc n z : Nat} {S T S1 SM S' : FS} {en : Int32} (hT : T = setF S 0 8 0) (hC : CF (10 * nc) (10 * nc + n) T S1) (hnc : nc < 6) (hn : n ≤ 10) (hz : fF T 0 17 = nI z) (hz1 : z ≤ 100) (hK : KCo (hrS (fA S 6) z) z nc n en S1) (hb : fF S1 0 26 = 0) (he : ¬ en = 0) (hM : SM = setA (setF S1 0 17 0) 7 (cpt (fA S1 7) (fA S 6) (100 * nc) z))
    (e : S' = setF (setF (setA (setA SM 8 (upd (fA SM 8) nc (fF S1 0 17))) 12 (upd (fA SM 12) nc (nI n))) 0 3 (nI nc)) 0 20 (nI (nc + 1))) : CNE (hrS (fA S 6) z) z nc S S' := by
  have a7 : fA S' 7 = cpt (fA S1 7) (fA S 6) (100 * nc) z := by rw [e, hM]; rfl
  have a8 : fA S' 8 = upd (fA S1 8) nc (fF S1 0 17) := by rw [e, hM]; rfl
  have a12 : fA S' 12 = upd (fA S1 12) nc (nI n) := by rw [e, hM]; rfl
  have aO : ∀ i, i ≠ 7 → i ≠ 8 → i ≠ 12 → fA S' i = fA S1 i := fun i q7 q8 q12 => by
    rw [e, hM, fA_setF, fA_setF, fA_setA, if_neg q12, fA_setA, if_neg q8, fA_setA, if_neg q7]
    rfl
  have hE := EKP.cf hT hC
  refine ⟨fun h hh => ?_, fun C eC _ => ?_⟩
  · obtain ⟨e1, e2, e3, e4⟩ := hE h hh
    refine ⟨by rw [a8, pk_un (by omega)]; exact e1, by rw [a12, pk_un (by omega)]; exact e2, fun p hp => ?_, fun i k hi hk => ?_⟩
    · rw [a7]
      unfold cpt
      rw [if_neg (by omega)]
      exact e3 p hp
    · rw [aO i (by omega) (by omega) (by omega)]
      exact e4 i k hi hk
  · obtain ⟨D, d1, d2, d3⟩ := KC_ok hK hb he
    rw [d3] at eC
    cases eC
    have h17 : fF S1 0 17 = nI z := (hC.2.2.1 17 (by decide) (by decide) (by decide) (by decide)).trans hz
    refine ⟨by rw [a8, pk_us]; exact h17, hz1, ?_, by rw [a12, pk_us, d1], by omega, fun i c hc => ?_, cntP_says (z := z) hz1 (by rw [d3])⟩
    · refine hrs_cg (fun p hp => ?_)
      rw [a7]
      unfold cpt
      rw [if_pos (by omega), Nat.add_sub_cancel_left]
    · rw [aO 9 (by omega) (by omega) (by omega), aO 10 (by omega) (by omega) (by omega), aO 11 (by omega) (by omega) (by omega)]
      exact d2 i c hc
