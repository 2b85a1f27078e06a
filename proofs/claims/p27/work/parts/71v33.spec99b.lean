section QL
variable {n : Nat} {K : Nat → Nat} {τ : Nat → Int32} {C : Cls} {SX SR : FS}
theorem q_lost (ho : fF SX (9 + 0) 6 = fF SR 0 2) (hn6 : n ≤ 6) (hg : ∀ d, d < n → gX SX (21 + 6 * 0 + d) (K d) = gR SR d) {r r' : Int32} {x : Int32} (a : r = lostP (fF SX (9 + 0) 6) (lstW 3 1 C) τ C n (fun d => gX SX (21 + 6 * 0 + d) (K d)) x) (b : r' = lostP (fF SR 0 2) (lstW 3 1 (mU C)) τ (mU C) n (gR SR) x) : r = r' := by
  rw [a, b, ho, lst_u, lost_ae ae_u, lost_g hg]
theorem q_nobody (ho : fF SX (9 + 0) 6 = fF SR 0 2) (hn6 : n ≤ 6) (hg : ∀ d, d < n → gX SX (21 + 6 * 0 + d) (K d) = gR SR d) {r r' : Int32} (a : r = nobP (fF SX (9 + 0) 6) (lstW 3 1 C) τ C n (fun d => gX SX (21 + 6 * 0 + d) (K d))) (b : r' = nobP (fF SR 0 2) (lstW 3 1 (mU C)) τ (mU C) n (gR SR)) : r = r' := by
  rw [a, b, ho, lst_u, nobP_ae ae_u, nob_g hg]
theorem q_learnt (ho : fF SX (9 + 0) 6 = fF SR 0 2) (hn6 : n ≤ 6) (hg : ∀ d, d < n → gX SX (21 + 6 * 0 + d) (K d) = gR SR d) {r r' : Int32} {x y : Int32} (a : r = leaP (fF SX (9 + 0) 6) (lstW 3 1 C) τ C n (fun d => gX SX (21 + 6 * 0 + d) (K d)) x y) (b : r' = leaP (fF SR 0 2) (lstW 3 1 (mU C)) τ (mU C) n (gR SR) x y) : r = r' := by
  rw [a, b, ho, lst_u, leaP_ae ae_u, lea_g hg hn6]
theorem q_over (ho : fF SX (9 + 0) 6 = fF SR 0 2) (hn6 : n ≤ 6) (hg : ∀ d, d < n → gX SX (21 + 6 * 0 + d) (K d) = gR SR d) {r r' : Int32} {x y w : Int32} (a : r = overP (fF SX (9 + 0) 6) (lstW 3 1 C) (lstW 2 5 C) τ C n (fun d => gX SX (21 + 6 * 0 + d) (K d)) x y w) (b : r' = overP (fF SR 0 2) (lstW 3 1 (mU C)) (lstW 2 5 (mU C)) τ (mU C) n (gR SR) x y w) : r = r' := by
  rw [a, b, ho, lst_u, lst_u, over_ae ae_u, over_g hg hn6]
theorem q_on (ho : fF SX (9 + 0) 6 = fF SR 0 2) (hn6 : n ≤ 6) (hg : ∀ d, d < n → gX SX (21 + 6 * 0 + d) (K d) = gR SR d) {r r' : Int32} {x y w : Int32} (a : r = onP (fF SX (9 + 0) 6) (lstW 3 1 C) (lstW 2 5 C) τ C n (fun d => gX SX (21 + 6 * 0 + d) (K d)) x y w) (b : r' = onP (fF SR 0 2) (lstW 3 1 (mU C)) (lstW 2 5 (mU C)) τ (mU C) n (gR SR) x y w) : r = r' := by
  rw [a, b, ho, lst_u, lst_u, on_ae ae_u, on_g hg hn6]
theorem q_dare (ho : fF SX (9 + 0) 6 = fF SR 0 2) (hn6 : n ≤ 6) (hg : ∀ d, d < n → gX SX (21 + 6 * 0 + d) (K d) = gR SR d) {r r' : Int32} {x w : Int32} (a : r = darP (lstW 3 1 C) (lstW 2 5 C) τ C n (fun d => gX SX (21 + 6 * 0 + d) (K d)) x w) (b : r' = darP (lstW 3 1 (mU C)) (lstW 2 5 (mU C)) τ (mU C) n (gR SR) x w) : r = r' := by
  rw [a, b, lst_u, lst_u, dar_ae ae_u, dar_g hg]
theorem q_nearest (ho : fF SX (9 + 0) 6 = fF SR 0 2) (hn6 : n ≤ 6) (hg : ∀ d, d < n → gX SX (21 + 6 * 0 + d) (K d) = gR SR d) {r r' : Int32} {x : Int32} (a : r = neaP (fF SX (9 + 0) 6) (lstW 3 1 C) τ C n (fun d => gX SX (21 + 6 * 0 + d) (K d)) x) (b : r' = neaP (fF SR 0 2) (lstW 3 1 (mU C)) τ (mU C) n (gR SR) x) : r = r' := by
  rw [a, b, ho, lst_u, nea_ae ae_u, nea_g hg]
theorem q_who (ho : fF SX (9 + 0) 6 = fF SR 0 2) (hn6 : n ≤ 6) (hg : ∀ d, d < n → gX SX (21 + 6 * 0 + d) (K d) = gR SR d) {r r' : Int32} {zs : Nat} (hs : ∀ i, i < zs → fA SX (9 + 0 + 6) i = fA SR 2 i) (a : r = whoP (fF SX (9 + 0) 6) (lstW 3 1 C) τ C n (fun d => gX SX (21 + 6 * 0 + d) (K d)) (fA SX (9 + 0 + 6)) zs) (b : r' = whoP (fF SR 0 2) (lstW 3 1 (mU C)) τ (mU C) n (gR SR) (fA SR 2) zs) : r = r' := by
  rw [a, b, ho, lst_u, who_ae ae_u, who_g hg hs]
theorem q_offs (ho : fF SX (9 + 0) 6 = fF SR 0 2) (hn6 : n ≤ 6) (hg : ∀ d, d < n → gX SX (21 + 6 * 0 + d) (K d) = gR SR d) {r r' : Int32} {zs : Nat} {x w : Int32} (hs : ∀ i, i < zs → fA SX (9 + 0 + 6) i = fA SR 2 i) (a : r = offP (lstW 3 1 C) τ C n (fun d => gX SX (21 + 6 * 0 + d) (K d)) (fA SX (9 + 0 + 6)) zs x w) (b : r' = offP (lstW 3 1 (mU C)) τ (mU C) n (gR SR) (fA SR 2) zs x w) : r = r' := by
  rw [a, b, lst_u, off_ae ae_u, off_g hg hn6 hs]
theorem q_odds (ho : fF SX (9 + 0) 6 = fF SR 0 2) (hn6 : n ≤ 6) (hg : ∀ d, d < n → gX SX (21 + 6 * 0 + d) (K d) = gR SR d) {r r' : Int64} {x w : Int32} (a : r = oddP (fF SX (9 + 0) 6) (lstW 3 1 C) τ C n (fun d => gX SX (21 + 6 * 0 + d) (K d)) x w) (b : r' = oddP (fF SR 0 2) (lstW 3 1 (mU C)) τ (mU C) n (gR SR) x w) : r = r' := by
  rw [a, b, ho, lst_u, odd_ae ae_u, odd_g hg]
theorem q_mean (ho : fF SX (9 + 0) 6 = fF SR 0 2) (hn6 : n ≤ 6) (hg : ∀ d, d < n → gX SX (21 + 6 * 0 + d) (K d) = gR SR d) {r r' : Int64} {x w : Int32} (a : r = meaP (fF SX (9 + 0) 6) (lstW 3 1 C) τ C n (fun d => gX SX (21 + 6 * 0 + d) (K d)) x w) (b : r' = meaP (fF SR 0 2) (lstW 3 1 (mU C)) τ (mU C) n (gR SR) x w) : r = r' := by
  rw [a, b, ho, lst_u, mea_ae ae_u, mea_g hg]
theorem q_of (ho : fF SX (9 + 0) 6 = fF SR 0 2) (hn6 : n ≤ 6) (hg : ∀ d, d < n → gX SX (21 + 6 * 0 + d) (K d) = gR SR d) {r r' : Int32} {x w : Int32} (a : r = ofP (fF SX (9 + 0) 6) τ C n (fun d => gX SX (21 + 6 * 0 + d) (K d)) x w) (b : r' = ofP (fF SR 0 2) τ (mU C) n (gR SR) x w) : r = r' := by
  rw [a, b, ho, of_ae ae_u, of_g hg hn6]
theorem q_asked (ho : fF SX (9 + 0) 6 = fF SR 0 2) (hn6 : n ≤ 6) (hg : ∀ d, d < n → gX SX (21 + 6 * 0 + d) (K d) = gR SR d) {r r' : Int32} {x w : Int32} (a : r = asdP (fF SX (9 + 0) 6) τ C n (fun d => gX SX (21 + 6 * 0 + d) (K d)) x w) (b : r' = asdP (fF SR 0 2) τ (mU C) n (gR SR) x w) : r = r' := by
  rw [a, b, ho, asd_ae ae_u, asd_g hg hn6]
theorem q_told (ho : fF SX (9 + 0) 6 = fF SR 0 2) (hn6 : n ≤ 6) (hg : ∀ d, d < n → gX SX (21 + 6 * 0 + d) (K d) = gR SR d) {r r' : Int32} {w : Int32} (a : r = tldP (fF SX (9 + 0) 6) (lstW 3 1 C) (lstW 2 5 C) n (fun d => gX SX (21 + 6 * 0 + d) (K d)) w) (b : r' = tldP (fF SR 0 2) (lstW 3 1 (mU C)) (lstW 2 5 (mU C)) n (gR SR) w) : r = r' := by
  rw [a, b, ho, lst_u, lst_u, tld_g hg]
end QL
theorem q_visit {n pz z : Nat} {K : Nat → Nat} {τ : Nat → Int32} {C : Cls} {r r' x : Int32} {SX SX' SR SR' : FS} (h : EQ SX SR) (hU : CUS SX SR n pz z K τ C) (ho : fF SX (9 + 0) 6 = fF SR 0 2) (hF : Fr (fun j k => 21 ≤ j ∧ j < 27 ∧ 5 ≤ k ∧ k ≤ 9) SX SX') (a : r = vitP (fF SX (9 + 0) 6) (lstW 2 5 C) τ C n (fun d => gX SX (21 + 6 * 0 + d) (K d)) x ∧ ∀ d, d < n → (fun d => gX SX' (21 + 6 * 0 + d) (K d)) d = vitG (fF SX (9 + 0) 6) (lstW 3 1 C) τ C n (fun d => gX SX (21 + 6 * 0 + d) (K d)) x d) (b : r' = vitP (fF SR 0 2) (lstW 2 5 (mU C)) τ (mU C) n (gR SR) x ∧ (MO (setF SR 0 8 0) SR' ∧ SV 9999 SR') ∧ ∀ d, gR SR' d = vitG (fF SR 0 2) (lstW 3 1 (mU C)) τ (mU C) n (gR SR) x d) (r5 : fA SR' 5 = fA SR 5) : r = r' ∧ EQ SX' SR' := by
  obtain ⟨hn6, hn, hcf, h99, hg, hgc, hH⟩ := hU
  obtain ⟨a1, a2⟩ := a
  obtain ⟨b1, ⟨b2, -⟩, b3⟩ := b
  have hb : ∀ d, d < n → gX SX' (21 + 6 * 0 + d) (K d) = gR SR' d := fun d hd => by
    have e1 := a2 d hd
    have e2 := b3 d
    rw [e2, lst_u, vitG_ae ae_u]
    refine e1.trans ?_
    rw [ho]
    exact vig_g hg x d hd
  refine ⟨by rw [a1, b1, ho, lst_u, vit_ae ae_u, vit_g hg hn6], eq_cus h hn6 hn hcf h99 hH hF (fun c hc => by omega) (by omega) (by omega) (by omega) (by omega) ⟨fun c k a b d q => by omega, fun c a q => by omega, fun q => by omega, fun q => by omega, fun q => by omega, fun q => by omega⟩ (by omega) (fun j k a q => by omega) hb (fun d hd => ?_) (re_M b2) r5⟩
  rw [b3 d]
  exact gc_vit hgc d hd
theorem q_saturday {n pz z : Nat} {K : Nat → Nat} {τ : Nat → Int32} {C : Cls} {r r' : Int32} {SX SX' SR SR' : FS} (h : EQ SX SR) (hU : CUS SX SR n pz z K τ C) (ho : fF SX (9 + 0) 6 = fF SR 0 2) (hF : Fr (fun j k => 21 ≤ j ∧ j < 27 ∧ 5 ≤ k ∧ k ≤ 9) SX SX') (a : r = sbN (fF SX (9 + 0) 6) τ C (fun d => gX SX (21 + 6 * 0 + d) (K d)) n * (lstW 2 5 C) ∧ ∀ d, d < n → (fun d => gX SX' (21 + 6 * 0 + d) (K d)) d = saG 0 (fF SX (9 + 0) 6) (lstW 3 1 C) τ C n (fun d => gX SX (21 + 6 * 0 + d) (K d)) d) (b : r' = sbN (fF SR 0 2) τ (mU C) (gR SR) n * (lstW 2 5 (mU C)) ∧ (MO (setF SR 0 8 0) SR' ∧ SV 9999 SR') ∧ ∀ d, d < n → gR SR' d = saG 0 (fF SR 0 2) (lstW 3 1 (mU C)) τ (mU C) n (gR SR) d) (r5 : fA SR' 5 = fA SR 5) : r = r' ∧ EQ SX' SR' := by
  obtain ⟨hn6, hn, hcf, h99, hg, hgc, hH⟩ := hU
  obtain ⟨a1, a2⟩ := a
  obtain ⟨b1, ⟨b2, -⟩, b3⟩ := b
  have hb : ∀ d, d < n → gX SX' (21 + 6 * 0 + d) (K d) = gR SR' d := fun d hd => by
    have e1 := a2 d hd
    have e2 := b3 d hd
    rw [e2, lst_u, sa_ae ae_u]
    refine e1.trans ?_
    rw [ho]
    exact sag_g hg d hd
  refine ⟨by rw [a1, b1, ho, lst_u, sb_ae ae_u, sb_g hg], eq_cus h hn6 hn hcf h99 hH hF (fun c hc => by omega) (by omega) (by omega) (by omega) (by omega) ⟨fun c k a b d q => by omega, fun c a q => by omega, fun q => by omega, fun q => by omega, fun q => by omega, fun q => by omega⟩ (by omega) (fun j k a q => by omega) hb (fun d hd => ?_) (re_M b2) r5⟩
  rw [b3 d hd]
  exact gc_sa0 hgc d hd
theorem eq_see2 {z zr : Nat} {x r : Int32} {SX SX' SR SR' : FS} (h : EQ SX SR) (hz : fF SX (9 + 0) 4 = nI z) (hz4 : z ≤ 4) (hzr : fF SR 0 5 = nI zr) (hzr4 : zr ≤ 4) (h45 : fF SX (9 + 0) 4 = fF SR 0 5)
    (hC : x = -1 ∧ r = 0 ∧ SX' = setF SX (9 + 0) 4 (nI 0) ∨ x ≠ -1 ∧ (x < 0 ∨ 999 < x) ∧ r = -2 ∧ SX' = SX ∨ x ≠ -1 ∧ ¬ (x < 0 ∨ 999 < x) ∧ z = 4 ∧ r = -4 ∧ SX' = SX ∨ x ≠ -1 ∧ ¬ (x < 0 ∨ 999 < x) ∧ z < 4 ∧ r = nI (z + 1) ∧ SX' = setF (setA SX (9 + 0 + 6) (upd (fA SX (9 + 0 + 6)) z x)) (9 + 0) 4 (nI (z + 1)))
    (e2 : SR' = (if x = -1 then setF (setF SR 0 8 0) 0 5 0 else if 0 ≤ x ∧ x ≤ 999 then if fF SR 0 5 = 4 then (setF SR 0 8 0) else setF (setA (setF SR 0 8 0) 2 (upd (fA SR 2) zr x)) 0 5 (fF SR 0 5 + 1) else (setF SR 0 8 0))) : EQ SX' SR' := by
  have ez : z = zr := (nI_eq (by omega) (by omega)).mp (hz.symm.trans (h45.trans hzr))
  have e4 : fF SR 0 5 = 4 ↔ zr = 4 := by
    rw [hzr]
    exact nI_eq (b := 4) (by omega) (by omega)
  have r0 : RE False True SR SR' := re_if e2 (re_f (by omega) (by omega)) (re_if rfl (re_if rfl re_T (re_af (fun q => absurd q (by omega)) (fun _ => trivial) (by omega) (by omega) (by omega))) re_T)
  refine eq_see h hz4 hzr hzr4 ez hC r0 ?_ ?_
  · rw [e2]
    split
    · rfl
    · split
      · split <;> rfl
      · rfl
  · by_cases q1 : x = -1
    · rw [if_pos q1] at e2
      exact Or.inl ⟨by rw [e2]; rfl, Or.inl q1⟩
    · rw [if_neg q1] at e2
      by_cases q2 : x < 0 ∨ 999 < x
      · rw [if_neg (not_an2 q2)] at e2
        exact Or.inl ⟨by rw [e2]; rfl, Or.inr (Or.inl q2)⟩
      · rw [if_pos (not_or2.mp q2)] at e2
        by_cases q3 : fF SR 0 5 = 4
        · rw [if_pos q3] at e2
          exact Or.inl ⟨by rw [e2]; rfl, Or.inr (Or.inr (ez.trans (e4.mp q3)))⟩
        · rw [if_neg q3] at e2
          exact Or.inr ⟨q1, q2, (show z < 4 from Nat.lt_of_le_of_ne hz4 (fun q => q3 (e4.mpr (ez.symm.trans q)))), by rw [e2]; rfl⟩
theorem eq_seen {SX SR : FS} (h : EQ SX SR) : ∀ i, i < 4 → fA SX (9 + 0 + 6) i = fA SR 2 i := fun i hi => (h.1.2.2 i hi).trans (vec_se _ hi)
/-- LO and the shops alike -/
def LE (SX SR : FS) : Prop := LO SX SR ∧ EQ SX SR
theorem le_0 {S : FS} (hF : Fr (fun j k => j = 62 ∧ k = 99) X0 S) (h62 : ∀ k, k < 6 → fA S 62 k = -1) (h2 : fF S 0 10 = 0) : LE S R0 := ⟨lo_0 hF h62 h2, eq_0 hF h2⟩
