/-- the list's row alone may change among what was made later -/
def NX (S : FS) (P : Nat → Nat → Prop) : Prop := ∀ j k, 71 ≤ j → j < 71 + fC S → ¬ fK S j = 2 → ¬ P j k
theorem COK.fr2 {P : Nat → Nat → Prop} {S S' : FS} {p : Nat} (h : COK S p) (f : Fr P S S') (n : NX S P) : COK S' p := h.at f (fun k => n p k h.1 h.2.1 (by rw [h.2.2.1]; decide))
theorem CTX.keep2 {P : Nat → Nat → Prop} {S S' : FS} {p : Nat} {a b : Int32} {L : Cds} (h : CTX S p a b L) (hc : COK S p) (hF : Fr P S S') (n : NX S P) : CTX S' p a b L := by
  obtain ⟨h1, h2, x, y, h3, h4, h5, h6, h7⟩ := h
  have np : ∀ k, ¬ P p k := fun k => n p k hc.1 hc.2.1 (by rw [hc.2.2.1]; decide)
  have nx : ¬ P x 99 := n x 99 h5.1 h5.2.1 (by rw [h5.2.2.1]; decide)
  have ny : ¬ P y 99 := n y 99 h6.1 h6.2.1 (by rw [h6.2.2.1]; decide)
  exact ⟨(hF.F hc.2.1 (np 0)).trans h1, (hF.F hc.2.1 (np 1)).trans h2, x, y, (hF.R hc.2.1 (np 2)).trans h3, (hF.R hc.2.1 (np 3)).trans h4, h5.fr hF, h6.fr hF, fun i hi => by rw [hF.A h5.2.1 nx, hF.A h6.2.1 ny]; exact h7 i hi⟩
theorem CuF.fr2 {P : Nat → Nat → Prop} {S S' : FS} {h n pz : Nat} {τ : Nat → Int32} {C : Cls} {K : Nat → Nat} (k : CuF S h n pz τ C K) (hh : h < 3) (hn : n ≤ 6) (f : Fr P S S') (n1 : ∀ c, c < 6 → ¬ P (21 + 6 * h + c) 2) (n2 : ¬ P (9 + h) 7) (n3 : NX S P) : CuF S' h n pz τ C K := by
  obtain ⟨a, b, d, e, g⟩ := k
  exact ⟨fun c hc => ⟨(f.R (lt71 (by omega)) (n1 c (by omega))).trans (a c hc).1, (a c hc).2⟩, (f.R (lt71 (by omega)) n2).trans b, d.fr2 f n3, e.keep2 d f n3, g⟩
theorem ec_step2 {P : Nat → Nat → Prop} {SX SX' SR SR' : FS} {h : Nat} {w w' : Nat → Int32} (hh : h < 3) (k : ECU SX SR h w) (hF : Fr P SX SX') (p : NP P h) (n71 : NX SX P) (ew : ∀ i, i < 72 → w' (5 + i) = w (5 + i)) (e2 : w' 2 = w 2) (hR : KR SR SR') : ECU SX' SR' h w' := by
  obtain ⟨n1, n2, n3, n7, -, -⟩ := p
  obtain ⟨n, pz, z, K, τ, C, hn, h1, h2, h3, h4, h5, h6⟩ := k
  have hg : ∀ c, c < n → gX SX' (21 + 6 * h + c) (K c) = gX SX (21 + 6 * h + c) (K c) := fun c hc => gx_same hF (by omega) (fun k a b => n1 c k (by omega) (by omega) b) (n2 c (by omega))
  refine ⟨n, pz, z, K, τ, C, hn, (hF.F (lt71 (by omega)) n3).trans h1, h2.fr2 hh hn hF (fun c hc => n1 c 2 hc (by omega) (by omega)) n7 n71, h3, fun c hc k hk => ?_, fun c hc => by rw [hg c hc]; exact h5 c hc, HOL.kr h6 hR e2⟩
  rw [hg c hc, ew _ (by omega)]
  exact h4 c hc k hk
theorem eq_step2 {P : Nat → Nat → Prop} {SX SX' SR SR' : FS} (h : EQ SX SR) (hF : Fr P SX SX') (p0 : NP P 0) (p1 : NP P 1) (n0 : ¬ P 0 10) (n71 : NX SX P) (r : RE False False SR SR') (r5 : fA SR' 5 = fA SR 5) : EQ SX' SR' := by
  obtain ⟨⟨a, b, c⟩, d⟩ := h
  refine ⟨⟨ec_step2 (by omega) a hF p0 n71 (fun i hi => by rw [vec_s _ hi, vec_s _ hi]; exact r.2.2.2.1 id i hi) (by rw [vec_h, vec_h]; exact r.1) r.kr, eo_step (by omega) b hF p0.2.2.2.2.1, es_step (by omega) c hF p0.2.2.2.2.2 (fun i hi => by rw [vec_se _ hi, vec_se _ hi]; exact r.2.2.2.2 id i hi)⟩, fun q => ?_⟩
  rw [hF.F (lt71 (by omega)) n0] at q
  obtain ⟨a1, b1, c1⟩ := d q
  exact ⟨ec_step2 (by omega) a1 hF p1 n71 (fun i _ => by rw [r5]) (by rw [r5]) r.kr, eo_step (by omega) b1 hF p1.2.2.2.2.1, es_step (by omega) c1 hF p1.2.2.2.2.2 (fun i _ => by rw [r5])⟩
