/-- what a call of the class must leave alone for shop h -/
def NP (P : Nat → Nat → Prop) (h : Nat) : Prop := (∀ c k, c < 6 → 2 ≤ k → k ≤ 9 → ¬ P (21 + 6 * h + c) k) ∧ (∀ c, c < 6 → ¬ P (21 + 6 * h + c + 18) 99) ∧ ¬ P (9 + h) 3 ∧ ¬ P (9 + h) 7 ∧ ¬ P (9 + h) 6 ∧ ¬ P (9 + h + 6) 99
def N7 (P : Nat → Nat → Prop) : Prop := ∀ j k, 71 ≤ j → ¬ P j k
theorem gx_gr {S T : FS} {i q c : Nat} (hc : c < 6) (h : ∀ k, k < 12 → gX S i q k = vec T (5 + (12 * c + k))) : gX S i q = gR T c := by
  funext k
  by_cases a : k < 12
  · rw [h k a, vec_s T (by omega)]
    unfold gR
    rw [if_pos a]
  · unfold gX gR
    rw [if_neg (by omega), if_neg (by omega), if_neg a, if_neg a]
theorem gr_gx {S T : FS} {i q c : Nat} (hc : c < 6) (h : gX S i q = gR T c) : ∀ k, k < 12 → gX S i q k = vec T (5 + (12 * c + k)) := fun k a => by
  rw [h, vec_s T (by omega)]
  unfold gR
  rw [if_pos a]
theorem e1_step {P : Nat → Nat → Prop} {SX SX' SR SR' : FS} (h : ¬ fF SX 0 10 = 0 → ECU SX SR 1 (fA SR 5) ∧ EO SX 1 ∧ ES SX 1 (fA SR 5)) (hF : Fr P SX SX') (p1 : NP P 1) (n0 : ¬ P 0 10) (n71 : N7 P) (hR : KR SR SR') (r5 : fA SR' 5 = fA SR 5) : ¬ fF SX' 0 10 = 0 → ECU SX' SR' 1 (fA SR' 5) ∧ EO SX' 1 ∧ ES SX' 1 (fA SR' 5) := fun q => by
  rw [hF.F (lt71 (by omega)) n0] at q
  obtain ⟨a, b, c⟩ := h q
  obtain ⟨q1, q2, q3, q4, q5, q6⟩ := p1
  exact ⟨ec_step (by omega) a hF q1 q2 q3 q4 n71 (fun i _ => by rw [r5]) (by rw [r5]) hR, eo_step (by omega) b hF q5, es_step (by omega) c hF q6 (fun i _ => by rw [r5])⟩
theorem eq_step {P : Nat → Nat → Prop} {SX SX' SR SR' : FS} (h : EQ SX SR) (hF : Fr P SX SX') (p0 : NP P 0) (p1 : NP P 1) (n0 : ¬ P 0 10) (n71 : N7 P) (r : RE False False SR SR') (r5 : fA SR' 5 = fA SR 5) : EQ SX' SR' := by
  obtain ⟨⟨a, b, c⟩, d⟩ := h
  obtain ⟨q1, q2, q3, q4, q5, q6⟩ := p0
  exact ⟨⟨ec_step (by omega) a hF q1 q2 q3 q4 n71 (fun i hi => by rw [vec_s _ hi, vec_s _ hi]; exact r.2.2.2.1 id i hi) (by rw [vec_h, vec_h]; exact r.1) r.kr, eo_step (by omega) b hF q5, es_step (by omega) c hF q6 (fun i hi => by rw [vec_se _ hi, vec_se _ hi]; exact r.2.2.2.2 id i hi)⟩, e1_step d hF p1 n0 n71 r.kr r5⟩
theorem np_F {h : Nat} : NP (fun _ _ => False) h := ⟨fun _ _ _ _ _ q => q, fun _ _ q => q, fun q => q, fun q => q, fun q => q, fun q => q⟩
theorem eq_same {SX SX' SR SR' : FS} (h : EQ SX SR) (a : SX' = SX) (b : SR' = setF SR 0 8 0) : EQ SX' SR' := eq_step (P := fun _ _ => False) h (a ▸ Fr.rf) np_F np_F (fun q => q) (fun _ _ _ q => q) (re_E b) (by rw [b]; rfl)
def HOL (SR : FS) (x : Int32) (z : Nat) (τ : Nat → Int32) (C : Cls) : Prop := (x = -1 ∧ C = []) ∨ ∃ k nc : Nat, nc ≤ 6 ∧ fF SR 0 20 = nI nc ∧ k < nc ∧ x = nI k ∧ HE SR k z τ (mU C)
theorem HOL.kr {SR SR' : FS} {x x' : Int32} {z : Nat} {τ : Nat → Int32} {C : Cls} (h : HOL SR x z τ C) (hR : KR SR SR') (e2 : x' = x) : HOL SR' x' z τ C := by
  rcases h with ⟨a, b⟩ | ⟨k, nc, a, b, c, d, e⟩
  · exact Or.inl ⟨e2.trans a, b⟩
  · obtain ⟨r1, nc', r2, r3, r4⟩ := hR nc a b
    exact Or.inr ⟨k, nc', r3, r4, by omega, e2.trans d, e.keep c r1⟩
theorem HOL.hox {SR : FS} {z : Nat} {τ : Nat → Int32} {C : Cls} (h : HOL SR (vec SR 2) z τ C) : HOX SR z τ (mU C) := by
  rcases h with ⟨a, b⟩ | ⟨k, nc, a, b, c, d, e⟩
  · exact Or.inl ⟨(vec_h SR).symm.trans a, by rw [b]; rfl⟩
  · exact Or.inr ⟨k, by omega, (vec_h SR).symm.trans d, e⟩
/-- customers of the first shop change -/
theorem eq_cus {P : Nat → Nat → Prop} {SX SX' SR SR' : FS} {n pz z : Nat} {K : Nat → Nat} {τ : Nat → Int32} {C : Cls} (h : EQ SX SR) (hn6 : n ≤ 6) (hn : fF SX (9 + 0) 3 = nI n) (hcf : CuF SX 0 n pz τ C K) (h99 : N99 C) (hH : HOL SR (vec SR 2) z τ C) (hF : Fr P SX SX') (n2 : ∀ c, c < 6 → ¬ P (21 + 6 * 0 + c) 2) (n3 : ¬ P (9 + 0) 3) (n7 : ¬ P (9 + 0) 7) (n6 : ¬ P (9 + 0) 6) (n15 : ¬ P (9 + 0 + 6) 99) (p1 : NP P 1) (n0 : ¬ P 0 10) (n71 : N7 P)
    (hG : ∀ c, c < n → gX SX' (21 + 6 * 0 + c) (K c) = gR SR' c) (hC : ∀ c, c < n → GC 9999 (gR SR' c)) (r : RE True False SR SR') (r5 : fA SR' 5 = fA SR 5) : EQ SX' SR' := by
  obtain ⟨⟨-, b, c⟩, d⟩ := h
  refine ⟨⟨⟨n, pz, z, K, τ, C, hn6, (hF.F (lt71 (by omega)) n3).trans hn, hcf.fr (by omega) hn6 hF n2 n7 n71, h99, fun c hc => gr_gx (by omega) (hG c hc), fun c hc => by rw [hG c hc]; exact hC c hc, hH.kr r.kr (by rw [vec_h, vec_h]; exact r.1)⟩, eo_step (by omega) b hF n6, es_step (by omega) c hF n15 (fun i hi => by rw [vec_se _ hi, vec_se _ hi]; exact r.2.2.2.2 id i hi)⟩, e1_step d hF p1 n0 n71 r.kr r5⟩
theorem eq_knife {x r : Int32} {SX SX' SR SR' : FS} (h : EQ SX SR) (hC : (x < 0 ∨ 30 < x) ∧ r = -2 ∧ SX' = SX ∨ ¬ (x < 0 ∨ 30 < x) ∧ r = fF SX (9 + 0) 6 ∧ SX' = setF SX (9 + 0) 6 x) (e2 : SR' = (if 0 ≤ x ∧ x ≤ 30 then setF (setF SR 0 8 0) 0 2 x else (setF SR 0 8 0))) : EQ SX' SR' := by
  rcases hC with ⟨a, -, c⟩ | ⟨a, -, c⟩
  · rw [if_neg (nan2 a)] at e2
    exact eq_same h c e2
  · rw [if_pos (nor2.mp a)] at e2
    have r : RE False False SR SR' := by rw [e2]; exact re_f (by omega) (by omega)
    have r5 : fA SR' 5 = fA SR 5 := by rw [e2]; rfl
    have hF : Fr (fun j k => j = 9 ∧ k = 6) SX SX' := by rw [c]; exact Fr.sF Fr.rf ⟨rfl, rfl⟩
    obtain ⟨⟨b1, b2, b3⟩, d⟩ := h
    refine ⟨⟨ec_step (by omega) b1 hF (fun c k a b d q => by omega) (fun c a q => by omega) (fun q => by omega) (fun q => by omega) (fun j k a q => by omega) (fun i hi => by rw [vec_s _ hi, vec_s _ hi]; exact r.2.2.2.1 id i hi) (by rw [vec_h, vec_h]; exact r.1) r.kr, ?_, es_step (by omega) b3 hF (fun q => by omega) (fun i hi => by rw [vec_se _ hi, vec_se _ hi]; exact r.2.2.2.2 id i hi)⟩, e1_step d hF ⟨fun c k a b d q => by omega, fun c a q => by omega, fun q => by omega, fun q => by omega, fun q => by omega, fun q => by omega⟩ (fun q => by omega) (fun j k a q => by omega) r.kr r5⟩
    obtain ⟨w, hw, ew⟩ := out_n (b := 30) a (by decide)
    exact ⟨w, hw, by rw [c, fF_setF, if_pos ⟨rfl, rfl⟩]; exact ew⟩
theorem eq_see {z zr : Nat} {x r : Int32} {SX SX' SR SR' : FS} (h : EQ SX SR) (hz4 : z ≤ 4) (hzr : fF SR 0 5 = nI zr) (hzr4 : zr ≤ 4) (ez : z = zr)
    (hC : x = -1 ∧ r = 0 ∧ SX' = setF SX (9 + 0) 4 (nI 0) ∨ x ≠ -1 ∧ (x < 0 ∨ 999 < x) ∧ r = -2 ∧ SX' = SX ∨ x ≠ -1 ∧ ¬ (x < 0 ∨ 999 < x) ∧ z = 4 ∧ r = -4 ∧ SX' = SX ∨ x ≠ -1 ∧ ¬ (x < 0 ∨ 999 < x) ∧ z < 4 ∧ r = nI (z + 1) ∧ SX' = setF (setA SX (9 + 0 + 6) (upd (fA SX (9 + 0 + 6)) z x)) (9 + 0) 4 (nI (z + 1)))
    (r0 : RE False True SR SR') (r5 : fA SR' 5 = fA SR 5) (hA : (fA SR' 2 = fA SR 2 ∧ (x = -1 ∨ (x < 0 ∨ 999 < x) ∨ z = 4)) ∨ (x ≠ -1 ∧ ¬ (x < 0 ∨ 999 < x) ∧ z < 4 ∧ fA SR' 2 = upd (fA SR 2) zr x)) : EQ SX' SR' := by
  subst ez
  have hF : Fr (fun j k => (j = 9 ∧ k = 4) ∨ (j = 15 ∧ k = 99)) SX SX' := by
    rcases hC with ⟨-, -, c⟩ | ⟨-, -, -, c⟩ | ⟨-, -, -, -, c⟩ | ⟨-, -, -, -, c⟩
    · rw [c]; exact Fr.sF Fr.rf (Or.inl ⟨rfl, rfl⟩)
    · rw [c]; exact Fr.rf
    · rw [c]; exact Fr.rf
    · rw [c]; exact Fr.sF (Fr.sA Fr.rf (Or.inr ⟨rfl, rfl⟩)) (Or.inl ⟨rfl, rfl⟩)
  obtain ⟨⟨b1, b2, b3⟩, d⟩ := h
  refine ⟨⟨ec_step (by omega) b1 hF (fun c k a b d q => by omega) (fun c a q => by omega) (fun q => by omega) (fun q => by omega) (fun j k a q => by omega) (fun i hi => by rw [vec_s _ hi, vec_s _ hi]; exact r0.2.2.2.1 id i hi) (by rw [vec_h, vec_h]; exact r0.1) r0.kr, eo_step (by omega) b2 hF (fun q => by omega), fun i hi => ?_⟩, e1_step d hF ⟨fun c k a b d q => by omega, fun c a q => by omega, fun q => by omega, fun q => by omega, fun q => by omega, fun q => by omega⟩ (fun q => by omega) (fun j k a q => by omega) r0.kr r5⟩
  have hb := b3 i hi
  rw [vec_se _ hi] at hb ⊢
  rcases hC with ⟨y, -, c⟩ | ⟨y, y2, -, c⟩ | ⟨y, y2, y3, -, c⟩ | ⟨y, y2, y3, -, c⟩
  · have e : fA SR' 2 = fA SR 2 := hA.elim (fun q => q.1) (fun q => absurd y q.1)
    rw [c, e]
    exact hb
  · have e : fA SR' 2 = fA SR 2 := hA.elim (fun q => q.1) (fun q => absurd y2 q.2.1)
    rw [c, e]
    exact hb
  · have e : fA SR' 2 = fA SR 2 := hA.elim (fun q => q.1) (fun q => by omega)
    rw [c, e]
    exact hb
  · have e : fA SR' 2 = upd (fA SR 2) z x := by
      rcases hA with ⟨-, q⟩ | q
      · rcases q with q | q | q
        · exact absurd q y
        · exact absurd q y2
        · omega
      · exact q.2.2.2
    rw [c, e, fA_setF, fA_setA, if_pos rfl]
    by_cases w : i = z
    · rw [w, pk_us, pk_us]
    · rw [pk_un w, pk_un w]
      exact hb
/-- a copy of a shop -/
theorem ec_copy {P : Nat → Nat → Prop} {SX SX' SR SR' : FS} {h o m : Nat} {w w' : Nat → Int32} (hm : fF SX (9 + o) 3 = nI m) (hm6 : m ≤ 6) (k : ECU SX SR o w) (hB : BE SX h o m SX') (hr : fR SX' (9 + h) 7 = fR SX (9 + o) 7) (hF : Fr P SX SX') (n71 : N7 P) (ew : ∀ i, i < 89 → w' i = w i) (hR : KR SR SR') : ECU SX' SR' h w' := by
  obtain ⟨n, pz, z, K, τ, C, hn, h1, h2, h3, h4, h5, h6⟩ := k
  have en : m = n := (nI_eq (by omega) (by omega)).mp (hm.symm.trans h1)
  subst en
  have hg : ∀ c, c < m → gX SX' (21 + 6 * h + c) (K c) = gX SX (21 + 6 * o + c) (K c) := fun c hc => by
    obtain ⟨g1, g2, g3⟩ := hB.2.1 c hc
    funext k
    unfold gX
    by_cases k0 : k = 0
    · rw [if_pos k0, if_pos k0]
    · rw [if_neg k0, if_neg k0]
      by_cases k8 : k < 8
      · rw [if_pos k8, if_pos k8]
        exact g1 _ (by omega) (by omega)
      · rw [if_neg k8, if_neg k8]
        by_cases k12 : k < 12
        · rw [if_pos k12, if_pos k12]
          exact g3 _ (by omega)
        · rw [if_neg k12, if_neg k12]
  refine ⟨m, pz, z, K, τ, C, hn, (hB.1 3 (by omega) (by omega)).trans hm, ⟨fun c hc => ⟨((hB.2.1 c hc).2.1).trans (h2.1 c hc).1, (h2.1 c hc).2⟩, hr.trans h2.2.1, h2.2.2.1.fr hF n71, h2.2.2.2.1.keep h2.2.2.1 hF n71, h2.2.2.2.2⟩, h3, fun c hc k hk => ?_, fun c hc => by rw [hg c hc]; exact h5 c hc, HOL.kr h6 hR (ew 2 (by omega))⟩
  rw [hg c hc, ew _ (by omega)]
  exact h4 c hc k hk
theorem kr_CA {q : Nat} {w : Nat → Int32} {tk : Int32} {S0 S S' : FS} (k : CA q w tk 89 89 S0 S') (hq : q = 5) (h20 : fF S0 0 20 = fF S 0 20) (h0 : ∀ i, 7 ≤ i → i < 13 → fA S0 i = fA S i) : KR S S' := by
  subst hq
  obtain ⟨-, k1, k2, -⟩ := k
  have a : ∀ i, 7 ≤ i → i < 13 → fA S' i = fA S i := fun i a b => (k2 i (by omega) (by omega) (by omega) (by omega)).trans (h0 i a b)
  have f : fF S' 0 20 = fF S 0 20 := (k1 20 (by omega) (by omega) (by omega) (by omega) (by omega) (by omega) (by omega)).trans h20
  exact fun nc h6 e => ⟨fun j _ => ⟨by rw [a 8 (by omega) (by omega)], by rw [a 12 (by omega) (by omega)], fun p _ => by rw [a 7 (by omega) (by omega)], fun i k hi _ => by rw [a i (by omega) (by omega)]⟩, nc, Nat.le_refl _, h6, f.trans e⟩
theorem eo_copy {SX SX' : FS} {h o m : Nat} (k : EO SX o) (hB : BE SX h o m SX') : EO SX' h := by
  obtain ⟨x, a, b⟩ := k
  exact ⟨x, a, (hB.1 6 (by omega) (by omega)).trans b⟩
theorem es_copy {SX SX' : FS} {h o m : Nat} {w w' : Nat → Int32} (k : ES SX o w) (hB : BE SX h o m SX') (ew : ∀ i, i < 89 → w' i = w i) : ES SX' h w' := fun i hi => by
  rw [hB.2.2.1 i hi, ew _ (by omega)]
  exact k i hi
theorem eq_image {P : Nat → Nat → Prop} {n : Nat} {SX SX' SR SR' : FS} (hn : fF SX (9 + 0) 3 = nI n) (hn6 : n ≤ 6) (h : EQ SX SR) (hF : Fr P SX SX') (p0 : NP P 0) (n71 : N7 P) (hB : BE SX 1 0 n SX') (hr : fR SX' (9 + 1) 7 = fR SX (9 + 0) 7) (k1 : ∀ i, i < 89 → vec SR' i = vec SR i) (k2 : ∀ i, i < 89 → fA SR' 5 i = vec SR i) (hR : KR SR SR') : EQ SX' SR' := by
  obtain ⟨⟨a, b, c⟩, -⟩ := h
  obtain ⟨q1, q2, q3, q4, q5, q6⟩ := p0
  exact ⟨⟨ec_step (by omega) a hF q1 q2 q3 q4 n71 (fun i hi => k1 _ (by omega)) (k1 2 (by omega)) hR, eo_step (by omega) b hF q5, es_step (by omega) c hF q6 (fun i hi => k1 _ (by omega))⟩, fun _ => ⟨ec_copy hn hn6 a hB hr hF n71 k2 hR, eo_copy b hB, es_copy c hB k2⟩⟩
theorem eq_undo {P : Nat → Nat → Prop} {m : Nat} {SX SX' SR SR' : FS} (hm : fF SX (9 + 1) 3 = nI m) (hm6 : m ≤ 6) (hi : ¬ fF SX 0 10 = 0) (h : EQ SX SR) (hF : Fr P SX SX') (p1 : NP P 1) (n71 : N7 P) (hB : BE SX 0 1 m SX') (hr : fR SX' (9 + 0) 7 = fR SX (9 + 1) 7) (k1 : ∀ i, i < 89 → vec SR' i = fA SR 5 i) (k2 : ∀ i, i < 89 → fA SR' 5 i = fA SR 5 i) (hR : KR SR SR') : EQ SX' SR' := by
  obtain ⟨a, b, c⟩ := h.2 hi
  obtain ⟨q1, q2, q3, q4, q5, q6⟩ := p1
  exact ⟨⟨ec_copy hm hm6 a hB hr hF n71 k1 hR, eo_copy b hB, es_copy c hB k1⟩, fun _ => ⟨ec_step (by omega) a hF q1 q2 q3 q4 n71 (fun i hi => k2 _ (by omega)) (k2 2 (by omega)) hR, eo_step (by omega) b hF q5, es_step (by omega) c hF q6 (fun i hi => k2 _ (by omega))⟩⟩
theorem gb_vis0 {ln mo : Int32} {g : Nat → Int32} (h : GB 9999 g) : GB 9999 (visF 0 ln mo g) := by
  obtain ⟨a, b, -, d⟩ := h.vis (mi := 0) (ln := ln) (mo := mo) (by omega)
  obtain ⟨-, -, ⟨x, x1, x2⟩, -⟩ := h
  refine ⟨a, b, ?_, d⟩
  show ∃ t : Nat, t ≤ 9999 ∧ (if ¬ (0 : Int32) = 0 ∨ g 6 < 9999 then g 6 + 1 else g 6) = nI t
  rw [x2, nI_1]
  by_cases w : x < 9999
  · rw [if_pos (Or.inr (show nI x < 9999 from (nI_ltI (a := x) (b := 9999) (by omega) (by omega)).mpr w))]
    exact ⟨x + 1, by omega, rfl⟩
  · rw [if_neg (fun z => z.elim (fun y => y rfl) (fun y => w ((nI_ltI (a := x) (b := 9999) (by omega) (by omega)).mp y)))]
    exact ⟨x, x1, rfl⟩
theorem gc_vs0 {α : Type} {off ln : Int32} {τ : Nat → Int32} {C : ClA α} {c : Int32} {g : Nat → Int32} (h : GC 9999 g) : GC 9999 (vsG 0 off ln τ C c g) := by
  unfold vsG
  split
  · exact h
  · exact ⟨gb_vis0 h.1, (h.vis (mi := 0) (by omega)).2⟩
theorem gc_vit {α : Type} {off ln x : Int32} {τ : Nat → Int32} {C : ClA α} {n : Nat} {G : Nat → Nat → Int32} (h : ∀ d, d < n → GC 9999 (G d)) : ∀ d, d < n → GC 9999 (vitG off ln τ C n G x d) := fun d hd => by
  unfold vitG
  split
  · exact gc_vs0 (h d hd)
  · exact h d hd
theorem gc_sa0 {α : Type} {off ln : Int32} {τ : Nat → Int32} {C : ClA α} {n : Nat} {G : Nat → Nat → Int32} (h : ∀ d, d < n → GC 9999 (G d)) : ∀ d, d < n → GC 9999 (saG 0 off ln τ C n G d) := fun d hd => by
  unfold saG
  rw [if_pos hd]
  exact gc_vs0 (h d hd)
