/-- the texts and how many counters alike -/
def LC (SX SR : FS) : Prop := ∃ z nc : Nat, nc ≤ 6 ∧ TXz SX z (hrS (fA SR 6) z) ∧ fF SR 0 17 = nI z ∧ fF SX 0 9 = nI nc ∧ fF SR 0 20 = nI nc
def RWt (S S' : FS) : Prop := fF S' 0 17 = fF S 0 17 ∧ fF S' 0 20 = fF S 0 20 ∧ fA S' 6 = fA S 6
theorem lc_step {P : Nat → Nat → Prop} {SX SX' SR SR' : FS} (h : LC SX SR) (hF : Fr P SX SX') (n1 : ¬ P 57 1) (n2 : ¬ P 58 99) (n3 : ¬ P 0 9) (r : RWt SR SR') : LC SX' SR' := by
  obtain ⟨z, nc, h1, h2, h3, h4, h5⟩ := h
  obtain ⟨r1, r2, r3⟩ := r
  exact ⟨z, nc, h1, by rw [r3]; exact h2.fr hF n1 n2, r1.trans h3, (hF.F (lt71 (by omega)) n3).trans h4, r2.trans h5⟩
theorem rt_T {S : FS} : RWt S (setF S 0 8 0) := ⟨by rw [fF_setF, if_neg (by omega)], by rw [fF_setF, if_neg (by omega)], rfl⟩
theorem rt_E {S S' : FS} (k : S' = setF S 0 8 0) : RWt S S' := k ▸ rt_T
theorem lc_same {SX SX' SR SR' : FS} (h : LC SX SR) (a : SX' = SX) (b : SR' = setF SR 0 8 0) : LC SX' SR' := by
  rw [a]
  exact lc_step h (Fr.rf : Fr (fun _ _ => False) SX SX) (fun q => q) (fun q => q) (fun q => q) (rt_E b)
theorem rt_if {S S' A B : FS} {P : Prop} [Decidable P] (k : S' = if P then A else B) (a : RWt S A) (b : RWt S B) : RWt S S' := by
  rw [k]
  split
  · exact a
  · exact b
theorem rt_tr {S T U : FS} (h : RWt S T) (k : RWt T U) : RWt S U := ⟨k.1.trans h.1, k.2.1.trans h.2.1, k.2.2.trans h.2.2⟩
theorem rt_H {S S' : FS} (k : HFr (setF S 0 8 0) S') : RWt S S' := rt_tr rt_T ⟨k.2.2.1 17, k.2.2.1 20, k.2.2.2 6 (by omega) (by omega) (by omega)⟩
theorem rt_Q {S S' : FS} (k : QP (setF S 0 8 0) S') : RWt S S' := rt_tr rt_T ⟨k.2.1 17 (by omega) (by omega) (by omega) (by omega), k.2.1 20 (by omega) (by omega) (by omega) (by omega), k.2.2.2.1 6 (by omega) (by omega) (by omega) (by omega) (by omega) (by omega) (by omega)⟩
theorem rt_M {S S' : FS} (k : MO (setF S 0 8 0) S' ∧ SV 9999 S') : RWt S S' := rt_tr rt_T ⟨k.1.2.2.1 17 (by omega) (by omega) (by omega) (by omega) (by omega) (by omega), k.1.2.2.1 20 (by omega) (by omega) (by omega) (by omega) (by omega) (by omega), k.1.2.2.2.1 6 (by omega) (by omega) (by omega) (by omega)⟩
theorem rt_CA {q : Nat} {w : Nat → Int32} {tk : Int32} {S0 S S' : FS} (k : CA q w tk 89 89 S0 S') (hq : q = 5) (h0 : RWt S S0) : RWt S S' := by
  subst hq
  obtain ⟨-, k1, k2, -⟩ := k
  exact rt_tr h0 ⟨k1 17 (by omega) (by omega) (by omega) (by omega) (by omega) (by omega) (by omega), k1 20 (by omega) (by omega) (by omega) (by omega) (by omega) (by omega) (by omega), k2 6 (by omega) (by omega) (by omega) (by omega)⟩
theorem rt_sA {S : FS} {j : Nat} {f : Nat → Int32} (hj : j ≠ 6) : RWt S (setA S j f) := ⟨by rw [fF_setA], by rw [fF_setA], by rw [fA_setA, if_neg (fun e => hj e.symm)]⟩
theorem rt_sF {S : FS} {k : Nat} {v : Int32} (h1 : k ≠ 17) (h2 : k ≠ 20) : RWt S (setF S 0 k v) := ⟨by rw [fF_setF, if_neg (by omega)], by rw [fF_setF, if_neg (by omega)], rfl⟩
theorem rt_sL {S : FS} {j : Nat} {w : Nat → Int64} : RWt S (setL S j w) := ⟨by rw [fF_setL], by rw [fF_setL], by rw [fA_setL]⟩
theorem rt_a {S : FS} {j : Nat} {f : Nat → Int32} (hj : j ≠ 6) : RWt S (setA (setF S 0 8 0) j f) := rt_tr rt_T (rt_sA hj)
theorem rt_f {S : FS} {k : Nat} {v : Int32} (h1 : k ≠ 17) (h2 : k ≠ 20) : RWt S (setF (setF S 0 8 0) 0 k v) := rt_tr rt_T (rt_sF h1 h2)
theorem rt_af {S : FS} {j k : Nat} {f : Nat → Int32} {v : Int32} (hj : j ≠ 6) (h1 : k ≠ 17) (h2 : k ≠ 20) : RWt S (setF (setA (setF S 0 8 0) j f) 0 k v) := rt_tr (rt_a hj) (rt_sF h1 h2)
theorem rt_l {S : FS} {w : Nat → Int64} : RWt S (setL (setF S 0 8 0) 20 w) := rt_tr rt_T rt_sL
theorem rt_4 {S : FS} {f g h : Nat → Int32} {w : Nat → Int64} : RWt S (setL (setA (setA (setA (setF S 0 8 0) 22 f) 18 g) 19 h) 20 w) := rt_tr (rt_tr (rt_tr (rt_a (by omega)) (rt_sA (by omega))) (rt_sA (by omega))) rt_sL
theorem rt_shift {S S' : FS} {P1 P2 P3 P4 P5 P6 Q : Prop} {w : Nat → Int64} (k : (P1 ∧ P2 ∧ P3 ∧ P4 ∧ P5 ∧ P6 ∧ ∃ cp, S' = setL (setL (setF S 0 8 0) 21 cp) 20 w) ∨ (Q ∧ S' = (setF S 0 8 0))) : RWt S S' := by
  rcases k with ⟨-, -, -, -, -, -, cp, rfl⟩ | ⟨-, rfl⟩
  · exact rt_tr (rt_tr rt_T rt_sL) rt_sL
  · exact rt_T
theorem rt_act {S S' : FS} {P : Prop} {c k v : Int32} {bs : List Int32} (e : (¬ P ∧ S' = (setF (setF S 0 8 0) 0 40 0)) ∨ (P ∧ S' = ntl 0 (setF (setF (setF (setF (setF S 0 8 0) 0 40 0) 0 41 k) 0 42 v) 0 43 c) bs)) : RWt S S' := by
  rcases e with ⟨-, rfl⟩ | ⟨-, rfl⟩
  · exact rt_f (by omega) (by omega)
  · exact rt_tr (rt_tr (rt_tr (rt_tr (rt_f (by omega) (by omega)) (rt_sF (by omega) (by omega))) (rt_sF (by omega) (by omega))) (rt_sF (by omega) (by omega))) ⟨ntl_fF _ _ _ (by decide), ntl_fF _ _ _ (by decide), ntl_fA _ _ _ (by omega)⟩
theorem hrs_at {f g : Nat → Int32} {z p : Nat} (h : hrS f z = hrS g z) (hp : p < z) : f p = g p := by
  have e := congrFun h p
  unfold hrS at e
  rw [if_pos hp, if_pos hp] at e
  exact e
theorem lk_feed {t tx : Nat} {x r r' : Int32} {SX SX' SR SR' : FS} (h : LC SX SR) (ht : fF SX 57 1 = nI t) (ht100 : t ≤ 100) (hx : fF SR 0 17 = nI tx) (hx1 : tx ≤ 100) (hC : FdP t x r SX SX') (e1 : r' = (if 0 ≤ x ∧ x ≤ 127 then if fF SR 0 17 = 100 then -4 else fF SR 0 17 + 1 else -2))
    (e2 : SR' = (if 0 ≤ x ∧ x ≤ 127 then if fF SR 0 17 = 100 then (setF SR 0 8 0) else setF (setA (setF SR 0 8 0) 6 (upd (fA SR 6) tx x)) 0 17 (fF SR 0 17 + 1) else (setF SR 0 8 0))) : r = r' ∧ LC SX' SR' := by
  have h0 := h
  obtain ⟨z, nc, h1, h2, h3, h4, h5⟩ := h0
  have et : t = z := (nI_eq (by omega) (by have := h2.2.1; omega)).mp (ht.symm.trans h2.1)
  have ex : z = tx := (nI_eq (by have := h2.2.1; omega) (by omega)).mp (h3.symm.trans hx)
  subst et
  subst ex
  rcases hC with ⟨a, b, c⟩ | ⟨a, a2, b, c⟩ | ⟨a, a2, b, c⟩
  · rw [if_neg (not_an2 a)] at e1 e2
    exact ⟨b.trans e1.symm, lc_same h c e2⟩
  · rw [if_pos (not_or2.mp a), if_pos (by rw [h3, a2]; rfl)] at e1 e2
    exact ⟨b.trans e1.symm, lc_same h c e2⟩
  · have hn : ¬ fF SR 0 17 = 100 := fun q => by
      have := (nI_eq (a := t) (b := 100) (by omega) (by omega)).mp (h3.symm.trans q)
      omega
    rw [if_pos (not_or2.mp a), if_neg hn] at e1 e2
    refine ⟨by rw [b, e1, h3]; exact (nI_1 t).symm, t + 1, nc, h1, ⟨?_, by omega, fun k hk => ?_, ?_⟩, ?_, ?_, ?_⟩
    · rw [c]
      rfl
    · rw [c, fA_setF, fA_setA, if_pos rfl]
      by_cases q : k = t
      · subst q
        rw [pk_us]
        obtain ⟨w, hw, ew⟩ := out_n (b := 127) a (by decide)
        exact ⟨w, by omega, ew⟩
      · rw [pk_un q]
        exact h2.2.2.1 k (by omega)
    · rw [c, e2]
      funext p
      unfold hrS
      by_cases hp : p < t + 1
      · rw [if_pos hp, if_pos hp, fA_setF, fA_setA, if_pos rfl, fA_setF, fA_setA, if_pos rfl]
        by_cases q : p = t
        · subst q
          rw [pk_us, pk_us]
        · rw [pk_un q, pk_un q]
          exact hrs_at h2.2.2.2 (by omega)
      · rw [if_neg hp, if_neg hp]
    · rw [e2, fF_setF, if_pos ⟨rfl, rfl⟩, h3]
      exact nI_1 t
    · rw [c]
      exact h4
    · rw [e2, fF_setF, if_neg (by omega), fF_setA, fF_setF, if_neg (by omega)]
      exact h5
theorem cnt_u (τ : Nat → Int32) (z : Nat) : cntP uA τ z = mp (List.map (fun c => (c.1, c.2.1, c.2.2.map (fun x => (x.1, ()))))) (cntP cdA τ z) := cnt_mp (hom_u cdA) z 10 true [] 0
theorem txz_0 {S : FS} {f : Nat → Int32} (h : fF S 57 1 = 0) : TXz S 0 (hrS f 0) := ⟨h, by omega, fun k hk => absurd hk (Nat.not_lt_zero k), funext fun p => by unfold hrS; rw [if_neg (Nat.not_lt_zero p), if_neg (Nat.not_lt_zero p)]⟩
theorem lk_counter {z nc zr ncr : Nat} {r r' : Int32} {SX U SR SR' : FS} (h : LC SX SR) (hTx : TXz SX z (hrS (fA SR 6) z)) (hnc : fF SX 0 9 = nI nc) (hnc6 : nc ≤ 6) (hz : fF SR 0 17 = nI zr) (hz1 : zr ≤ 100) (hcr : fF SR 0 20 = nI ncr) (hcr6 : ncr ≤ 6) (hC : CnP (hrS (fA SR 6) z) z nc r SX U) (hR : CNx (hrS (fA SR 6) zr) zr ncr r' SR SR') : r = r' ∧ LC U SR' := by
  have h0 := h
  obtain ⟨y, m, h1, h2, h3, h4, h5⟩ := h0
  have e1 : z = y := (nI_eq (by have := hTx.2.1; omega) (by have := h2.2.1; omega)).mp (hTx.1.symm.trans h2.1)
  have e2 : y = zr := (nI_eq (by have := h2.2.1; omega) (by omega)).mp (h3.symm.trans hz)
  have e3 : nc = m := (nI_eq (by omega) (by omega)).mp (hnc.symm.trans h4)
  have e4 : m = ncr := (nI_eq (by omega) (by omega)).mp (h5.symm.trans hcr)
  subst e1
  subst e2
  subst e3
  subst e4
  have eu := cnt_u (hrS (fA SR 6) z) z
  have key : ∀ (k : Nat), k ≤ 6 → fF U 57 1 = 0 → fF SR' 0 17 = 0 → fF U 0 9 = nI k → fF SR' 0 20 = nI k → LC U SR' := fun k hk a b c d => ⟨0, k, hk, txz_0 a, b, c, d⟩
  rcases hC with ⟨a, b, c⟩ | ⟨a, b, c⟩
  · rcases hR with ⟨-, d, e⟩ | ⟨d, -⟩
    · exact ⟨b.trans d.symm, lc_same h c e⟩
    · omega
  · rcases hR with ⟨d, -⟩ | ⟨-, d, e⟩
    · omega
    · rcases c with ⟨c1, c2, c3, -⟩ | ⟨C, p, c1, c2, c3, -⟩
      · rw [mp_n _ c1] at eu
        rcases e with ⟨e1, e2, e3⟩ | ⟨C', e1, -⟩
        · refine ⟨c2.trans (e2.trans ?_).symm, key _ hnc6 b d c3 e3⟩
          rw [eu]
        · rw [eu] at e1
          cases e1
      · rw [mp_s _ c1] at eu
        rcases e with ⟨e1, -⟩ | ⟨C', -, e2, e3, -⟩
        · rw [eu] at e1
          cases e1
        · exact ⟨c2.trans e2.symm, key (nc + 1) (by omega) b d c3 e3⟩
theorem count_r {w r r' : Int32} {SX SR : FS} (hL : LK SX SR) (hT : TL SX SR) (h : LC SX SR) (hC : r = if w = 0 then fF SX (9 + 0) 3 else if w = 1 then fF SX 0 9 else if w = 2 then fF SX (9 + 0) 4 else if w = 3 then fF SX (9 + 0) 5 else if w = 4 then fF SX 57 1 else if w = 5 then fF SX 61 2 else -2)
    (hR : r' = (if w = 0 then fF SR 0 1 else if w = 1 then fF SR 0 20 else if w = 2 then fF SR 0 5 else if w = 3 then fF SR 0 7 else if w = 4 then fF SR 0 17 else if w = 5 then fF SR 0 40 else -2)) : r = r' := by
  obtain ⟨z, nc, h1, h2, h3, h4, h5⟩ := h
  obtain ⟨y, -, t1, t2, -⟩ := hT
  have a3 : fF SX (9 + 0) 3 = fF SR 0 1 := hL.1 3 (by omega) (by omega)
  have a4 : fF SX (9 + 0) 4 = fF SR 0 5 := hL.1 4 (by omega) (by omega)
  have a5 : fF SX (9 + 0) 5 = fF SR 0 7 := hL.1 5 (by omega) (by omega)
  rw [hC, hR, a3, a4, a5, h4, h5, h2.1, h3, t1, t2]
/-- LN, the texts, the counters' number -/
def LO (SX SR : FS) : Prop := LN SX SR ∧ LC SX SR
theorem lo_0 {S : FS} (hF : Fr (fun j k => j = 62 ∧ k = 99) X0 S) (h62 : ∀ k, k < 6 → fA S 62 k = -1) (h2 : fF S 0 10 = 0) : LO S R0 :=
  ⟨ln_0 hF h62 h2, 0, 0, by omega, txz_0 ((hF.F (j := 57) (k := 1) (by rw [X0_c]; omega) (fun q => by omega)).trans rfl), rfl, (hF.F (j := 0) (k := 9) (by rw [X0_c]; omega) (fun q => by omega)).trans rfl, rfl⟩
