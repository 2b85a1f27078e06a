/-- the customers' numbers -/
def NU (S : FS) : Prop := ∀ c, c < 6 → fF S (21 + 6 * 0 + c) 0 = nI c
theorem nu_step {P : Nat → Nat → Prop} {SX SX' : FS} (h : NU SX) (hF : Fr P SX SX') (n : ∀ c, c < 6 → ¬ P (21 + 6 * 0 + c) 0) : NU SX' := fun c hc => (hF.F (lt71 (by omega)) (n c hc)).trans (h c hc)
/-- the traces alike -/
def TL (SX SR : FS) : Prop := ∃ z : Nat, z ≤ 64 ∧ fF SX 61 2 = nI z ∧ fF SR 0 40 = nI z ∧ ∀ i, i < z → i < 20 → ∃ b, b < 128 ∧ el SX i = some (b + 128) ∧ fA SR 17 i = nI b
def RY (S S' : FS) : Prop := fF S' 0 40 = fF S 0 40 ∧ fA S' 17 = fA S 17
theorem el_fr {P : Nat → Nat → Prop} {SX SX' : FS} (hX : XI SX) (hF : Fr P SX SX') (n1 : ¬ P 61 1) (n3 : ∀ p k, 71 ≤ p → ¬ P p k) {i j : Nat} (h : el SX i = some j) : el SX' i = some j := by
  have e61 : fR SX' 61 1 = fR SX 61 1 := hF.R (lt71 (by omega)) n1
  rcases (XI.list hX).ab with hA | ⟨pl, nz, z, hB⟩
  · unfold el at h
    rw [hA.1] at h
    cases h
  · rw [el_B hB.1] at h
    rw [el_B (e61.trans hB.1), hF.R hB.2.2.1 (n3 pl i hB.2.1)]
    exact h
theorem tl_step {P : Nat → Nat → Prop} {SX SX' SR SR' : FS} (h : TL SX SR) (hX : XI SX) (hF : Fr P SX SX') (n1 : ¬ P 61 1) (n2 : ¬ P 61 2) (n3 : ∀ p k, 71 ≤ p → ¬ P p k) (r : RY SR SR') : TL SX' SR' := by
  obtain ⟨z, hz, e1, e2, e3⟩ := h
  refine ⟨z, hz, (hF.F (lt71 (by omega)) n2).trans e1, r.1.trans e2, fun i hi h20 => ?_⟩
  obtain ⟨b, hb, eb, er⟩ := e3 i hi h20
  exact ⟨b, hb, el_fr hX hF n1 n3 eb, by rw [r.2]; exact er⟩
theorem ry_T {S : FS} : RY S (setF S 0 8 0) := ⟨by rw [fF_setF, if_neg (by omega)], rfl⟩
theorem ry_E {S S' : FS} (k : S' = setF S 0 8 0) : RY S S' := k ▸ ry_T
theorem ry_if {S S' A B : FS} {P : Prop} [Decidable P] (k : S' = if P then A else B) (a : RY S A) (b : RY S B) : RY S S' := by
  rw [k]
  split
  · exact a
  · exact b
theorem ry_H {S S' : FS} (k : HFr (setF S 0 8 0) S') : RY S S' := ⟨(k.2.2.1 40).trans (by rw [fF_setF, if_neg (by omega)]), k.2.2.2 17 (by omega) (by omega) (by omega)⟩
theorem ry_Q {S S' : FS} (k : QP (setF S 0 8 0) S') : RY S S' := ⟨(k.2.1 40 (by omega) (by omega) (by omega) (by omega)).trans (by rw [fF_setF, if_neg (by omega)]), k.2.2.2.1 17 (by omega) (by omega) (by omega) (by omega) (by omega) (by omega) (by omega)⟩
theorem ry_M {S S' : FS} (k : MO (setF S 0 8 0) S' ∧ SV 9999 S') : RY S S' := ⟨(k.1.2.2.1 40 (by omega) (by omega) (by omega) (by omega) (by omega) (by omega)).trans (by rw [fF_setF, if_neg (by omega)]), k.1.2.2.2.1 17 (by omega) (by omega) (by omega) (by omega)⟩
theorem ry_CA {q : Nat} {w : Nat → Int32} {tk : Int32} {S0 S S' : FS} (k : CA q w tk 89 89 S0 S') (hq : q = 5) (h0 : fF S0 0 40 = fF S 0 40 ∧ fA S0 17 = fA S 17) : RY S S' := by
  subst hq
  obtain ⟨-, k1, k2, -⟩ := k
  exact ⟨(k1 40 (by omega) (by omega) (by omega) (by omega) (by omega) (by omega) (by omega)).trans h0.1, (k2 17 (by omega) (by omega) (by omega) (by omega)).trans h0.2⟩
theorem ry_cnt {S S' : FS} {nc : Nat} (k : CNT nc S S') : RY S S' := ⟨k.2.2.1 40 (by omega) (by omega) (by omega) (by omega) (by omega) (by omega) (by omega) (by omega), k.2.2.2.1 17 (by omega) (by omega) (by omega) (by omega) (by omega) (by omega) (by omega)⟩
theorem ry_a {S : FS} {j : Nat} {f : Nat → Int32} (hj : j ≠ 17) : RY S (setA (setF S 0 8 0) j f) := ⟨by rw [fF_setA, fF_setF, if_neg (by omega)], by rw [fA_setA, if_neg (fun e => hj e.symm)]; rfl⟩
theorem ry_f {S : FS} {k : Nat} {v : Int32} (hk : k ≠ 40) : RY S (setF (setF S 0 8 0) 0 k v) := ⟨by rw [fF_setF, if_neg (by omega), fF_setF, if_neg (by omega)], rfl⟩
theorem ry_af {S : FS} {j k : Nat} {f : Nat → Int32} {v : Int32} (hj : j ≠ 17) (hk : k ≠ 40) : RY S (setF (setA (setF S 0 8 0) j f) 0 k v) := ⟨by rw [fF_setF, if_neg (by omega), fF_setA, fF_setF, if_neg (by omega)], by rw [fA_setF, fA_setA, if_neg (fun e => hj e.symm)]; rfl⟩
theorem ry_l {S : FS} {w : Nat → Int64} : RY S (setL (setF S 0 8 0) 20 w) := ⟨by rw [fF_setL, fF_setF, if_neg (by omega)], rfl⟩
theorem ry_4 {S : FS} {f g h : Nat → Int32} {w : Nat → Int64} : RY S (setL (setA (setA (setA (setF S 0 8 0) 22 f) 18 g) 19 h) 20 w) := ⟨by rw [fF_setL, fF_setA, fF_setA, fF_setA, fF_setF, if_neg (by omega)], by rw [fA_setL, fA_setA, if_neg (by omega), fA_setA, if_neg (by omega), fA_setA, if_neg (by omega)]; rfl⟩
theorem ry_shift {S S' : FS} {P1 P2 P3 P4 P5 P6 Q : Prop} {w : Nat → Int64} (k : (P1 ∧ P2 ∧ P3 ∧ P4 ∧ P5 ∧ P6 ∧ ∃ cp, S' = setL (setL (setF S 0 8 0) 21 cp) 20 w) ∨ (Q ∧ S' = (setF S 0 8 0))) : RY S S' := by
  rcases k with ⟨-, -, -, -, -, -, cp, rfl⟩ | ⟨-, rfl⟩
  · exact ⟨by rw [fF_setL, fF_setL, fF_setF, if_neg (by omega)], rfl⟩
  · exact ry_T
theorem ntl_at (bs : List Int32) : ∀ (t : Nat) (S : FS), fF S 0 40 = nI t → fF (ntl t S bs) 0 40 = nI (t + bs.length) ∧ ∀ i, i < 20 → fA (ntl t S bs) 17 i = if t ≤ i ∧ i < t + bs.length then bs.getD (i - t) 0 else fA S 17 i := by
  induction bs with
  | nil => exact fun t S h => ⟨h, fun i _ => by rw [if_neg (by simp only [List.length_nil]; omega)]; rfl⟩
  | cons b bs ih =>
    intro t S h
    have e1 : fF (ntS t S b) 0 40 = nI (t + 1) := by
      unfold ntS
      rw [fF_setF, if_pos ⟨rfl, rfl⟩]
    obtain ⟨g1, g2⟩ := ih (t + 1) (ntS t S b) e1
    refine ⟨by show fF (ntl (t + 1) (ntS t S b) bs) 0 40 = _; rw [g1, List.length_cons]; exact congrArg nI (by omega), fun i hi => ?_⟩
    show fA (ntl (t + 1) (ntS t S b) bs) 17 i = _
    rw [g2 i hi, List.length_cons]
    have e2 : ¬ i = t → fA (ntS t S b) 17 i = fA S 17 i := fun n => by
      unfold ntS
      split
      · rw [fA_setF, fA_setA, if_pos rfl, pk_un n]
      · rfl
    by_cases c : t + 1 ≤ i ∧ i < t + 1 + bs.length
    · rw [if_pos c, if_pos (by omega), show i - t = (i - (t + 1)) + 1 by omega]
      rfl
    · rw [if_neg c]
      by_cases d : i = t
      · subst d
        rw [if_pos (by omega), Nat.sub_self]
        unfold ntS
        rw [if_pos hi, fA_setF, fA_setA, if_pos rfl, pk_us]
        rfl
      · rw [if_neg (by omega), e2 d]
theorem getD_map (L : List Nat) (j : Nat) : (L.map nI).getD j 0 = nI (L.getD j 0) := by
  rw [List.getD_eq_getElem?_getD, List.getD_eq_getElem?_getD, List.getElem?_map]
  cases L[j]? <;> rfl
theorem getD_lt {L : List Nat} (h : ∀ x ∈ L, x < 128) (j : Nat) : L.getD j 0 < 128 := by
  rw [List.getD_eq_getElem?_getD]
  cases e : L[j]? with
  | none => exact (by decide : 0 < 128)
  | some v => exact h v (List.mem_of_getElem? e)
theorem aL_lt {q : Nat} (hq : q < 7) : ∀ x ∈ aL q, x < 128 := by rcases kq7 hq with rfl | rfl | rfl | rfl | rfl | rfl | rfl <;> decide
theorem bL_lt {q : Nat} (hq : q < 7) : ∀ x ∈ bL q, x < 128 := by rcases kq7 hq with rfl | rfl | rfl | rfl | rfl | rfl | rfl <;> decide
theorem tL_lt {q : Nat} (hq : q < 7) : ∀ x ∈ tL q, x < 128 := by rcases kq7 hq with rfl | rfl | rfl | rfl | rfl | rfl | rfl <;> decide
theorem aB_L {q : Nat} (hq : q < 7) : aB (nI q) = (aL q).map nI := by rcases kq7 hq with rfl | rfl | rfl | rfl | rfl | rfl | rfl <;> decide
theorem bB_L {q : Nat} (hq : q < 7) : bB (nI q) = (bL q).map nI := by rcases kq7 hq with rfl | rfl | rfl | rfl | rfl | rfl | rfl <;> decide
theorem tB_L {q : Nat} (hq : q < 7) : tlB (nI q) = (tL q).map nI := by rcases kq7 hq with rfl | rfl | rfl | rfl | rfl | rfl | rfl <;> decide
theorem tl_ec {L : List Nat} {U S0 SR' : FS} (h : EC L U) (h0 : fF S0 0 40 = nI 0) (hl : L.length ≤ 12) (hb : ∀ x ∈ L, x < 128) (e : SR' = ntl 0 S0 (L.map nI)) : TL U SR' := by
  obtain ⟨g1, g2⟩ := ntl_at (L.map nI) 0 S0 h0
  rw [← e, List.length_map, Nat.zero_add] at g1
  rw [← e, List.length_map, Nat.zero_add] at g2
  refine ⟨L.length, by omega, h.1, g1, fun i hi h20 => ⟨L.getD i 0, getD_lt hb i, h.2 i hi, ?_⟩⟩
  rw [g2 i h20, if_pos ⟨Nat.zero_le _, hi⟩, Nat.sub_zero, getD_map]
theorem lk_act {n : Nat} {c w x r r' : Int32} {SX U SR SR' : FS} (h1 : fF SR 0 1 = nI n) (hn : n ≤ 6) (hK : CK 0 (vec SR) SX n) (hN : NU SX) (hC : ActP n c w x r SX U)
    (e : (¬ ((0 ≤ c ∧ c ≤ fF SR 0 1 - 1) ∧ 0 ≤ w ∧ w ≤ 2) ∧ r' = 0 ∧ SR' = (setF (setF SR 0 8 0) 0 40 0)) ∨ (((0 ≤ c ∧ c ≤ fF SR 0 1 - 1) ∧ 0 ≤ w ∧ w ≤ 2) ∧ r' = (if w = 0 then aV (fA SR 1 (12 * c.toNatClampNeg + 0)) (fA SR 1 (12 * c.toNatClampNeg + 1)) c x else if w = 1 then bV (fA SR 1 (12 * c.toNatClampNeg + 0)) (fA SR 1 (12 * c.toNatClampNeg + 1)) c x else tlV (fA SR 1 (12 * c.toNatClampNeg + 0)) (fA SR 1 (12 * c.toNatClampNeg + 1)) c x) ∧ SR' = ntl 0 (setF (setF (setF (setF (setF SR 0 8 0) 0 40 0) 0 41 (fA SR 1 (12 * c.toNatClampNeg + 0))) 0 42 (fA SR 1 (12 * c.toNatClampNeg + 1))) 0 43 c) (if w = 0 then aB (fA SR 1 (12 * c.toNatClampNeg + 0)) else if w = 1 then bB (fA SR 1 (12 * c.toNatClampNeg + 0)) else tlB (fA SR 1 (12 * c.toNatClampNeg + 0))))) : r = r' ∧ TL U SR' := by
  rcases hC with ⟨er, hz, hbad⟩ | ⟨j, q, hj, ec, hq, hR, hcase⟩
  · rcases e with ⟨-, b, d⟩ | ⟨a, -, -⟩
    · exact ⟨er.trans b.symm, 0, by omega, hz, by rw [d, fF_setF, if_pos ⟨rfl, rfl⟩]; rfl, fun i hi => absurd hi (by omega)⟩
    · exfalso
      rcases hbad with hbad | ⟨b0, b1, b2⟩
      · exact out_isC h1 hn hbad a.1
      · obtain ⟨k, hk, ek⟩ := out_n (b := 2) (x := w) (not_or2.mpr a.2) (by decide)
        rcases (show k = 0 ∨ k = 1 ∨ k = 2 by omega) with rfl | rfl | rfl
        · exact b0 ek
        · exact b1 ek
        · exact b2 ek
  · have hok : 0 ≤ c ∧ c ≤ fF SR 0 1 - 1 := in_isC h1 hn hj ec
    obtain ⟨q', hq', g1, g2, g3, -⟩ := hK j hj
    have eq : q' = q := by
      have := Option.some.inj (g1.symm.trans hR)
      omega
    subst eq
    have ej : c.toNatClampNeg = j := by rw [ec]; exact nI_clamp (by omega)
    have k0 : fA SR 1 (12 * c.toNatClampNeg + 0) = nI q' := by rw [ej, ← vec_s SR (by omega)]; exact g2
    have k1 : fA SR 1 (12 * c.toNatClampNeg + 1) = fF SX (21 + 6 * 0 + j) 3 := by rw [ej, ← vec_s SR (by omega)]; exact g3
    have hc0 : fF SX (21 + 6 * 0 + j) 0 = c := (hN j (by omega)).trans ec.symm
    rw [k0, k1] at e
    rw [hc0] at hcase
    have h0 : fF (setF (setF (setF (setF (setF SR 0 8 0) 0 40 0) 0 41 (nI q')) 0 42 (fF SX (21 + 6 * 0 + j) 3)) 0 43 c) 0 40 = nI 0 := by
      rw [fF_setF, if_neg (by omega), fF_setF, if_neg (by omega), fF_setF, if_neg (by omega), fF_setF, if_pos ⟨rfl, rfl⟩]
      rfl
    rcases e with ⟨a, -, -⟩ | ⟨-, b, d⟩
    · exfalso
      refine a ⟨hok, ?_⟩
      rcases hcase with ⟨ew, -⟩ | ⟨ew, -⟩ | ⟨ew, -⟩ <;> rw [ew] <;> decide
    · rcases hcase with ⟨ew, er, hE⟩ | ⟨ew, er, hE⟩ | ⟨ew, er, hE⟩
      · rw [if_pos ew] at b d
        exact ⟨er.trans b.symm, tl_ec hE h0 (by have := aL_len q'; omega) (aL_lt hq') (by rw [d, aB_L hq'])⟩
      · rw [if_neg (by rw [ew]; decide), if_pos ew] at b d
        exact ⟨er.trans b.symm, tl_ec hE h0 (by have := bL_len q'; omega) (bL_lt hq') (by rw [d, bB_L hq'])⟩
      · rw [if_neg (by rw [ew]; decide), if_neg (by rw [ew]; decide)] at b d
        exact ⟨er.trans b.symm, tl_ec hE h0 (tL_len q') (tL_lt hq') (by rw [d, tB_L hq'])⟩
theorem trace_r {z t : Nat} {x r r' : Int32} {SX SR : FS} (h : TL SX SR) (hz : fF SX 61 2 = nI z) (hz64 : z ≤ 64) (ht : fF SR 0 40 = nI t) (ht9 : t < 1000) (hC : (r = -1 ∧ (x < 0 ∨ 20 ≤ x ∨ nI z ≤ x)) ∨ ∃ iz jb, x = nI iz ∧ ¬ 20 ≤ x ∧ iz < z ∧ jb < 256 ∧ el SX iz = some jb ∧ r = vb_c jb)
    (hR : (r' = -1 ∧ (x < 0 ∨ 20 ≤ x ∨ nI t ≤ x)) ∨ ∃ iz, iz < t ∧ iz < 20 ∧ x = nI iz ∧ r' = fA SR 17 iz) : r = r' := by
  obtain ⟨y, hy, y1, y2, y3⟩ := h
  have e1 : y = z := (nI_eq (by omega) (by omega)).mp (y1.symm.trans hz)
  have e2 : y = t := (nI_eq (by omega) (by omega)).mp (y2.symm.trans ht)
  subst e1
  subst e2
  rcases hC with ⟨a, b⟩ | ⟨iz, jb, ex, h20, hi, hj, ee, er⟩
  · rcases hR with ⟨c, -⟩ | ⟨iz, c1, c2, ex, -⟩
    · exact a.trans c.symm
    · exfalso
      rw [ex] at b
      rcases b with b | b | b
      · exact Int32.not_lt.mpr ((nI_leI (a := 0) (b := iz) (by omega) (by omega)).mpr (Nat.zero_le _)) b
      · have := (nI_leI (a := 20) (b := iz) (by omega) (by omega)).mp b
        omega
      · have := (nI_leI (by omega) (by omega)).mp b
        omega
  · have hi20 : iz < 20 := Nat.lt_of_not_le (fun q => h20 (by rw [ex]; exact (nI_leI (a := 20) (b := iz) (by omega) (by omega)).mpr q))
    rcases hR with ⟨-, b⟩ | ⟨iy, c1, c2, ey, c⟩
    · exfalso
      rw [ex] at b
      rcases b with b | b | b
      · exact Int32.not_lt.mpr ((nI_leI (a := 0) (b := iz) (by omega) (by omega)).mpr (Nat.zero_le _)) b
      · have := (nI_leI (a := 20) (b := iz) (by omega) (by omega)).mp b
        omega
      · have := (nI_leI (by omega) (by omega)).mp b
        omega
    · have e3 : iz = iy := (nI_eq (by omega) (by omega)).mp (ex.symm.trans ey)
      subst e3
      obtain ⟨b, hb, eb, eR⟩ := y3 iz hi hi20
      have e4 : jb = b + 128 := Option.some.inj (ee.symm.trans eb)
      rw [er, c, eR, e4]
      show nI (b + 128) - nI 128 = nI b
      rw [← nI_add]
      exact Int32.add_sub_cancel _ _
/-- LM, the customers' numbers, the traces -/
def LN (SX SR : FS) : Prop := LM SX SR ∧ NU SX ∧ TL SX SR
theorem ln_0 {S : FS} (hF : Fr (fun j k => j = 62 ∧ k = 99) X0 S) (h62 : ∀ k, k < 6 → fA S 62 k = -1) (h2 : fF S 0 10 = 0) : LN S R0 :=
  ⟨lm_0 hF h62 h2, fun c hc => (hF.F (j := 21 + 6 * 0 + c) (k := 0) (by rw [X0_c]; omega) (fun q => by omega)).trans (by rcases (show c = 0 ∨ c = 1 ∨ c = 2 ∨ c = 3 ∨ c = 4 ∨ c = 5 by omega) with rfl | rfl | rfl | rfl | rfl | rfl <;> rfl),
   0, by omega, (hF.F (j := 61) (k := 2) (by rw [X0_c]; omega) (fun q => by omega)).trans rfl, rfl, fun i hi => absurd hi (by omega)⟩
