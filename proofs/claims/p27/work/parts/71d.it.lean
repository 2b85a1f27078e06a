/-- a tape without a sort has no items, and sorts are sorts -/
def NT (S : FS) : Prop := ∀ t, t < 6 → (fA S 62 t = -1 → fA S 63 t = 0) ∧ ¬ (fA S 62 t < -1 ∨ 4 < fA S 62 t)
/-- the items alike -/
def IT (SX SR : FS) : Prop := ∀ t, t < 6 → ∀ k, k < 60 → fL SX (65 + t) k = fL SR 20 (60 * t + k)
/-- the two sides at one, beside LK: tapes, customers, items -/
def LM (SX SR : FS) : Prop := TR SX SR ∧ CKK SX SR ∧ IT SX SR ∧ NT SX
theorem nt_step {P : Nat → Nat → Prop} {SX SX' : FS} (h : NT SX) (hF : Fr P SX SX') (n1 : ¬ P 62 99) (n2 : ¬ P 63 99) : NT SX' := by
  have e62 := hF.A (j := 62) (lt71 (by omega)) n1
  have e63 := hF.A (j := 63) (lt71 (by omega)) n2
  intro t ht
  rw [e62, e63]
  exact h t ht
theorem it_step {A T : Prop} {P : Nat → Nat → Prop} {SX SX' SR SR' : FS} (h : IT SX SR) (hF : Fr P SX SX') (n1 : ∀ t, t < 6 → ¬ P (65 + t) 98) (r : RZ A T False SR SR') : IT SX' SR' := fun t ht k hk => by
  rw [hF.L (j := 65 + t) (lt71 (by omega)) (n1 t ht), r.2.2 (fun q => q)]
  exact h t ht k hk
theorem lm_step {P : Nat → Nat → Prop} {SX SX' SR SR' : FS} (h : LM SX SR) (hF : Fr P SX SX') (n1 : ¬ P 62 99) (n2 : ¬ P 63 99) (n3 : ∀ t, t < 6 → ¬ P (65 + t) 98) (n4 : ¬ P 9 3) (n5 : ¬ P 0 10) (n6 : ¬ P 10 3) (n7 : ∀ c, c < 12 → ¬ P (21 + c) 2 ∧ ¬ P (21 + c) 3 ∧ ¬ P (39 + c) 99) (r : RZ False False False SR SR') (r5 : fA SR' 5 = fA SR 5) : LM SX' SR' :=
  ⟨tr_step h.1 hF n1 n2 r, ckk_step h.2.1 (hF.F (lt71 (by omega)) n4) (hF.F (lt71 (by omega)) n5) (hF.F (lt71 (by omega)) n6) hF n7 r r5, it_step h.2.2.1 hF n3 r, nt_step h.2.2.2 hF n1 n2⟩
theorem lm_A {P : Nat → Nat → Prop} {SX SX' SR SR' : FS} (h : LM SX SR) (hF : Fr P SX SX') (n1 : ¬ P 62 99) (n2 : ¬ P 63 99) (n3 : ∀ t, t < 6 → ¬ P (65 + t) 98) (r : RZ True False False SR SR') (c : CKK SX' SR') : LM SX' SR' :=
  ⟨tr_step h.1 hF n1 n2 r, c, it_step h.2.2.1 hF n3 r, nt_step h.2.2.2 hF n1 n2⟩
theorem lm_L {P : Nat → Nat → Prop} {SX SX' SR SR' : FS} (h : LM SX SR) (hF : Fr P SX SX') (n1 : ¬ P 62 99) (n2 : ¬ P 63 99) (n4 : ¬ P 9 3) (n5 : ¬ P 0 10) (n6 : ¬ P 10 3) (n7 : ∀ c, c < 12 → ¬ P (21 + c) 2 ∧ ¬ P (21 + c) 3 ∧ ¬ P (39 + c) 99) (r : RZ False False True SR SR') (r5 : fA SR' 5 = fA SR 5) (t : TR SX' SR') (i : IT SX' SR') : LM SX' SR' :=
  ⟨t, ckk_step h.2.1 (hF.F (lt71 (by omega)) n4) (hF.F (lt71 (by omega)) n5) (hF.F (lt71 (by omega)) n6) hF n7 r r5, i, nt_step h.2.2.2 hF n1 n2⟩
theorem lm_T {P : Nat → Nat → Prop} {SX SX' SR SR' : FS} (h : LM SX SR) (hF : Fr P SX SX') (n4 : ¬ P 9 3) (n5 : ¬ P 0 10) (n6 : ¬ P 10 3) (n7 : ∀ c, c < 12 → ¬ P (21 + c) 2 ∧ ¬ P (21 + c) 3 ∧ ¬ P (39 + c) 99) (r : RZ False True True SR SR') (r5 : fA SR' 5 = fA SR 5) (t : TR SX' SR') (i : IT SX' SR') (z : NT SX') : LM SX' SR' :=
  ⟨t, ckk_step h.2.1 (hF.F (lt71 (by omega)) n4) (hF.F (lt71 (by omega)) n5) (hF.F (lt71 (by omega)) n6) hF n7 r r5, i, z⟩
theorem rz_A4 {S : FS} {f g h : Nat → Int32} {w : Nat → Int64} : RZ False True True S (setL (setA (setA (setA (setF S 0 8 0) 22 f) 18 g) 19 h) 20 w) :=
  ⟨fun _ i _ _ => by rw [fA_setL, fA_setA, if_neg (by omega), fA_setA, if_neg (by omega), fA_setA, if_neg (by omega)]; rfl, fun q => absurd trivial q, fun q => absurd trivial q⟩
theorem rz_tape {S S' : FS} {P1 P2 P3 P4 P5 : Prop} [Decidable P1] [Decidable P2] [Decidable P3] [Decidable P4] [Decidable P5] {f g h f2 g2 h2 : Nat → Int32} {w w2 : Nat → Int64} (k : S' = (if P1 then if P2 then if P3 then (setL (setA (setA (setA (setF S 0 8 0) 22 f) 18 g) 19 h) 20 w) else if P4 then if P5 then (setF S 0 8 0) else (setL (setA (setA (setA (setF S 0 8 0) 22 f2) 18 g2) 19 h2) 20 w2) else (setF S 0 8 0) else (setF S 0 8 0) else (setF S 0 8 0))) : RZ False True True S S' := by
  subst k
  split
  · split
    · split
      · exact rz_A4
      · split
        · split
          · exact rz_E rfl
          · exact rz_A4
        · exact rz_E rfl
    · exact rz_E rfl
  · exact rz_E rfl
theorem rz_item {S S' : FS} {P1 P2 P3 : Prop} [Decidable P1] [Decidable P2] [Decidable P3] {w : Nat → Int64} (k : S' = (if P1 then if P2 then (setF S 0 8 0) else if P3 then setL (setF S 0 8 0) 20 w else (setF S 0 8 0) else (setF S 0 8 0))) : RZ False False True S S' := by
  subst k
  split
  · split
    · exact rz_E rfl
    · split
      · exact ⟨fun _ _ _ _ => rfl, fun _ => ⟨rfl, rfl, rfl⟩, fun q => absurd trivial q⟩
      · exact rz_E rfl
  · exact rz_E rfl
theorem rz_shift {S S' : FS} {P1 P2 P3 P4 P5 P6 Q : Prop} {w : Nat → Int64} (k : (P1 ∧ P2 ∧ P3 ∧ P4 ∧ P5 ∧ P6 ∧ ∃ cp, S' = setL (setL (setF S 0 8 0) 21 cp) 20 w) ∨ (Q ∧ S' = (setF S 0 8 0))) : RZ False False True S S' := by
  rcases k with ⟨-, -, -, -, -, -, cp, rfl⟩ | ⟨-, rfl⟩
  · exact ⟨fun _ _ _ _ => rfl, fun _ => ⟨rfl, rfl, rfl⟩, fun q => absurd trivial q⟩
  · exact rz_E rfl
theorem nrx_nrw {s : Int32} {v : Int64} (h : ¬ (s < -1 ∨ 4 < s)) (h2 : ¬ s = -1) : nrx v s = nrw v s := by
  have h0 : ¬ s < 0 := so_pos (not_or2.mp h).1 h2
  obtain ⟨k, hk, e⟩ := out_n (b := 4) (x := s) (fun q => q.elim h0 (fun q => h (Or.inr q))) (by decide)
  subst e
  rcases (show k = 0 ∨ k = 1 ∨ k = 2 ∨ k = 3 ∨ k = 4 by omega) with rfl | rfl | rfl | rfl | rfl <;> rfl
theorem zr_at (f : Nat → Int64) {t u k : Nat} (hk : k < 60) : zr f t 60 (60 * u + k) = if u = t then 0 else f (60 * u + k) := by
  unfold zr
  by_cases e : u = t
  · rw [if_pos (by omega), if_pos e]
  · rw [if_neg (by omega), if_neg e]
theorem it_tape {t so n r : Int32} {SX SX' SR SR' : FS} (h : IT SX SR) (hC : TapP t so n r SX SX')
    (e2 : SR' = (if (0 ≤ t ∧ t ≤ 5) then if -1 ≤ so ∧ so ≤ 4 then if so < 0 then (setL (setA (setA (setA (setF SR 0 8 0) 22 (upd (fA SR 22) t.toNatClampNeg 0)) 18 (upd (fA SR 18) t.toNatClampNeg so)) 19 (upd (fA SR 19) t.toNatClampNeg 0)) 20 (zr (fL SR 20) t.toNatClampNeg 60)) else if n ≤ 60 then if n < 0 then (setF SR 0 8 0) else (setL (setA (setA (setA (setF SR 0 8 0) 22 (upd (fA SR 22) t.toNatClampNeg 1)) 18 (upd (fA SR 18) t.toNatClampNeg so)) 19 (upd (fA SR 19) t.toNatClampNeg n)) 20 (zr (fL SR 20) t.toNatClampNeg 60)) else (setF SR 0 8 0) else (setF SR 0 8 0) else (setF SR 0 8 0))) : IT SX' SR' := by
  have hS : ∀ {S1 S2 : FS}, S1 = SX → S2 = setF SR 0 8 0 → IT S1 S2 := fun a b => by
    rw [a, b]
    exact h
  rcases hC with ⟨a, b, c⟩ | ⟨a, a2, b, c⟩ | ⟨a, a2, a3, a4, b, c⟩ | ⟨a, a2, a3, a4, a5, b, c⟩ | ⟨ta, len, hta, et, a2, a3, b, -, -, c3, c4⟩
  · rw [if_neg (t6_out a)] at e2
    exact hS c e2
  · obtain ⟨ta, hta, et⟩ := out_6 a
    rw [if_pos (et ▸ t6_in hta), if_neg (not_an2 a2)] at e2
    exact hS c e2
  · obtain ⟨ta, hta, et⟩ := out_6 a
    rw [if_pos (et ▸ t6_in hta), if_pos (not_or2.mp a2), if_neg (so_pos (not_or2.mp a2).1 a3), if_neg a4] at e2
    exact hS c e2
  · obtain ⟨ta, hta, et⟩ := out_6 a
    rw [if_pos (et ▸ t6_in hta), if_pos (not_or2.mp a2), if_neg (so_pos (not_or2.mp a2).1 a3), if_pos a4, if_pos a5] at e2
    exact hS c e2
  · subst et
    have ec : (nI ta).toNatClampNeg = ta := nI_clamp (by omega)
    rw [if_pos (t6_in hta), if_pos (not_or2.mp a2), ec] at e2
    have e3 : fL SR' 20 = zr (fL SR 20) ta 60 := by
      rcases a3 with ⟨d1, d2⟩ | ⟨d1, d2, d3, d4⟩
      · rw [if_pos (by rw [d1]; decide)] at e2
        rw [e2, fL_setL, if_pos rfl]
      · rw [if_neg (so_pos (not_or2.mp a2).1 d1), if_pos d2, if_neg d3] at e2
        rw [e2, fL_setL, if_pos rfl]
    intro u hu k hk
    rw [e3, zr_at _ hk]
    by_cases e : u = ta
    · subst e
      rw [if_pos rfl]
      exact c3 k hk
    · rw [if_neg e, c4 u hu e]
      exact h u hu k hk
theorem nt_tape {t so n r : Int32} {SX SX' : FS} (h : NT SX) (hC : TapP t so n r SX SX') : NT SX' := by
  rcases hC with ⟨a, b, c⟩ | ⟨a, a2, b, c⟩ | ⟨a, a2, a3, a4, b, c⟩ | ⟨a, a2, a3, a4, a5, b, c⟩ | ⟨ta, len, hta, et, a2, a3, b, c1, c2, -, -⟩
  · rw [c]; exact h
  · rw [c]; exact h
  · rw [c]; exact h
  · rw [c]; exact h
  · intro u hu
    rw [c1, c2]
    by_cases e : u = ta
    · subst e
      rw [pk_us, pk_us]
      exact ⟨fun q => a3.elim (fun z => z.2) (fun z => absurd q z.1), a2⟩
    · rw [pk_un e, pk_un e]
      exact h u hu
theorem it_item {t i r : Int32} {v : Int64} {SX SX' SR SR' : FS} (hT : TR SX SR) (hN : NT SX) (h : IT SX SR) (hC : ItP t i v r SX SX') (e2 : SR' = (if (0 ≤ t ∧ t ≤ 5) then if fA SR 22 t.toNatClampNeg = 0 then (setF SR 0 8 0) else if (0 ≤ i ∧ i ≤ fA SR 19 t.toNatClampNeg - 1) then setL (setF SR 0 8 0) 20 (vp_updL (fL SR 20) (60 * t.toNatClampNeg + i.toNatClampNeg) (nrw v (fA SR 18 t.toNatClampNeg))) else (setF SR 0 8 0) else (setF SR 0 8 0))) : IT SX' SR' := by
  have hS : ∀ {S1 S2 : FS}, S1 = SX → S2 = setF SR 0 8 0 → IT S1 S2 := fun a b => by
    rw [a, b]
    exact h
  rcases hC with ⟨a, b, d⟩ | ⟨ta, hta, et, c⟩
  · rw [if_neg (t6_out a)] at e2
    exact hS d e2
  · subst et
    have ec : (nI ta).toNatClampNeg = ta := nI_clamp (by omega)
    obtain ⟨g1, g2, g3⟩ := hT ta hta
    rw [if_pos (t6_in hta), ec, ← g3] at e2
    rcases c with ⟨a, b, d⟩ | ⟨a, a2, b, d⟩ | ⟨ia, a, a2, ei, hia, b, d⟩
    · rw [if_pos (g1.mp a)] at e2
      exact hS d e2
    · rw [if_neg (fun q => a (g1.mpr q)), if_neg (not_an2 a2)] at e2
      exact hS d e2
    · rw [if_neg (fun q => a (g1.mpr q)), if_pos (not_or2.mp a2), ← g2 a, ← nrx_nrw (hN ta hta).2 a, ei, nI_clamp (show ia < 2147483648 by omega)] at e2
      intro u hu k hk
      rw [d, e2, fL_setL, fL_setL, if_pos rfl]
      by_cases e : u = ta
      · subst e
        rw [if_pos rfl]
        unfold vp_updL
        by_cases ek : k = ia
        · rw [if_pos ek, if_pos (by omega)]
        · rw [if_neg ek, if_neg (by omega)]
          exact h u hu k hk
      · rw [if_neg (by omega)]
        unfold vp_updL
        rw [if_neg (by omega)]
        exact h u hu k hk
theorem read_r {t i : Int32} {r r' : Int64} {SX SR : FS} (hT : TR SX SR) (hN : NT SX) (h : IT SX SR) (hC : ReP t i r SX) (e1 : r' = (if (0 ≤ t ∧ t ≤ 5) then if fA SR 22 t.toNatClampNeg = 0 then -9223372036854775808 else if (0 ≤ i ∧ i ≤ fA SR 19 t.toNatClampNeg - 1) then fL SR 20 (60 * t.toNatClampNeg + i.toNatClampNeg) else -9223372036854775808 else -9223372036854775808)) : r = r' := by
  rcases hC with ⟨a, b⟩ | ⟨ta, hta, et, c⟩
  · rw [if_neg (t6_out a)] at e1
    exact b.trans e1.symm
  · subst et
    have ec : (nI ta).toNatClampNeg = ta := nI_clamp (by omega)
    obtain ⟨g1, g2, g3⟩ := hT ta hta
    rw [if_pos (t6_in hta), ec, ← g3] at e1
    rcases c with ⟨a, b⟩ | ⟨ia, a, ei, hia, b⟩
    · rw [if_neg (not_an2 a)] at e1
      by_cases z : fA SR 22 ta = 0
      · rw [if_pos z] at e1
        exact b.trans e1.symm
      · rw [if_neg z] at e1
        exact b.trans e1.symm
    · have z : ¬ fA SR 22 ta = 0 := fun z => by
        have e0 := (hN ta hta).1 (g1.mpr z)
        rw [e0] at a
        have a1 := (not_or2.mp a).1
        have a2 := (not_or2.mp a).2
        exact absurd (Int32.le_trans a1 a2) (by decide)
      rw [if_neg z, if_pos (not_or2.mp a), ei, nI_clamp (show ia < 2147483648 by omega), ← h ta hta ia hia] at e1
      exact b.trans e1.symm
theorem it_shift {t i o j n r r' : Int32} {SX SX' SR SR' : FS} (hX : XI SX) (hT : TR SX SR) (h : IT SX SR) (hC : ShP t i o j n r SX SX') (hr : r = r') (e1 : r' = (if (0 ≤ t ∧ t ≤ 5) then if (0 ≤ o ∧ o ≤ 5) then if fA SR 22 t.toNatClampNeg = 0 then -11 else if fA SR 22 o.toNatClampNeg = 0 then -11 else if fA SR 18 t.toNatClampNeg = fA SR 18 o.toNatClampNeg then if (¬ n < 0 ∧ ¬ i < 0 ∧ ¬ j < 0 ∧ i.toInt + n.toInt ≤ (fA SR 19 t.toNatClampNeg).toInt ∧ j.toInt + n.toInt ≤ (fA SR 19 o.toNatClampNeg).toInt) then n else -13 else -12 else -1 else -1))
    (k : ((0 ≤ t ∧ t ≤ 5) ∧ (0 ≤ o ∧ o ≤ 5) ∧ ¬ fA SR 22 t.toNatClampNeg = 0 ∧ ¬ fA SR 22 o.toNatClampNeg = 0 ∧ fA SR 18 t.toNatClampNeg = fA SR 18 o.toNatClampNeg ∧ (¬ n < 0 ∧ ¬ i < 0 ∧ ¬ j < 0 ∧ i.toInt + n.toInt ≤ (fA SR 19 t.toNatClampNeg).toInt ∧ j.toInt + n.toInt ≤ (fA SR 19 o.toNatClampNeg).toInt) ∧ ∃ cp, SR' = setL (setL (setF SR 0 8 0) 21 cp) 20 (mvL (fL SR 20) (60 * t.toNatClampNeg + i.toNatClampNeg) (60 * o.toNatClampNeg + j.toNatClampNeg) n.toNatClampNeg)) ∨ (¬ ((0 ≤ t ∧ t ≤ 5) ∧ (0 ≤ o ∧ o ≤ 5) ∧ ¬ fA SR 22 t.toNatClampNeg = 0 ∧ ¬ fA SR 22 o.toNatClampNeg = 0 ∧ fA SR 18 t.toNatClampNeg = fA SR 18 o.toNatClampNeg ∧ (¬ n < 0 ∧ ¬ i < 0 ∧ ¬ j < 0 ∧ i.toInt + n.toInt ≤ (fA SR 19 t.toNatClampNeg).toInt ∧ j.toInt + n.toInt ≤ (fA SR 19 o.toNatClampNeg).toInt)) ∧ SR' = (setF SR 0 8 0))) : IT SX' SR' := by
  rcases k with ⟨a1, a2, a3, a4, a5, a6, cp, e2⟩ | ⟨a, e2⟩
  · rw [if_pos a1, if_pos a2, if_neg a3, if_neg a4, if_pos a5, if_pos a6] at e1
    have er : r = n := hr.trans e1
    have bad : ∀ z : Int32, z < 0 → ¬ r = z := fun z hz q => a6.1 (by rw [← er, q]; exact hz)
    rcases hC with ⟨_, b, -⟩ | ⟨_, _, b, -⟩ | ⟨ta, tb, hta, et, htb, eb, c⟩
    · exact absurd b (bad _ (by decide))
    · exact absurd b (bad _ (by decide))
    · rcases c with ⟨_, b, -⟩ | ⟨_, b, -⟩ | ⟨_, _, ⟨_, b, -⟩ | ⟨_, ⟨_, b, -⟩ | ⟨_, c3, c4, _, e3⟩⟩⟩
      · exact absurd b (bad _ (by decide))
      · exact absurd b (bad _ (by decide))
      · exact absurd b (bad _ (by decide))
      · exact absurd b (bad _ (by decide))
      · subst et
        subst eb
        have ec : (nI ta).toNatClampNeg = ta := nI_clamp (by omega)
        have ed : (nI tb).toNatClampNeg = tb := nI_clamp (by omega)
        rw [ec, ed] at e2 a6
        obtain ⟨d1, d2, d3, d4, d5⟩ := a6
        obtain ⟨La, ea, ba⟩ := XI.lens hX (t := ta) hta
        obtain ⟨Lb, eb, bb⟩ := XI.lens hX (t := tb) htb
        rw [← (hT ta hta).2.2, ea, nI_toInt (by omega)] at d4
        rw [← (hT tb htb).2.2, eb, nI_toInt (by omega)] at d5
        obtain ⟨nn, hn, rfl⟩ := nI_of (x := n) d1
        obtain ⟨ii, hi, rfl⟩ := nI_of (x := i) d2
        obtain ⟨jj, hj, rfl⟩ := nI_of (x := j) d3
        rw [nI_toInt hi, nI_toInt hn] at d4
        rw [nI_toInt hj, nI_toInt hn] at d5
        rw [nI_clamp hi, nI_clamp hj, nI_clamp hn] at e2 e3
        intro u hu k hk
        rw [e3, e2, fL_setL, fL_setL, if_pos rfl]
        unfold mvL
        by_cases e : u = tb
        · subst e
          rw [if_pos rfl]
          unfold va_cpy
          by_cases q : jj ≤ k ∧ k < jj + nn
          · rw [if_pos q, if_pos (by omega), h ta hta (ii + (k - jj)) (by omega)]
            exact congrArg _ (by omega)
          · rw [if_neg q, if_neg (by omega)]
            exact h u hu k hk
        · rw [if_neg (by omega), if_neg (by omega)]
          exact h u hu k hk
  · have hS : ∀ {S1 : FS}, S1 = SX → IT S1 SR' := fun e => by
      rw [e, e2]
      exact h
    rcases hC with ⟨_, _, d⟩ | ⟨_, _, _, d⟩ | ⟨ta, tb, hta, et, htb, eb, c⟩
    · exact hS d
    · exact hS d
    · rcases c with ⟨_, _, d⟩ | ⟨_, _, d⟩ | ⟨f1, f2, ⟨_, _, d⟩ | ⟨f3, ⟨_, _, d⟩ | ⟨c2, c3, c4, _, -⟩⟩⟩
      · exact hS d
      · exact hS d
      · exact hS d
      · exact hS d
      · exfalso
        subst et
        subst eb
        have ec : (nI ta).toNatClampNeg = ta := nI_clamp (by omega)
        have ed : (nI tb).toNatClampNeg = tb := nI_clamp (by omega)
        obtain ⟨La, ea, ba⟩ := XI.lens hX (t := ta) hta
        obtain ⟨Lb, eb, bb⟩ := XI.lens hX (t := tb) htb
        obtain ⟨g1, g2, g3⟩ := hT ta hta
        obtain ⟨m1, m2, m3⟩ := hT tb htb
        rw [ea] at c3
        rw [eb] at c4
        have q1 := (sh_iff ba c2).mp c3
        have q2 := (sh_iff bb c2).mp c4
        refine a ⟨t6_in hta, t6_in htb, ?_, ?_, ?_, c2, q1.1, q2.1, ?_, ?_⟩
        · rw [ec]
          exact fun z => f1 (g1.mpr z)
        · rw [ed]
          exact fun z => f2 (m1.mpr z)
        · rw [ec, ed, ← g2 f1, ← m2 f2]
          exact f3
        · rw [ec, ← g3, ea]
          exact q1.2
        · rw [ed, ← m3, eb]
          exact q2.2
/-- customers: the case of customer() -/
theorem ckk_cust2 {n : Nat} {kd v w r : Int32} {SX SX' SR SR' : FS} (hn : fF SX (9 + 0) 3 = nI n) (hn6 : n ≤ 6) (hL : LK SX SR) (h : CKK SX SR) (hC : CuP n kd v w r SX SX') (hF : Fr (fun j k => (j = 9 ∧ k = 3) ∨ (j = 21 + n ∧ 2 ≤ k ∧ k ≤ 9) ∨ (j = 39 + n ∧ k = 99)) SX SX') {n' : Nat} (hn' : fF SR 0 1 = nI n') (hn6' : n' ≤ 6)
    (e2 : SR' = (if 0 ≤ kd ∧ kd ≤ 6 then if 0 ≤ v ∧ v ≤ 9 then if 10 ≤ w ∧ w ≤ 99 then if fF SR 0 1 = 6 then (setF SR 0 8 0) else setF (setA (setF SR 0 8 0) 1 (cs (fA SR 1) n' kd v w)) 0 1 (nI (n' + 1)) else (setF SR 0 8 0) else (setF SR 0 8 0) else (setF SR 0 8 0))) : CKK SX' SR' := by
  have h9 : fF SX 9 3 = fF SR 0 1 := hL.1 3 (by omega) (by omega)
  have en : n' = n := (nI_eq (by omega) (by omega)).mp (hn'.symm.trans (h9.symm.trans hn))
  subst en
  exact ckk_cust hn hn' hn6 h hC hF e2
theorem n_of_lk {n : Nat} {SX SR : FS} (hn : fF SX (9 + 0) 3 = nI n) (hL : LK SX SR) : fF SR 0 1 = nI n := (hL.1 3 (by omega) (by omega)).symm.trans hn
theorem lm_0 {S : FS} (hF : Fr (fun j k => j = 62 ∧ k = 99) X0 S) (h62 : ∀ k, k < 6 → fA S 62 k = -1) (h2 : fF S 0 10 = 0) : LM S R0 := by
  have e63 : fA S 63 = fA X0 63 := hF.A (j := 63) (by rw [X0_c]; omega) (fun q => by omega)
  refine ⟨fun t ht => ⟨⟨fun _ => rfl, fun _ => h62 t ht⟩, fun q => absurd (h62 t ht) q, by rw [e63]; rfl⟩, ckk_0 ((hF.F (j := 9) (k := 3) (by rw [X0_c]; omega) (fun q => by omega)).trans rfl) h2, fun t ht k _ => ?_, fun t ht => ⟨fun _ => by rw [e63]; rfl, by rw [h62 t ht]; decide⟩⟩
  rw [hF.L (j := 65 + t) (by rw [X0_c]; omega) (fun q => by omega)]
  rfl
theorem lm_same {SX SX' SR SR' : FS} (h : LM SX SR) (a : SX' = SX) (b : SR' = setF SR 0 8 0) : LM SX' SR' := by
  rw [a, b]
  exact h
