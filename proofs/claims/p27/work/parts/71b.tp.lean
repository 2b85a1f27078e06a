theorem so_pos {so : Int32} (h : -1 ≤ so) (h2 : ¬ so = -1) : ¬ so < 0 := fun q => h2 (by
  have a := Int32.le_iff_toInt_le.mp h
  have b := Int32.lt_iff_toInt_lt.mp q
  have e1 : (-1 : Int32).toInt = -1 := by decide
  have e0 : (0 : Int32).toInt = 0 := by decide
  apply Int32.toInt_inj.mp
  omega)
theorem t6_in {ta : Nat} (h : ta < 6) : 0 ≤ nI ta ∧ nI ta ≤ 5 := ⟨(nI_leI (a := 0) (by omega) (by omega)).mpr (Nat.zero_le _), (nI_leI (b := 5) (by omega) (by omega)).mpr (by omega)⟩
theorem t6_out {t : Int32} (h : t < 0 ∨ 6 ≤ t) : ¬ (0 ≤ t ∧ t ≤ 5) := fun q => h.elim (fun a => Int32.not_lt.mpr q.1 a) (fun a => absurd (Int32.le_trans a q.2) (by decide))
theorem lk_tape {t so n r r' : Int32} {SX SX' SR SR' : FS} (h : TR SX SR) (hC : TapP t so n r SX SX') (e1 : r' = (if (0 ≤ t ∧ t ≤ 5) then if -1 ≤ so ∧ so ≤ 4 then if so < 0 then 1 else if n ≤ 60 then if n < 0 then -14 else 1 else -2 else -2 else -1))
    (e2 : SR' = (if (0 ≤ t ∧ t ≤ 5) then if -1 ≤ so ∧ so ≤ 4 then if so < 0 then (setL (setA (setA (setA (setF SR 0 8 0) 22 (upd (fA SR 22) t.toNatClampNeg 0)) 18 (upd (fA SR 18) t.toNatClampNeg so)) 19 (upd (fA SR 19) t.toNatClampNeg 0)) 20 (zr (fL SR 20) t.toNatClampNeg 60)) else if n ≤ 60 then if n < 0 then (setF SR 0 8 0) else (setL (setA (setA (setA (setF SR 0 8 0) 22 (upd (fA SR 22) t.toNatClampNeg 1)) 18 (upd (fA SR 18) t.toNatClampNeg so)) 19 (upd (fA SR 19) t.toNatClampNeg n)) 20 (zr (fL SR 20) t.toNatClampNeg 60)) else (setF SR 0 8 0) else (setF SR 0 8 0) else (setF SR 0 8 0))) : r = r' ∧ TR SX' SR' := by
  have hS : ∀ {S1 S2 : FS}, S1 = SX → S2 = setF SR 0 8 0 → TR S1 S2 := fun a b => by
    rw [a, b]
    exact h
  have hb : ∀ {z : Int32}, ¬ (z < 0 ∨ 6 ≤ z) → ∃ w, w < 6 ∧ z = nI w := fun q => out_6 q
  rcases hC with ⟨a, b, c⟩ | ⟨a, a2, b, c⟩ | ⟨a, a2, a3, a4, b, c⟩ | ⟨a, a2, a3, a4, a5, b, c⟩ | ⟨ta, len, hta, et, a2, a3, b, c1, c2, -, -⟩
  · rw [if_neg (t6_out a)] at e1 e2
    exact ⟨b.trans e1.symm, hS c e2⟩
  · obtain ⟨ta, hta, et⟩ := hb a
    rw [if_pos (et ▸ t6_in hta), if_neg (not_an2 a2)] at e1 e2
    exact ⟨b.trans e1.symm, hS c e2⟩
  · obtain ⟨ta, hta, et⟩ := hb a
    rw [if_pos (et ▸ t6_in hta), if_pos (not_or2.mp a2), if_neg (so_pos (not_or2.mp a2).1 a3), if_neg a4] at e1 e2
    exact ⟨b.trans e1.symm, hS c e2⟩
  · obtain ⟨ta, hta, et⟩ := hb a
    rw [if_pos (et ▸ t6_in hta), if_pos (not_or2.mp a2), if_neg (so_pos (not_or2.mp a2).1 a3), if_pos a4, if_pos a5] at e1 e2
    exact ⟨b.trans e1.symm, hS c e2⟩
  · subst et
    have ec : (nI ta).toNatClampNeg = ta := nI_clamp (by omega)
    rw [if_pos (t6_in hta), if_pos (not_or2.mp a2)] at e1 e2
    rw [ec] at e2
    rcases a3 with ⟨d1, d2⟩ | ⟨d1, d2, d3, d4⟩
    · rw [if_pos (by rw [d1]; decide)] at e1 e2
      refine ⟨b.trans e1.symm, fun u hu => ?_⟩
      rw [e2, c1, c2, fA_setL, fA_setA, if_neg (by omega), fA_setA, if_neg (by omega), fA_setA, if_pos rfl, fA_setA, if_neg (by omega), fA_setA, if_pos rfl, fA_setA, if_pos rfl]
      by_cases e : u = ta
      · subst e
        rw [pk_us, pk_us, pk_us, pk_us, pk_us]
        exact ⟨⟨fun _ => rfl, fun _ => d1⟩, fun _ => rfl, d2⟩
      · rw [pk_un e, pk_un e, pk_un e, pk_un e, pk_un e]
        exact h u hu
    · rw [if_neg (so_pos (not_or2.mp a2).1 d1), if_pos d2, if_neg d3] at e1 e2
      refine ⟨b.trans e1.symm, fun u hu => ?_⟩
      rw [e2, c1, c2, fA_setL, fA_setA, if_neg (by omega), fA_setA, if_neg (by omega), fA_setA, if_pos rfl, fA_setA, if_neg (by omega), fA_setA, if_pos rfl, fA_setA, if_pos rfl]
      by_cases e : u = ta
      · subst e
        rw [pk_us, pk_us, pk_us, pk_us, pk_us]
        exact ⟨⟨fun q => absurd q d1, fun q => absurd q (by decide)⟩, fun _ => rfl, d4⟩
      · rw [pk_un e, pk_un e, pk_un e, pk_un e, pk_un e]
        exact h u hu
theorem lk_item {t i r r' : Int32} {v : Int64} {SX SX' SR SR' : FS} {P : Nat → Nat → Prop} (h : TR SX SR) (hC : ItP t i v r SX SX') (hF : Fr P SX SX') (n1 : ¬ P 62 99) (n2 : ¬ P 63 99) (e1 : r' = (if (0 ≤ t ∧ t ≤ 5) then if fA SR 22 t.toNatClampNeg = 0 then -11 else if (0 ≤ i ∧ i ≤ fA SR 19 t.toNatClampNeg - 1) then 1 else -13 else -1)) (k : RZ False False True SR SR') : r = r' ∧ TR SX' SR' := by
  refine ⟨?_, tr_step h hF n1 n2 (A := False) (L := True) k⟩
  rcases hC with ⟨a, b, -⟩ | ⟨ta, hta, et, c⟩
  · rw [if_neg (t6_out a)] at e1
    exact b.trans e1.symm
  · subst et
    have ec : (nI ta).toNatClampNeg = ta := nI_clamp (by omega)
    obtain ⟨g1, g2, g3⟩ := h ta hta
    rw [if_pos (t6_in hta), ec, ← g3] at e1
    rcases c with ⟨a, b, -⟩ | ⟨a, a2, b, -⟩ | ⟨ia, a, a2, -, -, b, -⟩
    · rw [if_pos (g1.mp a)] at e1
      exact b.trans e1.symm
    · rw [if_neg (fun q => a (g1.mpr q)), if_neg (not_an2 a2)] at e1
      exact b.trans e1.symm
    · rw [if_neg (fun q => a (g1.mpr q)), if_pos (not_or2.mp a2)] at e1
      exact b.trans e1.symm
theorem sh_iff {i n : Int32} {L : Nat} (hL : L ≤ 60) (h0 : ¬ n < 0) : ¬ (i < 0 ∨ nI L - n < i) ↔ (¬ i < 0 ∧ i.toInt + n.toInt ≤ (nI L).toInt) := by
  obtain ⟨a, ha, rfl⟩ := nI_of (x := n) h0
  have e : (nI L - nI a).toInt = (L : Int) - (a : Int) := by
    rw [Int32.toInt_sub, nI_toInt ha, nI_toInt (by omega), Int.bmod_eq_of_le (by omega) (by omega)]
  have key : ¬ nI L - nI a < i ↔ i.toInt + (nI a).toInt ≤ (nI L).toInt := by
    rw [Int32.not_lt, Int32.le_iff_toInt_le, e, nI_toInt ha, nI_toInt (by omega)]
    omega
  constructor
  · intro q
    exact ⟨fun z => q (Or.inl z), key.mp (fun z => q (Or.inr z))⟩
  · intro q z
    exact z.elim q.1 (fun z => key.mpr q.2 z)
theorem lk_shift {t i o j n r r' : Int32} {SX SX' SR SR' : FS} {P : Nat → Nat → Prop} (hX : XI SX) (h : TR SX SR) (hC : ShP t i o j n r SX SX') (hF : Fr P SX SX') (n1 : ¬ P 62 99) (n2 : ¬ P 63 99) (e1 : r' = (if (0 ≤ t ∧ t ≤ 5) then if (0 ≤ o ∧ o ≤ 5) then if fA SR 22 t.toNatClampNeg = 0 then -11 else if fA SR 22 o.toNatClampNeg = 0 then -11 else if fA SR 18 t.toNatClampNeg = fA SR 18 o.toNatClampNeg then if (¬ n < 0 ∧ ¬ i < 0 ∧ ¬ j < 0 ∧ i.toInt + n.toInt ≤ (fA SR 19 t.toNatClampNeg).toInt ∧ j.toInt + n.toInt ≤ (fA SR 19 o.toNatClampNeg).toInt) then n else -13 else -12 else -1 else -1)) (k : RZ False False True SR SR') : r = r' ∧ TR SX' SR' := by
  refine ⟨?_, tr_step h hF n1 n2 (A := False) (L := True) k⟩
  rcases hC with ⟨a, b, -⟩ | ⟨a0, a, b, -⟩ | ⟨ta, tb, hta, et, htb, eb, c⟩
  · rw [if_neg (t6_out a)] at e1
    exact b.trans e1.symm
  · obtain ⟨ta, hta, et⟩ := out_6 a0
    rw [if_pos (et ▸ t6_in hta), if_neg (t6_out a)] at e1
    exact b.trans e1.symm
  · subst et
    subst eb
    have ec : (nI ta).toNatClampNeg = ta := nI_clamp (by omega)
    have ed : (nI tb).toNatClampNeg = tb := nI_clamp (by omega)
    obtain ⟨g1, g2, g3⟩ := h ta hta
    obtain ⟨f1, f2, f3⟩ := h tb htb
    obtain ⟨La, ea, ba⟩ := XI.lens hX (t := ta) hta
    obtain ⟨Lb, eb, bb⟩ := XI.lens hX (t := tb) htb
    rw [if_pos (t6_in hta), if_pos (t6_in htb), ec, ed, ← g3, ← f3, ea, eb] at e1
    rw [ea, eb] at c
    rcases c with ⟨a, b, -⟩ | ⟨a, b, -⟩ | ⟨a, a2, c⟩
    · rw [if_pos (g1.mp a)] at e1
      exact b.trans e1.symm
    · by_cases z : fA SR 22 ta = 0
      · rw [if_pos z] at e1
        exact b.trans e1.symm
      · rw [if_neg z, if_pos (f1.mp a)] at e1
        exact b.trans e1.symm
    · rw [if_neg (fun q => a (g1.mpr q)), if_neg (fun q => a2 (f1.mpr q)), ← g2 a, ← f2 a2] at e1
      rcases c with ⟨c1, b, -⟩ | ⟨c1, c⟩
      · rw [if_neg c1] at e1
        exact b.trans e1.symm
      · rw [if_pos c1] at e1
        rcases c with ⟨c2, b, -⟩ | ⟨c2, c3, c4, b, -⟩
        · rw [if_neg] at e1
          · exact b.trans e1.symm
          · rintro ⟨d1, d2, d3, d4, d5⟩
            rcases c2 with c2 | c2 | c2
            · exact d1 c2
            · exact (sh_iff ba d1).mpr ⟨d2, d4⟩ c2
            · exact (sh_iff bb d1).mpr ⟨d3, d5⟩ c2
        · have q1 := (sh_iff ba c2).mp c3
          have q2 := (sh_iff bb c2).mp c4
          rw [if_pos ⟨c2, q1.1, q2.1, q1.2, q2.2⟩] at e1
          exact b.trans e1.symm
