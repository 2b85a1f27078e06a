theorem isk6 {q : Nat} (h : q < 7) : isK q 6 = true ↔ q = 6 := by
  rcases kq7 h with rfl | rfl | rfl | rfl | rfl | rfl | rfl <;> decide
theorem in_isC {x y : Int32} {n j : Nat} (hy : y = nI n) (hn : n ≤ 6) (hj : j < n) (e : x = nI j) : 0 ≤ x ∧ x ≤ y - 1 := by
  rw [e, hy]
  cases n with
  | zero => exact absurd hj (by omega)
  | succ n =>
    rw [nI_pred]
    exact ⟨(nI_leI (a := 0) (by omega) (by omega)).mpr (Nat.zero_le _), (nI_leI (by omega) (by omega)).mpr (by omega)⟩
theorem out_isC {x y : Int32} {n : Nat} (hy : y = nI n) (hn : n ≤ 6) (h : x < 0 ∨ nI n ≤ x) : ¬ (0 ≤ x ∧ x ≤ y - 1) := fun z => by
  obtain ⟨j, hj, ej⟩ := isC_t z hy hn
  subst ej
  rcases h with h | h
  · exact Int32.not_lt.mpr z.1 h
  · have := (nI_leI (by omega) (by omega)).mp h
    omega
theorem row_r {n : Nat} {x w v r r' : Int32} {SX SX' SR : FS} (h1 : fF SR 0 1 = nI n) (hn : n ≤ 6) (hK : CK 0 (vec SR) SX n) (hC : RowP n x w v r SX SX') (e1 : r' = (if (0 ≤ x ∧ x ≤ fF SR 0 1 - 1) then if 0 ≤ w ∧ w ≤ 3 then if 0 ≤ v ∧ v ≤ 9 then if fA SR 1 (12 * x.toNatClampNeg + 0) = 6 then fA SR 1 (12 * x.toNatClampNeg + (8 + w.toNatClampNeg)) else -3 else -2 else -1 else -1)) : r = r' := by
  rcases hC with ⟨a, b, -⟩ | ⟨a, b, -⟩ | ⟨⟨j, hj, ej⟩, a, a2, b, -⟩ | ⟨j, q, wz, hj, ej, eq, hq, hw, ew, a, a2, c⟩
  · rw [if_neg (out_isC h1 hn a)] at e1
    exact b.trans e1.symm
  · by_cases z : 0 ≤ x ∧ x ≤ fF SR 0 1 - 1
    · rw [if_pos z, if_neg (not_an2 a)] at e1
      exact b.trans e1.symm
    · rw [if_neg z] at e1
      exact b.trans e1.symm
  · rw [if_pos (in_isC h1 hn hj ej), if_pos (not_or2.mp a), if_neg (not_an2 a2)] at e1
    exact b.trans e1.symm
  · obtain ⟨q', hq', k1, k2, -, k4⟩ := hK j hj
    have eqq : q' = q := by
      have := Option.some.inj (k1.symm.trans eq)
      omega
    subst eqq
    rw [vec_s SR (by omega)] at k2
    rw [if_pos (in_isC h1 hn hj ej), if_pos (not_or2.mp a), if_pos (not_or2.mp a2), ej, nI_clamp (by omega), ew, nI_clamp (by omega), k2] at e1
    rcases c with ⟨c, b, -⟩ | ⟨c, b, -⟩
    · have z : ¬ nI q' = 6 := fun z => c ((isk6 hq).mpr ((nI_eq (b := 6) (by omega) (by omega)).mp z))
      rw [if_neg z] at e1
      exact b.trans e1.symm
    · have z : nI q' = 6 := by rw [(isk6 hq).mp c]; rfl
      have k5 := k4 wz (by omega)
      rw [vec_s SR (by omega)] at k5
      rw [if_pos z, k5] at e1
      exact b.trans e1.symm
theorem isk_tk {q k : Nat} (hq : q < 7) (hk : k < 7) : isK q k = true ↔ TK (nI q) (nI k) := by
  unfold TK AB
  rcases kq7 hq with rfl | rfl | rfl | rfl | rfl | rfl | rfl <;> rcases kq7 hk with rfl | rfl | rfl | rfl | rfl | rfl | rfl <;> decide
theorem taken_r {n : Nat} {x w r r' : Int32} {SX SR : FS} (h1 : fF SR 0 1 = nI n) (hn : n ≤ 6) (hK : CK 0 (vec SR) SX n) (hC : TakP n x w r SX) (e0 : ∀ dd : Decidable (TK (fA SR 1 (12 * x.toNatClampNeg + 0)) w), r' = (if 0 ≤ w ∧ w ≤ 6 then if (0 ≤ x ∧ x ≤ fF SR 0 1 - 1) then if TK (fA SR 1 (12 * x.toNatClampNeg + 0)) w then fA SR 1 (12 * x.toNatClampNeg + 0) else -12 else -11 else -2)) : r = r' := by
  have e1 := e0 (Classical.propDecidable _)
  rcases hC with ⟨a, b⟩ | ⟨a, a2, b⟩ | ⟨j, q, k, hj, ej, eq, hq, hk, ek, b⟩
  · rw [if_neg (not_an2 a)] at e1
    exact b.trans e1.symm
  · rw [if_pos (not_or2.mp a), if_neg (out_isC h1 hn a2)] at e1
    exact b.trans e1.symm
  · obtain ⟨q', hq', k1, k2, -, -⟩ := hK j hj
    have eqq : q' = q := by
      have := Option.some.inj (k1.symm.trans eq)
      omega
    subst eqq
    rw [vec_s SR (by omega)] at k2
    have hw : 0 ≤ w ∧ w ≤ 6 := by
      rw [ek]
      exact ⟨(nI_leI (a := 0) (by omega) (by omega)).mpr (Nat.zero_le _), (nI_leI (b := 6) (by omega) (by omega)).mpr (by omega)⟩
    rw [if_pos hw, if_pos (in_isC h1 hn hj ej)] at e1
    have ec : x.toNatClampNeg = j := by rw [ej, nI_clamp (by omega)]
    by_cases z : isK q' k = true
    · have z2 : TK (fA SR 1 (12 * x.toNatClampNeg + 0)) w := by
        rw [ec, k2, ek]
        exact (isk_tk hq hk).mp z
      rw [if_pos z2, ec, k2] at e1
      rw [if_pos z] at b
      exact b.trans e1.symm
    · have z2 : ¬ TK (fA SR 1 (12 * x.toNatClampNeg + 0)) w := by
        rw [ec, k2, ek]
        exact fun y => z ((isk_tk hq hk).mpr y)
      rw [if_neg z2] at e1
      rw [if_neg z] at b
      exact b.trans e1.symm
/-- the customers of both sides alike, now and in the image -/
def CKK (SX SR : FS) : Prop := (∀ n, fF SX 9 3 = nI n → n ≤ 6 → CK 0 (vec SR) SX n) ∧ (¬ fF SX 0 10 = 0 → ∀ n, fF SX 10 3 = nI n → n ≤ 6 → CK 1 (fA SR 5) SX n)
theorem ckk_step {T L : Prop} {P : Nat → Nat → Prop} {SX SX' SR SR' : FS} (h : CKK SX SR) (e9 : fF SX' 9 3 = fF SX 9 3) (e0 : fF SX' 0 10 = fF SX 0 10) (e10 : fF SX' 10 3 = fF SX 10 3) (hF : Fr P SX SX') (n1 : ∀ c, c < 12 → ¬ P (21 + c) 2 ∧ ¬ P (21 + c) 3 ∧ ¬ P (39 + c) 99) (r : RZ False T L SR SR') (r5 : fA SR' 5 = fA SR 5) : CKK SX' SR' := by
  have key : ∀ h c, h < 2 → c < 6 → fR SX' (21 + 6 * h + c) 2 = fR SX (21 + 6 * h + c) 2 ∧ fF SX' (21 + 6 * h + c) 3 = fF SX (21 + 6 * h + c) 3 ∧ fA SX' (21 + 6 * h + c + 18) = fA SX (21 + 6 * h + c + 18) := fun h c hh hc => by
    have g := n1 (6 * h + c) (by omega)
    rw [show 21 + 6 * h + c = 21 + (6 * h + c) by omega, show 21 + (6 * h + c) + 18 = 39 + (6 * h + c) by omega]
    exact ⟨hF.R (lt71 (by omega)) g.1, hF.F (lt71 (by omega)) g.2.1, hF.A (lt71 (by omega)) g.2.2⟩
  refine ⟨fun n hn hn6 => ?_, fun q n hn hn6 => ?_⟩
  · rw [e9] at hn
    exact ck_congr (h.1 n hn hn6) hn6 (fun c hc => key 0 c (by omega) hc) (fun i hi hi2 => by rw [vec_s SR' hi, vec_s SR hi]; exact r.1 (fun z => z) i hi hi2)
  · rw [e0] at q
    rw [e10] at hn
    exact ck_congr (h.2 q n hn hn6) hn6 (fun c hc => key 1 c (by omega) hc) (fun i hi _ => by rw [r5])
theorem ckk_0 {S : FS} (h1 : fF S 9 3 = 0) (h2 : fF S 0 10 = 0) : CKK S R0 := by
  refine ⟨fun n hn _ c hc => ?_, fun q => absurd h2 q⟩
  rw [h1] at hn
  have := (nI_eq (a := 0) (b := n) (by omega) (by omega)).mp hn
  omega
theorem ckk_same {SX SX' SR SR' : FS} (h : CKK SX SR) (a : SX' = SX) (b : SR' = setF SR 0 8 0) : CKK SX' SR' :=
  ckk_step (P := fun _ _ => False) (T := False) (L := False) h (by rw [a]) (by rw [a]) (by rw [a]) (a ▸ Fr.rf) (fun _ _ => ⟨fun q => q, fun q => q, fun q => q⟩) (rz_E b) (by rw [b]; rfl)
theorem ckk_row {n : Nat} {x w v r : Int32} {SX SX' SR SR' : FS} (h9 : fF SX 9 3 = nI n) (h1 : fF SR 0 1 = nI n) (hn : n ≤ 6) (h : CKK SX SR) (hC : RowP n x w v r SX SX') (e2 : SR' = (if (0 ≤ x ∧ x ≤ fF SR 0 1 - 1) then if 0 ≤ w ∧ w ≤ 3 then if 0 ≤ v ∧ v ≤ 9 then if fA SR 1 (12 * x.toNatClampNeg + 0) = 6 then setA (setF SR 0 8 0) 1 (upd (fA SR 1) (12 * x.toNatClampNeg + (8 + w.toNatClampNeg)) v) else (setF SR 0 8 0) else (setF SR 0 8 0) else (setF SR 0 8 0) else (setF SR 0 8 0))) : CKK SX' SR' := by
  have hK := h.1 n h9 hn
  rcases hC with ⟨a, -, b⟩ | ⟨a, -, b⟩ | ⟨⟨j, hj, ej⟩, a, a2, -, b⟩ | ⟨j, q, wz, hj, ej, eq, hq, hw, ew, a, a2, c⟩
  · rw [if_neg (out_isC h1 hn a)] at e2
    exact ckk_same h b e2
  · by_cases z : 0 ≤ x ∧ x ≤ fF SR 0 1 - 1
    · rw [if_pos z, if_neg (not_an2 a)] at e2
      exact ckk_same h b e2
    · rw [if_neg z] at e2
      exact ckk_same h b e2
  · rw [if_pos (in_isC h1 hn hj ej), if_pos (not_or2.mp a), if_neg (not_an2 a2)] at e2
    exact ckk_same h b e2
  · obtain ⟨q', hq', k1, k2, -, k4⟩ := hK j hj
    have eqq : q' = q := by
      have := Option.some.inj (k1.symm.trans eq)
      omega
    subst eqq
    rw [vec_s SR (by omega)] at k2
    rw [if_pos (in_isC h1 hn hj ej), if_pos (not_or2.mp a), if_pos (not_or2.mp a2), ej, nI_clamp (by omega), ew, nI_clamp (by omega), k2] at e2
    rcases c with ⟨c, -, b⟩ | ⟨c, -, b⟩
    · have z : ¬ nI q' = 6 := fun z => c ((isk6 hq).mpr ((nI_eq (b := 6) (by omega) (by omega)).mp z))
      rw [if_neg z] at e2
      exact ckk_same h b e2
    · have z : nI q' = 6 := by rw [(isk6 hq).mp c]; rfl
      rw [if_pos z] at e2
      subst b
      subst e2
      refine ⟨fun n2 hn2 hn6 d hd => ?_, fun y n2 hn2 hn6 d hd => ?_⟩
      · obtain ⟨p1, p2, p3, p4, p5, p6⟩ := h.1 n2 hn2 hn6 d hd
        refine ⟨p1, p2, p3, ?_, ?_, fun p hp => ?_⟩
        · rw [vec_s _ (by omega)] at p4 ⊢
          rw [fA_setA, if_pos rfl, pk_un (by omega)]
          exact p4
        · rw [vec_s _ (by omega)] at p5 ⊢
          rw [fA_setA, if_pos rfl, pk_un (by omega)]
          exact p5
        · have p7 := p6 p hp
          rw [vec_s _ (by omega)] at p7 ⊢
          rw [fA_setA, if_pos rfl, fA_setA]
          by_cases e : d = j
          · subst e
            rw [if_pos rfl]
            by_cases e3 : p = wz
            · subst e3
              rw [pk_us, pk_us]
            · rw [pk_un (by omega), pk_un e3]
              exact p7
          · rw [if_neg (by omega), pk_un (by omega)]
            exact p7
      · obtain ⟨p1, p2, p3, p4, p5, p6⟩ := h.2 y n2 hn2 hn6 d hd
        refine ⟨p1, p2, p3, p4, p5, fun p hp => ?_⟩
        rw [fA_setA, fA_setA, if_neg (by omega), if_neg (by omega)]
        exact p6 p hp
theorem ckk_cust {n : Nat} {kd v w r : Int32} {SX SX' SR SR' : FS} (h9 : fF SX 9 3 = nI n) (h1 : fF SR 0 1 = nI n) (hn : n ≤ 6) (h : CKK SX SR) (hC : CuP n kd v w r SX SX') (hF : Fr (fun j k => (j = 9 ∧ k = 3) ∨ (j = 21 + n ∧ 2 ≤ k ∧ k ≤ 9) ∨ (j = 39 + n ∧ k = 99)) SX SX')
    (e2 : SR' = (if 0 ≤ kd ∧ kd ≤ 6 then if 0 ≤ v ∧ v ≤ 9 then if 10 ≤ w ∧ w ≤ 99 then if fF SR 0 1 = 6 then (setF SR 0 8 0) else setF (setA (setF SR 0 8 0) 1 (cs (fA SR 1) n kd v w)) 0 1 (nI (n + 1)) else (setF SR 0 8 0) else (setF SR 0 8 0) else (setF SR 0 8 0))) : CKK SX' SR' := by
  rcases hC with ⟨a, b, c⟩ | ⟨a, a2, b, c⟩ | ⟨a, a2, a3, a4, b, c⟩ | ⟨a, a2, a3, a4, b, c, kz, hkz, ekz, g1, g2, -, -, -, g3⟩
  · rw [if_neg (not_an2 a)] at e2
    exact ckk_same h c e2
  · rw [if_pos (not_or2.mp a)] at e2
    by_cases q : v < 0 ∨ 9 < v
    · rw [if_neg (not_an2 q)] at e2
      exact ckk_same h c e2
    · rw [if_pos (not_or2.mp q), if_neg (not_an2 (a2.resolve_left q))] at e2
      exact ckk_same h c e2
  · rw [if_pos (not_or2.mp a), if_pos (not_or2.mp a2), if_pos (not_or2.mp a3), if_pos (by rw [h1, a4]; rfl)] at e2
    exact ckk_same h c e2
  · have q : ¬ fF SR 0 1 = 6 := fun z => by
      rw [h1] at z
      have := (nI_eq (a := n) (b := 6) (by omega) (by omega)).mp z
      omega
    rw [if_pos (not_or2.mp a), if_pos (not_or2.mp a2), if_pos (not_or2.mp a3), if_neg q] at e2
    have hv : ∀ i, i < 72 → vec SR' (5 + i) = cs (fA SR 1) n kd v w i := fun i hi => by
      rw [vec_s _ hi, e2, fA_setF, fA_setA, if_pos rfl]
    have h5 : fA SR' 5 = fA SR 5 := by
      rw [e2, fA_setF, fA_setA, if_neg (by omega)]
      rfl
    refine ⟨fun n2 hn2 hn6 d hd => ?_, fun y n2 hn2 hn6 => ?_⟩
    · have en : n + 1 = n2 := (nI_eq (by omega) (by omega)).mp (c.symm.trans hn2)
      by_cases e : d = n
      · subst e
        refine ⟨kz, hkz, g1, ?_, ?_, fun p hp => ?_⟩
        · rw [hv _ (by omega)]
          unfold cs
          rw [pk_un (by omega), pk_un (by omega), pk_un (by omega), pk_us]
          exact ekz
        · rw [hv _ (by omega), g2]
          unfold cs
          rw [pk_un (by omega), pk_un (by omega), pk_us]
        · rw [hv _ (by omega), g3 p hp]
          unfold cs
          rw [pk_un (by omega), pk_un (by omega), pk_un (by omega), pk_un (by omega)]
          unfold zs
          rw [if_pos (by omega)]
      · obtain ⟨p1, p2, p3, p4, p5, p6⟩ := h.1 n h9 hn d (by omega)
        have hz : ∀ i, i < 12 → (i < 4 ∨ 8 ≤ i) → vec SR' (5 + (12 * d + i)) = vec SR (5 + (12 * d + i)) := fun i hi _ => by
          rw [hv _ (by omega), vec_s SR (by omega)]
          unfold cs
          rw [pk_un (by omega), pk_un (by omega), pk_un (by omega), pk_un (by omega)]
          unfold zs
          rw [if_neg (by omega)]
        refine ⟨p1, p2, (hF.R (lt71 (by omega)) (fun z => by omega)).trans p3, (hz 0 (by omega) (by omega)).trans p4, ((hz 1 (by omega) (by omega)).trans p5).trans (hF.F (lt71 (by omega)) (fun z => by omega)).symm, fun p hp => ((hz (8 + p) (by omega) (by omega)).trans (p6 p hp)).trans (congrFun (hF.A (lt71 (by omega)) (fun z => by omega)) p).symm⟩
    · rw [hF.F (lt71 (by omega)) (fun z => by omega)] at y
      rw [hF.F (lt71 (by omega)) (fun z => by omega)] at hn2
      have k := h.2 y n2 hn2 hn6
      exact ck_congr k hn6 (fun d hd => ⟨hF.R (lt71 (by omega)) (fun z => by omega), hF.F (lt71 (by omega)) (fun z => by omega), hF.A (lt71 (by omega)) (fun z => by omega)⟩) (fun i _ _ => by rw [h5])
theorem ck_copy {h o n : Nat} {w w' : Nat → Int32} {S S' : FS} (k : CK o w S n) (hn : n ≤ 6) (e : ∀ c, c < n → CE S (21 + 6 * h + c) (21 + 6 * o + c) S') (ew : ∀ i, i < 89 → w' i = w i) : CK h w' S' n := fun c hc => by
  obtain ⟨p1, p2, p3, p4, p5, p6⟩ := k c hc
  obtain ⟨g1, g2, g3⟩ := e c hc
  exact ⟨p1, p2, g2.trans p3, (ew _ (by omega)).trans p4, ((ew _ (by omega)).trans p5).trans (g1 3 (by omega) (by omega)).symm, fun p hp => ((ew _ (by omega)).trans (p6 p hp)).trans (g3 p hp).symm⟩
theorem ckk_image {n : Nat} {SX SX' SR SR' : FS} {P : Nat → Nat → Prop} (hn : fF SX 9 3 = nI n) (hn6 : n ≤ 6) (h : CKK SX SR) (hF : Fr P SX SX') (m1 : ¬ P 9 3) (m2 : ∀ c, c < 6 → ¬ P (21 + c) 2 ∧ ¬ P (21 + c) 3 ∧ ¬ P (39 + c) 99) (hB : BE SX 1 0 n SX') (k1 : ∀ i, i < 89 → vec SR' i = vec SR i) (k2 : ∀ i, i < 89 → fA SR' 5 i = vec SR i) : CKK SX' SR' := by
  refine ⟨fun n2 hn2 hn26 => ?_, fun _ n2 hn2 hn26 => ?_⟩
  · rw [hF.F (lt71 (by omega)) m1] at hn2
    exact ck_congr (h.1 n2 hn2 hn26) hn26 (fun c hc => ⟨hF.R (lt71 (by omega)) (m2 c hc).1, hF.F (lt71 (by omega)) (m2 c hc).2.1, by rw [show 21 + 6 * 0 + c + 18 = 39 + c by omega]; exact hF.A (lt71 (by omega)) (m2 c hc).2.2⟩) (fun i hi _ => k1 _ (by omega))
  · have e : fF SX' 10 3 = nI n := (hB.1 3 (by omega) (by omega)).trans hn
    have en : n = n2 := (nI_eq (by omega) (by omega)).mp (e.symm.trans hn2)
    subst en
    exact ck_copy (h.1 n hn hn6) hn6 hB.2.1 k2
theorem ckk_undo {mz : Nat} {SX SX' SR SR' : FS} {P : Nat → Nat → Prop} (hm : fF SX 10 3 = nI mz) (hm6 : mz ≤ 6) (hi : ¬ fF SX 0 10 = 0) (h : CKK SX SR) (hF : Fr P SX SX') (m0 : ¬ P 0 10) (m1 : ¬ P 10 3) (m2 : ∀ c, c < 6 → ¬ P (27 + c) 2 ∧ ¬ P (27 + c) 3 ∧ ¬ P (45 + c) 99) (hB : BE SX 0 1 mz SX') (k1 : ∀ i, i < 89 → vec SR' i = fA SR 5 i) (k2 : ∀ i, i < 89 → fA SR' 5 i = fA SR 5 i) : CKK SX' SR' := by
  refine ⟨fun n2 hn2 hn26 => ?_, fun _ n2 hn2 hn26 => ?_⟩
  · have e : fF SX' 9 3 = nI mz := (hB.1 3 (by omega) (by omega)).trans hm
    have en : mz = n2 := (nI_eq (by omega) (by omega)).mp (e.symm.trans hn2)
    subst en
    exact ck_copy (h.2 hi mz hm hm6) hm6 hB.2.1 k1
  · rw [hF.F (lt71 (by omega)) m1] at hn2
    exact ck_congr (h.2 hi n2 hn2 hn26) hn26 (fun c hc => by
      rw [show 21 + 6 * 1 + c = 27 + c by omega, show 27 + c + 18 = 45 + c by omega]
      exact ⟨hF.R (lt71 (by omega)) (m2 c hc).1, hF.F (lt71 (by omega)) (m2 c hc).2.1, hF.A (lt71 (by omega)) (m2 c hc).2.2⟩) (fun i hi _ => k2 _ (by omega))
