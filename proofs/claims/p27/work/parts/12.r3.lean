set_option maxHeartbeats 4000000 in
set_option maxRecDepth 100000 in
theorem c_isTape (l : Launch) (G : GG) (ad : Nat → Nat) (S : FS) (sz : Nat) (t : Int32) : Met l yX12_isTape (Cond.code yX12_isTape cX12_isTape 2 (some .boolean) :: TBL) ({ frames := 3, cells := 0, slots := 0, locals := 93 } : Room) (PcW G (wR G ad S) sz [.ref (ad 0), .int (t)]) (vp_Si (fun (r : Int32) => r = if 0 ≤ t ∧ t ≤ 5 then 1 else 0)) 0 0 (fun _ => False) := by
  refine Met.ofW (cc := cX12_isTape) (maxL := 2) (ret := (some .boolean)) (by decide) rfl ?_
  intro p e s m args below meth c₀ s₁ B hml hv
  obtain ⟨rfl, hsz, hP, hK, hD0⟩ := hv
  have hx := B.exec
  have hb := B.bytes
  have hr := B.returns
  have hT : ∀ w ∈ TBL, w.before ([.ref (ad 0), .int (t)] : List Value).toArray s = true := fun w h => atoms_spec (ws := Cond.code yX12_isTape cX12_isTape 2 (some .boolean) :: TBL) B.pre w (List.mem_cons_of_mem _ h)
  have hown : s.vm.findClass "LittleMoreModel" = some m.cls := findClass_of_methodNamed B.named
  have hlocks := B.notSynchronized
  have hD := hD0
  have hP : va_P G.1 vwCl (wR G ad S) s.heap := hP
  have hl := lv_entry ([.ref (ad 0), .int (t)]) (n := 2) (Nat.le_of_ble_eq_true rfl)
  rw [lg_entry_eq]
  generalize (lg_sl ([.ref (ad 0), .int (t)]) ++ List.replicate (2 - (lg_sl ([.ref (ad 0), .int (t)])).length) Slot.unset).toArray = ls at hl ⊢
  have hl : lv_has ls 2 [(0, .ref (ad 0)), (1, .int (t))] := hl
  refine W_abs (fun Q hQ => ?_)
  generalize ([.ref (ad 0), .int (t)] : List Value).toArray = args at hT hQ ⊢
  refine lv_iload_n hx hb (fk_get fk_cX12_isTape_0 0 rfl) rfl (lv_at hl 1 rfl) ?_
  refine lv_i2l hx hb (fk_get fk_cX12_isTape_0 1 rfl) rfl ?_
  refine lv_lconst (v := 0) hx hb (fk_get fk_cX12_isTape_0 2 rfl) (by decide) ?_
  refine lv_ldc2 (v := 5) hx hb hown (hT _ m7_159) (fk_get fk_cX12_isTape_0 3 rfl) ?_
  refine vp_callSi (W.runS (As := [.long ((t).toInt64), .long (0), .long (5)]) (rest := []) ⟨hx, hb, hml, hown, hT⟩ (c_in l ((t).toInt64) (0) (5) ) (tS 3 hT m6_31 m6_32 m1_17 m6_33 rfl rfl (by decide +kernel) ⟨Nat.le_of_ble_eq_true rfl, Nat.le_of_ble_eq_true rfl⟩) ⟨PcN_blind, PcN_of _ _ _⟩ rfl rfl hl.1 rfl (lv_room (Nat.le_of_ble_eq_true rfl)) (fk_get fk_cX12_isTape_0 4 rfl) ⟨Nat.zero_le _, Nat.zero_le _⟩) (fun r_1 hw_2 => ?_)
  try dsimp only at hw_2
  have hw_2 := in_eq hw_2 (t) 0 5 (rfl) (by decide) (by decide)
  subst hQ
  have hpost : (r_1 : Int32) = if 0 ≤ t ∧ t ≤ 5 then 1 else 0 := by
    assumption
  exact W.zret (v := r_1) hx hb hr (nar_b (if1_01 hw_2)) (fun t_ ht_ hW_ => ⟨r_1, rfl, hpost, ht_⟩) (fun q h => by cases h) (fk_get fk_cX12_isTape_0 5 rfl)
set_option maxHeartbeats 4000000 in
set_option maxRecDepth 100000 in
theorem c_tape (l : Launch) (G : GG) (ad : Nat → Nat) (S : FS) (sz : Nat) (t sort n : Int32) : Met l yX12_tape (Cond.code yX12_tape cX12_tape 5 (some .int) :: TBL) ({ frames := 4, cells := 0, slots := 0, locals := 118 } : Room) (PcW G (wR G ad S) sz [.ref (ad 0), .int (t), .int (sort), .int (n)]) (va_Qi (fun (r : Int32) (S' : FS) => r = (if (0 ≤ t ∧ t ≤ 5) then if -1 ≤ sort ∧ sort ≤ 4 then if sort < 0 then 1 else if n ≤ 60 then if n < 0 then -14 else 1 else -2 else -2 else -1) ∧ S' = (if (0 ≤ t ∧ t ≤ 5) then if -1 ≤ sort ∧ sort ≤ 4 then if sort < 0 then (setL (setA (setA (setA (setF S 0 8 0) 22 (upd (fA S 22) t.toNatClampNeg 0)) 18 (upd (fA S 18) t.toNatClampNeg sort)) 19 (upd (fA S 19) t.toNatClampNeg 0)) 20 (zr (fL S 20) t.toNatClampNeg 60)) else if n ≤ 60 then if n < 0 then (setF S 0 8 0) else (setL (setA (setA (setA (setF S 0 8 0) 22 (upd (fA S 22) t.toNatClampNeg 1)) 18 (upd (fA S 18) t.toNatClampNeg sort)) 19 (upd (fA S 19) t.toNatClampNeg n)) 20 (zr (fL S 20) t.toNatClampNeg 60)) else (setF S 0 8 0) else (setF S 0 8 0) else (setF S 0 8 0))) (fun S' t => BW G (va_A (wR G ad S) sz) (wR G ad S') t) (va_A (wR G ad S) sz)) 0 0 (va_A (wR G ad S) sz) := by
  refine Met.ofW (cc := cX12_tape) (maxL := 5) (ret := (some .int)) (by decide) rfl ?_
  intro p e s m args below meth c₀ s₁ B hml hv
  obtain ⟨rfl, hsz, hP, hK, hD0⟩ := hv
  have hx := B.exec
  have hb := B.bytes
  have hr := B.returns
  have hT : ∀ w ∈ TBL, w.before ([.ref (ad 0), .int (t), .int (sort), .int (n)] : List Value).toArray s = true := fun w h => atoms_spec (ws := Cond.code yX12_tape cX12_tape 5 (some .int) :: TBL) B.pre w (List.mem_cons_of_mem _ h)
  have hown : s.vm.findClass "LittleMoreModel" = some m.cls := findClass_of_methodNamed B.named
  have hlocks := B.notSynchronized
  subst hsz
  have hD := hD0.self (sz := s.heap.size)
  generalize hAe : va_A (wR G ad S) s.heap.size = A at hD ⊢
  have hA : ∀ q : Nat, s.heap.size ≤ q → A q := fun q h => by rw [← hAe]; exact Or.inr h
  have hS : va_S A s.heap s.heap [] := va_S.rf
  have hP : va_P G.1 vwCl (wR G ad S) s.heap := hP
  have hl := lv_entry ([.ref (ad 0), .int (t), .int (sort), .int (n)]) (n := 5) (Nat.le_of_ble_eq_true rfl)
  rw [lg_entry_eq]
  generalize (lg_sl ([.ref (ad 0), .int (t), .int (sort), .int (n)]) ++ List.replicate (5 - (lg_sl ([.ref (ad 0), .int (t), .int (sort), .int (n)])).length) Slot.unset).toArray = ls at hl ⊢
  have hl : lv_has ls 5 [(0, .ref (ad 0)), (1, .int (t)), (2, .int (sort)), (3, .int (n))] := hl
  refine W_abs (fun Q hQ => ?_)
  generalize ([.ref (ad 0), .int (t), .int (sort), .int (n)] : List Value).toArray = args at hT hQ ⊢
  refine lv_aload_n hx hb (fk_get fk_cX12_tape_0 0 rfl) rfl (lv_at hl 0 rfl) ?_
  refine lv_iconst (v := 0) hx hb (fk_get fk_cX12_tape_0 1 rfl) (by decide) ?_
  refine va_put (D := G.1) (ci := 14) (v := .int (0)) (ty := .int) (C := RX12) (T := TX12) (N := 49) hx hb hT inX12 tyX12 tyX12_ok nmX12 hown hK hP hD hS 0 (ix_at (by decide) (cR_0 G ad S)) rfl 8 (by decide) (hT _ m5_109) (fun _ h9 => h9) rfl (by decide +kernel) rfl rfl (Nat.le_of_ble_eq_true rfl) (fk_get fk_cX12_tape_0 2 rfl) (fun H locs hP hD hS => ?_)
  rw [pR_thrown G ad S (0)] at hP hD
  refine lv_aload_n hx hb (fk_get fk_cX12_tape_0 3 rfl) rfl (lv_at hl 0 rfl) ?_
  refine lv_iload_n hx hb (fk_get fk_cX12_tape_0 4 rfl) rfl (lv_at hl 1 rfl) ?_
  refine vp_callSi (W.runV (As := [.int (t)]) (rest := []) ⟨hx, hb, hml, hown, hT⟩ (c_isTape l G ad (setF S 0 8 (0)) H.size (t) ) (tV 1 hT m7_155 m7_157 mp_70 m1_17 m7_158 rfl rfl (by decide +kernel) ⟨Nat.le_of_ble_eq_true rfl, Nat.le_of_ble_eq_true rfl⟩) ⟨PcW_blind, va_recv hK hP (ci := 14) (q0 := 0) rfl (ix_at (by decide) (cR_0 G ad (setF S 0 8 (0)))), PcW_of hP hK hD _⟩ rfl rfl hl.1 rfl (lv_room (Nat.le_of_ble_eq_true rfl)) (fk_get fk_cX12_tape_0 5 rfl) ⟨Nat.zero_le _, Nat.zero_le _⟩) (fun r_1 hw_2 => ?_)
  try dsimp only at hw_2
  refine lv_if_ne (tgt := 15) hx hb (fk_get fk_cX12_tape_0 6 rfl) (by decide) (fun c_3 => ?_) (fun c_3 => ?_)
  · have p_c_3 := if1_t hw_2 c_3
    obtain ⟨ht5, et⟩ := in_n (b := 5) p_c_3 (by decide)
    refine lv_iload_n hx hb (fk_get fk_cX12_tape_0 9 rfl) rfl (lv_at hl 2 rfl) ?_
    refine lv_i2l hx hb (fk_get fk_cX12_tape_0 10 rfl) rfl ?_
    refine lv_ldc2 (v := (-1)) hx hb hown (hT _ m7_160) (fk_get fk_cX12_tape_0 11 rfl) ?_
    refine lv_ldc2 (v := 4) hx hb hown (hT _ m6_216) (fk_get fk_cX12_tape_0 12 rfl) ?_
    refine vp_callSi (W.runS (As := [.long ((sort).toInt64), .long ((-1)), .long (4)]) (rest := []) ⟨hx, hb, hml, hown, hT⟩ (c_in l ((sort).toInt64) ((-1)) (4) ) (tS 3 hT m6_31 m6_32 m1_17 m6_33 rfl rfl (by decide +kernel) ⟨Nat.le_of_ble_eq_true rfl, Nat.le_of_ble_eq_true rfl⟩) ⟨PcN_blind, PcN_of _ _ _⟩ rfl rfl hl.1 rfl (lv_room (Nat.le_of_ble_eq_true rfl)) (fk_get fk_cX12_tape_0 13 rfl) ⟨Nat.zero_le _, Nat.zero_le _⟩) (fun r_4 hw_5 => ?_)
    try dsimp only at hw_5
    have hw_5 := in_eq hw_5 (sort) (-1) 4 (rfl) (by decide) (by decide)
    refine lv_if_eq (tgt := 39) hx hb (fk_get fk_cX12_tape_0 14 rfl) (by decide) (fun c_6 => ?_) (fun c_6 => ?_)
    · have p_c_6 := if1_f hw_5 c_6
      refine lv_bipush (v := (-2)) hx hb (fk_get fk_cX12_tape_0 20 rfl) (by decide) ?_
      subst hQ
      have hpost : ((-2) : Int32) = (if (0 ≤ t ∧ t ≤ 5) then if -1 ≤ sort ∧ sort ≤ 4 then if sort < 0 then 1 else if n ≤ 60 then if n < 0 then -14 else 1 else -2 else -2 else -1) ∧ (setF S 0 8 (0)) = (if (0 ≤ t ∧ t ≤ 5) then if -1 ≤ sort ∧ sort ≤ 4 then if sort < 0 then (setL (setA (setA (setA (setF S 0 8 0) 22 (upd (fA S 22) t.toNatClampNeg 0)) 18 (upd (fA S 18) t.toNatClampNeg sort)) 19 (upd (fA S 19) t.toNatClampNeg 0)) 20 (zr (fL S 20) t.toNatClampNeg 60)) else if n ≤ 60 then if n < 0 then (setF S 0 8 0) else (setL (setA (setA (setA (setF S 0 8 0) 22 (upd (fA S 22) t.toNatClampNeg 1)) 18 (upd (fA S 18) t.toNatClampNeg sort)) 19 (upd (fA S 19) t.toNatClampNeg n)) 20 (zr (fL S 20) t.toNatClampNeg 60)) else (setF S 0 8 0) else (setF S 0 8 0) else (setF S 0 8 0)) := by
        refine ⟨?_, ?_⟩ <;> (repeat (first | rw [if_pos (by assumption)] | rw [if_neg (by assumption)] | rw [if_neg (Int32.not_lt.mpr (by assumption))] | rw [if_pos (Int32.not_le.mp (by assumption))])) <;> first | rfl | exact hSL
      exact W.iret (v := (-2)) hx hb hr (fun t_ ht_ hW_ => ⟨⟨(-2), (setF S 0 8 (0)), rfl, hpost, by rw [ht_]; exact hP, va_K.moved hW_.alike hK, hD⟩, hS.F ht_⟩) hS.2.2 (fk_get fk_cX12_tape_0 21 rfl)
    have p_c_6 := if1_t hw_5 c_6
    refine lv_iload_n hx hb (fk_get fk_cX12_tape_0 15 rfl) rfl (lv_at hl 2 rfl) ?_
    refine lv_if_lt (tgt := 42) hx hb (fk_get fk_cX12_tape_0 16 rfl) (by decide) (fun c_7 => ?_) (fun c_7 => ?_)
    · refine lv_iload_n hx hb (fk_get fk_cX12_tape_0 22 rfl) rfl (lv_at hl 2 rfl) ?_
      refine lv_if_lt (tgt := 53) hx hb (fk_get fk_cX12_tape_0 23 rfl) (by decide) (fun _ => ?_) (fun c_8 => absurd (by first | assumption | exact Int32.not_lt.mp (by assumption) | exact Int32.not_le.mp (by assumption) | exact Int32.not_lt.mpr (by assumption) | exact Int32.not_le.mpr (by assumption) | exact Classical.not_not.mpr (by assumption)) c_8)
      refine lv_aload_n hx hb (fk_get fk_cX12_tape_0 28 rfl) rfl (lv_at hl 0 rfl) ?_
      refine va_get (D := G.1) (ci := 14) (v := .ref (ad 22)) (C := RX12) (T := TX12) (N := 49) hx hb hT inX12 hown hK hP 0 (ix_at (by decide) (cR_0 G ad (setF S 0 8 (0)))) rfl 48 (by decide) (hT _ m5_149) (fun _ h9 => h9) rfl (fk_get fk_cX12_tape_0 29 rfl) ?_
      refine lv_iload_n hx hb (fk_get fk_cX12_tape_0 30 rfl) rfl (lv_at hl 1 rfl) ?_
      refine lv_iload_n hx hb (fk_get fk_cX12_tape_0 31 rfl) rfl (lv_at hl 2 rfl) ?_
      refine lv_if_lt (tgt := 66) hx hb (fk_get fk_cX12_tape_1 0 rfl) (by decide) (fun _ => ?_) (fun c_9 => absurd (by first | assumption | exact Int32.not_lt.mp (by assumption) | exact Int32.not_le.mp (by assumption) | exact Int32.not_lt.mpr (by assumption) | exact Int32.not_le.mpr (by assumption) | exact Classical.not_not.mpr (by assumption)) c_9)
      refine lv_iconst (v := 0) hx hb (fk_get fk_cX12_tape_1 3 rfl) (by decide) ?_
      refine r_zast hx hb hK hP hD hS 22 3 (ix_at (by decide) (cR_holdsRow G ad (setF S 0 8 (0)))) rfl (t.toNatClampNeg) (et) (by omega) (by decide) (Or.inl rfl) (fk_get fk_cX12_tape_1 4 rfl) (fun H locs hP hD hS => ?_)
      rw [pR_A G ad (setF S 0 8 (0)) (by decide) (by decide) (by decide) (cR_holdsRow G ad (setF S 0 8 (0))) (upd (fA (setF S 0 8 (0)) 22) (t.toNatClampNeg) (0))] at hP hD
      refine lv_aload_n hx hb (fk_get fk_cX12_tape_1 5 rfl) rfl (lv_at hl 0 rfl) ?_
      refine va_get (D := G.1) (ci := 14) (v := .ref (ad 18)) (C := RX12) (T := TX12) (N := 49) hx hb hT inX12 hown hK hP 0 (ix_at (by decide) (cR_0 G ad (setA (setF S 0 8 (0)) 22 (upd (fA (setF S 0 8 (0)) 22) (t.toNatClampNeg) (0))))) rfl 44 (by decide) (hT _ m5_145) (fun _ h9 => h9) rfl (fk_get fk_cX12_tape_1 6 rfl) ?_
      refine lv_iload_n hx hb (fk_get fk_cX12_tape_1 7 rfl) rfl (lv_at hl 1 rfl) ?_
      refine lv_iload_n hx hb (fk_get fk_cX12_tape_1 8 rfl) rfl (lv_at hl 2 rfl) ?_
      refine r_iast hx hb hK hP hD hS 18 0 (ix_at (by decide) (cR_sortOf G ad (setA (setF S 0 8 (0)) 22 (upd (fA (setF S 0 8 (0)) 22) (t.toNatClampNeg) (0))))) rfl (t.toNatClampNeg) (et) (by omega) (by decide) (fk_get fk_cX12_tape_1 9 rfl) (fun H locs hP hD hS => ?_)
      rw [pR_A G ad (setA (setF S 0 8 (0)) 22 (upd (fA (setF S 0 8 (0)) 22) (t.toNatClampNeg) (0))) (by decide) (by decide) (by decide) (cR_sortOf G ad (setA (setF S 0 8 (0)) 22 (upd (fA (setF S 0 8 (0)) 22) (t.toNatClampNeg) (0)))) (upd (fA (setA (setF S 0 8 (0)) 22 (upd (fA (setF S 0 8 (0)) 22) (t.toNatClampNeg) (0))) 18) (t.toNatClampNeg) (sort))] at hP hD
      refine lv_aload_n hx hb (fk_get fk_cX12_tape_1 10 rfl) rfl (lv_at hl 0 rfl) ?_
      refine va_get (D := G.1) (ci := 14) (v := .ref (ad 19)) (C := RX12) (T := TX12) (N := 49) hx hb hT inX12 hown hK hP 0 (ix_at (by decide) (cR_0 G ad (setA (setA (setF S 0 8 (0)) 22 (upd (fA (setF S 0 8 (0)) 22) (t.toNatClampNeg) (0))) 18 (upd (fA (setA (setF S 0 8 (0)) 22 (upd (fA (setF S 0 8 (0)) 22) (t.toNatClampNeg) (0))) 18) (t.toNatClampNeg) (sort))))) rfl 45 (by decide) (hT _ m5_146) (fun _ h9 => h9) rfl (fk_get fk_cX12_tape_1 11 rfl) ?_
      refine lv_iload_n hx hb (fk_get fk_cX12_tape_1 12 rfl) rfl (lv_at hl 1 rfl) ?_
      refine lv_iload_n hx hb (fk_get fk_cX12_tape_1 13 rfl) rfl (lv_at hl 2 rfl) ?_
      refine lv_if_ge (tgt := 88) hx hb (fk_get fk_cX12_tape_1 14 rfl) (by decide) (fun c_10 => absurd c_10 (by first | assumption | exact Int32.not_lt.mp (by assumption) | exact Int32.not_le.mp (by assumption) | exact Int32.not_lt.mpr (by assumption) | exact Int32.not_le.mpr (by assumption) | exact Classical.not_not.mpr (by assumption))) (fun _ => ?_)
      refine lv_iconst (v := 0) hx hb (fk_get fk_cX12_tape_1 15 rfl) (by decide) ?_
      refine lv_goto (tgt := 89) hx hb (fk_get fk_cX12_tape_1 16 rfl) (by decide) ?_
      refine r_iast hx hb hK hP hD hS 19 0 (ix_at (by decide) (cR_manyOf G ad (setA (setA (setF S 0 8 (0)) 22 (upd (fA (setF S 0 8 (0)) 22) (t.toNatClampNeg) (0))) 18 (upd (fA (setA (setF S 0 8 (0)) 22 (upd (fA (setF S 0 8 (0)) 22) (t.toNatClampNeg) (0))) 18) (t.toNatClampNeg) (sort))))) rfl (t.toNatClampNeg) (et) (by omega) (by decide) (fk_get fk_cX12_tape_1 18 rfl) (fun H locs hP hD hS => ?_)
      rw [pR_A G ad (setA (setA (setF S 0 8 (0)) 22 (upd (fA (setF S 0 8 (0)) 22) (t.toNatClampNeg) (0))) 18 (upd (fA (setA (setF S 0 8 (0)) 22 (upd (fA (setF S 0 8 (0)) 22) (t.toNatClampNeg) (0))) 18) (t.toNatClampNeg) (sort))) (by decide) (by decide) (by decide) (cR_manyOf G ad (setA (setA (setF S 0 8 (0)) 22 (upd (fA (setF S 0 8 (0)) 22) (t.toNatClampNeg) (0))) 18 (upd (fA (setA (setF S 0 8 (0)) 22 (upd (fA (setF S 0 8 (0)) 22) (t.toNatClampNeg) (0))) 18) (t.toNatClampNeg) (sort)))) (upd (fA (setA (setA (setF S 0 8 (0)) 22 (upd (fA (setF S 0 8 (0)) 22) (t.toNatClampNeg) (0))) 18 (upd (fA (setA (setF S 0 8 (0)) 22 (upd (fA (setF S 0 8 (0)) 22) (t.toNatClampNeg) (0))) 18) (t.toNatClampNeg) (sort))) 19) (t.toNatClampNeg) (0))] at hP hD
      refine lv_iconst (v := 0) hx hb (fk_get fk_cX12_tape_1 19 rfl) (by decide) ?_
      refine lv_istore (lv' := [(4, .int (0)), (0, .ref (ad 0)), (1, .int (t)), (2, .int (sort)), (3, .int (n))]) hx hb (fk_get fk_cX12_tape_1 20 rfl) hl (by decide) rfl (fun ls hl => ?_)
      have lp_11 : ∀ (fu : Nat) (k : Nat) (SL : FS) (H_13 : Heap) (locs_14 : List Loc) (ls : Array Slot),  (k ≤ 60) → (60 < k + fu) → (SL = setL (setA (setA (setA (setF S 0 8 (0)) 22 (upd (fA (setF S 0 8 (0)) 22) (t.toNatClampNeg) (0))) 18 (upd (fA (setA (setF S 0 8 (0)) 22 (upd (fA (setF S 0 8 (0)) 22) (t.toNatClampNeg) (0))) 18) (t.toNatClampNeg) (sort))) 19 (upd (fA (setA (setA (setF S 0 8 (0)) 22 (upd (fA (setF S 0 8 (0)) 22) (t.toNatClampNeg) (0))) 18 (upd (fA (setA (setF S 0 8 (0)) 22 (upd (fA (setF S 0 8 (0)) 22) (t.toNatClampNeg) (0))) 18) (t.toNatClampNeg) (sort))) 19) (t.toNatClampNeg) (0))) 20 (zr (fL S 20) t.toNatClampNeg k)) → va_P G.1 vwCl (wR G ad SL) H_13 → va_D A (wR G ad SL) → va_S A s.heap H_13 locs_14 → lv_has ls 5 [(4, .int ((nI k))), (0, .ref (ad 0)), (1, .int (t)), (2, .int (sort)), (3, .int (n))] → W p l e ({ frames := 4, cells := 0, slots := 0, locals := 118 } : Room) s m args below meth c₀ H_13 locs_14 0 0 Q (F0 m 93 ls []) := by
        intro fu
        induction fu with
        | zero =>
          intro k SL H_13 locs_14 ls hk hf hSL hP hD hS hl
          exact absurd hf (by omega)
        | succ fu ih =>
          intro k SL H_13 locs_14 ls hk hf hSL hP hD hS hl
          refine lv_iload hx hb (fk_get fk_cX12_tape_1 21 rfl) (lv_at hl 0 rfl) ?_
          refine lv_bipush (v := 60) hx hb (fk_get fk_cX12_tape_1 22 rfl) (by decide) ?_
          refine lv_icmp_ge (tgt := 119) hx hb (fk_get fk_cX12_tape_1 23 rfl) (by decide) (fun c_15 => ?_) (fun c_15 => ?_)
          · have hge : 60 ≤ k := (nI_leI (a := 60) (b := k) (by omega) (by omega)).mp c_15
            obtain rfl : k = 60 := by omega
            refine lv_iconst (v := 1) hx hb (fk_get fk_cX12_tape_2 3 rfl) (by decide) ?_
            subst hQ
            have hpost : (1 : Int32) = (if (0 ≤ t ∧ t ≤ 5) then if -1 ≤ sort ∧ sort ≤ 4 then if sort < 0 then 1 else if n ≤ 60 then if n < 0 then -14 else 1 else -2 else -2 else -1) ∧ SL = (if (0 ≤ t ∧ t ≤ 5) then if -1 ≤ sort ∧ sort ≤ 4 then if sort < 0 then (setL (setA (setA (setA (setF S 0 8 0) 22 (upd (fA S 22) t.toNatClampNeg 0)) 18 (upd (fA S 18) t.toNatClampNeg sort)) 19 (upd (fA S 19) t.toNatClampNeg 0)) 20 (zr (fL S 20) t.toNatClampNeg 60)) else if n ≤ 60 then if n < 0 then (setF S 0 8 0) else (setL (setA (setA (setA (setF S 0 8 0) 22 (upd (fA S 22) t.toNatClampNeg 1)) 18 (upd (fA S 18) t.toNatClampNeg sort)) 19 (upd (fA S 19) t.toNatClampNeg n)) 20 (zr (fL S 20) t.toNatClampNeg 60)) else (setF S 0 8 0) else (setF S 0 8 0) else (setF S 0 8 0)) := by
              refine ⟨?_, ?_⟩ <;> (repeat (first | rw [if_pos (by assumption)] | rw [if_neg (by assumption)] | rw [if_neg (Int32.not_lt.mpr (by assumption))] | rw [if_pos (Int32.not_le.mp (by assumption))])) <;> first | rfl | exact hSL
            exact W.iret (v := 1) hx hb hr (fun t_ ht_ hW_ => ⟨⟨1, SL, rfl, hpost, by rw [ht_]; exact hP, va_K.moved hW_.alike hK, hD⟩, hS.F ht_⟩) hS.2.2 (fk_get fk_cX12_tape_2 4 rfl)
          have hlt : k < 60 := Nat.lt_of_not_le (fun z => c_15 ((nI_leI (a := 60) (b := k) (by omega) (by omega)).mpr z))
          refine lv_aload_n hx hb (fk_get fk_cX12_tape_1 24 rfl) rfl (lv_at hl 1 rfl) ?_
          refine va_get (D := G.1) (ci := 14) (v := .ref (ad 20)) (C := RX12) (T := TX12) (N := 49) hx hb hT inX12 hown hK hP 0 (ix_at (by decide) (cR_0 G ad SL)) rfl 46 (by decide) (hT _ m5_147) (fun _ h9 => h9) rfl (fk_get fk_cX12_tape_1 25 rfl) ?_
          refine lv_bipush (v := 60) hx hb (fk_get fk_cX12_tape_1 26 rfl) (by decide) ?_
          refine lv_iload_n hx hb (fk_get fk_cX12_tape_1 27 rfl) rfl (lv_at hl 2 rfl) ?_
          refine lv_imul hx hb (fk_get fk_cX12_tape_1 28 rfl) ?_
          refine lv_iload hx hb (fk_get fk_cX12_tape_1 29 rfl) (lv_at hl 0 rfl) ?_
          refine lv_iadd hx hb (fk_get fk_cX12_tape_1 30 rfl) ?_
          refine lv_lconst (v := 0) hx hb (fk_get fk_cX12_tape_1 31 rfl) (by decide) ?_
          refine r_last hx hb hK hP hD hS 20 1 (ix_at (by decide) (cR_items G ad SL)) rfl (((60 * t.toNatClampNeg) + k)) (n_add (n_mul (rfl) (et)) (rfl)) (by omega) (by decide) (fk_get fk_cX12_tape_2 0 rfl) (fun H locs hP hD hS => ?_)
          rw [pR_L G ad SL (by decide) (by decide) (cR_items G ad SL) (vp_updL (fL SL 20) (((60 * t.toNatClampNeg) + k)) (0))] at hP hD
          refine lv_iinc (v := (nI (k + 1))) (lv' := [(4, .int ((nI (k + 1)))), (0, .ref (ad 0)), (1, .int (t)), (2, .int (sort)), (3, .int (n))]) hx hb (fk_get fk_cX12_tape_2 1 rfl) hl (k := 0) rfl ((nI_1 k)) (by decide) rfl (fun ls hl => ?_)
          refine lv_goto (tgt := 93) hx hb (fk_get fk_cX12_tape_2 2 rfl) (by decide) ?_
          exact ih (k + 1) (setL SL 20 (vp_updL (fL SL 20) (((60 * t.toNatClampNeg) + k)) (0))) _ _ ls (by omega) (by omega) (by rw [hSL]; exact zr_step _ _ _ k) hP hD hS (lv_sub hl [0, 1, 2, 3, 4] rfl)
      exact lp_11 (61) (0) (setA (setA (setA (setF S 0 8 (0)) 22 (upd (fA (setF S 0 8 (0)) 22) (t.toNatClampNeg) (0))) 18 (upd (fA (setA (setF S 0 8 (0)) 22 (upd (fA (setF S 0 8 (0)) 22) (t.toNatClampNeg) (0))) 18) (t.toNatClampNeg) (sort))) 19 (upd (fA (setA (setA (setF S 0 8 (0)) 22 (upd (fA (setF S 0 8 (0)) 22) (t.toNatClampNeg) (0))) 18 (upd (fA (setA (setF S 0 8 (0)) 22 (upd (fA (setF S 0 8 (0)) 22) (t.toNatClampNeg) (0))) 18) (t.toNatClampNeg) (sort))) 19) (t.toNatClampNeg) (0))) _ _ ls (by omega) (by omega) (zr_0 _ _) hP hD hS (lv_sub hl [0, 1, 2, 3, 4] rfl)
    refine lv_iload_n hx hb (fk_get fk_cX12_tape_0 17 rfl) rfl (lv_at hl 3 rfl) ?_
    refine lv_bipush (v := 60) hx hb (fk_get fk_cX12_tape_0 18 rfl) (by decide) ?_
    refine lv_icmp_le (tgt := 42) hx hb (fk_get fk_cX12_tape_0 19 rfl) (by decide) (fun c_16 => ?_) (fun c_16 => ?_)
    · refine lv_iload_n hx hb (fk_get fk_cX12_tape_0 22 rfl) rfl (lv_at hl 2 rfl) ?_
      refine lv_if_lt (tgt := 53) hx hb (fk_get fk_cX12_tape_0 23 rfl) (by decide) (fun c_17 => absurd c_17 (by first | assumption | exact Int32.not_lt.mp (by assumption) | exact Int32.not_le.mp (by assumption) | exact Int32.not_lt.mpr (by assumption) | exact Int32.not_le.mpr (by assumption) | exact Classical.not_not.mpr (by assumption))) (fun _ => ?_)
      refine lv_iload_n hx hb (fk_get fk_cX12_tape_0 24 rfl) rfl (lv_at hl 3 rfl) ?_
      refine lv_if_ge (tgt := 53) hx hb (fk_get fk_cX12_tape_0 25 rfl) (by decide) (fun c_18 => ?_) (fun c_18 => ?_)
      · refine lv_aload_n hx hb (fk_get fk_cX12_tape_0 28 rfl) rfl (lv_at hl 0 rfl) ?_
        refine va_get (D := G.1) (ci := 14) (v := .ref (ad 22)) (C := RX12) (T := TX12) (N := 49) hx hb hT inX12 hown hK hP 0 (ix_at (by decide) (cR_0 G ad (setF S 0 8 (0)))) rfl 48 (by decide) (hT _ m5_149) (fun _ h9 => h9) rfl (fk_get fk_cX12_tape_0 29 rfl) ?_
        refine lv_iload_n hx hb (fk_get fk_cX12_tape_0 30 rfl) rfl (lv_at hl 1 rfl) ?_
        refine lv_iload_n hx hb (fk_get fk_cX12_tape_0 31 rfl) rfl (lv_at hl 2 rfl) ?_
        refine lv_if_lt (tgt := 66) hx hb (fk_get fk_cX12_tape_1 0 rfl) (by decide) (fun c_19 => absurd c_19 (by first | assumption | exact Int32.not_lt.mp (by assumption) | exact Int32.not_le.mp (by assumption) | exact Int32.not_lt.mpr (by assumption) | exact Int32.not_le.mpr (by assumption) | exact Classical.not_not.mpr (by assumption))) (fun _ => ?_)
        refine lv_iconst (v := 1) hx hb (fk_get fk_cX12_tape_1 1 rfl) (by decide) ?_
        refine lv_goto (tgt := 67) hx hb (fk_get fk_cX12_tape_1 2 rfl) (by decide) ?_
        refine r_zast hx hb hK hP hD hS 22 3 (ix_at (by decide) (cR_holdsRow G ad (setF S 0 8 (0)))) rfl (t.toNatClampNeg) (et) (by omega) (by decide) (Or.inr rfl) (fk_get fk_cX12_tape_1 4 rfl) (fun H locs hP hD hS => ?_)
        rw [pR_A G ad (setF S 0 8 (0)) (by decide) (by decide) (by decide) (cR_holdsRow G ad (setF S 0 8 (0))) (upd (fA (setF S 0 8 (0)) 22) (t.toNatClampNeg) (1))] at hP hD
        refine lv_aload_n hx hb (fk_get fk_cX12_tape_1 5 rfl) rfl (lv_at hl 0 rfl) ?_
        refine va_get (D := G.1) (ci := 14) (v := .ref (ad 18)) (C := RX12) (T := TX12) (N := 49) hx hb hT inX12 hown hK hP 0 (ix_at (by decide) (cR_0 G ad (setA (setF S 0 8 (0)) 22 (upd (fA (setF S 0 8 (0)) 22) (t.toNatClampNeg) (1))))) rfl 44 (by decide) (hT _ m5_145) (fun _ h9 => h9) rfl (fk_get fk_cX12_tape_1 6 rfl) ?_
        refine lv_iload_n hx hb (fk_get fk_cX12_tape_1 7 rfl) rfl (lv_at hl 1 rfl) ?_
        refine lv_iload_n hx hb (fk_get fk_cX12_tape_1 8 rfl) rfl (lv_at hl 2 rfl) ?_
        refine r_iast hx hb hK hP hD hS 18 0 (ix_at (by decide) (cR_sortOf G ad (setA (setF S 0 8 (0)) 22 (upd (fA (setF S 0 8 (0)) 22) (t.toNatClampNeg) (1))))) rfl (t.toNatClampNeg) (et) (by omega) (by decide) (fk_get fk_cX12_tape_1 9 rfl) (fun H locs hP hD hS => ?_)
        rw [pR_A G ad (setA (setF S 0 8 (0)) 22 (upd (fA (setF S 0 8 (0)) 22) (t.toNatClampNeg) (1))) (by decide) (by decide) (by decide) (cR_sortOf G ad (setA (setF S 0 8 (0)) 22 (upd (fA (setF S 0 8 (0)) 22) (t.toNatClampNeg) (1)))) (upd (fA (setA (setF S 0 8 (0)) 22 (upd (fA (setF S 0 8 (0)) 22) (t.toNatClampNeg) (1))) 18) (t.toNatClampNeg) (sort))] at hP hD
        refine lv_aload_n hx hb (fk_get fk_cX12_tape_1 10 rfl) rfl (lv_at hl 0 rfl) ?_
        refine va_get (D := G.1) (ci := 14) (v := .ref (ad 19)) (C := RX12) (T := TX12) (N := 49) hx hb hT inX12 hown hK hP 0 (ix_at (by decide) (cR_0 G ad (setA (setA (setF S 0 8 (0)) 22 (upd (fA (setF S 0 8 (0)) 22) (t.toNatClampNeg) (1))) 18 (upd (fA (setA (setF S 0 8 (0)) 22 (upd (fA (setF S 0 8 (0)) 22) (t.toNatClampNeg) (1))) 18) (t.toNatClampNeg) (sort))))) rfl 45 (by decide) (hT _ m5_146) (fun _ h9 => h9) rfl (fk_get fk_cX12_tape_1 11 rfl) ?_
        refine lv_iload_n hx hb (fk_get fk_cX12_tape_1 12 rfl) rfl (lv_at hl 1 rfl) ?_
        refine lv_iload_n hx hb (fk_get fk_cX12_tape_1 13 rfl) rfl (lv_at hl 2 rfl) ?_
        refine lv_if_ge (tgt := 88) hx hb (fk_get fk_cX12_tape_1 14 rfl) (by decide) (fun _ => ?_) (fun c_20 => absurd (by first | assumption | exact Int32.not_lt.mp (by assumption) | exact Int32.not_le.mp (by assumption) | exact Int32.not_lt.mpr (by assumption) | exact Int32.not_le.mpr (by assumption) | exact Classical.not_not.mpr (by assumption)) c_20)
        refine lv_iload_n hx hb (fk_get fk_cX12_tape_1 17 rfl) rfl (lv_at hl 3 rfl) ?_
        refine r_iast hx hb hK hP hD hS 19 0 (ix_at (by decide) (cR_manyOf G ad (setA (setA (setF S 0 8 (0)) 22 (upd (fA (setF S 0 8 (0)) 22) (t.toNatClampNeg) (1))) 18 (upd (fA (setA (setF S 0 8 (0)) 22 (upd (fA (setF S 0 8 (0)) 22) (t.toNatClampNeg) (1))) 18) (t.toNatClampNeg) (sort))))) rfl (t.toNatClampNeg) (et) (by omega) (by decide) (fk_get fk_cX12_tape_1 18 rfl) (fun H locs hP hD hS => ?_)
        rw [pR_A G ad (setA (setA (setF S 0 8 (0)) 22 (upd (fA (setF S 0 8 (0)) 22) (t.toNatClampNeg) (1))) 18 (upd (fA (setA (setF S 0 8 (0)) 22 (upd (fA (setF S 0 8 (0)) 22) (t.toNatClampNeg) (1))) 18) (t.toNatClampNeg) (sort))) (by decide) (by decide) (by decide) (cR_manyOf G ad (setA (setA (setF S 0 8 (0)) 22 (upd (fA (setF S 0 8 (0)) 22) (t.toNatClampNeg) (1))) 18 (upd (fA (setA (setF S 0 8 (0)) 22 (upd (fA (setF S 0 8 (0)) 22) (t.toNatClampNeg) (1))) 18) (t.toNatClampNeg) (sort)))) (upd (fA (setA (setA (setF S 0 8 (0)) 22 (upd (fA (setF S 0 8 (0)) 22) (t.toNatClampNeg) (1))) 18 (upd (fA (setA (setF S 0 8 (0)) 22 (upd (fA (setF S 0 8 (0)) 22) (t.toNatClampNeg) (1))) 18) (t.toNatClampNeg) (sort))) 19) (t.toNatClampNeg) (n))] at hP hD
        refine lv_iconst (v := 0) hx hb (fk_get fk_cX12_tape_1 19 rfl) (by decide) ?_
        refine lv_istore (lv' := [(4, .int (0)), (0, .ref (ad 0)), (1, .int (t)), (2, .int (sort)), (3, .int (n))]) hx hb (fk_get fk_cX12_tape_1 20 rfl) hl (by decide) rfl (fun ls hl => ?_)
        have lp_21 : ∀ (fu : Nat) (k : Nat) (SL : FS) (H_23 : Heap) (locs_24 : List Loc) (ls : Array Slot),  (k ≤ 60) → (60 < k + fu) → (SL = setL (setA (setA (setA (setF S 0 8 (0)) 22 (upd (fA (setF S 0 8 (0)) 22) (t.toNatClampNeg) (1))) 18 (upd (fA (setA (setF S 0 8 (0)) 22 (upd (fA (setF S 0 8 (0)) 22) (t.toNatClampNeg) (1))) 18) (t.toNatClampNeg) (sort))) 19 (upd (fA (setA (setA (setF S 0 8 (0)) 22 (upd (fA (setF S 0 8 (0)) 22) (t.toNatClampNeg) (1))) 18 (upd (fA (setA (setF S 0 8 (0)) 22 (upd (fA (setF S 0 8 (0)) 22) (t.toNatClampNeg) (1))) 18) (t.toNatClampNeg) (sort))) 19) (t.toNatClampNeg) (n))) 20 (zr (fL S 20) t.toNatClampNeg k)) → va_P G.1 vwCl (wR G ad SL) H_23 → va_D A (wR G ad SL) → va_S A s.heap H_23 locs_24 → lv_has ls 5 [(4, .int ((nI k))), (0, .ref (ad 0)), (1, .int (t)), (2, .int (sort)), (3, .int (n))] → W p l e ({ frames := 4, cells := 0, slots := 0, locals := 118 } : Room) s m args below meth c₀ H_23 locs_24 0 0 Q (F0 m 93 ls []) := by
          intro fu
          induction fu with
          | zero =>
            intro k SL H_23 locs_24 ls hk hf hSL hP hD hS hl
            exact absurd hf (by omega)
          | succ fu ih =>
            intro k SL H_23 locs_24 ls hk hf hSL hP hD hS hl
            refine lv_iload hx hb (fk_get fk_cX12_tape_1 21 rfl) (lv_at hl 0 rfl) ?_
            refine lv_bipush (v := 60) hx hb (fk_get fk_cX12_tape_1 22 rfl) (by decide) ?_
            refine lv_icmp_ge (tgt := 119) hx hb (fk_get fk_cX12_tape_1 23 rfl) (by decide) (fun c_25 => ?_) (fun c_25 => ?_)
            · have hge : 60 ≤ k := (nI_leI (a := 60) (b := k) (by omega) (by omega)).mp c_25
              obtain rfl : k = 60 := by omega
              refine lv_iconst (v := 1) hx hb (fk_get fk_cX12_tape_2 3 rfl) (by decide) ?_
              subst hQ
              have hpost : (1 : Int32) = (if (0 ≤ t ∧ t ≤ 5) then if -1 ≤ sort ∧ sort ≤ 4 then if sort < 0 then 1 else if n ≤ 60 then if n < 0 then -14 else 1 else -2 else -2 else -1) ∧ SL = (if (0 ≤ t ∧ t ≤ 5) then if -1 ≤ sort ∧ sort ≤ 4 then if sort < 0 then (setL (setA (setA (setA (setF S 0 8 0) 22 (upd (fA S 22) t.toNatClampNeg 0)) 18 (upd (fA S 18) t.toNatClampNeg sort)) 19 (upd (fA S 19) t.toNatClampNeg 0)) 20 (zr (fL S 20) t.toNatClampNeg 60)) else if n ≤ 60 then if n < 0 then (setF S 0 8 0) else (setL (setA (setA (setA (setF S 0 8 0) 22 (upd (fA S 22) t.toNatClampNeg 1)) 18 (upd (fA S 18) t.toNatClampNeg sort)) 19 (upd (fA S 19) t.toNatClampNeg n)) 20 (zr (fL S 20) t.toNatClampNeg 60)) else (setF S 0 8 0) else (setF S 0 8 0) else (setF S 0 8 0)) := by
                refine ⟨?_, ?_⟩ <;> (repeat (first | rw [if_pos (by assumption)] | rw [if_neg (by assumption)] | rw [if_neg (Int32.not_lt.mpr (by assumption))] | rw [if_pos (Int32.not_le.mp (by assumption))])) <;> first | rfl | exact hSL
              exact W.iret (v := 1) hx hb hr (fun t_ ht_ hW_ => ⟨⟨1, SL, rfl, hpost, by rw [ht_]; exact hP, va_K.moved hW_.alike hK, hD⟩, hS.F ht_⟩) hS.2.2 (fk_get fk_cX12_tape_2 4 rfl)
            have hlt : k < 60 := Nat.lt_of_not_le (fun z => c_25 ((nI_leI (a := 60) (b := k) (by omega) (by omega)).mpr z))
            refine lv_aload_n hx hb (fk_get fk_cX12_tape_1 24 rfl) rfl (lv_at hl 1 rfl) ?_
            refine va_get (D := G.1) (ci := 14) (v := .ref (ad 20)) (C := RX12) (T := TX12) (N := 49) hx hb hT inX12 hown hK hP 0 (ix_at (by decide) (cR_0 G ad SL)) rfl 46 (by decide) (hT _ m5_147) (fun _ h9 => h9) rfl (fk_get fk_cX12_tape_1 25 rfl) ?_
            refine lv_bipush (v := 60) hx hb (fk_get fk_cX12_tape_1 26 rfl) (by decide) ?_
            refine lv_iload_n hx hb (fk_get fk_cX12_tape_1 27 rfl) rfl (lv_at hl 2 rfl) ?_
            refine lv_imul hx hb (fk_get fk_cX12_tape_1 28 rfl) ?_
            refine lv_iload hx hb (fk_get fk_cX12_tape_1 29 rfl) (lv_at hl 0 rfl) ?_
            refine lv_iadd hx hb (fk_get fk_cX12_tape_1 30 rfl) ?_
            refine lv_lconst (v := 0) hx hb (fk_get fk_cX12_tape_1 31 rfl) (by decide) ?_
            refine r_last hx hb hK hP hD hS 20 1 (ix_at (by decide) (cR_items G ad SL)) rfl (((60 * t.toNatClampNeg) + k)) (n_add (n_mul (rfl) (et)) (rfl)) (by omega) (by decide) (fk_get fk_cX12_tape_2 0 rfl) (fun H locs hP hD hS => ?_)
            rw [pR_L G ad SL (by decide) (by decide) (cR_items G ad SL) (vp_updL (fL SL 20) (((60 * t.toNatClampNeg) + k)) (0))] at hP hD
            refine lv_iinc (v := (nI (k + 1))) (lv' := [(4, .int ((nI (k + 1)))), (0, .ref (ad 0)), (1, .int (t)), (2, .int (sort)), (3, .int (n))]) hx hb (fk_get fk_cX12_tape_2 1 rfl) hl (k := 0) rfl ((nI_1 k)) (by decide) rfl (fun ls hl => ?_)
            refine lv_goto (tgt := 93) hx hb (fk_get fk_cX12_tape_2 2 rfl) (by decide) ?_
            exact ih (k + 1) (setL SL 20 (vp_updL (fL SL 20) (((60 * t.toNatClampNeg) + k)) (0))) _ _ ls (by omega) (by omega) (by rw [hSL]; exact zr_step _ _ _ k) hP hD hS (lv_sub hl [0, 1, 2, 3, 4] rfl)
        exact lp_21 (61) (0) (setA (setA (setA (setF S 0 8 (0)) 22 (upd (fA (setF S 0 8 (0)) 22) (t.toNatClampNeg) (1))) 18 (upd (fA (setA (setF S 0 8 (0)) 22 (upd (fA (setF S 0 8 (0)) 22) (t.toNatClampNeg) (1))) 18) (t.toNatClampNeg) (sort))) 19 (upd (fA (setA (setA (setF S 0 8 (0)) 22 (upd (fA (setF S 0 8 (0)) 22) (t.toNatClampNeg) (1))) 18 (upd (fA (setA (setF S 0 8 (0)) 22 (upd (fA (setF S 0 8 (0)) 22) (t.toNatClampNeg) (1))) 18) (t.toNatClampNeg) (sort))) 19) (t.toNatClampNeg) (n))) _ _ ls (by omega) (by omega) (zr_0 _ _) hP hD hS (lv_sub hl [0, 1, 2, 3, 4] rfl)
      refine lv_bipush (v := (-14)) hx hb (fk_get fk_cX12_tape_0 26 rfl) (by decide) ?_
      subst hQ
      have hpost : ((-14) : Int32) = (if (0 ≤ t ∧ t ≤ 5) then if -1 ≤ sort ∧ sort ≤ 4 then if sort < 0 then 1 else if n ≤ 60 then if n < 0 then -14 else 1 else -2 else -2 else -1) ∧ (setF S 0 8 (0)) = (if (0 ≤ t ∧ t ≤ 5) then if -1 ≤ sort ∧ sort ≤ 4 then if sort < 0 then (setL (setA (setA (setA (setF S 0 8 0) 22 (upd (fA S 22) t.toNatClampNeg 0)) 18 (upd (fA S 18) t.toNatClampNeg sort)) 19 (upd (fA S 19) t.toNatClampNeg 0)) 20 (zr (fL S 20) t.toNatClampNeg 60)) else if n ≤ 60 then if n < 0 then (setF S 0 8 0) else (setL (setA (setA (setA (setF S 0 8 0) 22 (upd (fA S 22) t.toNatClampNeg 1)) 18 (upd (fA S 18) t.toNatClampNeg sort)) 19 (upd (fA S 19) t.toNatClampNeg n)) 20 (zr (fL S 20) t.toNatClampNeg 60)) else (setF S 0 8 0) else (setF S 0 8 0) else (setF S 0 8 0)) := by
        refine ⟨?_, ?_⟩ <;> (repeat (first | rw [if_pos (by assumption)] | rw [if_neg (by assumption)] | rw [if_neg (Int32.not_lt.mpr (by assumption))] | rw [if_pos (Int32.not_le.mp (by assumption))])) <;> first | rfl | exact hSL
      exact W.iret (v := (-14)) hx hb hr (fun t_ ht_ hW_ => ⟨⟨(-14), (setF S 0 8 (0)), rfl, hpost, by rw [ht_]; exact hP, va_K.moved hW_.alike hK, hD⟩, hS.F ht_⟩) hS.2.2 (fk_get fk_cX12_tape_0 27 rfl)
    refine lv_bipush (v := (-2)) hx hb (fk_get fk_cX12_tape_0 20 rfl) (by decide) ?_
    subst hQ
    have hpost : ((-2) : Int32) = (if (0 ≤ t ∧ t ≤ 5) then if -1 ≤ sort ∧ sort ≤ 4 then if sort < 0 then 1 else if n ≤ 60 then if n < 0 then -14 else 1 else -2 else -2 else -1) ∧ (setF S 0 8 (0)) = (if (0 ≤ t ∧ t ≤ 5) then if -1 ≤ sort ∧ sort ≤ 4 then if sort < 0 then (setL (setA (setA (setA (setF S 0 8 0) 22 (upd (fA S 22) t.toNatClampNeg 0)) 18 (upd (fA S 18) t.toNatClampNeg sort)) 19 (upd (fA S 19) t.toNatClampNeg 0)) 20 (zr (fL S 20) t.toNatClampNeg 60)) else if n ≤ 60 then if n < 0 then (setF S 0 8 0) else (setL (setA (setA (setA (setF S 0 8 0) 22 (upd (fA S 22) t.toNatClampNeg 1)) 18 (upd (fA S 18) t.toNatClampNeg sort)) 19 (upd (fA S 19) t.toNatClampNeg n)) 20 (zr (fL S 20) t.toNatClampNeg 60)) else (setF S 0 8 0) else (setF S 0 8 0) else (setF S 0 8 0)) := by
      refine ⟨?_, ?_⟩ <;> (repeat (first | rw [if_pos (by assumption)] | rw [if_neg (by assumption)] | rw [if_neg (Int32.not_lt.mpr (by assumption))] | rw [if_pos (Int32.not_le.mp (by assumption))])) <;> first | rfl | exact hSL
    exact W.iret (v := (-2)) hx hb hr (fun t_ ht_ hW_ => ⟨⟨(-2), (setF S 0 8 (0)), rfl, hpost, by rw [ht_]; exact hP, va_K.moved hW_.alike hK, hD⟩, hS.F ht_⟩) hS.2.2 (fk_get fk_cX12_tape_0 21 rfl)
  have p_c_3 := if1_f hw_2 c_3
  refine lv_iconst (v := (-1)) hx hb (fk_get fk_cX12_tape_0 7 rfl) (by decide) ?_
  subst hQ
  have hpost : ((-1) : Int32) = (if (0 ≤ t ∧ t ≤ 5) then if -1 ≤ sort ∧ sort ≤ 4 then if sort < 0 then 1 else if n ≤ 60 then if n < 0 then -14 else 1 else -2 else -2 else -1) ∧ (setF S 0 8 (0)) = (if (0 ≤ t ∧ t ≤ 5) then if -1 ≤ sort ∧ sort ≤ 4 then if sort < 0 then (setL (setA (setA (setA (setF S 0 8 0) 22 (upd (fA S 22) t.toNatClampNeg 0)) 18 (upd (fA S 18) t.toNatClampNeg sort)) 19 (upd (fA S 19) t.toNatClampNeg 0)) 20 (zr (fL S 20) t.toNatClampNeg 60)) else if n ≤ 60 then if n < 0 then (setF S 0 8 0) else (setL (setA (setA (setA (setF S 0 8 0) 22 (upd (fA S 22) t.toNatClampNeg 1)) 18 (upd (fA S 18) t.toNatClampNeg sort)) 19 (upd (fA S 19) t.toNatClampNeg n)) 20 (zr (fL S 20) t.toNatClampNeg 60)) else (setF S 0 8 0) else (setF S 0 8 0) else (setF S 0 8 0)) := by
    refine ⟨?_, ?_⟩ <;> (repeat (first | rw [if_pos (by assumption)] | rw [if_neg (by assumption)] | rw [if_neg (Int32.not_lt.mpr (by assumption))] | rw [if_pos (Int32.not_le.mp (by assumption))])) <;> first | rfl | exact hSL
  exact W.iret (v := (-1)) hx hb hr (fun t_ ht_ hW_ => ⟨⟨(-1), (setF S 0 8 (0)), rfl, hpost, by rw [ht_]; exact hP, va_K.moved hW_.alike hK, hD⟩, hS.F ht_⟩) hS.2.2 (fk_get fk_cX12_tape_0 8 rfl)
set_option maxHeartbeats 4000000 in
set_option maxRecDepth 100000 in
theorem c_narrowed (l : Launch) (v : Int64) (sort : Int32) : Met l yX12_narrowed (Cond.code yX12_narrowed cX12_narrowed 3 (some .long) :: TBL) ({ frames := 2, cells := 0, slots := 0, locals := 64 } : Room) (PcN [.long (v), .int (sort)]) (vp_Sl (fun (r : Int64) => r = nrw v sort)) 0 0 (fun _ => False) := by
  refine Met.ofW (cc := cX12_narrowed) (maxL := 3) (ret := (some .long)) (by decide) rfl ?_
  intro p e s m args below meth c₀ s₁ B hml hv
  obtain ⟨rfl, -⟩ := hv
  have hx := B.exec
  have hb := B.bytes
  have hr := B.returns
  have hT : ∀ w ∈ TBL, w.before ([.long (v), .int (sort)] : List Value).toArray s = true := fun w h => atoms_spec (ws := Cond.code yX12_narrowed cX12_narrowed 3 (some .long) :: TBL) B.pre w (List.mem_cons_of_mem _ h)
  have hown : s.vm.findClass "LittleMoreModel" = some m.cls := findClass_of_methodNamed B.named
  have hlocks := B.notSynchronized
  have hl := lv_entry ([.long (v), .int (sort)]) (n := 3) (Nat.le_of_ble_eq_true rfl)
  rw [lg_entry_eq]
  generalize (lg_sl ([.long (v), .int (sort)]) ++ List.replicate (3 - (lg_sl ([.long (v), .int (sort)])).length) Slot.unset).toArray = ls at hl ⊢
  have hl : lv_has ls 3 [(0, .long (v)), (2, .int (sort))] := hl
  refine W_abs (fun Q hQ => ?_)
  generalize ([.long (v), .int (sort)] : List Value).toArray = args at hT hQ ⊢
  refine lv_iload_n hx hb (fk_get fk_cX12_narrowed_0 0 rfl) rfl (lv_at hl 1 rfl) ?_
  by_cases c_1 : sort = (0 : Int32)
  · refine lv_tableIn (off := 31) (tgt := 32) hx hb (dk_get dk_cX12_narrowed_0 0 rfl) (by rw [c_1]; decide) (by rw [c_1]; decide) (by rw [c_1]; rfl) (by decide) ?_
    refine lv_lload_n hx hb (fk_get fk_cX12_narrowed_0 1 rfl) rfl (lv_at hl 0 rfl) ?_
    refine lv_l2i hx hb (fk_get fk_cX12_narrowed_0 2 rfl) rfl ?_
    refine lv_i2b hx hb (fk_get fk_cX12_narrowed_0 3 rfl) rfl ?_
    refine lv_i2l hx hb (fk_get fk_cX12_narrowed_0 4 rfl) rfl ?_
    subst hQ
    have hpost : ((((v).toInt32).toInt8.toInt32).toInt64 : Int64) = nrw v sort := by
      unfold nrw
      (repeat (first | rw [if_pos (by assumption)] | rw [if_neg (by assumption)])) <;> rfl
    exact W.lret (v := (((v).toInt32).toInt8.toInt32).toInt64) hx hb hr (fun t_ ht_ hW_ => ⟨(((v).toInt32).toInt8.toInt32).toInt64, rfl, hpost, ht_⟩) (fun q h => by cases h) (fk_get fk_cX12_narrowed_0 5 rfl)
  by_cases c_2 : sort = (1 : Int32)
  · refine lv_tableIn (off := 36) (tgt := 37) hx hb (dk_get dk_cX12_narrowed_0 0 rfl) (by rw [c_2]; decide) (by rw [c_2]; decide) (by rw [c_2]; rfl) (by decide) ?_
    refine lv_lload_n hx hb (fk_get fk_cX12_narrowed_0 6 rfl) rfl (lv_at hl 0 rfl) ?_
    refine lv_l2i hx hb (fk_get fk_cX12_narrowed_0 7 rfl) rfl ?_
    refine lv_i2s hx hb (fk_get fk_cX12_narrowed_0 8 rfl) rfl ?_
    refine lv_i2l hx hb (fk_get fk_cX12_narrowed_0 9 rfl) rfl ?_
    subst hQ
    have hpost : ((((v).toInt32).toInt16.toInt32).toInt64 : Int64) = nrw v sort := by
      unfold nrw
      (repeat (first | rw [if_pos (by assumption)] | rw [if_neg (by assumption)])) <;> rfl
    exact W.lret (v := (((v).toInt32).toInt16.toInt32).toInt64) hx hb hr (fun t_ ht_ hW_ => ⟨(((v).toInt32).toInt16.toInt32).toInt64, rfl, hpost, ht_⟩) (fun q h => by cases h) (fk_get fk_cX12_narrowed_0 10 rfl)
  by_cases c_3 : sort = (2 : Int32)
  · refine lv_tableIn (off := 41) (tgt := 42) hx hb (dk_get dk_cX12_narrowed_0 0 rfl) (by rw [c_3]; decide) (by rw [c_3]; decide) (by rw [c_3]; rfl) (by decide) ?_
    refine lv_lload_n hx hb (fk_get fk_cX12_narrowed_0 11 rfl) rfl (lv_at hl 0 rfl) ?_
    refine lv_l2i hx hb (fk_get fk_cX12_narrowed_0 12 rfl) rfl ?_
    refine lv_i2l hx hb (fk_get fk_cX12_narrowed_0 13 rfl) rfl ?_
    subst hQ
    have hpost : (((v).toInt32).toInt64 : Int64) = nrw v sort := by
      unfold nrw
      (repeat (first | rw [if_pos (by assumption)] | rw [if_neg (by assumption)])) <;> rfl
    exact W.lret (v := ((v).toInt32).toInt64) hx hb hr (fun t_ ht_ hW_ => ⟨((v).toInt32).toInt64, rfl, hpost, ht_⟩) (fun q h => by cases h) (fk_get fk_cX12_narrowed_0 14 rfl)
  by_cases c_4 : sort = (3 : Int32)
  · refine lv_tableIn (off := 45) (tgt := 46) hx hb (dk_get dk_cX12_narrowed_0 0 rfl) (by rw [c_4]; decide) (by rw [c_4]; decide) (by rw [c_4]; rfl) (by decide) ?_
    refine lv_lload_n hx hb (fk_get fk_cX12_narrowed_0 15 rfl) rfl (lv_at hl 0 rfl) ?_
    subst hQ
    have hpost : (v : Int64) = nrw v sort := by
      unfold nrw
      (repeat (first | rw [if_pos (by assumption)] | rw [if_neg (by assumption)])) <;> rfl
    exact W.lret (v := v) hx hb hr (fun t_ ht_ hW_ => ⟨v, rfl, hpost, ht_⟩) (fun q h => by cases h) (fk_get fk_cX12_narrowed_0 16 rfl)
  have o_5 : (sort).toInt < 0 ∨ 3 < (sort).toInt := by
    have qc_1 : ¬ (sort).toInt = 0 := lv_neT c_1 (by decide)
    have qc_2 : ¬ (sort).toInt = 1 := lv_neT c_2 (by decide)
    have qc_3 : ¬ (sort).toInt = 2 := lv_neT c_3 (by decide)
    have qc_4 : ¬ (sort).toInt = 3 := lv_neT c_4 (by decide)
    omega
  refine lv_tableOut (tgt := 48) hx hb (dk_get dk_cX12_narrowed_0 0 rfl) o_5 (by decide) ?_
  refine lv_lload_n hx hb (fk_get fk_cX12_narrowed_0 17 rfl) rfl (lv_at hl 0 rfl) ?_
  refine lv_lconst (v := 0) hx hb (fk_get fk_cX12_narrowed_0 18 rfl) (by decide) ?_
  refine W.lcmp hx hb (fk_get fk_cX12_narrowed_0 19 rfl) ?_
  refine lv_if_ne (tgt := 58) hx hb (fk_get fk_cX12_narrowed_0 20 rfl) (by decide) (fun c_6 => ?_) (fun c_6 => ?_)
  · have e_ := lc_ne c_6
    refine lv_lconst (v := 1) hx hb (fk_get fk_cX12_narrowed_0 23 rfl) (by decide) ?_
    subst hQ
    have hpost : (1 : Int64) = nrw v sort := by
      unfold nrw
      (repeat (first | rw [if_pos (by assumption)] | rw [if_neg (by assumption)])) <;> rfl
    exact W.lret (v := 1) hx hb hr (fun t_ ht_ hW_ => ⟨1, rfl, hpost, ht_⟩) (fun q h => by cases h) (fk_get fk_cX12_narrowed_0 24 rfl)
  have e_ := lc_eq c_6
  refine lv_lconst (v := 0) hx hb (fk_get fk_cX12_narrowed_0 21 rfl) (by decide) ?_
  refine lv_goto (tgt := 59) hx hb (fk_get fk_cX12_narrowed_0 22 rfl) (by decide) ?_
  subst hQ
  have hpost : (0 : Int64) = nrw v sort := by
    unfold nrw
    (repeat (first | rw [if_pos (by assumption)] | rw [if_neg (by assumption)])) <;> rfl
  exact W.lret (v := 0) hx hb hr (fun t_ ht_ hW_ => ⟨0, rfl, hpost, ht_⟩) (fun q h => by cases h) (fk_get fk_cX12_narrowed_0 24 rfl)
set_option maxHeartbeats 4000000 in
set_option maxRecDepth 100000 in
theorem c_item (l : Launch) (G : GG) (ad : Nat → Nat) (S : FS) (sz : Nat) (t i : Int32) (v : Int64) (hTP : TPok S) : Met l yX12_item (Cond.code yX12_item cX12_item 5 (some .int) :: TBL) ({ frames := 4, cells := 0, slots := 0, locals := 118 } : Room) (PcW G (wR G ad S) sz [.ref (ad 0), .int (t), .int (i), .long (v)]) (va_Qi (fun (r : Int32) (S' : FS) => r = (if (0 ≤ t ∧ t ≤ 5) then if fA S 22 t.toNatClampNeg = 0 then -11 else if (0 ≤ i ∧ i ≤ fA S 19 t.toNatClampNeg - 1) then 1 else -13 else -1) ∧ S' = (if (0 ≤ t ∧ t ≤ 5) then if fA S 22 t.toNatClampNeg = 0 then (setF S 0 8 0) else if (0 ≤ i ∧ i ≤ fA S 19 t.toNatClampNeg - 1) then setL (setF S 0 8 0) 20 (vp_updL (fL S 20) (60 * t.toNatClampNeg + i.toNatClampNeg) (nrw v (fA S 18 t.toNatClampNeg))) else (setF S 0 8 0) else (setF S 0 8 0))) (fun S' t => BW G (va_A (wR G ad S) sz) (wR G ad S') t) (va_A (wR G ad S) sz)) 0 0 (va_A (wR G ad S) sz) := by
  refine Met.ofW (cc := cX12_item) (maxL := 5) (ret := (some .int)) (by decide) rfl ?_
  intro p e s m args below meth c₀ s₁ B hml hv
  obtain ⟨rfl, hsz, hP, hK, hD0⟩ := hv
  have hx := B.exec
  have hb := B.bytes
  have hr := B.returns
  have hT : ∀ w ∈ TBL, w.before ([.ref (ad 0), .int (t), .int (i), .long (v)] : List Value).toArray s = true := fun w h => atoms_spec (ws := Cond.code yX12_item cX12_item 5 (some .int) :: TBL) B.pre w (List.mem_cons_of_mem _ h)
  have hown : s.vm.findClass "LittleMoreModel" = some m.cls := findClass_of_methodNamed B.named
  have hlocks := B.notSynchronized
  subst hsz
  have hD := hD0.self (sz := s.heap.size)
  generalize hAe : va_A (wR G ad S) s.heap.size = A at hD ⊢
  have hA : ∀ q : Nat, s.heap.size ≤ q → A q := fun q h => by rw [← hAe]; exact Or.inr h
  have hS : va_S A s.heap s.heap [] := va_S.rf
  have hP : va_P G.1 vwCl (wR G ad S) s.heap := hP
  have hl := lv_entry ([.ref (ad 0), .int (t), .int (i), .long (v)]) (n := 5) (Nat.le_of_ble_eq_true rfl)
  rw [lg_entry_eq]
  generalize (lg_sl ([.ref (ad 0), .int (t), .int (i), .long (v)]) ++ List.replicate (5 - (lg_sl ([.ref (ad 0), .int (t), .int (i), .long (v)])).length) Slot.unset).toArray = ls at hl ⊢
  have hl : lv_has ls 5 [(0, .ref (ad 0)), (1, .int (t)), (2, .int (i)), (3, .long (v))] := hl
  refine W_abs (fun Q hQ => ?_)
  generalize ([.ref (ad 0), .int (t), .int (i), .long (v)] : List Value).toArray = args at hT hQ ⊢
  refine lv_aload_n hx hb (fk_get fk_cX12_item_0 0 rfl) rfl (lv_at hl 0 rfl) ?_
  refine lv_iconst (v := 0) hx hb (fk_get fk_cX12_item_0 1 rfl) (by decide) ?_
  refine va_put (D := G.1) (ci := 14) (v := .int (0)) (ty := .int) (C := RX12) (T := TX12) (N := 49) hx hb hT inX12 tyX12 tyX12_ok nmX12 hown hK hP hD hS 0 (ix_at (by decide) (cR_0 G ad S)) rfl 8 (by decide) (hT _ m5_109) (fun _ h9 => h9) rfl (by decide +kernel) rfl rfl (Nat.le_of_ble_eq_true rfl) (fk_get fk_cX12_item_0 2 rfl) (fun H locs hP hD hS => ?_)
  rw [pR_thrown G ad S (0)] at hP hD
  refine lv_aload_n hx hb (fk_get fk_cX12_item_0 3 rfl) rfl (lv_at hl 0 rfl) ?_
  refine lv_iload_n hx hb (fk_get fk_cX12_item_0 4 rfl) rfl (lv_at hl 1 rfl) ?_
  refine vp_callSi (W.runV (As := [.int (t)]) (rest := []) ⟨hx, hb, hml, hown, hT⟩ (c_isTape l G ad (setF S 0 8 (0)) H.size (t) ) (tV 1 hT m7_155 m7_157 mp_70 m1_17 m7_158 rfl rfl (by decide +kernel) ⟨Nat.le_of_ble_eq_true rfl, Nat.le_of_ble_eq_true rfl⟩) ⟨PcW_blind, va_recv hK hP (ci := 14) (q0 := 0) rfl (ix_at (by decide) (cR_0 G ad (setF S 0 8 (0)))), PcW_of hP hK hD _⟩ rfl rfl hl.1 rfl (lv_room (Nat.le_of_ble_eq_true rfl)) (fk_get fk_cX12_item_0 5 rfl) ⟨Nat.zero_le _, Nat.zero_le _⟩) (fun r_1 hw_2 => ?_)
  try dsimp only at hw_2
  refine lv_if_ne (tgt := 15) hx hb (fk_get fk_cX12_item_0 6 rfl) (by decide) (fun c_3 => ?_) (fun c_3 => ?_)
  · have p_c_3 := if1_t hw_2 c_3
    obtain ⟨ht5, et⟩ := in_n (b := 5) p_c_3 (by decide)
    refine lv_aload_n hx hb (fk_get fk_cX12_item_0 9 rfl) rfl (lv_at hl 0 rfl) ?_
    refine va_get (D := G.1) (ci := 14) (v := .ref (ad 22)) (C := RX12) (T := TX12) (N := 49) hx hb hT inX12 hown hK hP 0 (ix_at (by decide) (cR_0 G ad (setF S 0 8 (0)))) rfl 48 (by decide) (hT _ m5_149) (fun _ h9 => h9) rfl (fk_get fk_cX12_item_0 10 rfl) ?_
    refine lv_iload_n hx hb (fk_get fk_cX12_item_0 11 rfl) rfl (lv_at hl 1 rfl) ?_
    refine r_zald hx hb hK hP 22 3 (ix_at (by decide) (cR_holdsRow G ad (setF S 0 8 (0)))) rfl (t.toNatClampNeg) (et) (by omega) (by decide) (fk_get fk_cX12_item_0 12 rfl) ?_
    refine lv_if_ne (tgt := 27) hx hb (fk_get fk_cX12_item_0 13 rfl) (by decide) (fun c_4 => ?_) (fun c_4 => ?_)
    · refine lv_iload_n hx hb (fk_get fk_cX12_item_0 16 rfl) rfl (lv_at hl 2 rfl) ?_
      refine lv_i2l hx hb (fk_get fk_cX12_item_0 17 rfl) rfl ?_
      refine lv_lconst (v := 0) hx hb (fk_get fk_cX12_item_0 18 rfl) (by decide) ?_
      refine lv_aload_n hx hb (fk_get fk_cX12_item_0 19 rfl) rfl (lv_at hl 0 rfl) ?_
      refine va_get (D := G.1) (ci := 14) (v := .ref (ad 19)) (C := RX12) (T := TX12) (N := 49) hx hb hT inX12 hown hK hP 0 (ix_at (by decide) (cR_0 G ad (setF S 0 8 (0)))) rfl 45 (by decide) (hT _ m5_146) (fun _ h9 => h9) rfl (fk_get fk_cX12_item_0 20 rfl) ?_
      refine lv_iload_n hx hb (fk_get fk_cX12_item_0 21 rfl) rfl (lv_at hl 1 rfl) ?_
      refine r_iald hx hb hK hP 19 0 (ix_at (by decide) (cR_manyOf G ad (setF S 0 8 (0)))) rfl (t.toNatClampNeg) (et) (by omega) (by decide) (fk_get fk_cX12_item_0 22 rfl) ?_
      refine lv_iconst (v := 1) hx hb (fk_get fk_cX12_item_0 23 rfl) (by decide) ?_
      refine lv_isub hx hb (fk_get fk_cX12_item_0 24 rfl) ?_
      refine lv_i2l hx hb (fk_get fk_cX12_item_0 25 rfl) rfl ?_
      refine vp_callSi (W.runS (As := [.long ((i).toInt64), .long (0), .long ((((fA S 19 (t.toNatClampNeg)) - 1)).toInt64)]) (rest := []) ⟨hx, hb, hml, hown, hT⟩ (c_in l ((i).toInt64) (0) ((((fA S 19 (t.toNatClampNeg)) - 1)).toInt64) ) (tS 3 hT m6_31 m6_32 m1_17 m6_33 rfl rfl (by decide +kernel) ⟨Nat.le_of_ble_eq_true rfl, Nat.le_of_ble_eq_true rfl⟩) ⟨PcN_blind, PcN_of _ _ _⟩ rfl rfl hl.1 rfl (lv_room (Nat.le_of_ble_eq_true rfl)) (fk_get fk_cX12_item_0 26 rfl) ⟨Nat.zero_le _, Nat.zero_le _⟩) (fun r_5 hw_6 => ?_)
      try dsimp only at hw_6
      have hw_6 := in_eq hw_6 (i) 0 (((fA S 19 (t.toNatClampNeg)) - 1)) (rfl) (by decide) (rfl)
      refine lv_if_ne (tgt := 48) hx hb (fk_get fk_cX12_item_0 27 rfl) (by decide) (fun c_7 => ?_) (fun c_7 => ?_)
      · have p_c_7 := if1_t hw_6 c_7
        obtain ⟨hi60, ei⟩ := tp_ix hTP (t := t.toNatClampNeg) (by omega) p_c_7
        refine lv_aload_n hx hb (fk_get fk_cX12_item_0 30 rfl) rfl (lv_at hl 0 rfl) ?_
        refine va_get (D := G.1) (ci := 14) (v := .ref (ad 20)) (C := RX12) (T := TX12) (N := 49) hx hb hT inX12 hown hK hP 0 (ix_at (by decide) (cR_0 G ad (setF S 0 8 (0)))) rfl 46 (by decide) (hT _ m5_147) (fun _ h9 => h9) rfl (fk_get fk_cX12_item_0 31 rfl) ?_
        refine lv_bipush (v := 60) hx hb (fk_get fk_cX12_item_1 0 rfl) (by decide) ?_
        refine lv_iload_n hx hb (fk_get fk_cX12_item_1 1 rfl) rfl (lv_at hl 1 rfl) ?_
        refine lv_imul hx hb (fk_get fk_cX12_item_1 2 rfl) ?_
        refine lv_iload_n hx hb (fk_get fk_cX12_item_1 3 rfl) rfl (lv_at hl 2 rfl) ?_
        refine lv_iadd hx hb (fk_get fk_cX12_item_1 4 rfl) ?_
        refine lv_lload_n hx hb (fk_get fk_cX12_item_1 5 rfl) rfl (lv_at hl 3 rfl) ?_
        refine lv_aload_n hx hb (fk_get fk_cX12_item_1 6 rfl) rfl (lv_at hl 0 rfl) ?_
        refine va_get (D := G.1) (ci := 14) (v := .ref (ad 18)) (C := RX12) (T := TX12) (N := 49) hx hb hT inX12 hown hK hP 0 (ix_at (by decide) (cR_0 G ad (setF S 0 8 (0)))) rfl 44 (by decide) (hT _ m5_145) (fun _ h9 => h9) rfl (fk_get fk_cX12_item_1 7 rfl) ?_
        refine lv_iload_n hx hb (fk_get fk_cX12_item_1 8 rfl) rfl (lv_at hl 1 rfl) ?_
        refine r_iald hx hb hK hP 18 0 (ix_at (by decide) (cR_sortOf G ad (setF S 0 8 (0)))) rfl (t.toNatClampNeg) (et) (by omega) (by decide) (fk_get fk_cX12_item_1 9 rfl) ?_
        refine vp_callSl (W.runS (As := [.long (v), .int ((fA S 18 (t.toNatClampNeg)))]) (rest := [.int (((60 * t) + i)), .ref (ad 20)]) ⟨hx, hb, hml, hown, hT⟩ (c_narrowed l (v) ((fA S 18 (t.toNatClampNeg))) ) (tS 2 hT m7_165 m7_166 m1_17 m7_167 rfl rfl (by decide +kernel) ⟨Nat.le_of_ble_eq_true rfl, Nat.le_of_ble_eq_true rfl⟩) ⟨PcN_blind, PcN_of _ _ _⟩ rfl rfl hl.1 rfl (lv_room (Nat.le_of_ble_eq_true rfl)) (fk_get fk_cX12_item_1 10 rfl) ⟨Nat.zero_le _, Nat.zero_le _⟩) (fun r_8 hw_9 => ?_)
        try dsimp only at hw_9
        subst hw_9
        refine r_last hx hb hK hP hD hS 20 1 (ix_at (by decide) (cR_items G ad (setF S 0 8 (0)))) rfl (((60 * t.toNatClampNeg) + i.toNatClampNeg)) (n_add (n_mul (rfl) (et)) (ei)) (by omega) (by decide) (fk_get fk_cX12_item_1 11 rfl) (fun H locs hP hD hS => ?_)
        rw [pR_L G ad (setF S 0 8 (0)) (by decide) (by decide) (cR_items G ad (setF S 0 8 (0))) (vp_updL (fL (setF S 0 8 (0)) 20) (((60 * t.toNatClampNeg) + i.toNatClampNeg)) (nrw v (fA S 18 t.toNatClampNeg)))] at hP hD
        refine lv_iconst (v := 1) hx hb (fk_get fk_cX12_item_1 12 rfl) (by decide) ?_
        subst hQ
        have hpost : (1 : Int32) = (if (0 ≤ t ∧ t ≤ 5) then if fA S 22 t.toNatClampNeg = 0 then -11 else if (0 ≤ i ∧ i ≤ fA S 19 t.toNatClampNeg - 1) then 1 else -13 else -1) ∧ (setL (setF S 0 8 (0)) 20 (vp_updL (fL (setF S 0 8 (0)) 20) (((60 * t.toNatClampNeg) + i.toNatClampNeg)) (nrw v (fA S 18 t.toNatClampNeg)))) = (if (0 ≤ t ∧ t ≤ 5) then if fA S 22 t.toNatClampNeg = 0 then (setF S 0 8 0) else if (0 ≤ i ∧ i ≤ fA S 19 t.toNatClampNeg - 1) then setL (setF S 0 8 0) 20 (vp_updL (fL S 20) (60 * t.toNatClampNeg + i.toNatClampNeg) (nrw v (fA S 18 t.toNatClampNeg))) else (setF S 0 8 0) else (setF S 0 8 0)) := by
          refine ⟨?_, ?_⟩ <;> (repeat (first | rw [if_pos (by assumption)] | rw [if_neg (by assumption)])) <;> first | rfl | assumption
        exact W.iret (v := 1) hx hb hr (fun t_ ht_ hW_ => ⟨⟨1, (setL (setF S 0 8 (0)) 20 (vp_updL (fL (setF S 0 8 (0)) 20) (((60 * t.toNatClampNeg) + i.toNatClampNeg)) (nrw v (fA S 18 t.toNatClampNeg)))), rfl, hpost, by rw [ht_]; exact hP, va_K.moved hW_.alike hK, hD⟩, hS.F ht_⟩) hS.2.2 (fk_get fk_cX12_item_1 13 rfl)
      have p_c_7 := if1_f hw_6 c_7
      refine lv_bipush (v := (-13)) hx hb (fk_get fk_cX12_item_0 28 rfl) (by decide) ?_
      subst hQ
      have hpost : ((-13) : Int32) = (if (0 ≤ t ∧ t ≤ 5) then if fA S 22 t.toNatClampNeg = 0 then -11 else if (0 ≤ i ∧ i ≤ fA S 19 t.toNatClampNeg - 1) then 1 else -13 else -1) ∧ (setF S 0 8 (0)) = (if (0 ≤ t ∧ t ≤ 5) then if fA S 22 t.toNatClampNeg = 0 then (setF S 0 8 0) else if (0 ≤ i ∧ i ≤ fA S 19 t.toNatClampNeg - 1) then setL (setF S 0 8 0) 20 (vp_updL (fL S 20) (60 * t.toNatClampNeg + i.toNatClampNeg) (nrw v (fA S 18 t.toNatClampNeg))) else (setF S 0 8 0) else (setF S 0 8 0)) := by
        refine ⟨?_, ?_⟩ <;> (repeat (first | rw [if_pos (by assumption)] | rw [if_neg (by assumption)])) <;> first | rfl | assumption
      exact W.iret (v := (-13)) hx hb hr (fun t_ ht_ hW_ => ⟨⟨(-13), (setF S 0 8 (0)), rfl, hpost, by rw [ht_]; exact hP, va_K.moved hW_.alike hK, hD⟩, hS.F ht_⟩) hS.2.2 (fk_get fk_cX12_item_0 29 rfl)
    refine lv_bipush (v := (-11)) hx hb (fk_get fk_cX12_item_0 14 rfl) (by decide) ?_
    subst hQ
    have hpost : ((-11) : Int32) = (if (0 ≤ t ∧ t ≤ 5) then if fA S 22 t.toNatClampNeg = 0 then -11 else if (0 ≤ i ∧ i ≤ fA S 19 t.toNatClampNeg - 1) then 1 else -13 else -1) ∧ (setF S 0 8 (0)) = (if (0 ≤ t ∧ t ≤ 5) then if fA S 22 t.toNatClampNeg = 0 then (setF S 0 8 0) else if (0 ≤ i ∧ i ≤ fA S 19 t.toNatClampNeg - 1) then setL (setF S 0 8 0) 20 (vp_updL (fL S 20) (60 * t.toNatClampNeg + i.toNatClampNeg) (nrw v (fA S 18 t.toNatClampNeg))) else (setF S 0 8 0) else (setF S 0 8 0)) := by
      refine ⟨?_, ?_⟩ <;> (repeat (first | rw [if_pos (by assumption)] | rw [if_neg (by assumption)])) <;> first | rfl | assumption
    exact W.iret (v := (-11)) hx hb hr (fun t_ ht_ hW_ => ⟨⟨(-11), (setF S 0 8 (0)), rfl, hpost, by rw [ht_]; exact hP, va_K.moved hW_.alike hK, hD⟩, hS.F ht_⟩) hS.2.2 (fk_get fk_cX12_item_0 15 rfl)
  have p_c_3 := if1_f hw_2 c_3
  refine lv_iconst (v := (-1)) hx hb (fk_get fk_cX12_item_0 7 rfl) (by decide) ?_
  subst hQ
  have hpost : ((-1) : Int32) = (if (0 ≤ t ∧ t ≤ 5) then if fA S 22 t.toNatClampNeg = 0 then -11 else if (0 ≤ i ∧ i ≤ fA S 19 t.toNatClampNeg - 1) then 1 else -13 else -1) ∧ (setF S 0 8 (0)) = (if (0 ≤ t ∧ t ≤ 5) then if fA S 22 t.toNatClampNeg = 0 then (setF S 0 8 0) else if (0 ≤ i ∧ i ≤ fA S 19 t.toNatClampNeg - 1) then setL (setF S 0 8 0) 20 (vp_updL (fL S 20) (60 * t.toNatClampNeg + i.toNatClampNeg) (nrw v (fA S 18 t.toNatClampNeg))) else (setF S 0 8 0) else (setF S 0 8 0)) := by
    refine ⟨?_, ?_⟩ <;> (repeat (first | rw [if_pos (by assumption)] | rw [if_neg (by assumption)])) <;> first | rfl | assumption
  exact W.iret (v := (-1)) hx hb hr (fun t_ ht_ hW_ => ⟨⟨(-1), (setF S 0 8 (0)), rfl, hpost, by rw [ht_]; exact hP, va_K.moved hW_.alike hK, hD⟩, hS.F ht_⟩) hS.2.2 (fk_get fk_cX12_item_0 8 rfl)
set_option maxHeartbeats 4000000 in
set_option maxRecDepth 100000 in
theorem c_read (l : Launch) (G : GG) (ad : Nat → Nat) (S : FS) (sz : Nat) (t i : Int32) (hTP : TPok S) : Met l yX12_read (Cond.code yX12_read cX12_read 3 (some .long) :: TBL) ({ frames := 4, cells := 0, slots := 0, locals := 118 } : Room) (PcW G (wR G ad S) sz [.ref (ad 0), .int (t), .int (i)]) (va_Ql (fun (r : Int64) (S' : FS) => r = (if (0 ≤ t ∧ t ≤ 5) then if fA S 22 t.toNatClampNeg = 0 then -9223372036854775808 else if (0 ≤ i ∧ i ≤ fA S 19 t.toNatClampNeg - 1) then fL S 20 (60 * t.toNatClampNeg + i.toNatClampNeg) else -9223372036854775808 else -9223372036854775808) ∧ S' = (setF S 0 8 0)) (fun S' t => BW G (va_A (wR G ad S) sz) (wR G ad S') t) (va_A (wR G ad S) sz)) 0 0 (va_A (wR G ad S) sz) := by
  refine Met.ofW (cc := cX12_read) (maxL := 3) (ret := (some .long)) (by decide) rfl ?_
  intro p e s m args below meth c₀ s₁ B hml hv
  obtain ⟨rfl, hsz, hP, hK, hD0⟩ := hv
  have hx := B.exec
  have hb := B.bytes
  have hr := B.returns
  have hT : ∀ w ∈ TBL, w.before ([.ref (ad 0), .int (t), .int (i)] : List Value).toArray s = true := fun w h => atoms_spec (ws := Cond.code yX12_read cX12_read 3 (some .long) :: TBL) B.pre w (List.mem_cons_of_mem _ h)
  have hown : s.vm.findClass "LittleMoreModel" = some m.cls := findClass_of_methodNamed B.named
  have hlocks := B.notSynchronized
  subst hsz
  have hD := hD0.self (sz := s.heap.size)
  generalize hAe : va_A (wR G ad S) s.heap.size = A at hD ⊢
  have hA : ∀ q : Nat, s.heap.size ≤ q → A q := fun q h => by rw [← hAe]; exact Or.inr h
  have hS : va_S A s.heap s.heap [] := va_S.rf
  have hP : va_P G.1 vwCl (wR G ad S) s.heap := hP
  have hl := lv_entry ([.ref (ad 0), .int (t), .int (i)]) (n := 3) (Nat.le_of_ble_eq_true rfl)
  rw [lg_entry_eq]
  generalize (lg_sl ([.ref (ad 0), .int (t), .int (i)]) ++ List.replicate (3 - (lg_sl ([.ref (ad 0), .int (t), .int (i)])).length) Slot.unset).toArray = ls at hl ⊢
  have hl : lv_has ls 3 [(0, .ref (ad 0)), (1, .int (t)), (2, .int (i))] := hl
  refine W_abs (fun Q hQ => ?_)
  generalize ([.ref (ad 0), .int (t), .int (i)] : List Value).toArray = args at hT hQ ⊢
  refine lv_aload_n hx hb (fk_get fk_cX12_read_0 0 rfl) rfl (lv_at hl 0 rfl) ?_
  refine lv_iconst (v := 0) hx hb (fk_get fk_cX12_read_0 1 rfl) (by decide) ?_
  refine va_put (D := G.1) (ci := 14) (v := .int (0)) (ty := .int) (C := RX12) (T := TX12) (N := 49) hx hb hT inX12 tyX12 tyX12_ok nmX12 hown hK hP hD hS 0 (ix_at (by decide) (cR_0 G ad S)) rfl 8 (by decide) (hT _ m5_109) (fun _ h9 => h9) rfl (by decide +kernel) rfl rfl (Nat.le_of_ble_eq_true rfl) (fk_get fk_cX12_read_0 2 rfl) (fun H locs hP hD hS => ?_)
  rw [pR_thrown G ad S (0)] at hP hD
  refine lv_aload_n hx hb (fk_get fk_cX12_read_0 3 rfl) rfl (lv_at hl 0 rfl) ?_
  refine lv_iload_n hx hb (fk_get fk_cX12_read_0 4 rfl) rfl (lv_at hl 1 rfl) ?_
  refine vp_callSi (W.runV (As := [.int (t)]) (rest := []) ⟨hx, hb, hml, hown, hT⟩ (c_isTape l G ad (setF S 0 8 (0)) H.size (t) ) (tV 1 hT m7_155 m7_157 mp_70 m1_17 m7_158 rfl rfl (by decide +kernel) ⟨Nat.le_of_ble_eq_true rfl, Nat.le_of_ble_eq_true rfl⟩) ⟨PcW_blind, va_recv hK hP (ci := 14) (q0 := 0) rfl (ix_at (by decide) (cR_0 G ad (setF S 0 8 (0)))), PcW_of hP hK hD _⟩ rfl rfl hl.1 rfl (lv_room (Nat.le_of_ble_eq_true rfl)) (fk_get fk_cX12_read_0 5 rfl) ⟨Nat.zero_le _, Nat.zero_le _⟩) (fun r_1 hw_2 => ?_)
  try dsimp only at hw_2
  refine lv_if_eq (tgt := 54) hx hb (fk_get fk_cX12_read_0 6 rfl) (by decide) (fun c_3 => ?_) (fun c_3 => ?_)
  · have p_c_3 := if1_f hw_2 c_3
    refine lv_ldc2 (v := (-9223372036854775808)) hx hb hown (hT _ m7_52) (fk_get fk_cX12_read_1 1 rfl) ?_
    subst hQ
    have hpost : ((-9223372036854775808) : Int64) = (if (0 ≤ t ∧ t ≤ 5) then if fA S 22 t.toNatClampNeg = 0 then -9223372036854775808 else if (0 ≤ i ∧ i ≤ fA S 19 t.toNatClampNeg - 1) then fL S 20 (60 * t.toNatClampNeg + i.toNatClampNeg) else -9223372036854775808 else -9223372036854775808) ∧ (setF S 0 8 (0)) = (setF S 0 8 0) := by
      refine ⟨?_, rfl⟩ <;> (repeat (first | rw [if_pos (by assumption)] | rw [if_neg (by assumption)])) <;> first | rfl | assumption
    exact W.lret (v := (-9223372036854775808)) hx hb hr (fun t_ ht_ hW_ => ⟨⟨(-9223372036854775808), (setF S 0 8 (0)), rfl, hpost, by rw [ht_]; exact hP, va_K.moved hW_.alike hK, hD⟩, hS.F ht_⟩) hS.2.2 (fk_get fk_cX12_read_1 2 rfl)
  have p_c_3 := if1_t hw_2 c_3
  obtain ⟨ht5, et⟩ := in_n (b := 5) p_c_3 (by decide)
  refine lv_aload_n hx hb (fk_get fk_cX12_read_0 7 rfl) rfl (lv_at hl 0 rfl) ?_
  refine va_get (D := G.1) (ci := 14) (v := .ref (ad 22)) (C := RX12) (T := TX12) (N := 49) hx hb hT inX12 hown hK hP 0 (ix_at (by decide) (cR_0 G ad (setF S 0 8 (0)))) rfl 48 (by decide) (hT _ m5_149) (fun _ h9 => h9) rfl (fk_get fk_cX12_read_0 8 rfl) ?_
  refine lv_iload_n hx hb (fk_get fk_cX12_read_0 9 rfl) rfl (lv_at hl 1 rfl) ?_
  refine r_zald hx hb hK hP 22 3 (ix_at (by decide) (cR_holdsRow G ad (setF S 0 8 (0)))) rfl (t.toNatClampNeg) (et) (by omega) (by decide) (fk_get fk_cX12_read_0 10 rfl) ?_
  refine lv_if_eq (tgt := 54) hx hb (fk_get fk_cX12_read_0 11 rfl) (by decide) (fun c_4 => ?_) (fun c_4 => ?_)
  · refine lv_ldc2 (v := (-9223372036854775808)) hx hb hown (hT _ m7_52) (fk_get fk_cX12_read_1 1 rfl) ?_
    subst hQ
    have hpost : ((-9223372036854775808) : Int64) = (if (0 ≤ t ∧ t ≤ 5) then if fA S 22 t.toNatClampNeg = 0 then -9223372036854775808 else if (0 ≤ i ∧ i ≤ fA S 19 t.toNatClampNeg - 1) then fL S 20 (60 * t.toNatClampNeg + i.toNatClampNeg) else -9223372036854775808 else -9223372036854775808) ∧ (setF S 0 8 (0)) = (setF S 0 8 0) := by
      refine ⟨?_, rfl⟩ <;> (repeat (first | rw [if_pos (by assumption)] | rw [if_neg (by assumption)])) <;> first | rfl | assumption
    exact W.lret (v := (-9223372036854775808)) hx hb hr (fun t_ ht_ hW_ => ⟨⟨(-9223372036854775808), (setF S 0 8 (0)), rfl, hpost, by rw [ht_]; exact hP, va_K.moved hW_.alike hK, hD⟩, hS.F ht_⟩) hS.2.2 (fk_get fk_cX12_read_1 2 rfl)
  refine lv_iload_n hx hb (fk_get fk_cX12_read_0 12 rfl) rfl (lv_at hl 2 rfl) ?_
  refine lv_i2l hx hb (fk_get fk_cX12_read_0 13 rfl) rfl ?_
  refine lv_lconst (v := 0) hx hb (fk_get fk_cX12_read_0 14 rfl) (by decide) ?_
  refine lv_aload_n hx hb (fk_get fk_cX12_read_0 15 rfl) rfl (lv_at hl 0 rfl) ?_
  refine va_get (D := G.1) (ci := 14) (v := .ref (ad 19)) (C := RX12) (T := TX12) (N := 49) hx hb hT inX12 hown hK hP 0 (ix_at (by decide) (cR_0 G ad (setF S 0 8 (0)))) rfl 45 (by decide) (hT _ m5_146) (fun _ h9 => h9) rfl (fk_get fk_cX12_read_0 16 rfl) ?_
  refine lv_iload_n hx hb (fk_get fk_cX12_read_0 17 rfl) rfl (lv_at hl 1 rfl) ?_
  refine r_iald hx hb hK hP 19 0 (ix_at (by decide) (cR_manyOf G ad (setF S 0 8 (0)))) rfl (t.toNatClampNeg) (et) (by omega) (by decide) (fk_get fk_cX12_read_0 18 rfl) ?_
  refine lv_iconst (v := 1) hx hb (fk_get fk_cX12_read_0 19 rfl) (by decide) ?_
  refine lv_isub hx hb (fk_get fk_cX12_read_0 20 rfl) ?_
  refine lv_i2l hx hb (fk_get fk_cX12_read_0 21 rfl) rfl ?_
  refine vp_callSi (W.runS (As := [.long ((i).toInt64), .long (0), .long ((((fA S 19 (t.toNatClampNeg)) - 1)).toInt64)]) (rest := []) ⟨hx, hb, hml, hown, hT⟩ (c_in l ((i).toInt64) (0) ((((fA S 19 (t.toNatClampNeg)) - 1)).toInt64) ) (tS 3 hT m6_31 m6_32 m1_17 m6_33 rfl rfl (by decide +kernel) ⟨Nat.le_of_ble_eq_true rfl, Nat.le_of_ble_eq_true rfl⟩) ⟨PcN_blind, PcN_of _ _ _⟩ rfl rfl hl.1 rfl (lv_room (Nat.le_of_ble_eq_true rfl)) (fk_get fk_cX12_read_0 22 rfl) ⟨Nat.zero_le _, Nat.zero_le _⟩) (fun r_5 hw_6 => ?_)
  try dsimp only at hw_6
  have hw_6 := in_eq hw_6 (i) 0 (((fA S 19 (t.toNatClampNeg)) - 1)) (rfl) (by decide) (rfl)
  refine lv_if_eq (tgt := 54) hx hb (fk_get fk_cX12_read_0 23 rfl) (by decide) (fun c_7 => ?_) (fun c_7 => ?_)
  · have p_c_7 := if1_f hw_6 c_7
    refine lv_ldc2 (v := (-9223372036854775808)) hx hb hown (hT _ m7_52) (fk_get fk_cX12_read_1 1 rfl) ?_
    subst hQ
    have hpost : ((-9223372036854775808) : Int64) = (if (0 ≤ t ∧ t ≤ 5) then if fA S 22 t.toNatClampNeg = 0 then -9223372036854775808 else if (0 ≤ i ∧ i ≤ fA S 19 t.toNatClampNeg - 1) then fL S 20 (60 * t.toNatClampNeg + i.toNatClampNeg) else -9223372036854775808 else -9223372036854775808) ∧ (setF S 0 8 (0)) = (setF S 0 8 0) := by
      refine ⟨?_, rfl⟩ <;> (repeat (first | rw [if_pos (by assumption)] | rw [if_neg (by assumption)])) <;> first | rfl | assumption
    exact W.lret (v := (-9223372036854775808)) hx hb hr (fun t_ ht_ hW_ => ⟨⟨(-9223372036854775808), (setF S 0 8 (0)), rfl, hpost, by rw [ht_]; exact hP, va_K.moved hW_.alike hK, hD⟩, hS.F ht_⟩) hS.2.2 (fk_get fk_cX12_read_1 2 rfl)
  have p_c_7 := if1_t hw_6 c_7
  obtain ⟨hi60, ei⟩ := tp_ix hTP (t := t.toNatClampNeg) (by omega) p_c_7
  refine lv_aload_n hx hb (fk_get fk_cX12_read_0 24 rfl) rfl (lv_at hl 0 rfl) ?_
  refine va_get (D := G.1) (ci := 14) (v := .ref (ad 20)) (C := RX12) (T := TX12) (N := 49) hx hb hT inX12 hown hK hP 0 (ix_at (by decide) (cR_0 G ad (setF S 0 8 (0)))) rfl 46 (by decide) (hT _ m5_147) (fun _ h9 => h9) rfl (fk_get fk_cX12_read_0 25 rfl) ?_
  refine lv_bipush (v := 60) hx hb (fk_get fk_cX12_read_0 26 rfl) (by decide) ?_
  refine lv_iload_n hx hb (fk_get fk_cX12_read_0 27 rfl) rfl (lv_at hl 1 rfl) ?_
  refine lv_imul hx hb (fk_get fk_cX12_read_0 28 rfl) ?_
  refine lv_iload_n hx hb (fk_get fk_cX12_read_0 29 rfl) rfl (lv_at hl 2 rfl) ?_
  refine lv_iadd hx hb (fk_get fk_cX12_read_0 30 rfl) ?_
  refine r_lald hx hb hK hP 20 1 (ix_at (by decide) (cR_items G ad (setF S 0 8 (0)))) rfl (((60 * t.toNatClampNeg) + i.toNatClampNeg)) (n_add (n_mul (rfl) (et)) (ei)) (by omega) (by decide) (fk_get fk_cX12_read_0 31 rfl) ?_
  refine lv_goto (tgt := 57) hx hb (fk_get fk_cX12_read_1 0 rfl) (by decide) ?_
  subst hQ
  have hpost : ((fL S 20 (((60 * t.toNatClampNeg) + i.toNatClampNeg))) : Int64) = (if (0 ≤ t ∧ t ≤ 5) then if fA S 22 t.toNatClampNeg = 0 then -9223372036854775808 else if (0 ≤ i ∧ i ≤ fA S 19 t.toNatClampNeg - 1) then fL S 20 (60 * t.toNatClampNeg + i.toNatClampNeg) else -9223372036854775808 else -9223372036854775808) ∧ (setF S 0 8 (0)) = (setF S 0 8 0) := by
    refine ⟨?_, rfl⟩ <;> (repeat (first | rw [if_pos (by assumption)] | rw [if_neg (by assumption)])) <;> first | rfl | assumption
  exact W.lret (v := (fL S 20 (((60 * t.toNatClampNeg) + i.toNatClampNeg)))) hx hb hr (fun t_ ht_ hW_ => ⟨⟨(fL S 20 (((60 * t.toNatClampNeg) + i.toNatClampNeg))), (setF S 0 8 (0)), rfl, hpost, by rw [ht_]; exact hP, va_K.moved hW_.alike hK, hD⟩, hS.F ht_⟩) hS.2.2 (fk_get fk_cX12_read_1 2 rfl)
theorem shx_1 {A B C D E F X : Prop} [Decidable A] [Decidable B] [Decidable C] [Decidable D] [Decidable E] [Decidable F] {n : Int32} {T : FS} (h : ¬ A) : (-1 : Int32) = (if A then if B then if C then -11 else if D then -11 else if E then if F then n else -13 else -12 else -1 else -1) ∧ ((A ∧ B ∧ ¬ C ∧ ¬ D ∧ E ∧ F ∧ X) ∨ (¬ (A ∧ B ∧ ¬ C ∧ ¬ D ∧ E ∧ F) ∧ T = T)) := ⟨by rw [if_neg h], Or.inr ⟨fun z => h z.1, rfl⟩⟩
theorem shx_2 {A B C D E F X : Prop} [Decidable A] [Decidable B] [Decidable C] [Decidable D] [Decidable E] [Decidable F] {n : Int32} {T : FS} (h1 : A) (h : ¬ B) : (-1 : Int32) = (if A then if B then if C then -11 else if D then -11 else if E then if F then n else -13 else -12 else -1 else -1) ∧ ((A ∧ B ∧ ¬ C ∧ ¬ D ∧ E ∧ F ∧ X) ∨ (¬ (A ∧ B ∧ ¬ C ∧ ¬ D ∧ E ∧ F) ∧ T = T)) := ⟨by rw [if_pos h1, if_neg h], Or.inr ⟨fun z => h z.2.1, rfl⟩⟩
theorem shx_3 {A B C D E F X : Prop} [Decidable A] [Decidable B] [Decidable C] [Decidable D] [Decidable E] [Decidable F] {n : Int32} {T : FS} (h1 : A) (h2 : B) (h : C) : (-11 : Int32) = (if A then if B then if C then -11 else if D then -11 else if E then if F then n else -13 else -12 else -1 else -1) ∧ ((A ∧ B ∧ ¬ C ∧ ¬ D ∧ E ∧ F ∧ X) ∨ (¬ (A ∧ B ∧ ¬ C ∧ ¬ D ∧ E ∧ F) ∧ T = T)) := ⟨by rw [if_pos h1, if_pos h2, if_pos h], Or.inr ⟨fun z => z.2.2.1 h, rfl⟩⟩
theorem shx_4 {A B C D E F X : Prop} [Decidable A] [Decidable B] [Decidable C] [Decidable D] [Decidable E] [Decidable F] {n : Int32} {T : FS} (h1 : A) (h2 : B) (h3 : ¬ C) (h : D) : (-11 : Int32) = (if A then if B then if C then -11 else if D then -11 else if E then if F then n else -13 else -12 else -1 else -1) ∧ ((A ∧ B ∧ ¬ C ∧ ¬ D ∧ E ∧ F ∧ X) ∨ (¬ (A ∧ B ∧ ¬ C ∧ ¬ D ∧ E ∧ F) ∧ T = T)) := ⟨by rw [if_pos h1, if_pos h2, if_neg h3, if_pos h], Or.inr ⟨fun z => z.2.2.2.1 h, rfl⟩⟩
theorem shx_5 {A B C D E F X : Prop} [Decidable A] [Decidable B] [Decidable C] [Decidable D] [Decidable E] [Decidable F] {n : Int32} {T : FS} (h1 : A) (h2 : B) (h3 : ¬ C) (h4 : ¬ D) (h : ¬ E) : (-12 : Int32) = (if A then if B then if C then -11 else if D then -11 else if E then if F then n else -13 else -12 else -1 else -1) ∧ ((A ∧ B ∧ ¬ C ∧ ¬ D ∧ E ∧ F ∧ X) ∨ (¬ (A ∧ B ∧ ¬ C ∧ ¬ D ∧ E ∧ F) ∧ T = T)) := ⟨by rw [if_pos h1, if_pos h2, if_neg h3, if_neg h4, if_neg h], Or.inr ⟨fun z => h z.2.2.2.2.1, rfl⟩⟩
theorem shx_6 {A B C D E F X : Prop} [Decidable A] [Decidable B] [Decidable C] [Decidable D] [Decidable E] [Decidable F] {n : Int32} {T : FS} (h1 : A) (h2 : B) (h3 : ¬ C) (h4 : ¬ D) (h5 : E) (h : ¬ F) : (-13 : Int32) = (if A then if B then if C then -11 else if D then -11 else if E then if F then n else -13 else -12 else -1 else -1) ∧ ((A ∧ B ∧ ¬ C ∧ ¬ D ∧ E ∧ F ∧ X) ∨ (¬ (A ∧ B ∧ ¬ C ∧ ¬ D ∧ E ∧ F) ∧ T = T)) := ⟨by rw [if_pos h1, if_pos h2, if_neg h3, if_neg h4, if_pos h5, if_neg h], Or.inr ⟨fun z => h z.2.2.2.2.2, rfl⟩⟩
set_option maxHeartbeats 4000000 in
set_option maxRecDepth 100000 in
theorem c_shift (l : Launch) (G : GG) (ad : Nat → Nat) (S : FS) (sz : Nat) (t i o j n : Int32) (hTP : TPok S) : Met l yX12_shift (Cond.code yX12_shift cX12_shift 7 (some .int) :: TBL) ({ frames := 4, cells := 0, slots := 0, locals := 118 } : Room) (PcW G (wR G ad S) sz [.ref (ad 0), .int (t), .int (i), .int (o), .int (j), .int (n)]) (va_Qi (fun (r : Int32) (S' : FS) => (r = (if (0 ≤ t ∧ t ≤ 5) then if (0 ≤ o ∧ o ≤ 5) then if fA S 22 t.toNatClampNeg = 0 then -11 else if fA S 22 o.toNatClampNeg = 0 then -11 else if fA S 18 t.toNatClampNeg = fA S 18 o.toNatClampNeg then if (¬ n < 0 ∧ ¬ i < 0 ∧ ¬ j < 0 ∧ i.toInt + n.toInt ≤ (fA S 19 t.toNatClampNeg).toInt ∧ j.toInt + n.toInt ≤ (fA S 19 o.toNatClampNeg).toInt) then n else -13 else -12 else -1 else -1)) ∧ (((0 ≤ t ∧ t ≤ 5) ∧ (0 ≤ o ∧ o ≤ 5) ∧ ¬ fA S 22 t.toNatClampNeg = 0 ∧ ¬ fA S 22 o.toNatClampNeg = 0 ∧ fA S 18 t.toNatClampNeg = fA S 18 o.toNatClampNeg ∧ (¬ n < 0 ∧ ¬ i < 0 ∧ ¬ j < 0 ∧ i.toInt + n.toInt ≤ (fA S 19 t.toNatClampNeg).toInt ∧ j.toInt + n.toInt ≤ (fA S 19 o.toNatClampNeg).toInt) ∧ ∃ cp, S' = setL (setL (setF S 0 8 0) 21 cp) 20 (mvL (fL S 20) (60 * t.toNatClampNeg + i.toNatClampNeg) (60 * o.toNatClampNeg + j.toNatClampNeg) n.toNatClampNeg)) ∨ (¬ ((0 ≤ t ∧ t ≤ 5) ∧ (0 ≤ o ∧ o ≤ 5) ∧ ¬ fA S 22 t.toNatClampNeg = 0 ∧ ¬ fA S 22 o.toNatClampNeg = 0 ∧ fA S 18 t.toNatClampNeg = fA S 18 o.toNatClampNeg ∧ (¬ n < 0 ∧ ¬ i < 0 ∧ ¬ j < 0 ∧ i.toInt + n.toInt ≤ (fA S 19 t.toNatClampNeg).toInt ∧ j.toInt + n.toInt ≤ (fA S 19 o.toNatClampNeg).toInt)) ∧ S' = (setF S 0 8 0)))) (fun S' t => BW G (va_A (wR G ad S) sz) (wR G ad S') t) (va_A (wR G ad S) sz)) 0 0 (va_A (wR G ad S) sz) := by
  refine Met.ofW (cc := cX12_shift) (maxL := 7) (ret := (some .int)) (by decide) rfl ?_
  intro p e s m args below meth c₀ s₁ B hml hv
  obtain ⟨rfl, hsz, hP, hK, hD0⟩ := hv
  have hx := B.exec
  have hb := B.bytes
  have hr := B.returns
  have hT : ∀ w ∈ TBL, w.before ([.ref (ad 0), .int (t), .int (i), .int (o), .int (j), .int (n)] : List Value).toArray s = true := fun w h => atoms_spec (ws := Cond.code yX12_shift cX12_shift 7 (some .int) :: TBL) B.pre w (List.mem_cons_of_mem _ h)
  have hown : s.vm.findClass "LittleMoreModel" = some m.cls := findClass_of_methodNamed B.named
  have hlocks := B.notSynchronized
  subst hsz
  have hD := hD0.self (sz := s.heap.size)
  generalize hAe : va_A (wR G ad S) s.heap.size = A at hD ⊢
  have hA : ∀ q : Nat, s.heap.size ≤ q → A q := fun q h => by rw [← hAe]; exact Or.inr h
  have hS : va_S A s.heap s.heap [] := va_S.rf
  have hP : va_P G.1 vwCl (wR G ad S) s.heap := hP
  have hl := lv_entry ([.ref (ad 0), .int (t), .int (i), .int (o), .int (j), .int (n)]) (n := 7) (Nat.le_of_ble_eq_true rfl)
  rw [lg_entry_eq]
  generalize (lg_sl ([.ref (ad 0), .int (t), .int (i), .int (o), .int (j), .int (n)]) ++ List.replicate (7 - (lg_sl ([.ref (ad 0), .int (t), .int (i), .int (o), .int (j), .int (n)])).length) Slot.unset).toArray = ls at hl ⊢
  have hl : lv_has ls 7 [(0, .ref (ad 0)), (1, .int (t)), (2, .int (i)), (3, .int (o)), (4, .int (j)), (5, .int (n))] := hl
  refine W_abs (fun Q hQ => ?_)
  generalize ([.ref (ad 0), .int (t), .int (i), .int (o), .int (j), .int (n)] : List Value).toArray = args at hT hQ ⊢
  refine lv_aload_n hx hb (fk_get fk_cX12_shift_0 0 rfl) rfl (lv_at hl 0 rfl) ?_
  refine lv_iconst (v := 0) hx hb (fk_get fk_cX12_shift_0 1 rfl) (by decide) ?_
  refine va_put (D := G.1) (ci := 14) (v := .int (0)) (ty := .int) (C := RX12) (T := TX12) (N := 49) hx hb hT inX12 tyX12 tyX12_ok nmX12 hown hK hP hD hS 0 (ix_at (by decide) (cR_0 G ad S)) rfl 8 (by decide) (hT _ m5_109) (fun _ h9 => h9) rfl (by decide +kernel) rfl rfl (Nat.le_of_ble_eq_true rfl) (fk_get fk_cX12_shift_0 2 rfl) (fun H locs hP hD hS => ?_)
  rw [pR_thrown G ad S (0)] at hP hD
  refine lv_aload_n hx hb (fk_get fk_cX12_shift_0 3 rfl) rfl (lv_at hl 0 rfl) ?_
  refine lv_iload_n hx hb (fk_get fk_cX12_shift_0 4 rfl) rfl (lv_at hl 1 rfl) ?_
  refine vp_callSi (W.runV (As := [.int (t)]) (rest := []) ⟨hx, hb, hml, hown, hT⟩ (c_isTape l G ad (setF S 0 8 (0)) H.size (t) ) (tV 1 hT m7_155 m7_157 mp_70 m1_17 m7_158 rfl rfl (by decide +kernel) ⟨Nat.le_of_ble_eq_true rfl, Nat.le_of_ble_eq_true rfl⟩) ⟨PcW_blind, va_recv hK hP (ci := 14) (q0 := 0) rfl (ix_at (by decide) (cR_0 G ad (setF S 0 8 (0)))), PcW_of hP hK hD _⟩ rfl rfl hl.1 rfl (lv_room (Nat.le_of_ble_eq_true rfl)) (fk_get fk_cX12_shift_0 5 rfl) ⟨Nat.zero_le _, Nat.zero_le _⟩) (fun r_1 hw_2 => ?_)
  try dsimp only at hw_2
  refine lv_if_eq (tgt := 21) hx hb (fk_get fk_cX12_shift_0 6 rfl) (by decide) (fun c_3 => ?_) (fun c_3 => ?_)
  · have p_c_3 := if1_f hw_2 c_3
    refine lv_iconst (v := (-1)) hx hb (fk_get fk_cX12_shift_0 11 rfl) (by decide) ?_
    subst hQ
    have hpost : (((-1) : Int32) = (if (0 ≤ t ∧ t ≤ 5) then if (0 ≤ o ∧ o ≤ 5) then if fA S 22 t.toNatClampNeg = 0 then -11 else if fA S 22 o.toNatClampNeg = 0 then -11 else if fA S 18 t.toNatClampNeg = fA S 18 o.toNatClampNeg then if (¬ n < 0 ∧ ¬ i < 0 ∧ ¬ j < 0 ∧ i.toInt + n.toInt ≤ (fA S 19 t.toNatClampNeg).toInt ∧ j.toInt + n.toInt ≤ (fA S 19 o.toNatClampNeg).toInt) then n else -13 else -12 else -1 else -1)) ∧ (((0 ≤ t ∧ t ≤ 5) ∧ (0 ≤ o ∧ o ≤ 5) ∧ ¬ fA S 22 t.toNatClampNeg = 0 ∧ ¬ fA S 22 o.toNatClampNeg = 0 ∧ fA S 18 t.toNatClampNeg = fA S 18 o.toNatClampNeg ∧ (¬ n < 0 ∧ ¬ i < 0 ∧ ¬ j < 0 ∧ i.toInt + n.toInt ≤ (fA S 19 t.toNatClampNeg).toInt ∧ j.toInt + n.toInt ≤ (fA S 19 o.toNatClampNeg).toInt) ∧ ∃ cp, (setF S 0 8 (0)) = setL (setL (setF S 0 8 0) 21 cp) 20 (mvL (fL S 20) (60 * t.toNatClampNeg + i.toNatClampNeg) (60 * o.toNatClampNeg + j.toNatClampNeg) n.toNatClampNeg)) ∨ (¬ ((0 ≤ t ∧ t ≤ 5) ∧ (0 ≤ o ∧ o ≤ 5) ∧ ¬ fA S 22 t.toNatClampNeg = 0 ∧ ¬ fA S 22 o.toNatClampNeg = 0 ∧ fA S 18 t.toNatClampNeg = fA S 18 o.toNatClampNeg ∧ (¬ n < 0 ∧ ¬ i < 0 ∧ ¬ j < 0 ∧ i.toInt + n.toInt ≤ (fA S 19 t.toNatClampNeg).toInt ∧ j.toInt + n.toInt ≤ (fA S 19 o.toNatClampNeg).toInt)) ∧ (setF S 0 8 (0)) = (setF S 0 8 0))) := by
      first
      | exact shx_1 (by assumption)
      | exact shx_2 (by assumption) (by assumption)
      | exact shx_3 (by assumption) (by assumption) (by assumption)
      | exact shx_4 (by assumption) (by assumption) (by assumption) (by assumption)
      | exact shx_5 (by assumption) (by assumption) (by assumption) (by assumption) (by assumption)
      | exact shx_6 (by assumption) (by assumption) (by assumption) (by assumption) (by assumption) (fun q => by first | exact q.1 (by assumption) | exact q.2.1 (by assumption) | exact q.2.2.1 (by assumption) | exact absurd q.2.2.2.1 (by assumption) | exact absurd q.2.2.2.2 (by assumption))
      | (refine ⟨?_, Or.inl ⟨by assumption, by assumption, by assumption, by assumption, by assumption, ⟨by assumption, by assumption, by assumption, by assumption, by assumption⟩, _, by rw [hSM, hSL]⟩⟩
         rw [if_pos (by assumption), if_pos (by assumption), if_neg (by assumption), if_neg (by assumption), if_pos (by assumption), if_pos ⟨by assumption, by assumption, by assumption, by assumption, by assumption⟩]; done)
    exact W.iret (v := (-1)) hx hb hr (fun t_ ht_ hW_ => ⟨⟨(-1), (setF S 0 8 (0)), rfl, hpost, by rw [ht_]; exact hP, va_K.moved hW_.alike hK, hD⟩, hS.F ht_⟩) hS.2.2 (fk_get fk_cX12_shift_0 12 rfl)
  have p_c_3 := if1_t hw_2 c_3
  obtain ⟨ht5, et⟩ := in_n (b := 5) p_c_3 (by decide)
  refine lv_aload_n hx hb (fk_get fk_cX12_shift_0 7 rfl) rfl (lv_at hl 0 rfl) ?_
  refine lv_iload_n hx hb (fk_get fk_cX12_shift_0 8 rfl) rfl (lv_at hl 3 rfl) ?_
  refine vp_callSi (W.runV (As := [.int (o)]) (rest := []) ⟨hx, hb, hml, hown, hT⟩ (c_isTape l G ad (setF S 0 8 (0)) H.size (o) ) (tV 1 hT m7_155 m7_157 mp_70 m1_17 m7_158 rfl rfl (by decide +kernel) ⟨Nat.le_of_ble_eq_true rfl, Nat.le_of_ble_eq_true rfl⟩) ⟨PcW_blind, va_recv hK hP (ci := 14) (q0 := 0) rfl (ix_at (by decide) (cR_0 G ad (setF S 0 8 (0)))), PcW_of hP hK hD _⟩ rfl rfl hl.1 rfl (lv_room (Nat.le_of_ble_eq_true rfl)) (fk_get fk_cX12_shift_0 9 rfl) ⟨Nat.zero_le _, Nat.zero_le _⟩) (fun r_4 hw_5 => ?_)
  try dsimp only at hw_5
  refine lv_if_ne (tgt := 23) hx hb (fk_get fk_cX12_shift_0 10 rfl) (by decide) (fun c_6 => ?_) (fun c_6 => ?_)
  · have p_c_6 := if1_t hw_5 c_6
    obtain ⟨ho5, eo⟩ := in_n (b := 5) p_c_6 (by decide)
    refine lv_aload_n hx hb (fk_get fk_cX12_shift_0 13 rfl) rfl (lv_at hl 0 rfl) ?_
    refine va_get (D := G.1) (ci := 14) (v := .ref (ad 22)) (C := RX12) (T := TX12) (N := 49) hx hb hT inX12 hown hK hP 0 (ix_at (by decide) (cR_0 G ad (setF S 0 8 (0)))) rfl 48 (by decide) (hT _ m5_149) (fun _ h9 => h9) rfl (fk_get fk_cX12_shift_0 14 rfl) ?_
    refine lv_iload_n hx hb (fk_get fk_cX12_shift_0 15 rfl) rfl (lv_at hl 1 rfl) ?_
    refine r_zald hx hb hK hP 22 3 (ix_at (by decide) (cR_holdsRow G ad (setF S 0 8 (0)))) rfl (t.toNatClampNeg) (et) (by omega) (by decide) (fk_get fk_cX12_shift_0 16 rfl) ?_
    refine lv_if_eq (tgt := 41) hx hb (fk_get fk_cX12_shift_0 17 rfl) (by decide) (fun c_7 => ?_) (fun c_7 => ?_)
    · refine lv_bipush (v := (-11)) hx hb (fk_get fk_cX12_shift_0 23 rfl) (by decide) ?_
      subst hQ
      have hpost : (((-11) : Int32) = (if (0 ≤ t ∧ t ≤ 5) then if (0 ≤ o ∧ o ≤ 5) then if fA S 22 t.toNatClampNeg = 0 then -11 else if fA S 22 o.toNatClampNeg = 0 then -11 else if fA S 18 t.toNatClampNeg = fA S 18 o.toNatClampNeg then if (¬ n < 0 ∧ ¬ i < 0 ∧ ¬ j < 0 ∧ i.toInt + n.toInt ≤ (fA S 19 t.toNatClampNeg).toInt ∧ j.toInt + n.toInt ≤ (fA S 19 o.toNatClampNeg).toInt) then n else -13 else -12 else -1 else -1)) ∧ (((0 ≤ t ∧ t ≤ 5) ∧ (0 ≤ o ∧ o ≤ 5) ∧ ¬ fA S 22 t.toNatClampNeg = 0 ∧ ¬ fA S 22 o.toNatClampNeg = 0 ∧ fA S 18 t.toNatClampNeg = fA S 18 o.toNatClampNeg ∧ (¬ n < 0 ∧ ¬ i < 0 ∧ ¬ j < 0 ∧ i.toInt + n.toInt ≤ (fA S 19 t.toNatClampNeg).toInt ∧ j.toInt + n.toInt ≤ (fA S 19 o.toNatClampNeg).toInt) ∧ ∃ cp, (setF S 0 8 (0)) = setL (setL (setF S 0 8 0) 21 cp) 20 (mvL (fL S 20) (60 * t.toNatClampNeg + i.toNatClampNeg) (60 * o.toNatClampNeg + j.toNatClampNeg) n.toNatClampNeg)) ∨ (¬ ((0 ≤ t ∧ t ≤ 5) ∧ (0 ≤ o ∧ o ≤ 5) ∧ ¬ fA S 22 t.toNatClampNeg = 0 ∧ ¬ fA S 22 o.toNatClampNeg = 0 ∧ fA S 18 t.toNatClampNeg = fA S 18 o.toNatClampNeg ∧ (¬ n < 0 ∧ ¬ i < 0 ∧ ¬ j < 0 ∧ i.toInt + n.toInt ≤ (fA S 19 t.toNatClampNeg).toInt ∧ j.toInt + n.toInt ≤ (fA S 19 o.toNatClampNeg).toInt)) ∧ (setF S 0 8 (0)) = (setF S 0 8 0))) := by
        first
        | exact shx_1 (by assumption)
        | exact shx_2 (by assumption) (by assumption)
        | exact shx_3 (by assumption) (by assumption) (by assumption)
        | exact shx_4 (by assumption) (by assumption) (by assumption) (by assumption)
        | exact shx_5 (by assumption) (by assumption) (by assumption) (by assumption) (by assumption)
        | exact shx_6 (by assumption) (by assumption) (by assumption) (by assumption) (by assumption) (fun q => by first | exact q.1 (by assumption) | exact q.2.1 (by assumption) | exact q.2.2.1 (by assumption) | exact absurd q.2.2.2.1 (by assumption) | exact absurd q.2.2.2.2 (by assumption))
        | (refine ⟨?_, Or.inl ⟨by assumption, by assumption, by assumption, by assumption, by assumption, ⟨by assumption, by assumption, by assumption, by assumption, by assumption⟩, _, by rw [hSM, hSL]⟩⟩
           rw [if_pos (by assumption), if_pos (by assumption), if_neg (by assumption), if_neg (by assumption), if_pos (by assumption), if_pos ⟨by assumption, by assumption, by assumption, by assumption, by assumption⟩]; done)
      exact W.iret (v := (-11)) hx hb hr (fun t_ ht_ hW_ => ⟨⟨(-11), (setF S 0 8 (0)), rfl, hpost, by rw [ht_]; exact hP, va_K.moved hW_.alike hK, hD⟩, hS.F ht_⟩) hS.2.2 (fk_get fk_cX12_shift_0 24 rfl)
    refine lv_aload_n hx hb (fk_get fk_cX12_shift_0 18 rfl) rfl (lv_at hl 0 rfl) ?_
    refine va_get (D := G.1) (ci := 14) (v := .ref (ad 22)) (C := RX12) (T := TX12) (N := 49) hx hb hT inX12 hown hK hP 0 (ix_at (by decide) (cR_0 G ad (setF S 0 8 (0)))) rfl 48 (by decide) (hT _ m5_149) (fun _ h9 => h9) rfl (fk_get fk_cX12_shift_0 19 rfl) ?_
    refine lv_iload_n hx hb (fk_get fk_cX12_shift_0 20 rfl) rfl (lv_at hl 3 rfl) ?_
    refine r_zald hx hb hK hP 22 3 (ix_at (by decide) (cR_holdsRow G ad (setF S 0 8 (0)))) rfl (o.toNatClampNeg) (eo) (by omega) (by decide) (fk_get fk_cX12_shift_0 21 rfl) ?_
    refine lv_if_ne (tgt := 44) hx hb (fk_get fk_cX12_shift_0 22 rfl) (by decide) (fun c_8 => ?_) (fun c_8 => ?_)
    · refine lv_aload_n hx hb (fk_get fk_cX12_shift_0 25 rfl) rfl (lv_at hl 0 rfl) ?_
      refine va_get (D := G.1) (ci := 14) (v := .ref (ad 18)) (C := RX12) (T := TX12) (N := 49) hx hb hT inX12 hown hK hP 0 (ix_at (by decide) (cR_0 G ad (setF S 0 8 (0)))) rfl 44 (by decide) (hT _ m5_145) (fun _ h9 => h9) rfl (fk_get fk_cX12_shift_0 26 rfl) ?_
      refine lv_iload_n hx hb (fk_get fk_cX12_shift_0 27 rfl) rfl (lv_at hl 1 rfl) ?_
      refine r_iald hx hb hK hP 18 0 (ix_at (by decide) (cR_sortOf G ad (setF S 0 8 (0)))) rfl (t.toNatClampNeg) (et) (by omega) (by decide) (fk_get fk_cX12_shift_0 28 rfl) ?_
      refine lv_aload_n hx hb (fk_get fk_cX12_shift_0 29 rfl) rfl (lv_at hl 0 rfl) ?_
      refine va_get (D := G.1) (ci := 14) (v := .ref (ad 18)) (C := RX12) (T := TX12) (N := 49) hx hb hT inX12 hown hK hP 0 (ix_at (by decide) (cR_0 G ad (setF S 0 8 (0)))) rfl 44 (by decide) (hT _ m5_145) (fun _ h9 => h9) rfl (fk_get fk_cX12_shift_0 30 rfl) ?_
      refine lv_iload_n hx hb (fk_get fk_cX12_shift_0 31 rfl) rfl (lv_at hl 3 rfl) ?_
      refine r_iald hx hb hK hP 18 0 (ix_at (by decide) (cR_sortOf G ad (setF S 0 8 (0)))) rfl (o.toNatClampNeg) (eo) (by omega) (by decide) (fk_get fk_cX12_shift_1 0 rfl) ?_
      refine lv_icmp_eq (tgt := 62) hx hb (fk_get fk_cX12_shift_1 1 rfl) (by decide) (fun c_9 => ?_) (fun c_9 => ?_)
      · refine lv_iload hx hb (fk_get fk_cX12_shift_1 4 rfl) (lv_at hl 5 rfl) ?_
        refine lv_if_lt (tgt := 111) hx hb (fk_get fk_cX12_shift_1 5 rfl) (by decide) (fun c_10 => ?_) (fun c_10 => ?_)
        · refine lv_bipush (v := (-13)) hx hb (fk_get fk_cX12_shift_2 2 rfl) (by decide) ?_
          subst hQ
          have hpost : (((-13) : Int32) = (if (0 ≤ t ∧ t ≤ 5) then if (0 ≤ o ∧ o ≤ 5) then if fA S 22 t.toNatClampNeg = 0 then -11 else if fA S 22 o.toNatClampNeg = 0 then -11 else if fA S 18 t.toNatClampNeg = fA S 18 o.toNatClampNeg then if (¬ n < 0 ∧ ¬ i < 0 ∧ ¬ j < 0 ∧ i.toInt + n.toInt ≤ (fA S 19 t.toNatClampNeg).toInt ∧ j.toInt + n.toInt ≤ (fA S 19 o.toNatClampNeg).toInt) then n else -13 else -12 else -1 else -1)) ∧ (((0 ≤ t ∧ t ≤ 5) ∧ (0 ≤ o ∧ o ≤ 5) ∧ ¬ fA S 22 t.toNatClampNeg = 0 ∧ ¬ fA S 22 o.toNatClampNeg = 0 ∧ fA S 18 t.toNatClampNeg = fA S 18 o.toNatClampNeg ∧ (¬ n < 0 ∧ ¬ i < 0 ∧ ¬ j < 0 ∧ i.toInt + n.toInt ≤ (fA S 19 t.toNatClampNeg).toInt ∧ j.toInt + n.toInt ≤ (fA S 19 o.toNatClampNeg).toInt) ∧ ∃ cp, (setF S 0 8 (0)) = setL (setL (setF S 0 8 0) 21 cp) 20 (mvL (fL S 20) (60 * t.toNatClampNeg + i.toNatClampNeg) (60 * o.toNatClampNeg + j.toNatClampNeg) n.toNatClampNeg)) ∨ (¬ ((0 ≤ t ∧ t ≤ 5) ∧ (0 ≤ o ∧ o ≤ 5) ∧ ¬ fA S 22 t.toNatClampNeg = 0 ∧ ¬ fA S 22 o.toNatClampNeg = 0 ∧ fA S 18 t.toNatClampNeg = fA S 18 o.toNatClampNeg ∧ (¬ n < 0 ∧ ¬ i < 0 ∧ ¬ j < 0 ∧ i.toInt + n.toInt ≤ (fA S 19 t.toNatClampNeg).toInt ∧ j.toInt + n.toInt ≤ (fA S 19 o.toNatClampNeg).toInt)) ∧ (setF S 0 8 (0)) = (setF S 0 8 0))) := by
            first
            | exact shx_1 (by assumption)
            | exact shx_2 (by assumption) (by assumption)
            | exact shx_3 (by assumption) (by assumption) (by assumption)
            | exact shx_4 (by assumption) (by assumption) (by assumption) (by assumption)
            | exact shx_5 (by assumption) (by assumption) (by assumption) (by assumption) (by assumption)
            | exact shx_6 (by assumption) (by assumption) (by assumption) (by assumption) (by assumption) (fun q => by first | exact q.1 (by assumption) | exact q.2.1 (by assumption) | exact q.2.2.1 (by assumption) | exact absurd q.2.2.2.1 (by assumption) | exact absurd q.2.2.2.2 (by assumption))
            | (refine ⟨?_, Or.inl ⟨by assumption, by assumption, by assumption, by assumption, by assumption, ⟨by assumption, by assumption, by assumption, by assumption, by assumption⟩, _, by rw [hSM, hSL]⟩⟩
               rw [if_pos (by assumption), if_pos (by assumption), if_neg (by assumption), if_neg (by assumption), if_pos (by assumption), if_pos ⟨by assumption, by assumption, by assumption, by assumption, by assumption⟩]; done)
          exact W.iret (v := (-13)) hx hb hr (fun t_ ht_ hW_ => ⟨⟨(-13), (setF S 0 8 (0)), rfl, hpost, by rw [ht_]; exact hP, va_K.moved hW_.alike hK, hD⟩, hS.F ht_⟩) hS.2.2 (fk_get fk_cX12_shift_2 3 rfl)
        obtain ⟨hnn, en⟩ := nn_n c_10
        refine lv_iload_n hx hb (fk_get fk_cX12_shift_1 6 rfl) rfl (lv_at hl 2 rfl) ?_
        refine lv_if_lt (tgt := 111) hx hb (fk_get fk_cX12_shift_1 7 rfl) (by decide) (fun c_11 => ?_) (fun c_11 => ?_)
        · refine lv_bipush (v := (-13)) hx hb (fk_get fk_cX12_shift_2 2 rfl) (by decide) ?_
          subst hQ
          have hpost : (((-13) : Int32) = (if (0 ≤ t ∧ t ≤ 5) then if (0 ≤ o ∧ o ≤ 5) then if fA S 22 t.toNatClampNeg = 0 then -11 else if fA S 22 o.toNatClampNeg = 0 then -11 else if fA S 18 t.toNatClampNeg = fA S 18 o.toNatClampNeg then if (¬ n < 0 ∧ ¬ i < 0 ∧ ¬ j < 0 ∧ i.toInt + n.toInt ≤ (fA S 19 t.toNatClampNeg).toInt ∧ j.toInt + n.toInt ≤ (fA S 19 o.toNatClampNeg).toInt) then n else -13 else -12 else -1 else -1)) ∧ (((0 ≤ t ∧ t ≤ 5) ∧ (0 ≤ o ∧ o ≤ 5) ∧ ¬ fA S 22 t.toNatClampNeg = 0 ∧ ¬ fA S 22 o.toNatClampNeg = 0 ∧ fA S 18 t.toNatClampNeg = fA S 18 o.toNatClampNeg ∧ (¬ n < 0 ∧ ¬ i < 0 ∧ ¬ j < 0 ∧ i.toInt + n.toInt ≤ (fA S 19 t.toNatClampNeg).toInt ∧ j.toInt + n.toInt ≤ (fA S 19 o.toNatClampNeg).toInt) ∧ ∃ cp, (setF S 0 8 (0)) = setL (setL (setF S 0 8 0) 21 cp) 20 (mvL (fL S 20) (60 * t.toNatClampNeg + i.toNatClampNeg) (60 * o.toNatClampNeg + j.toNatClampNeg) n.toNatClampNeg)) ∨ (¬ ((0 ≤ t ∧ t ≤ 5) ∧ (0 ≤ o ∧ o ≤ 5) ∧ ¬ fA S 22 t.toNatClampNeg = 0 ∧ ¬ fA S 22 o.toNatClampNeg = 0 ∧ fA S 18 t.toNatClampNeg = fA S 18 o.toNatClampNeg ∧ (¬ n < 0 ∧ ¬ i < 0 ∧ ¬ j < 0 ∧ i.toInt + n.toInt ≤ (fA S 19 t.toNatClampNeg).toInt ∧ j.toInt + n.toInt ≤ (fA S 19 o.toNatClampNeg).toInt)) ∧ (setF S 0 8 (0)) = (setF S 0 8 0))) := by
            first
            | exact shx_1 (by assumption)
            | exact shx_2 (by assumption) (by assumption)
            | exact shx_3 (by assumption) (by assumption) (by assumption)
            | exact shx_4 (by assumption) (by assumption) (by assumption) (by assumption)
            | exact shx_5 (by assumption) (by assumption) (by assumption) (by assumption) (by assumption)
            | exact shx_6 (by assumption) (by assumption) (by assumption) (by assumption) (by assumption) (fun q => by first | exact q.1 (by assumption) | exact q.2.1 (by assumption) | exact q.2.2.1 (by assumption) | exact absurd q.2.2.2.1 (by assumption) | exact absurd q.2.2.2.2 (by assumption))
            | (refine ⟨?_, Or.inl ⟨by assumption, by assumption, by assumption, by assumption, by assumption, ⟨by assumption, by assumption, by assumption, by assumption, by assumption⟩, _, by rw [hSM, hSL]⟩⟩
               rw [if_pos (by assumption), if_pos (by assumption), if_neg (by assumption), if_neg (by assumption), if_pos (by assumption), if_pos ⟨by assumption, by assumption, by assumption, by assumption, by assumption⟩]; done)
          exact W.iret (v := (-13)) hx hb hr (fun t_ ht_ hW_ => ⟨⟨(-13), (setF S 0 8 (0)), rfl, hpost, by rw [ht_]; exact hP, va_K.moved hW_.alike hK, hD⟩, hS.F ht_⟩) hS.2.2 (fk_get fk_cX12_shift_2 3 rfl)
        obtain ⟨hii, ei⟩ := nn_n c_11
        refine lv_iload hx hb (fk_get fk_cX12_shift_1 8 rfl) (lv_at hl 4 rfl) ?_
        refine lv_if_lt (tgt := 111) hx hb (fk_get fk_cX12_shift_1 9 rfl) (by decide) (fun c_12 => ?_) (fun c_12 => ?_)
        · refine lv_bipush (v := (-13)) hx hb (fk_get fk_cX12_shift_2 2 rfl) (by decide) ?_
          subst hQ
          have hpost : (((-13) : Int32) = (if (0 ≤ t ∧ t ≤ 5) then if (0 ≤ o ∧ o ≤ 5) then if fA S 22 t.toNatClampNeg = 0 then -11 else if fA S 22 o.toNatClampNeg = 0 then -11 else if fA S 18 t.toNatClampNeg = fA S 18 o.toNatClampNeg then if (¬ n < 0 ∧ ¬ i < 0 ∧ ¬ j < 0 ∧ i.toInt + n.toInt ≤ (fA S 19 t.toNatClampNeg).toInt ∧ j.toInt + n.toInt ≤ (fA S 19 o.toNatClampNeg).toInt) then n else -13 else -12 else -1 else -1)) ∧ (((0 ≤ t ∧ t ≤ 5) ∧ (0 ≤ o ∧ o ≤ 5) ∧ ¬ fA S 22 t.toNatClampNeg = 0 ∧ ¬ fA S 22 o.toNatClampNeg = 0 ∧ fA S 18 t.toNatClampNeg = fA S 18 o.toNatClampNeg ∧ (¬ n < 0 ∧ ¬ i < 0 ∧ ¬ j < 0 ∧ i.toInt + n.toInt ≤ (fA S 19 t.toNatClampNeg).toInt ∧ j.toInt + n.toInt ≤ (fA S 19 o.toNatClampNeg).toInt) ∧ ∃ cp, (setF S 0 8 (0)) = setL (setL (setF S 0 8 0) 21 cp) 20 (mvL (fL S 20) (60 * t.toNatClampNeg + i.toNatClampNeg) (60 * o.toNatClampNeg + j.toNatClampNeg) n.toNatClampNeg)) ∨ (¬ ((0 ≤ t ∧ t ≤ 5) ∧ (0 ≤ o ∧ o ≤ 5) ∧ ¬ fA S 22 t.toNatClampNeg = 0 ∧ ¬ fA S 22 o.toNatClampNeg = 0 ∧ fA S 18 t.toNatClampNeg = fA S 18 o.toNatClampNeg ∧ (¬ n < 0 ∧ ¬ i < 0 ∧ ¬ j < 0 ∧ i.toInt + n.toInt ≤ (fA S 19 t.toNatClampNeg).toInt ∧ j.toInt + n.toInt ≤ (fA S 19 o.toNatClampNeg).toInt)) ∧ (setF S 0 8 (0)) = (setF S 0 8 0))) := by
            first
            | exact shx_1 (by assumption)
            | exact shx_2 (by assumption) (by assumption)
            | exact shx_3 (by assumption) (by assumption) (by assumption)
            | exact shx_4 (by assumption) (by assumption) (by assumption) (by assumption)
            | exact shx_5 (by assumption) (by assumption) (by assumption) (by assumption) (by assumption)
            | exact shx_6 (by assumption) (by assumption) (by assumption) (by assumption) (by assumption) (fun q => by first | exact q.1 (by assumption) | exact q.2.1 (by assumption) | exact q.2.2.1 (by assumption) | exact absurd q.2.2.2.1 (by assumption) | exact absurd q.2.2.2.2 (by assumption))
            | (refine ⟨?_, Or.inl ⟨by assumption, by assumption, by assumption, by assumption, by assumption, ⟨by assumption, by assumption, by assumption, by assumption, by assumption⟩, _, by rw [hSM, hSL]⟩⟩
               rw [if_pos (by assumption), if_pos (by assumption), if_neg (by assumption), if_neg (by assumption), if_pos (by assumption), if_pos ⟨by assumption, by assumption, by assumption, by assumption, by assumption⟩]; done)
          exact W.iret (v := (-13)) hx hb hr (fun t_ ht_ hW_ => ⟨⟨(-13), (setF S 0 8 (0)), rfl, hpost, by rw [ht_]; exact hP, va_K.moved hW_.alike hK, hD⟩, hS.F ht_⟩) hS.2.2 (fk_get fk_cX12_shift_2 3 rfl)
        obtain ⟨hjj, ejj⟩ := nn_n c_12
        refine lv_iload_n hx hb (fk_get fk_cX12_shift_1 10 rfl) rfl (lv_at hl 2 rfl) ?_
        refine lv_i2l hx hb (fk_get fk_cX12_shift_1 11 rfl) rfl ?_
        refine lv_iload hx hb (fk_get fk_cX12_shift_1 12 rfl) (lv_at hl 5 rfl) ?_
        refine lv_i2l hx hb (fk_get fk_cX12_shift_1 13 rfl) rfl ?_
        refine lv_ladd hx hb (fk_get fk_cX12_shift_1 14 rfl) ?_
        refine lv_aload_n hx hb (fk_get fk_cX12_shift_1 15 rfl) rfl (lv_at hl 0 rfl) ?_
        refine va_get (D := G.1) (ci := 14) (v := .ref (ad 19)) (C := RX12) (T := TX12) (N := 49) hx hb hT inX12 hown hK hP 0 (ix_at (by decide) (cR_0 G ad (setF S 0 8 (0)))) rfl 45 (by decide) (hT _ m5_146) (fun _ h9 => h9) rfl (fk_get fk_cX12_shift_1 16 rfl) ?_
        refine lv_iload_n hx hb (fk_get fk_cX12_shift_1 17 rfl) rfl (lv_at hl 1 rfl) ?_
        refine r_iald hx hb hK hP 19 0 (ix_at (by decide) (cR_manyOf G ad (setF S 0 8 (0)))) rfl (t.toNatClampNeg) (et) (by omega) (by decide) (fk_get fk_cX12_shift_1 18 rfl) ?_
        refine lv_i2l hx hb (fk_get fk_cX12_shift_1 19 rfl) rfl ?_
        refine W.lcmp hx hb (fk_get fk_cX12_shift_1 20 rfl) ?_
        refine lv_if_gt (tgt := 111) hx hb (fk_get fk_cX12_shift_1 21 rfl) (by decide) (fun c_13 => ?_) (fun c_13 => ?_)
        · have hs1 : ¬ (i.toInt + n.toInt ≤ (fA S 19 t.toNatClampNeg).toInt) := fun z => (i64_add i n _ (by assumption) (by assumption)).mpr z c_13
          refine lv_bipush (v := (-13)) hx hb (fk_get fk_cX12_shift_2 2 rfl) (by decide) ?_
          subst hQ
          have hpost : (((-13) : Int32) = (if (0 ≤ t ∧ t ≤ 5) then if (0 ≤ o ∧ o ≤ 5) then if fA S 22 t.toNatClampNeg = 0 then -11 else if fA S 22 o.toNatClampNeg = 0 then -11 else if fA S 18 t.toNatClampNeg = fA S 18 o.toNatClampNeg then if (¬ n < 0 ∧ ¬ i < 0 ∧ ¬ j < 0 ∧ i.toInt + n.toInt ≤ (fA S 19 t.toNatClampNeg).toInt ∧ j.toInt + n.toInt ≤ (fA S 19 o.toNatClampNeg).toInt) then n else -13 else -12 else -1 else -1)) ∧ (((0 ≤ t ∧ t ≤ 5) ∧ (0 ≤ o ∧ o ≤ 5) ∧ ¬ fA S 22 t.toNatClampNeg = 0 ∧ ¬ fA S 22 o.toNatClampNeg = 0 ∧ fA S 18 t.toNatClampNeg = fA S 18 o.toNatClampNeg ∧ (¬ n < 0 ∧ ¬ i < 0 ∧ ¬ j < 0 ∧ i.toInt + n.toInt ≤ (fA S 19 t.toNatClampNeg).toInt ∧ j.toInt + n.toInt ≤ (fA S 19 o.toNatClampNeg).toInt) ∧ ∃ cp, (setF S 0 8 (0)) = setL (setL (setF S 0 8 0) 21 cp) 20 (mvL (fL S 20) (60 * t.toNatClampNeg + i.toNatClampNeg) (60 * o.toNatClampNeg + j.toNatClampNeg) n.toNatClampNeg)) ∨ (¬ ((0 ≤ t ∧ t ≤ 5) ∧ (0 ≤ o ∧ o ≤ 5) ∧ ¬ fA S 22 t.toNatClampNeg = 0 ∧ ¬ fA S 22 o.toNatClampNeg = 0 ∧ fA S 18 t.toNatClampNeg = fA S 18 o.toNatClampNeg ∧ (¬ n < 0 ∧ ¬ i < 0 ∧ ¬ j < 0 ∧ i.toInt + n.toInt ≤ (fA S 19 t.toNatClampNeg).toInt ∧ j.toInt + n.toInt ≤ (fA S 19 o.toNatClampNeg).toInt)) ∧ (setF S 0 8 (0)) = (setF S 0 8 0))) := by
            first
            | exact shx_1 (by assumption)
            | exact shx_2 (by assumption) (by assumption)
            | exact shx_3 (by assumption) (by assumption) (by assumption)
            | exact shx_4 (by assumption) (by assumption) (by assumption) (by assumption)
            | exact shx_5 (by assumption) (by assumption) (by assumption) (by assumption) (by assumption)
            | exact shx_6 (by assumption) (by assumption) (by assumption) (by assumption) (by assumption) (fun q => by first | exact q.1 (by assumption) | exact q.2.1 (by assumption) | exact q.2.2.1 (by assumption) | exact absurd q.2.2.2.1 (by assumption) | exact absurd q.2.2.2.2 (by assumption))
            | (refine ⟨?_, Or.inl ⟨by assumption, by assumption, by assumption, by assumption, by assumption, ⟨by assumption, by assumption, by assumption, by assumption, by assumption⟩, _, by rw [hSM, hSL]⟩⟩
               rw [if_pos (by assumption), if_pos (by assumption), if_neg (by assumption), if_neg (by assumption), if_pos (by assumption), if_pos ⟨by assumption, by assumption, by assumption, by assumption, by assumption⟩]; done)
          exact W.iret (v := (-13)) hx hb hr (fun t_ ht_ hW_ => ⟨⟨(-13), (setF S 0 8 (0)), rfl, hpost, by rw [ht_]; exact hP, va_K.moved hW_.alike hK, hD⟩, hS.F ht_⟩) hS.2.2 (fk_get fk_cX12_shift_2 3 rfl)
        have hs1 := (i64_add i n _ (by assumption) (by assumption)).mp c_13
        refine lv_iload hx hb (fk_get fk_cX12_shift_1 22 rfl) (lv_at hl 4 rfl) ?_
        refine lv_i2l hx hb (fk_get fk_cX12_shift_1 23 rfl) rfl ?_
        refine lv_iload hx hb (fk_get fk_cX12_shift_1 24 rfl) (lv_at hl 5 rfl) ?_
        refine lv_i2l hx hb (fk_get fk_cX12_shift_1 25 rfl) rfl ?_
        refine lv_ladd hx hb (fk_get fk_cX12_shift_1 26 rfl) ?_
        refine lv_aload_n hx hb (fk_get fk_cX12_shift_1 27 rfl) rfl (lv_at hl 0 rfl) ?_
        refine va_get (D := G.1) (ci := 14) (v := .ref (ad 19)) (C := RX12) (T := TX12) (N := 49) hx hb hT inX12 hown hK hP 0 (ix_at (by decide) (cR_0 G ad (setF S 0 8 (0)))) rfl 45 (by decide) (hT _ m5_146) (fun _ h9 => h9) rfl (fk_get fk_cX12_shift_1 28 rfl) ?_
        refine lv_iload_n hx hb (fk_get fk_cX12_shift_1 29 rfl) rfl (lv_at hl 3 rfl) ?_
        refine r_iald hx hb hK hP 19 0 (ix_at (by decide) (cR_manyOf G ad (setF S 0 8 (0)))) rfl (o.toNatClampNeg) (eo) (by omega) (by decide) (fk_get fk_cX12_shift_1 30 rfl) ?_
        refine lv_i2l hx hb (fk_get fk_cX12_shift_1 31 rfl) rfl ?_
        refine W.lcmp hx hb (fk_get fk_cX12_shift_2 0 rfl) ?_
        refine lv_if_le (tgt := 114) hx hb (fk_get fk_cX12_shift_2 1 rfl) (by decide) (fun c_14 => ?_) (fun c_14 => ?_)
        · have hs2 := (i64_add j n _ (by assumption) (by assumption)).mp (Int32.not_lt.mpr c_14)
          have hb1 := tp_sum hTP (t := t.toNatClampNeg) (by omega) (by assumption) (by assumption) hs1
          have hb2 := tp_sum hTP (t := o.toNatClampNeg) (by omega) (by assumption) (by assumption) hs2
          refine lv_iconst (v := 0) hx hb (fk_get fk_cX12_shift_2 4 rfl) (by decide) ?_
          refine lv_istore (lv' := [(6, .int (0)), (0, .ref (ad 0)), (1, .int (t)), (2, .int (i)), (3, .int (o)), (4, .int (j)), (5, .int (n))]) hx hb (fk_get fk_cX12_shift_2 5 rfl) hl (by decide) rfl (fun ls hl => ?_)
          have lp_15 : ∀ (fu : Nat) (k : Nat) (SL : FS) (H_17 : Heap) (locs_18 : List Loc) (ls : Array Slot),  (k ≤ n.toNatClampNeg) → (n.toNatClampNeg < k + fu) → (SL = setL (setF S 0 8 (0)) 21 (cpF (fL S 20) (fL S 21) (60 * t.toNatClampNeg + i.toNatClampNeg) k)) → va_P G.1 vwCl (wR G ad SL) H_17 → va_D A (wR G ad SL) → va_S A s.heap H_17 locs_18 → lv_has ls 7 [(6, .int ((nI k))), (0, .ref (ad 0)), (1, .int (t)), (2, .int (i)), (3, .int (o)), (4, .int (j)), (5, .int (n))] → W p l e ({ frames := 4, cells := 0, slots := 0, locals := 118 } : Room) s m args below meth c₀ H_17 locs_18 0 0 Q (F0 m 117 ls []) := by
            intro fu
            induction fu with
            | zero =>
              intro k SL H_17 locs_18 ls hk hf hSL hP hD hS hl
              exact absurd hf (by omega)
            | succ fu ih =>
              intro k SL H_17 locs_18 ls hk hf hSL hP hD hS hl
              refine lv_iload hx hb (fk_get fk_cX12_shift_2 6 rfl) (lv_at hl 0 rfl) ?_
              refine lv_iload hx hb (fk_get fk_cX12_shift_2 7 rfl) (lv_at hl 6 rfl) ?_
              refine lv_icmp_ge (tgt := 151) hx hb (fk_get fk_cX12_shift_2 8 rfl) (by decide) (fun c_19 => ?_) (fun c_19 => ?_)
              · have hge : n.toNatClampNeg ≤ k := (nI_leI (a := n.toNatClampNeg) (b := k) (by omega) (by omega)).mp (by rw [← en]; exact c_19)
                obtain rfl : k = n.toNatClampNeg := by omega
                refine lv_iconst (v := 0) hx hb (fk_get fk_cX12_shift_2 25 rfl) (by decide) ?_
                refine lv_istore (lv' := [(6, .int (0)), (0, .ref (ad 0)), (1, .int (t)), (2, .int (i)), (3, .int (o)), (4, .int (j)), (5, .int (n))]) hx hb (fk_get fk_cX12_shift_2 26 rfl) hl (by decide) rfl (fun ls hl => ?_)
                have lp_20 : ∀ (fu : Nat) (k : Nat) (SM : FS) (H_22 : Heap) (locs_23 : List Loc) (ls : Array Slot),  (k ≤ n.toNatClampNeg) → (n.toNatClampNeg < k + fu) → (SM = setL SL 20 (mvL (fL S 20) (60 * t.toNatClampNeg + i.toNatClampNeg) (60 * o.toNatClampNeg + j.toNatClampNeg) k)) → va_P G.1 vwCl (wR G ad SM) H_22 → va_D A (wR G ad SM) → va_S A s.heap H_22 locs_23 → lv_has ls 7 [(6, .int ((nI k))), (0, .ref (ad 0)), (1, .int (t)), (2, .int (i)), (3, .int (o)), (4, .int (j)), (5, .int (n))] → W p l e ({ frames := 4, cells := 0, slots := 0, locals := 118 } : Room) s m args below meth c₀ H_22 locs_23 0 0 Q (F0 m 154 ls []) := by
                  intro fu
                  induction fu with
                  | zero =>
                    intro k SM H_22 locs_23 ls hk hf hSM hP hD hS hl
                    exact absurd hf (by omega)
                  | succ fu ih =>
                    intro k SM H_22 locs_23 ls hk hf hSM hP hD hS hl
                    refine lv_iload hx hb (fk_get fk_cX12_shift_2 27 rfl) (lv_at hl 0 rfl) ?_
                    refine lv_iload hx hb (fk_get fk_cX12_shift_2 28 rfl) (lv_at hl 6 rfl) ?_
                    refine lv_icmp_ge (tgt := 189) hx hb (fk_get fk_cX12_shift_2 29 rfl) (by decide) (fun c_24 => ?_) (fun c_24 => ?_)
                    · have hge : n.toNatClampNeg ≤ k := (nI_leI (a := n.toNatClampNeg) (b := k) (by omega) (by omega)).mp (by rw [← en]; exact c_24)
                      obtain rfl : k = n.toNatClampNeg := by omega
                      refine lv_iload hx hb (fk_get fk_cX12_shift_3 14 rfl) (lv_at hl 6 rfl) ?_
                      subst hQ
                      have hpost : ((n : Int32) = (if (0 ≤ t ∧ t ≤ 5) then if (0 ≤ o ∧ o ≤ 5) then if fA S 22 t.toNatClampNeg = 0 then -11 else if fA S 22 o.toNatClampNeg = 0 then -11 else if fA S 18 t.toNatClampNeg = fA S 18 o.toNatClampNeg then if (¬ n < 0 ∧ ¬ i < 0 ∧ ¬ j < 0 ∧ i.toInt + n.toInt ≤ (fA S 19 t.toNatClampNeg).toInt ∧ j.toInt + n.toInt ≤ (fA S 19 o.toNatClampNeg).toInt) then n else -13 else -12 else -1 else -1)) ∧ (((0 ≤ t ∧ t ≤ 5) ∧ (0 ≤ o ∧ o ≤ 5) ∧ ¬ fA S 22 t.toNatClampNeg = 0 ∧ ¬ fA S 22 o.toNatClampNeg = 0 ∧ fA S 18 t.toNatClampNeg = fA S 18 o.toNatClampNeg ∧ (¬ n < 0 ∧ ¬ i < 0 ∧ ¬ j < 0 ∧ i.toInt + n.toInt ≤ (fA S 19 t.toNatClampNeg).toInt ∧ j.toInt + n.toInt ≤ (fA S 19 o.toNatClampNeg).toInt) ∧ ∃ cp, SM = setL (setL (setF S 0 8 0) 21 cp) 20 (mvL (fL S 20) (60 * t.toNatClampNeg + i.toNatClampNeg) (60 * o.toNatClampNeg + j.toNatClampNeg) n.toNatClampNeg)) ∨ (¬ ((0 ≤ t ∧ t ≤ 5) ∧ (0 ≤ o ∧ o ≤ 5) ∧ ¬ fA S 22 t.toNatClampNeg = 0 ∧ ¬ fA S 22 o.toNatClampNeg = 0 ∧ fA S 18 t.toNatClampNeg = fA S 18 o.toNatClampNeg ∧ (¬ n < 0 ∧ ¬ i < 0 ∧ ¬ j < 0 ∧ i.toInt + n.toInt ≤ (fA S 19 t.toNatClampNeg).toInt ∧ j.toInt + n.toInt ≤ (fA S 19 o.toNatClampNeg).toInt)) ∧ SM = (setF S 0 8 0))) := by
                        first
                        | exact shx_1 (by assumption)
                        | exact shx_2 (by assumption) (by assumption)
                        | exact shx_3 (by assumption) (by assumption) (by assumption)
                        | exact shx_4 (by assumption) (by assumption) (by assumption) (by assumption)
                        | exact shx_5 (by assumption) (by assumption) (by assumption) (by assumption) (by assumption)
                        | exact shx_6 (by assumption) (by assumption) (by assumption) (by assumption) (by assumption) (fun q => by first | exact q.1 (by assumption) | exact q.2.1 (by assumption) | exact q.2.2.1 (by assumption) | exact absurd q.2.2.2.1 (by assumption) | exact absurd q.2.2.2.2 (by assumption))
                        | (refine ⟨?_, Or.inl ⟨by assumption, by assumption, by assumption, by assumption, by assumption, ⟨by assumption, by assumption, by assumption, by assumption, by assumption⟩, _, by rw [hSM, hSL]⟩⟩
                           rw [if_pos (by assumption), if_pos (by assumption), if_neg (by assumption), if_neg (by assumption), if_pos (by assumption), if_pos ⟨by assumption, by assumption, by assumption, by assumption, by assumption⟩]; done)
                      exact W.iret (v := n) hx hb hr (fun t_ ht_ hW_ => ⟨⟨n, SM, rfl, hpost, by rw [ht_]; exact hP, va_K.moved hW_.alike hK, hD⟩, hS.F ht_⟩) hS.2.2 (fk_get fk_cX12_shift_3 15 rfl)
                    have hlt : k < n.toNatClampNeg := Nat.lt_of_not_le (fun z => c_24 (by rw [en]; exact (nI_leI (a := n.toNatClampNeg) (b := k) (by omega) (by omega)).mpr z))
                    refine lv_aload_n hx hb (fk_get fk_cX12_shift_2 30 rfl) rfl (lv_at hl 1 rfl) ?_
                    refine va_get (D := G.1) (ci := 14) (v := .ref (ad 20)) (C := RX12) (T := TX12) (N := 49) hx hb hT inX12 hown hK hP 0 (ix_at (by decide) (cR_0 G ad SM)) rfl 46 (by decide) (hT _ m5_147) (fun _ h9 => h9) rfl (fk_get fk_cX12_shift_2 31 rfl) ?_
                    refine lv_bipush (v := 60) hx hb (fk_get fk_cX12_shift_3 0 rfl) (by decide) ?_
                    refine lv_iload_n hx hb (fk_get fk_cX12_shift_3 1 rfl) rfl (lv_at hl 4 rfl) ?_
                    refine lv_imul hx hb (fk_get fk_cX12_shift_3 2 rfl) ?_
                    refine lv_iload hx hb (fk_get fk_cX12_shift_3 3 rfl) (lv_at hl 5 rfl) ?_
                    refine lv_iadd hx hb (fk_get fk_cX12_shift_3 4 rfl) ?_
                    refine lv_iload hx hb (fk_get fk_cX12_shift_3 5 rfl) (lv_at hl 0 rfl) ?_
                    refine lv_iadd hx hb (fk_get fk_cX12_shift_3 6 rfl) ?_
                    refine lv_aload_n hx hb (fk_get fk_cX12_shift_3 7 rfl) rfl (lv_at hl 1 rfl) ?_
                    refine va_get (D := G.1) (ci := 14) (v := .ref (ad 21)) (C := RX12) (T := TX12) (N := 49) hx hb hT inX12 hown hK hP 0 (ix_at (by decide) (cR_0 G ad SM)) rfl 47 (by decide) (hT _ m5_148) (fun _ h9 => h9) rfl (fk_get fk_cX12_shift_3 8 rfl) ?_
                    refine lv_iload hx hb (fk_get fk_cX12_shift_3 9 rfl) (lv_at hl 0 rfl) ?_
                    refine r_lald hx hb hK hP 21 1 (ix_at (by decide) (cR_copies G ad SM)) rfl (k) (rfl) (by omega) (by decide) (fk_get fk_cX12_shift_3 10 rfl) ?_
                    rw [show (fL SM 21 (k)) = (fL S 20 (60 * t.toNatClampNeg + i.toNatClampNeg + k)) from (by rw [hSM, hSL]; show cpF _ _ _ _ k = _; unfold cpF; rw [if_pos hlt])]
                    refine r_last hx hb hK hP hD hS 20 1 (ix_at (by decide) (cR_items G ad SM)) rfl ((((60 * o.toNatClampNeg) + j.toNatClampNeg) + k)) (n_add (n_add (n_mul (rfl) (eo)) (ejj)) (rfl)) (by omega) (by decide) (fk_get fk_cX12_shift_3 11 rfl) (fun H locs hP hD hS => ?_)
                    rw [pR_L G ad SM (by decide) (by decide) (cR_items G ad SM) (vp_updL (fL SM 20) ((((60 * o.toNatClampNeg) + j.toNatClampNeg) + k)) ((fL S 20 (60 * t.toNatClampNeg + i.toNatClampNeg + k))))] at hP hD
                    refine lv_iinc (v := (nI (k + 1))) (lv' := [(6, .int ((nI (k + 1)))), (0, .ref (ad 0)), (1, .int (t)), (2, .int (i)), (3, .int (o)), (4, .int (j)), (5, .int (n))]) hx hb (fk_get fk_cX12_shift_3 12 rfl) hl (k := 0) rfl ((nI_1 k)) (by decide) rfl (fun ls hl => ?_)
                    refine lv_goto (tgt := 154) hx hb (fk_get fk_cX12_shift_3 13 rfl) (by decide) ?_
                    exact ih (k + 1) (setL SM 20 (vp_updL (fL SM 20) ((((60 * o.toNatClampNeg) + j.toNatClampNeg) + k)) ((fL S 20 (60 * t.toNatClampNeg + i.toNatClampNeg + k))))) _ _ ls (by omega) (by omega) (by rw [hSM]; exact mvL_step _ _ _ _ k) hP hD hS (lv_sub hl [0, 1, 2, 3, 4, 5, 6] rfl)
                exact lp_20 (n.toNatClampNeg + 1) (0) (SL) _ _ ls (by omega) (by omega) (by rw [hSL]; exact mvL_0 _ _ _) hP hD hS (lv_sub hl [0, 1, 2, 3, 4, 5, 6] rfl)
              have hlt : k < n.toNatClampNeg := Nat.lt_of_not_le (fun z => c_19 (by rw [en]; exact (nI_leI (a := n.toNatClampNeg) (b := k) (by omega) (by omega)).mpr z))
              refine lv_aload_n hx hb (fk_get fk_cX12_shift_2 9 rfl) rfl (lv_at hl 1 rfl) ?_
              refine va_get (D := G.1) (ci := 14) (v := .ref (ad 21)) (C := RX12) (T := TX12) (N := 49) hx hb hT inX12 hown hK hP 0 (ix_at (by decide) (cR_0 G ad SL)) rfl 47 (by decide) (hT _ m5_148) (fun _ h9 => h9) rfl (fk_get fk_cX12_shift_2 10 rfl) ?_
              refine lv_iload hx hb (fk_get fk_cX12_shift_2 11 rfl) (lv_at hl 0 rfl) ?_
              refine lv_aload_n hx hb (fk_get fk_cX12_shift_2 12 rfl) rfl (lv_at hl 1 rfl) ?_
              refine va_get (D := G.1) (ci := 14) (v := .ref (ad 20)) (C := RX12) (T := TX12) (N := 49) hx hb hT inX12 hown hK hP 0 (ix_at (by decide) (cR_0 G ad SL)) rfl 46 (by decide) (hT _ m5_147) (fun _ h9 => h9) rfl (fk_get fk_cX12_shift_2 13 rfl) ?_
              refine lv_bipush (v := 60) hx hb (fk_get fk_cX12_shift_2 14 rfl) (by decide) ?_
              refine lv_iload_n hx hb (fk_get fk_cX12_shift_2 15 rfl) rfl (lv_at hl 2 rfl) ?_
              refine lv_imul hx hb (fk_get fk_cX12_shift_2 16 rfl) ?_
              refine lv_iload_n hx hb (fk_get fk_cX12_shift_2 17 rfl) rfl (lv_at hl 3 rfl) ?_
              refine lv_iadd hx hb (fk_get fk_cX12_shift_2 18 rfl) ?_
              refine lv_iload hx hb (fk_get fk_cX12_shift_2 19 rfl) (lv_at hl 0 rfl) ?_
              refine lv_iadd hx hb (fk_get fk_cX12_shift_2 20 rfl) ?_
              refine r_lald hx hb hK hP 20 1 (ix_at (by decide) (cR_items G ad SL)) rfl ((((60 * t.toNatClampNeg) + i.toNatClampNeg) + k)) (n_add (n_add (n_mul (rfl) (et)) (ei)) (rfl)) (by omega) (by decide) (fk_get fk_cX12_shift_2 21 rfl) ?_
              rw [show (fL SL 20 ((((60 * t.toNatClampNeg) + i.toNatClampNeg) + k))) = (fL S 20 (60 * t.toNatClampNeg + i.toNatClampNeg + k)) from (by rw [hSL]; rfl)]
              refine r_last hx hb hK hP hD hS 21 1 (ix_at (by decide) (cR_copies G ad SL)) rfl (k) (rfl) (by omega) (by decide) (fk_get fk_cX12_shift_2 22 rfl) (fun H locs hP hD hS => ?_)
              rw [pR_L G ad SL (by decide) (by decide) (cR_copies G ad SL) (vp_updL (fL SL 21) (k) ((fL S 20 (60 * t.toNatClampNeg + i.toNatClampNeg + k))))] at hP hD
              refine lv_iinc (v := (nI (k + 1))) (lv' := [(6, .int ((nI (k + 1)))), (0, .ref (ad 0)), (1, .int (t)), (2, .int (i)), (3, .int (o)), (4, .int (j)), (5, .int (n))]) hx hb (fk_get fk_cX12_shift_2 23 rfl) hl (k := 0) rfl ((nI_1 k)) (by decide) rfl (fun ls hl => ?_)
              refine lv_goto (tgt := 117) hx hb (fk_get fk_cX12_shift_2 24 rfl) (by decide) ?_
              exact ih (k + 1) (setL SL 21 (vp_updL (fL SL 21) (k) ((fL S 20 (60 * t.toNatClampNeg + i.toNatClampNeg + k))))) _ _ ls (by omega) (by omega) (by rw [hSL]; exact cpF_step _ _ _ _ k) hP hD hS (lv_sub hl [0, 1, 2, 3, 4, 5, 6] rfl)
          exact lp_15 (n.toNatClampNeg + 1) (0) (setF S 0 8 (0)) _ _ ls (by omega) (by omega) (cpF_0 _ _ _) hP hD hS (lv_sub hl [0, 1, 2, 3, 4, 5, 6] rfl)
        have hs2 : ¬ (j.toInt + n.toInt ≤ (fA S 19 o.toNatClampNeg).toInt) := fun z => c_14 (Int32.not_lt.mp ((i64_add j n _ (by assumption) (by assumption)).mpr z))
        refine lv_bipush (v := (-13)) hx hb (fk_get fk_cX12_shift_2 2 rfl) (by decide) ?_
        subst hQ
        have hpost : (((-13) : Int32) = (if (0 ≤ t ∧ t ≤ 5) then if (0 ≤ o ∧ o ≤ 5) then if fA S 22 t.toNatClampNeg = 0 then -11 else if fA S 22 o.toNatClampNeg = 0 then -11 else if fA S 18 t.toNatClampNeg = fA S 18 o.toNatClampNeg then if (¬ n < 0 ∧ ¬ i < 0 ∧ ¬ j < 0 ∧ i.toInt + n.toInt ≤ (fA S 19 t.toNatClampNeg).toInt ∧ j.toInt + n.toInt ≤ (fA S 19 o.toNatClampNeg).toInt) then n else -13 else -12 else -1 else -1)) ∧ (((0 ≤ t ∧ t ≤ 5) ∧ (0 ≤ o ∧ o ≤ 5) ∧ ¬ fA S 22 t.toNatClampNeg = 0 ∧ ¬ fA S 22 o.toNatClampNeg = 0 ∧ fA S 18 t.toNatClampNeg = fA S 18 o.toNatClampNeg ∧ (¬ n < 0 ∧ ¬ i < 0 ∧ ¬ j < 0 ∧ i.toInt + n.toInt ≤ (fA S 19 t.toNatClampNeg).toInt ∧ j.toInt + n.toInt ≤ (fA S 19 o.toNatClampNeg).toInt) ∧ ∃ cp, (setF S 0 8 (0)) = setL (setL (setF S 0 8 0) 21 cp) 20 (mvL (fL S 20) (60 * t.toNatClampNeg + i.toNatClampNeg) (60 * o.toNatClampNeg + j.toNatClampNeg) n.toNatClampNeg)) ∨ (¬ ((0 ≤ t ∧ t ≤ 5) ∧ (0 ≤ o ∧ o ≤ 5) ∧ ¬ fA S 22 t.toNatClampNeg = 0 ∧ ¬ fA S 22 o.toNatClampNeg = 0 ∧ fA S 18 t.toNatClampNeg = fA S 18 o.toNatClampNeg ∧ (¬ n < 0 ∧ ¬ i < 0 ∧ ¬ j < 0 ∧ i.toInt + n.toInt ≤ (fA S 19 t.toNatClampNeg).toInt ∧ j.toInt + n.toInt ≤ (fA S 19 o.toNatClampNeg).toInt)) ∧ (setF S 0 8 (0)) = (setF S 0 8 0))) := by
          first
          | exact shx_1 (by assumption)
          | exact shx_2 (by assumption) (by assumption)
          | exact shx_3 (by assumption) (by assumption) (by assumption)
          | exact shx_4 (by assumption) (by assumption) (by assumption) (by assumption)
          | exact shx_5 (by assumption) (by assumption) (by assumption) (by assumption) (by assumption)
          | exact shx_6 (by assumption) (by assumption) (by assumption) (by assumption) (by assumption) (fun q => by first | exact q.1 (by assumption) | exact q.2.1 (by assumption) | exact q.2.2.1 (by assumption) | exact absurd q.2.2.2.1 (by assumption) | exact absurd q.2.2.2.2 (by assumption))
          | (refine ⟨?_, Or.inl ⟨by assumption, by assumption, by assumption, by assumption, by assumption, ⟨by assumption, by assumption, by assumption, by assumption, by assumption⟩, _, by rw [hSM, hSL]⟩⟩
             rw [if_pos (by assumption), if_pos (by assumption), if_neg (by assumption), if_neg (by assumption), if_pos (by assumption), if_pos ⟨by assumption, by assumption, by assumption, by assumption, by assumption⟩]; done)
        exact W.iret (v := (-13)) hx hb hr (fun t_ ht_ hW_ => ⟨⟨(-13), (setF S 0 8 (0)), rfl, hpost, by rw [ht_]; exact hP, va_K.moved hW_.alike hK, hD⟩, hS.F ht_⟩) hS.2.2 (fk_get fk_cX12_shift_2 3 rfl)
      refine lv_bipush (v := (-12)) hx hb (fk_get fk_cX12_shift_1 2 rfl) (by decide) ?_
      subst hQ
      have hpost : (((-12) : Int32) = (if (0 ≤ t ∧ t ≤ 5) then if (0 ≤ o ∧ o ≤ 5) then if fA S 22 t.toNatClampNeg = 0 then -11 else if fA S 22 o.toNatClampNeg = 0 then -11 else if fA S 18 t.toNatClampNeg = fA S 18 o.toNatClampNeg then if (¬ n < 0 ∧ ¬ i < 0 ∧ ¬ j < 0 ∧ i.toInt + n.toInt ≤ (fA S 19 t.toNatClampNeg).toInt ∧ j.toInt + n.toInt ≤ (fA S 19 o.toNatClampNeg).toInt) then n else -13 else -12 else -1 else -1)) ∧ (((0 ≤ t ∧ t ≤ 5) ∧ (0 ≤ o ∧ o ≤ 5) ∧ ¬ fA S 22 t.toNatClampNeg = 0 ∧ ¬ fA S 22 o.toNatClampNeg = 0 ∧ fA S 18 t.toNatClampNeg = fA S 18 o.toNatClampNeg ∧ (¬ n < 0 ∧ ¬ i < 0 ∧ ¬ j < 0 ∧ i.toInt + n.toInt ≤ (fA S 19 t.toNatClampNeg).toInt ∧ j.toInt + n.toInt ≤ (fA S 19 o.toNatClampNeg).toInt) ∧ ∃ cp, (setF S 0 8 (0)) = setL (setL (setF S 0 8 0) 21 cp) 20 (mvL (fL S 20) (60 * t.toNatClampNeg + i.toNatClampNeg) (60 * o.toNatClampNeg + j.toNatClampNeg) n.toNatClampNeg)) ∨ (¬ ((0 ≤ t ∧ t ≤ 5) ∧ (0 ≤ o ∧ o ≤ 5) ∧ ¬ fA S 22 t.toNatClampNeg = 0 ∧ ¬ fA S 22 o.toNatClampNeg = 0 ∧ fA S 18 t.toNatClampNeg = fA S 18 o.toNatClampNeg ∧ (¬ n < 0 ∧ ¬ i < 0 ∧ ¬ j < 0 ∧ i.toInt + n.toInt ≤ (fA S 19 t.toNatClampNeg).toInt ∧ j.toInt + n.toInt ≤ (fA S 19 o.toNatClampNeg).toInt)) ∧ (setF S 0 8 (0)) = (setF S 0 8 0))) := by
        first
        | exact shx_1 (by assumption)
        | exact shx_2 (by assumption) (by assumption)
        | exact shx_3 (by assumption) (by assumption) (by assumption)
        | exact shx_4 (by assumption) (by assumption) (by assumption) (by assumption)
        | exact shx_5 (by assumption) (by assumption) (by assumption) (by assumption) (by assumption)
        | exact shx_6 (by assumption) (by assumption) (by assumption) (by assumption) (by assumption) (fun q => by first | exact q.1 (by assumption) | exact q.2.1 (by assumption) | exact q.2.2.1 (by assumption) | exact absurd q.2.2.2.1 (by assumption) | exact absurd q.2.2.2.2 (by assumption))
        | (refine ⟨?_, Or.inl ⟨by assumption, by assumption, by assumption, by assumption, by assumption, ⟨by assumption, by assumption, by assumption, by assumption, by assumption⟩, _, by rw [hSM, hSL]⟩⟩
           rw [if_pos (by assumption), if_pos (by assumption), if_neg (by assumption), if_neg (by assumption), if_pos (by assumption), if_pos ⟨by assumption, by assumption, by assumption, by assumption, by assumption⟩]; done)
      exact W.iret (v := (-12)) hx hb hr (fun t_ ht_ hW_ => ⟨⟨(-12), (setF S 0 8 (0)), rfl, hpost, by rw [ht_]; exact hP, va_K.moved hW_.alike hK, hD⟩, hS.F ht_⟩) hS.2.2 (fk_get fk_cX12_shift_1 3 rfl)
    refine lv_bipush (v := (-11)) hx hb (fk_get fk_cX12_shift_0 23 rfl) (by decide) ?_
    subst hQ
    have hpost : (((-11) : Int32) = (if (0 ≤ t ∧ t ≤ 5) then if (0 ≤ o ∧ o ≤ 5) then if fA S 22 t.toNatClampNeg = 0 then -11 else if fA S 22 o.toNatClampNeg = 0 then -11 else if fA S 18 t.toNatClampNeg = fA S 18 o.toNatClampNeg then if (¬ n < 0 ∧ ¬ i < 0 ∧ ¬ j < 0 ∧ i.toInt + n.toInt ≤ (fA S 19 t.toNatClampNeg).toInt ∧ j.toInt + n.toInt ≤ (fA S 19 o.toNatClampNeg).toInt) then n else -13 else -12 else -1 else -1)) ∧ (((0 ≤ t ∧ t ≤ 5) ∧ (0 ≤ o ∧ o ≤ 5) ∧ ¬ fA S 22 t.toNatClampNeg = 0 ∧ ¬ fA S 22 o.toNatClampNeg = 0 ∧ fA S 18 t.toNatClampNeg = fA S 18 o.toNatClampNeg ∧ (¬ n < 0 ∧ ¬ i < 0 ∧ ¬ j < 0 ∧ i.toInt + n.toInt ≤ (fA S 19 t.toNatClampNeg).toInt ∧ j.toInt + n.toInt ≤ (fA S 19 o.toNatClampNeg).toInt) ∧ ∃ cp, (setF S 0 8 (0)) = setL (setL (setF S 0 8 0) 21 cp) 20 (mvL (fL S 20) (60 * t.toNatClampNeg + i.toNatClampNeg) (60 * o.toNatClampNeg + j.toNatClampNeg) n.toNatClampNeg)) ∨ (¬ ((0 ≤ t ∧ t ≤ 5) ∧ (0 ≤ o ∧ o ≤ 5) ∧ ¬ fA S 22 t.toNatClampNeg = 0 ∧ ¬ fA S 22 o.toNatClampNeg = 0 ∧ fA S 18 t.toNatClampNeg = fA S 18 o.toNatClampNeg ∧ (¬ n < 0 ∧ ¬ i < 0 ∧ ¬ j < 0 ∧ i.toInt + n.toInt ≤ (fA S 19 t.toNatClampNeg).toInt ∧ j.toInt + n.toInt ≤ (fA S 19 o.toNatClampNeg).toInt)) ∧ (setF S 0 8 (0)) = (setF S 0 8 0))) := by
      first
      | exact shx_1 (by assumption)
      | exact shx_2 (by assumption) (by assumption)
      | exact shx_3 (by assumption) (by assumption) (by assumption)
      | exact shx_4 (by assumption) (by assumption) (by assumption) (by assumption)
      | exact shx_5 (by assumption) (by assumption) (by assumption) (by assumption) (by assumption)
      | exact shx_6 (by assumption) (by assumption) (by assumption) (by assumption) (by assumption) (fun q => by first | exact q.1 (by assumption) | exact q.2.1 (by assumption) | exact q.2.2.1 (by assumption) | exact absurd q.2.2.2.1 (by assumption) | exact absurd q.2.2.2.2 (by assumption))
      | (refine ⟨?_, Or.inl ⟨by assumption, by assumption, by assumption, by assumption, by assumption, ⟨by assumption, by assumption, by assumption, by assumption, by assumption⟩, _, by rw [hSM, hSL]⟩⟩
         rw [if_pos (by assumption), if_pos (by assumption), if_neg (by assumption), if_neg (by assumption), if_pos (by assumption), if_pos ⟨by assumption, by assumption, by assumption, by assumption, by assumption⟩]; done)
    exact W.iret (v := (-11)) hx hb hr (fun t_ ht_ hW_ => ⟨⟨(-11), (setF S 0 8 (0)), rfl, hpost, by rw [ht_]; exact hP, va_K.moved hW_.alike hK, hD⟩, hS.F ht_⟩) hS.2.2 (fk_get fk_cX12_shift_0 24 rfl)
  have p_c_6 := if1_f hw_5 c_6
  refine lv_iconst (v := (-1)) hx hb (fk_get fk_cX12_shift_0 11 rfl) (by decide) ?_
  subst hQ
  have hpost : (((-1) : Int32) = (if (0 ≤ t ∧ t ≤ 5) then if (0 ≤ o ∧ o ≤ 5) then if fA S 22 t.toNatClampNeg = 0 then -11 else if fA S 22 o.toNatClampNeg = 0 then -11 else if fA S 18 t.toNatClampNeg = fA S 18 o.toNatClampNeg then if (¬ n < 0 ∧ ¬ i < 0 ∧ ¬ j < 0 ∧ i.toInt + n.toInt ≤ (fA S 19 t.toNatClampNeg).toInt ∧ j.toInt + n.toInt ≤ (fA S 19 o.toNatClampNeg).toInt) then n else -13 else -12 else -1 else -1)) ∧ (((0 ≤ t ∧ t ≤ 5) ∧ (0 ≤ o ∧ o ≤ 5) ∧ ¬ fA S 22 t.toNatClampNeg = 0 ∧ ¬ fA S 22 o.toNatClampNeg = 0 ∧ fA S 18 t.toNatClampNeg = fA S 18 o.toNatClampNeg ∧ (¬ n < 0 ∧ ¬ i < 0 ∧ ¬ j < 0 ∧ i.toInt + n.toInt ≤ (fA S 19 t.toNatClampNeg).toInt ∧ j.toInt + n.toInt ≤ (fA S 19 o.toNatClampNeg).toInt) ∧ ∃ cp, (setF S 0 8 (0)) = setL (setL (setF S 0 8 0) 21 cp) 20 (mvL (fL S 20) (60 * t.toNatClampNeg + i.toNatClampNeg) (60 * o.toNatClampNeg + j.toNatClampNeg) n.toNatClampNeg)) ∨ (¬ ((0 ≤ t ∧ t ≤ 5) ∧ (0 ≤ o ∧ o ≤ 5) ∧ ¬ fA S 22 t.toNatClampNeg = 0 ∧ ¬ fA S 22 o.toNatClampNeg = 0 ∧ fA S 18 t.toNatClampNeg = fA S 18 o.toNatClampNeg ∧ (¬ n < 0 ∧ ¬ i < 0 ∧ ¬ j < 0 ∧ i.toInt + n.toInt ≤ (fA S 19 t.toNatClampNeg).toInt ∧ j.toInt + n.toInt ≤ (fA S 19 o.toNatClampNeg).toInt)) ∧ (setF S 0 8 (0)) = (setF S 0 8 0))) := by
    first
    | exact shx_1 (by assumption)
    | exact shx_2 (by assumption) (by assumption)
    | exact shx_3 (by assumption) (by assumption) (by assumption)
    | exact shx_4 (by assumption) (by assumption) (by assumption) (by assumption)
    | exact shx_5 (by assumption) (by assumption) (by assumption) (by assumption) (by assumption)
    | exact shx_6 (by assumption) (by assumption) (by assumption) (by assumption) (by assumption) (fun q => by first | exact q.1 (by assumption) | exact q.2.1 (by assumption) | exact q.2.2.1 (by assumption) | exact absurd q.2.2.2.1 (by assumption) | exact absurd q.2.2.2.2 (by assumption))
    | (refine ⟨?_, Or.inl ⟨by assumption, by assumption, by assumption, by assumption, by assumption, ⟨by assumption, by assumption, by assumption, by assumption, by assumption⟩, _, by rw [hSM, hSL]⟩⟩
       rw [if_pos (by assumption), if_pos (by assumption), if_neg (by assumption), if_neg (by assumption), if_pos (by assumption), if_pos ⟨by assumption, by assumption, by assumption, by assumption, by assumption⟩]; done)
  exact W.iret (v := (-1)) hx hb hr (fun t_ ht_ hW_ => ⟨⟨(-1), (setF S 0 8 (0)), rfl, hpost, by rw [ht_]; exact hP, va_K.moved hW_.alike hK, hD⟩, hS.F ht_⟩) hS.2.2 (fk_get fk_cX12_shift_0 12 rfl)
