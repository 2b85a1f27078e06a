theorem tr_a {i : Int32} (h : 0 ≤ i ∧ i ≤ 20 - 1) : i.toNatClampNeg < 20 ∧ i = nI i.toNatClampNeg := by
  obtain ⟨a, b⟩ := in_n (c := i) (b := 19) ⟨h.1, Int32.le_trans h.2 (by decide)⟩ (by decide)
  exact ⟨by omega, b⟩
theorem tr_b {i x : Int32} {t : Nat} (h : 0 ≤ i ∧ i ≤ x - 1) (e : x = nI t) (ht : t < 20) : i.toNatClampNeg < 20 ∧ i = nI i.toNatClampNeg := by
  by_cases q : t = 0
  · subst q
    rw [e] at h
    exact absurd (Int32.le_trans h.1 h.2) (by decide)
  · obtain ⟨j, rfl⟩ : ∃ j, t = j + 1 := ⟨t - 1, by omega⟩
    rw [e, ← nI_1 j, Int32.sub_eq_add_neg, Int32.add_assoc, show (1 : Int32) + -1 = 0 from by decide, Int32.add_zero] at h
    obtain ⟨a, b⟩ := in_n h (by omega)
    exact ⟨by omega, b⟩
set_option maxHeartbeats 800000 in
set_option maxRecDepth 100000 in
theorem c_mean (l : Launch) (G : GG) (ad : Nat → Nat) (S : FS) (sz : Nat) (n : Nat) (n_ w_ : Int32) (hn : fF S 0 1 = nI n) (hn6 : n ≤ 6) (hHOK : HOK S) (hSV : SV 9999 S) (h15 : fF S 0 15 = 0) : Met l yX12_mean (Cond.code yX12_mean cX12_mean 3 (some .long) :: TBL) ({ frames := 10, cells := 0, slots := 0, locals := 281 } : Room) (PcW G (wR G ad S) sz [.ref (ad 0), .int (n_), .int (w_)]) (va_Ql (fun (r : Int64) (S' : FS) => QP (setF S 0 8 0) S') (fun S' t => BW G (va_A (wR G ad S) sz) (wR G ad S') t) (va_A (wR G ad S) sz)) 0 0 (va_A (wR G ad S) sz) := by
  refine Met.ofW (cc := cX12_mean) (maxL := 3) (ret := (some .long)) (by decide) rfl ?_
  intro p e s m args below meth c₀ s₁ B hml hv
  obtain ⟨rfl, hsz, hP, hK, hD0⟩ := hv
  have hx := B.exec
  have hb := B.bytes
  have hr := B.returns
  have hT : ∀ w ∈ TBL, w.before ([.ref (ad 0), .int (n_), .int (w_)] : List Value).toArray s = true := fun w h => atoms_spec (ws := Cond.code yX12_mean cX12_mean 3 (some .long) :: TBL) B.pre w (List.mem_cons_of_mem _ h)
  have hown : s.vm.findClass "LittleMoreModel" = some m.cls := findClass_of_methodNamed B.named
  have hlocks := B.notSynchronized
  subst hsz
  have hD := hD0.self (sz := s.heap.size)
  generalize hAe : va_A (wR G ad S) s.heap.size = A at hD ⊢
  have hA : ∀ q : Nat, s.heap.size ≤ q → A q := fun q h => by rw [← hAe]; exact Or.inr h
  have hS : va_S A s.heap s.heap [] := va_S.rf
  have hP : va_P G.1 vwCl (wR G ad S) s.heap := hP
  have hl := lv_entry ([.ref (ad 0), .int (n_), .int (w_)]) (n := 3) (Nat.le_of_ble_eq_true rfl)
  rw [lg_entry_eq]
  generalize (lg_sl ([.ref (ad 0), .int (n_), .int (w_)]) ++ List.replicate (3 - (lg_sl ([.ref (ad 0), .int (n_), .int (w_)])).length) Slot.unset).toArray = ls at hl ⊢
  have hl : lv_has ls 3 [(0, .ref (ad 0)), (1, .int (n_)), (2, .int (w_))] := hl
  refine W_abs (fun Q hQ => ?_)
  generalize ([.ref (ad 0), .int (n_), .int (w_)] : List Value).toArray = args at hT hQ ⊢
  refine lv_aload_n hx hb (fk_get fk_cX12_mean_0 0 rfl) rfl (lv_at hl 0 rfl) ?_
  refine lv_iconst (v := 0) hx hb (fk_get fk_cX12_mean_0 1 rfl) (by decide) ?_
  refine va_put (D := G.1) (ci := 14) (v := .int (0)) (ty := .int) (C := RX12) (T := TX12) (N := 49) hx hb hT inX12 tyX12 tyX12_ok nmX12 hown hK hP hD hS 0 (ix_at (by decide) (cR_0 G ad S)) rfl 8 (by decide) (hT _ m5_109) (fun _ h9 => h9) rfl (by decide +kernel) rfl rfl (Nat.le_of_ble_eq_true rfl) (fk_get fk_cX12_mean_0 2 rfl) (fun H locs hP hD hS => ?_)
  rw [pR_thrown G ad S (0)] at hP hD
  refine lv_iload_n hx hb (fk_get fk_cX12_mean_0 3 rfl) rfl (lv_at hl 1 rfl) ?_
  refine lv_i2l hx hb (fk_get fk_cX12_mean_0 4 rfl) rfl ?_
  refine lv_lconst (v := 1) hx hb (fk_get fk_cX12_mean_0 5 rfl) (by decide) ?_
  refine lv_ldc2 (v := 40) hx hb hown (hT _ m6_217) (fk_get fk_cX12_mean_0 6 rfl) ?_
  refine vp_callSi (W.runS (As := [.long ((n_).toInt64), .long (1), .long (40)]) (rest := []) ⟨hx, hb, hml, hown, hT⟩ (c_in l ((n_).toInt64) (1) (40) ) (tS 3 hT m6_31 m6_32 m1_17 m6_33 rfl rfl (by decide +kernel) ⟨Nat.le_of_ble_eq_true rfl, Nat.le_of_ble_eq_true rfl⟩) ⟨PcN_blind, PcN_of _ _ _⟩ rfl rfl hl.1 rfl (lv_room (Nat.le_of_ble_eq_true rfl)) (fk_get fk_cX12_mean_0 7 rfl) ⟨Nat.zero_le _, Nat.zero_le _⟩) (fun r_1 hw_2 => ?_)
  try dsimp only at hw_2
  have hw_2 := in_eq hw_2 (n_) 1 40 (rfl) (by decide) (by decide)
  refine lv_if_eq (tgt := 27) hx hb (fk_get fk_cX12_mean_0 8 rfl) (by decide) (fun c_3 => ?_) (fun c_3 => ?_)
  · have p_c_3 := if1_f hw_2 c_3
    refine lv_ldc2 (v := (-9223372036854775808)) hx hb hown (hT _ m7_52) (fk_get fk_cX12_mean_0 15 rfl) ?_
    subst hQ
    have hpost : QP (setF S 0 8 0) (setF S 0 8 (0)) := by
      first | exact QP.rf h15 | exact hZq
    exact W.lret (v := (-9223372036854775808)) hx hb hr (fun t_ ht_ hW_ => ⟨⟨(-9223372036854775808), (setF S 0 8 (0)), rfl, hpost, by rw [ht_]; exact hP, va_K.moved hW_.alike hK, hD⟩, hS.F ht_⟩) hS.2.2 (fk_get fk_cX12_mean_0 16 rfl)
  have p_c_3 := if1_t hw_2 c_3
  have hpn := p_c_3
  refine lv_iload_n hx hb (fk_get fk_cX12_mean_0 9 rfl) rfl (lv_at hl 2 rfl) ?_
  refine lv_i2l hx hb (fk_get fk_cX12_mean_0 10 rfl) rfl ?_
  refine lv_lconst (v := 0) hx hb (fk_get fk_cX12_mean_0 11 rfl) (by decide) ?_
  refine lv_lconst (v := 1) hx hb (fk_get fk_cX12_mean_0 12 rfl) (by decide) ?_
  refine vp_callSi (W.runS (As := [.long ((w_).toInt64), .long (0), .long (1)]) (rest := []) ⟨hx, hb, hml, hown, hT⟩ (c_in l ((w_).toInt64) (0) (1) ) (tS 3 hT m6_31 m6_32 m1_17 m6_33 rfl rfl (by decide +kernel) ⟨Nat.le_of_ble_eq_true rfl, Nat.le_of_ble_eq_true rfl⟩) ⟨PcN_blind, PcN_of _ _ _⟩ rfl rfl hl.1 rfl (lv_room (Nat.le_of_ble_eq_true rfl)) (fk_get fk_cX12_mean_0 13 rfl) ⟨Nat.zero_le _, Nat.zero_le _⟩) (fun r_4 hw_5 => ?_)
  try dsimp only at hw_5
  have hw_5 := in_eq hw_5 (w_) 0 1 (rfl) (by decide) (by decide)
  refine lv_if_ne (tgt := 31) hx hb (fk_get fk_cX12_mean_0 14 rfl) (by decide) (fun c_6 => ?_) (fun c_6 => ?_)
  · have p_c_6 := if1_t hw_5 c_6
    obtain ⟨hw40, ew⟩ := in_n (b := 40) ⟨Int32.le_trans (by decide) hpn.1, hpn.2⟩ (by decide)
    refine lv_aload_n hx hb (fk_get fk_cX12_mean_0 17 rfl) rfl (lv_at hl 0 rfl) ?_
    have hFc := va_self hD hS hA
    refine va_callv (va_runV (As := []) (rest := []) ⟨hx, hb, hml, hown, hT⟩ (c_open l G ad (setF S 0 8 (0)) H.size (9999) (hSV)) (tV 0 hT m6_218 m6_220 mp_49 m1_17 m6_221 rfl rfl (by decide +kernel) ⟨Nat.le_of_ble_eq_true rfl, Nat.le_of_ble_eq_true rfl⟩) ⟨PcW_blind, va_recv hK hP (ci := 14) (q0 := 0) rfl (ix_at (by decide) (cR_0 G ad (setF S 0 8 (0)))), PcW_of hP hK hD _⟩ rfl rfl hl.1 rfl (lv_room (Nat.le_of_ble_eq_true rfl)) (fk_get fk_cX12_mean_0 18 rfl) ⟨Nat.zero_le _, Nat.zero_le _⟩) hS (fun q _ h => hFc q h) hFc (fun S_9 t_ H locs ht_ hvm_ hw_8 hB_ hz_ hk_ hS => ?_)
    obtain ⟨hP, -, hD1_⟩ := hB_
    rw [ht_] at hP
    have hD : va_D A (wR G ad S_9) := hD1_.weaken (fun k q _ h => hFc q.1 h)
    try dsimp only at hw_8
    have hI0 := hw_8
    refine lv_aload_n hx hb (fk_get fk_cX12_mean_0 19 rfl) rfl (lv_at hl 0 rfl) ?_
    refine lv_iload_n hx hb (fk_get fk_cX12_mean_0 20 rfl) rfl (lv_at hl 1 rfl) ?_
    have hFc := va_self hD hS hA
    refine va_callv (va_runV (As := [.int (n_)]) (rest := []) ⟨hx, hb, hml, hown, hT⟩ (c_saturdaysOnE l G ad S_9 H.size (n) (9999) (n_.toNatClampNeg) (hI0.f (by decide) hn) (hn6) (hI0.HOK hHOK) (hI0.SV) (by omega) (hw40) (n_) (ew)) (tV 1 hT m6_204 m6_206 mp_47 m1_17 m6_207 rfl rfl (by decide +kernel) ⟨Nat.le_of_ble_eq_true rfl, Nat.le_of_ble_eq_true rfl⟩) ⟨PcW_blind, va_recv hK hP (ci := 14) (q0 := 0) rfl (ix_at (by decide) (cR_0 G ad S_9)), PcW_of hP hK hD _⟩ rfl rfl hl.1 rfl (lv_room (Nat.le_of_ble_eq_true rfl)) (fk_get fk_cX12_mean_0 21 rfl) ⟨Nat.zero_le _, Nat.zero_le _⟩) hS (fun q _ h => hFc q h) hFc (fun S_12 t_ H locs ht_ hvm_ hw_11 hB_ hz_ hk_ hS => ?_)
    obtain ⟨hP, -, hD1_⟩ := hB_
    rw [ht_] at hP
    have hD : va_D A (wR G ad S_12) := hD1_.weaken (fun k q _ h => hFc q.1 h)
    try dsimp only at hw_11
    obtain ⟨hM2, hS2, -⟩ := hw_11
    have hI1 := hI0.M hM2 hS2
    refine lv_aload_n hx hb (fk_get fk_cX12_mean_0 22 rfl) rfl (lv_at hl 0 rfl) ?_
    have hFc := va_self hD hS hA
    refine va_callv (va_runV (As := []) (rest := []) ⟨hx, hb, hml, hown, hT⟩ (c_close l G ad S_12 H.size ((setF S 0 8 0)) (9999 + n_.toNatClampNeg) (hI1)) (tV 0 hT m6_226 m6_228 mp_51 m1_17 m6_229 rfl rfl (by decide +kernel) ⟨Nat.le_of_ble_eq_true rfl, Nat.le_of_ble_eq_true rfl⟩) ⟨PcW_blind, va_recv hK hP (ci := 14) (q0 := 0) rfl (ix_at (by decide) (cR_0 G ad S_12)), PcW_of hP hK hD _⟩ rfl rfl hl.1 rfl (lv_room (Nat.le_of_ble_eq_true rfl)) (fk_get fk_cX12_mean_0 23 rfl) ⟨Nat.zero_le _, Nat.zero_le _⟩) hS (fun q _ h => hFc q h) hFc (fun S_15 t_ H locs ht_ hvm_ hw_14 hB_ hz_ hk_ hS => ?_)
    obtain ⟨hP, -, hD1_⟩ := hB_
    rw [ht_] at hP
    have hD : va_D A (wR G ad S_15) := hD1_.weaken (fun k q _ h => hFc q.1 h)
    try dsimp only at hw_14
    have hZq := hw_14
    refine lv_aload_n hx hb (fk_get fk_cX12_mean_0 24 rfl) rfl (lv_at hl 0 rfl) ?_
    refine va_get (D := G.1) (ci := 14) (v := .int ((fF S_15 0 38))) (C := RX12) (T := TX12) (N := 49) hx hb hT inX12 hown hK hP 0 (ix_at (by decide) (cR_0 G ad S_15)) rfl 38 (by decide) (hT _ m5_139) (fun _ h9 => h9) rfl (fk_get fk_cX12_mean_0 25 rfl) ?_
    refine lv_if_ne (tgt := 57) hx hb (fk_get fk_cX12_mean_0 26 rfl) (by decide) (fun c_16 => ?_) (fun c_16 => ?_)
    · have hb0 := c_16
      refine lv_aload_n hx hb (fk_get fk_cX12_mean_0 29 rfl) rfl (lv_at hl 0 rfl) ?_
      refine va_get (D := G.1) (ci := 14) (v := .int ((fF S_15 0 36))) (C := RX12) (T := TX12) (N := 49) hx hb hT inX12 hown hK hP 0 (ix_at (by decide) (cR_0 G ad S_15)) rfl 36 (by decide) (hT _ m5_137) (fun _ h9 => h9) rfl (fk_get fk_cX12_mean_0 30 rfl) ?_
      refine lv_aload_n hx hb (fk_get fk_cX12_mean_0 31 rfl) rfl (lv_at hl 0 rfl) ?_
      refine va_get (D := G.1) (ci := 14) (v := .int ((fF S_15 0 37))) (C := RX12) (T := TX12) (N := 49) hx hb hT inX12 hown hK hP 0 (ix_at (by decide) (cR_0 G ad S_15)) rfl 37 (by decide) (hT _ m5_138) (fun _ h9 => h9) rfl (fk_get fk_cX12_mean_1 0 rfl) ?_
      refine lv_isub hx hb (fk_get fk_cX12_mean_1 1 rfl) ?_
      refine lv_aload_n hx hb (fk_get fk_cX12_mean_1 2 rfl) rfl (lv_at hl 0 rfl) ?_
      refine va_get (D := G.1) (ci := 14) (v := .int ((fF S_15 0 38))) (C := RX12) (T := TX12) (N := 49) hx hb hT inX12 hown hK hP 0 (ix_at (by decide) (cR_0 G ad S_15)) rfl 38 (by decide) (hT _ m5_139) (fun _ h9 => h9) rfl (fk_get fk_cX12_mean_1 3 rfl) ?_
      refine lv_iload_n hx hb (fk_get fk_cX12_mean_1 4 rfl) rfl (lv_at hl 2 rfl) ?_
      refine vp_callSl (W.runS (As := [.int (((fF S_15 0 36) - (fF S_15 0 37))), .int ((fF S_15 0 38)), .int (w_)]) (rest := []) ⟨hx, hb, hml, hown, hT⟩ (c_partOf l (((fF S_15 0 36) - (fF S_15 0 37))) ((fF S_15 0 38)) (w_) (hb0)) (tS 3 hT m7_53 m7_54 m1_17 m7_55 rfl rfl (by decide +kernel) ⟨Nat.le_of_ble_eq_true rfl, Nat.le_of_ble_eq_true rfl⟩) ⟨PcN_blind, PcN_of _ _ _⟩ rfl rfl hl.1 rfl (lv_room (Nat.le_of_ble_eq_true rfl)) (fk_get fk_cX12_mean_1 5 rfl) ⟨Nat.zero_le _, Nat.zero_le _⟩) (fun r_17 hw_18 => ?_)
      try dsimp only at hw_18
      subst hQ
      have hpost : QP (setF S 0 8 0) S_15 := by
        first | exact QP.rf h15 | exact hZq
      exact W.lret (v := r_17) hx hb hr (fun t_ ht_ hW_ => ⟨⟨r_17, S_15, rfl, hpost, by rw [ht_]; exact hP, va_K.moved hW_.alike hK, hD⟩, hS.F ht_⟩) hS.2.2 (fk_get fk_cX12_mean_1 6 rfl)
    refine lv_ldc2 (v := (-9223372036854775808)) hx hb hown (hT _ m7_52) (fk_get fk_cX12_mean_0 27 rfl) ?_
    refine lv_goto (tgt := 74) hx hb (fk_get fk_cX12_mean_0 28 rfl) (by decide) ?_
    subst hQ
    have hpost : QP (setF S 0 8 0) S_15 := by
      first | exact QP.rf h15 | exact hZq
    exact W.lret (v := (-9223372036854775808)) hx hb hr (fun t_ ht_ hW_ => ⟨⟨(-9223372036854775808), S_15, rfl, hpost, by rw [ht_]; exact hP, va_K.moved hW_.alike hK, hD⟩, hS.F ht_⟩) hS.2.2 (fk_get fk_cX12_mean_1 6 rfl)
  have p_c_6 := if1_f hw_5 c_6
  refine lv_ldc2 (v := (-9223372036854775808)) hx hb hown (hT _ m7_52) (fk_get fk_cX12_mean_0 15 rfl) ?_
  subst hQ
  have hpost : QP (setF S 0 8 0) (setF S 0 8 (0)) := by
    first | exact QP.rf h15 | exact hZq
  exact W.lret (v := (-9223372036854775808)) hx hb hr (fun t_ ht_ hW_ => ⟨⟨(-9223372036854775808), (setF S 0 8 (0)), rfl, hpost, by rw [ht_]; exact hP, va_K.moved hW_.alike hK, hD⟩, hS.F ht_⟩) hS.2.2 (fk_get fk_cX12_mean_0 16 rfl)
set_option maxHeartbeats 800000 in
set_option maxRecDepth 100000 in
theorem c_odds (l : Launch) (G : GG) (ad : Nat → Nat) (S : FS) (sz : Nat) (n : Nat) (n_ w_ : Int32) (hn : fF S 0 1 = nI n) (hn6 : n ≤ 6) (hHOK : HOK S) (hSV : SV 9999 S) (h15 : fF S 0 15 = 0) : Met l yX12_odds (Cond.code yX12_odds cX12_odds 6 (some .long) :: TBL) ({ frames := 10, cells := 0, slots := 0, locals := 281 } : Room) (PcW G (wR G ad S) sz [.ref (ad 0), .int (n_), .int (w_)]) (va_Ql (fun (r : Int64) (S' : FS) => QP (setF S 0 8 0) S') (fun S' t => BW G (va_A (wR G ad S) sz) (wR G ad S') t) (va_A (wR G ad S) sz)) 0 0 (va_A (wR G ad S) sz) := by
  refine Met.ofW (cc := cX12_odds) (maxL := 6) (ret := (some .long)) (by decide) rfl ?_
  intro p e s m args below meth c₀ s₁ B hml hv
  obtain ⟨rfl, hsz, hP, hK, hD0⟩ := hv
  have hx := B.exec
  have hb := B.bytes
  have hr := B.returns
  have hT : ∀ w ∈ TBL, w.before ([.ref (ad 0), .int (n_), .int (w_)] : List Value).toArray s = true := fun w h => atoms_spec (ws := Cond.code yX12_odds cX12_odds 6 (some .long) :: TBL) B.pre w (List.mem_cons_of_mem _ h)
  have hown : s.vm.findClass "LittleMoreModel" = some m.cls := findClass_of_methodNamed B.named
  have hlocks := B.notSynchronized
  subst hsz
  have hD := hD0.self (sz := s.heap.size)
  generalize hAe : va_A (wR G ad S) s.heap.size = A at hD ⊢
  have hA : ∀ q : Nat, s.heap.size ≤ q → A q := fun q h => by rw [← hAe]; exact Or.inr h
  have hS : va_S A s.heap s.heap [] := va_S.rf
  have hP : va_P G.1 vwCl (wR G ad S) s.heap := hP
  have hl := lv_entry ([.ref (ad 0), .int (n_), .int (w_)]) (n := 6) (Nat.le_of_ble_eq_true rfl)
  rw [lg_entry_eq]
  generalize (lg_sl ([.ref (ad 0), .int (n_), .int (w_)]) ++ List.replicate (6 - (lg_sl ([.ref (ad 0), .int (n_), .int (w_)])).length) Slot.unset).toArray = ls at hl ⊢
  have hl : lv_has ls 6 [(0, .ref (ad 0)), (1, .int (n_)), (2, .int (w_))] := hl
  refine W_abs (fun Q hQ => ?_)
  generalize ([.ref (ad 0), .int (n_), .int (w_)] : List Value).toArray = args at hT hQ ⊢
  refine lv_aload_n hx hb (fk_get fk_cX12_odds_0 0 rfl) rfl (lv_at hl 0 rfl) ?_
  refine lv_iconst (v := 0) hx hb (fk_get fk_cX12_odds_0 1 rfl) (by decide) ?_
  refine va_put (D := G.1) (ci := 14) (v := .int (0)) (ty := .int) (C := RX12) (T := TX12) (N := 49) hx hb hT inX12 tyX12 tyX12_ok nmX12 hown hK hP hD hS 0 (ix_at (by decide) (cR_0 G ad S)) rfl 8 (by decide) (hT _ m5_109) (fun _ h9 => h9) rfl (by decide +kernel) rfl rfl (Nat.le_of_ble_eq_true rfl) (fk_get fk_cX12_odds_0 2 rfl) (fun H locs hP hD hS => ?_)
  rw [pR_thrown G ad S (0)] at hP hD
  refine lv_iload_n hx hb (fk_get fk_cX12_odds_0 3 rfl) rfl (lv_at hl 1 rfl) ?_
  refine lv_i2l hx hb (fk_get fk_cX12_odds_0 4 rfl) rfl ?_
  refine lv_lconst (v := 0) hx hb (fk_get fk_cX12_odds_0 5 rfl) (by decide) ?_
  refine lv_ldc2 (v := 40) hx hb hown (hT _ m6_217) (fk_get fk_cX12_odds_0 6 rfl) ?_
  refine vp_callSi (W.runS (As := [.long ((n_).toInt64), .long (0), .long (40)]) (rest := []) ⟨hx, hb, hml, hown, hT⟩ (c_in l ((n_).toInt64) (0) (40) ) (tS 3 hT m6_31 m6_32 m1_17 m6_33 rfl rfl (by decide +kernel) ⟨Nat.le_of_ble_eq_true rfl, Nat.le_of_ble_eq_true rfl⟩) ⟨PcN_blind, PcN_of _ _ _⟩ rfl rfl hl.1 rfl (lv_room (Nat.le_of_ble_eq_true rfl)) (fk_get fk_cX12_odds_0 7 rfl) ⟨Nat.zero_le _, Nat.zero_le _⟩) (fun r_1 hw_2 => ?_)
  try dsimp only at hw_2
  have hw_2 := in_eq hw_2 (n_) 0 40 (rfl) (by decide) (by decide)
  refine lv_if_eq (tgt := 27) hx hb (fk_get fk_cX12_odds_0 8 rfl) (by decide) (fun c_3 => ?_) (fun c_3 => ?_)
  · have p_c_3 := if1_f hw_2 c_3
    refine lv_ldc2 (v := (-9223372036854775808)) hx hb hown (hT _ m7_52) (fk_get fk_cX12_odds_0 15 rfl) ?_
    subst hQ
    have hpost : QP (setF S 0 8 0) (setF S 0 8 (0)) := by
      first | exact QP.rf h15 | exact hZq
    exact W.lret (v := (-9223372036854775808)) hx hb hr (fun t_ ht_ hW_ => ⟨⟨(-9223372036854775808), (setF S 0 8 (0)), rfl, hpost, by rw [ht_]; exact hP, va_K.moved hW_.alike hK, hD⟩, hS.F ht_⟩) hS.2.2 (fk_get fk_cX12_odds_0 16 rfl)
  have p_c_3 := if1_t hw_2 c_3
  have hpn := p_c_3
  refine lv_iload_n hx hb (fk_get fk_cX12_odds_0 9 rfl) rfl (lv_at hl 2 rfl) ?_
  refine lv_i2l hx hb (fk_get fk_cX12_odds_0 10 rfl) rfl ?_
  refine lv_lconst (v := 0) hx hb (fk_get fk_cX12_odds_0 11 rfl) (by decide) ?_
  refine lv_lconst (v := 1) hx hb (fk_get fk_cX12_odds_0 12 rfl) (by decide) ?_
  refine vp_callSi (W.runS (As := [.long ((w_).toInt64), .long (0), .long (1)]) (rest := []) ⟨hx, hb, hml, hown, hT⟩ (c_in l ((w_).toInt64) (0) (1) ) (tS 3 hT m6_31 m6_32 m1_17 m6_33 rfl rfl (by decide +kernel) ⟨Nat.le_of_ble_eq_true rfl, Nat.le_of_ble_eq_true rfl⟩) ⟨PcN_blind, PcN_of _ _ _⟩ rfl rfl hl.1 rfl (lv_room (Nat.le_of_ble_eq_true rfl)) (fk_get fk_cX12_odds_0 13 rfl) ⟨Nat.zero_le _, Nat.zero_le _⟩) (fun r_4 hw_5 => ?_)
  try dsimp only at hw_5
  have hw_5 := in_eq hw_5 (w_) 0 1 (rfl) (by decide) (by decide)
  refine lv_if_ne (tgt := 31) hx hb (fk_get fk_cX12_odds_0 14 rfl) (by decide) (fun c_6 => ?_) (fun c_6 => ?_)
  · have p_c_6 := if1_t hw_5 c_6
    obtain ⟨hw40, ew⟩ := in_n (b := 40) hpn (by decide)
    refine lv_iconst (v := 0) hx hb (fk_get fk_cX12_odds_0 17 rfl) (by decide) ?_
    refine lv_istore_n (lv' := [(3, .int (0)), (0, .ref (ad 0)), (1, .int (n_)), (2, .int (w_))]) hx hb (fk_get fk_cX12_odds_0 18 rfl) rfl hl (by decide) rfl (fun ls hl => ?_)
    refine lv_iconst (v := 0) hx hb (fk_get fk_cX12_odds_0 19 rfl) (by decide) ?_
    refine lv_istore (lv' := [(4, .int (0)), (3, .int (0)), (0, .ref (ad 0)), (1, .int (n_)), (2, .int (w_))]) hx hb (fk_get fk_cX12_odds_0 20 rfl) hl (by decide) rfl (fun ls hl => ?_)
    refine lv_aload_n hx hb (fk_get fk_cX12_odds_0 21 rfl) rfl (lv_at hl 2 rfl) ?_
    have hFc := va_self hD hS hA
    refine va_callv (va_runV (As := []) (rest := []) ⟨hx, hb, hml, hown, hT⟩ (c_open l G ad (setF S 0 8 (0)) H.size (9999) (hSV)) (tV 0 hT m6_218 m6_220 mp_49 m1_17 m6_221 rfl rfl (by decide +kernel) ⟨Nat.le_of_ble_eq_true rfl, Nat.le_of_ble_eq_true rfl⟩) ⟨PcW_blind, va_recv hK hP (ci := 14) (q0 := 0) rfl (ix_at (by decide) (cR_0 G ad (setF S 0 8 (0)))), PcW_of hP hK hD _⟩ rfl rfl hl.1 rfl (lv_room (Nat.le_of_ble_eq_true rfl)) (fk_get fk_cX12_odds_0 22 rfl) ⟨Nat.zero_le _, Nat.zero_le _⟩) hS (fun q _ h => hFc q h) hFc (fun S_9 t_ H locs ht_ hvm_ hw_8 hB_ hz_ hk_ hS => ?_)
    obtain ⟨hP, -, hD1_⟩ := hB_
    rw [ht_] at hP
    have hD : va_D A (wR G ad S_9) := hD1_.weaken (fun k q _ h => hFc q.1 h)
    try dsimp only at hw_8
    have hI0 := hw_8
    refine lv_aload_n hx hb (fk_get fk_cX12_odds_0 23 rfl) rfl (lv_at hl 2 rfl) ?_
    refine lv_iload_n hx hb (fk_get fk_cX12_odds_0 24 rfl) rfl (lv_at hl 3 rfl) ?_
    have hFc := va_self hD hS hA
    refine va_callv (va_runV (As := [.int (n_)]) (rest := []) ⟨hx, hb, hml, hown, hT⟩ (c_saturdaysOnE l G ad S_9 H.size (n) (9999) (n_.toNatClampNeg) (hI0.f (by decide) hn) (hn6) (hI0.HOK hHOK) (hI0.SV) (by omega) (hw40) (n_) (ew)) (tV 1 hT m6_204 m6_206 mp_47 m1_17 m6_207 rfl rfl (by decide +kernel) ⟨Nat.le_of_ble_eq_true rfl, Nat.le_of_ble_eq_true rfl⟩) ⟨PcW_blind, va_recv hK hP (ci := 14) (q0 := 0) rfl (ix_at (by decide) (cR_0 G ad S_9)), PcW_of hP hK hD _⟩ rfl rfl hl.1 rfl (lv_room (Nat.le_of_ble_eq_true rfl)) (fk_get fk_cX12_odds_0 25 rfl) ⟨Nat.zero_le _, Nat.zero_le _⟩) hS (fun q _ h => hFc q h) hFc (fun S_12 t_ H locs ht_ hvm_ hw_11 hB_ hz_ hk_ hS => ?_)
    obtain ⟨hP, -, hD1_⟩ := hB_
    rw [ht_] at hP
    have hD : va_D A (wR G ad S_12) := hD1_.weaken (fun k q _ h => hFc q.1 h)
    try dsimp only at hw_11
    obtain ⟨hM2, hS2, -⟩ := hw_11
    have hI1 := (hI0.M hM2 hS2).mono (C := 11000) (by omega)
    refine lv_iconst (v := 0) hx hb (fk_get fk_cX12_odds_0 26 rfl) (by decide) ?_
    refine lv_istore (lv' := [(5, .int (0)), (4, .int (0)), (3, .int (0)), (0, .ref (ad 0)), (1, .int (n_)), (2, .int (w_))]) hx hb (fk_get fk_cX12_odds_0 27 rfl) hl (by decide) rfl (fun ls hl => ?_)
    have lp_13 : ∀ (fu : Nat) (k : Nat) (v3 v4 : Int32) (SL : FS) (H_15 : Heap) (locs_16 : List Loc) (ls : Array Slot),  (k ≤ n) → (n < k + fu) → (MI (setF S 0 8 0) SL 11000) → va_P G.1 vwCl (wR G ad SL) H_15 → va_D A (wR G ad SL) → va_S A s.heap H_15 locs_16 → lv_has ls 6 [(5, .int ((nI k))), (4, .int (v4)), (3, .int (v3)), (0, .ref (ad 0)), (1, .int (n_)), (2, .int (w_))] → W p l e ({ frames := 10, cells := 0, slots := 0, locals := 281 } : Room) s m args below meth c₀ H_15 locs_16 0 0 Q (F0 m 48 ls []) := by
      intro fu
      induction fu with
      | zero =>
        intro k v3 v4 SL H_15 locs_16 ls hk hf hI hP hD hS hl
        exact absurd hf (by omega)
      | succ fu ih =>
        intro k v3 v4 SL H_15 locs_16 ls hk hf hI hP hD hS hl
        refine lv_iload hx hb (fk_get fk_cX12_odds_0 28 rfl) (lv_at hl 0 rfl) ?_
        refine lv_aload_n hx hb (fk_get fk_cX12_odds_0 29 rfl) rfl (lv_at hl 3 rfl) ?_
        refine va_get (D := G.1) (ci := 14) (v := .int ((fF SL 0 1))) (C := RX12) (T := TX12) (N := 49) hx hb hT inX12 hown hK hP 0 (ix_at (by decide) (cR_0 G ad SL)) rfl 1 (by decide) (hT _ m5_102) (fun _ h9 => h9) rfl (fk_get fk_cX12_odds_0 30 rfl) ?_
        refine lv_icmp_ge (tgt := 108) hx hb (fk_get fk_cX12_odds_0 31 rfl) (by decide) (fun c_17 => ?_) (fun c_17 => ?_)
        · refine lv_aload_n hx hb (fk_get fk_cX12_odds_1 26 rfl) rfl (lv_at hl 3 rfl) ?_
          have hFc := va_self hD hS hA
          refine va_callv (va_runV (As := []) (rest := []) ⟨hx, hb, hml, hown, hT⟩ (c_close l G ad SL H_15.size ((setF S 0 8 0)) (11000) (hI)) (tV 0 hT m6_226 m6_228 mp_51 m1_17 m6_229 rfl rfl (by decide +kernel) ⟨Nat.le_of_ble_eq_true rfl, Nat.le_of_ble_eq_true rfl⟩) ⟨PcW_blind, va_recv hK hP (ci := 14) (q0 := 0) rfl (ix_at (by decide) (cR_0 G ad SL)), PcW_of hP hK hD _⟩ rfl rfl hl.1 rfl (lv_room (Nat.le_of_ble_eq_true rfl)) (fk_get fk_cX12_odds_1 27 rfl) ⟨Nat.zero_le _, Nat.zero_le _⟩) hS (fun q _ h => hFc q h) hFc (fun S_20 t_ H locs ht_ hvm_ hw_19 hB_ hz_ hk_ hS => ?_)
          obtain ⟨hP, -, hD1_⟩ := hB_
          rw [ht_] at hP
          have hD : va_D A (wR G ad S_20) := hD1_.weaken (fun k q _ h => hFc q.1 h)
          try dsimp only at hw_19
          have hZq := hw_19
          refine lv_iload hx hb (fk_get fk_cX12_odds_1 28 rfl) (lv_at hl 1 rfl) ?_
          refine lv_if_ne (tgt := 123) hx hb (fk_get fk_cX12_odds_1 29 rfl) (by decide) (fun c_21 => ?_) (fun c_21 => ?_)
          · have hb0 := c_21
            refine lv_iload_n hx hb (fk_get fk_cX12_odds_2 0 rfl) rfl (lv_at hl 2 rfl) ?_
            refine lv_iload hx hb (fk_get fk_cX12_odds_2 1 rfl) (lv_at hl 1 rfl) ?_
            refine lv_iload_n hx hb (fk_get fk_cX12_odds_2 2 rfl) rfl (lv_at hl 5 rfl) ?_
            refine vp_callSl (W.runS (As := [.int (v3), .int (v4), .int (w_)]) (rest := []) ⟨hx, hb, hml, hown, hT⟩ (c_partOf l (v3) (v4) (w_) (hb0)) (tS 3 hT m7_53 m7_54 m1_17 m7_55 rfl rfl (by decide +kernel) ⟨Nat.le_of_ble_eq_true rfl, Nat.le_of_ble_eq_true rfl⟩) ⟨PcN_blind, PcN_of _ _ _⟩ rfl rfl hl.1 rfl (lv_room (Nat.le_of_ble_eq_true rfl)) (fk_get fk_cX12_odds_2 3 rfl) ⟨Nat.zero_le _, Nat.zero_le _⟩) (fun r_22 hw_23 => ?_)
            try dsimp only at hw_23
            subst hQ
            have hpost : QP (setF S 0 8 0) S_20 := by
              first | exact QP.rf h15 | exact hZq
            exact W.lret (v := r_22) hx hb hr (fun t_ ht_ hW_ => ⟨⟨r_22, S_20, rfl, hpost, by rw [ht_]; exact hP, va_K.moved hW_.alike hK, hD⟩, hS.F ht_⟩) hS.2.2 (fk_get fk_cX12_odds_2 4 rfl)
          refine lv_ldc2 (v := (-9223372036854775808)) hx hb hown (hT _ m7_52) (fk_get fk_cX12_odds_1 30 rfl) ?_
          refine lv_goto (tgt := 130) hx hb (fk_get fk_cX12_odds_1 31 rfl) (by decide) ?_
          subst hQ
          have hpost : QP (setF S 0 8 0) S_20 := by
            first | exact QP.rf h15 | exact hZq
          exact W.lret (v := (-9223372036854775808)) hx hb hr (fun t_ ht_ hW_ => ⟨⟨(-9223372036854775808), S_20, rfl, hpost, by rw [ht_]; exact hP, va_K.moved hW_.alike hK, hD⟩, hS.F ht_⟩) hS.2.2 (fk_get fk_cX12_odds_2 4 rfl)
        have hlt : k < n := Nat.lt_of_not_le (fun wk => c_17 (by rw [show fF SL 0 1 = nI n from hI.f (by decide) hn]; exact (nI_leI (a := n) (b := k) (by omega) (by omega)).mpr wk))
        refine lv_iload hx hb (fk_get fk_cX12_odds_1 0 rfl) (lv_at hl 1 rfl) ?_
        refine lv_aload_n hx hb (fk_get fk_cX12_odds_1 1 rfl) rfl (lv_at hl 3 rfl) ?_
        refine lv_iload hx hb (fk_get fk_cX12_odds_1 2 rfl) (lv_at hl 0 rfl) ?_
        refine vp_callSi (W.runV (As := [.int ((nI k))]) (rest := [.int (v4)]) ⟨hx, hb, hml, hown, hT⟩ (c_isGone l G ad SL H_15.size ((nI k)) (k) (rfl) (by omega)) (tV 1 hT m6_192 m6_194 mp_45 m1_17 m6_195 rfl rfl (by decide +kernel) ⟨Nat.le_of_ble_eq_true rfl, Nat.le_of_ble_eq_true rfl⟩) ⟨PcW_blind, va_recv hK hP (ci := 14) (q0 := 0) rfl (ix_at (by decide) (cR_0 G ad SL)), PcW_of hP hK hD _⟩ rfl rfl hl.1 rfl (lv_room (Nat.le_of_ble_eq_true rfl)) (fk_get fk_cX12_odds_1 3 rfl) ⟨Nat.zero_le _, Nat.zero_le _⟩) (fun r_24 hw_25 => ?_)
        try dsimp only at hw_25
        refine lv_if_eq (tgt := 72) hx hb (fk_get fk_cX12_odds_1 4 rfl) (by decide) (fun c_26 => ?_) (fun c_26 => ?_)
        · have p_c_26 := if1_f hw_25 c_26
          refine lv_iconst (v := 1) hx hb (fk_get fk_cX12_odds_1 7 rfl) (by decide) ?_
          refine lv_iadd hx hb (fk_get fk_cX12_odds_1 8 rfl) ?_
          refine lv_istore (lv' := [(4, .int ((v4 + 1))), (5, .int ((nI k))), (3, .int (v3)), (0, .ref (ad 0)), (1, .int (n_)), (2, .int (w_))]) hx hb (fk_get fk_cX12_odds_1 9 rfl) hl (by decide) rfl (fun ls hl => ?_)
          refine lv_iload_n hx hb (fk_get fk_cX12_odds_1 10 rfl) rfl (lv_at hl 2 rfl) ?_
          refine lv_aload_n hx hb (fk_get fk_cX12_odds_1 11 rfl) rfl (lv_at hl 3 rfl) ?_
          refine lv_iload hx hb (fk_get fk_cX12_odds_1 12 rfl) (lv_at hl 1 rfl) ?_
          refine vp_callSi (W.runV (As := [.int ((nI k))]) (rest := [.int (v3)]) ⟨hx, hb, hml, hown, hT⟩ (c_isGone l G ad SL H_15.size ((nI k)) (k) (rfl) (by omega)) (tV 1 hT m6_192 m6_194 mp_45 m1_17 m6_195 rfl rfl (by decide +kernel) ⟨Nat.le_of_ble_eq_true rfl, Nat.le_of_ble_eq_true rfl⟩) ⟨PcW_blind, va_recv hK hP (ci := 14) (q0 := 0) rfl (ix_at (by decide) (cR_0 G ad SL)), PcW_of hP hK hD _⟩ rfl rfl hl.1 rfl (lv_room (Nat.le_of_ble_eq_true rfl)) (fk_get fk_cX12_odds_1 13 rfl) ⟨Nat.zero_le _, Nat.zero_le _⟩) (fun r_27 hw_28 => ?_)
          try dsimp only at hw_28
          refine lv_if_ne (tgt := 99) hx hb (fk_get fk_cX12_odds_1 14 rfl) (by decide) (fun c_29 => ?_) (fun c_29 => ?_)
          · have p_c_29 := if1_t hw_28 c_29
            refine lv_iconst (v := 0) hx hb (fk_get fk_cX12_odds_1 21 rfl) (by decide) ?_
            refine lv_iadd hx hb (fk_get fk_cX12_odds_1 22 rfl) ?_
            refine lv_istore_n (lv' := [(3, .int ((v3 + 0))), (4, .int ((v4 + 1))), (5, .int ((nI k))), (0, .ref (ad 0)), (1, .int (n_)), (2, .int (w_))]) hx hb (fk_get fk_cX12_odds_1 23 rfl) rfl hl (by decide) rfl (fun ls hl => ?_)
            refine lv_iinc (v := (nI (k + 1))) (lv' := [(5, .int ((nI (k + 1)))), (3, .int ((v3 + 0))), (4, .int ((v4 + 1))), (0, .ref (ad 0)), (1, .int (n_)), (2, .int (w_))]) hx hb (fk_get fk_cX12_odds_1 24 rfl) hl (k := 2) rfl ((nI_1 k)) (by decide) rfl (fun ls hl => ?_)
            refine lv_goto (tgt := 48) hx hb (fk_get fk_cX12_odds_1 25 rfl) (by decide) ?_
            exact ih (k + 1) ((v3 + 0)) ((v4 + 1)) (SL) _ _ ls (by omega) (by omega) ((by first | exact hI2 | exact hI)) hP hD hS (lv_sub hl [0, 2, 1, 3, 4, 5] rfl)
          have p_c_29 := if1_f hw_28 c_29
          refine lv_aload_n hx hb (fk_get fk_cX12_odds_1 15 rfl) rfl (lv_at hl 3 rfl) ?_
          refine lv_iload hx hb (fk_get fk_cX12_odds_1 16 rfl) (lv_at hl 1 rfl) ?_
          have hFc := va_self hD hS hA
          refine va_calli (va_runV (As := [.int ((nI k))]) (rest := [.int (v3)]) ⟨hx, hb, hml, hown, hT⟩ (c_saysNo l G ad SL H_15.size ((nI k)) (k) (hI.HOK hHOK) (rfl) (by omega)) (tV 1 hT m6_154 m6_156 mp_42 m1_17 m6_157 rfl rfl (by decide +kernel) ⟨Nat.le_of_ble_eq_true rfl, Nat.le_of_ble_eq_true rfl⟩) ⟨PcW_blind, va_recv hK hP (ci := 14) (q0 := 0) rfl (ix_at (by decide) (cR_0 G ad SL)), PcW_of hP hK hD _⟩ rfl rfl hl.1 rfl (lv_room (Nat.le_of_ble_eq_true rfl)) (fk_get fk_cX12_odds_1 17 rfl) ⟨Nat.zero_le _, Nat.zero_le _⟩) hS (fun q _ h => hFc q h) hFc (fun r_30 S_32 t_ H locs ht_ hvm_ hw_31 hB_ hz_ hk_ hS => ?_)
          obtain ⟨hP, -, hD1_⟩ := hB_
          rw [ht_] at hP
          have hD : va_D A (wR G ad S_32) := hD1_.weaken (fun k q _ h => hFc q.1 h)
          try dsimp only at hw_31
          obtain ⟨hH1, hr01⟩ := hw_31
          have hI2 := hI.M hH1.M (hI.SV.H hH1)
          refine lv_if_eq (tgt := 99) hx hb (fk_get fk_cX12_odds_1 18 rfl) (by decide) (fun c_33 => ?_) (fun c_33 => ?_)
          · refine lv_iconst (v := 0) hx hb (fk_get fk_cX12_odds_1 21 rfl) (by decide) ?_
            refine lv_iadd hx hb (fk_get fk_cX12_odds_1 22 rfl) ?_
            refine lv_istore_n (lv' := [(3, .int ((v3 + 0))), (4, .int ((v4 + 1))), (5, .int ((nI k))), (0, .ref (ad 0)), (1, .int (n_)), (2, .int (w_))]) hx hb (fk_get fk_cX12_odds_1 23 rfl) rfl hl (by decide) rfl (fun ls hl => ?_)
            refine lv_iinc (v := (nI (k + 1))) (lv' := [(5, .int ((nI (k + 1)))), (3, .int ((v3 + 0))), (4, .int ((v4 + 1))), (0, .ref (ad 0)), (1, .int (n_)), (2, .int (w_))]) hx hb (fk_get fk_cX12_odds_1 24 rfl) hl (k := 2) rfl ((nI_1 k)) (by decide) rfl (fun ls hl => ?_)
            refine lv_goto (tgt := 48) hx hb (fk_get fk_cX12_odds_1 25 rfl) (by decide) ?_
            exact ih (k + 1) ((v3 + 0)) ((v4 + 1)) (S_32) _ _ ls (by omega) (by omega) ((by first | exact hI2 | exact hI)) hP hD hS (lv_sub hl [0, 2, 1, 3, 4, 5] rfl)
          refine lv_iconst (v := 1) hx hb (fk_get fk_cX12_odds_1 19 rfl) (by decide) ?_
          refine lv_goto (tgt := 100) hx hb (fk_get fk_cX12_odds_1 20 rfl) (by decide) ?_
          refine lv_iadd hx hb (fk_get fk_cX12_odds_1 22 rfl) ?_
          refine lv_istore_n (lv' := [(3, .int ((v3 + 1))), (4, .int ((v4 + 1))), (5, .int ((nI k))), (0, .ref (ad 0)), (1, .int (n_)), (2, .int (w_))]) hx hb (fk_get fk_cX12_odds_1 23 rfl) rfl hl (by decide) rfl (fun ls hl => ?_)
          refine lv_iinc (v := (nI (k + 1))) (lv' := [(5, .int ((nI (k + 1)))), (3, .int ((v3 + 1))), (4, .int ((v4 + 1))), (0, .ref (ad 0)), (1, .int (n_)), (2, .int (w_))]) hx hb (fk_get fk_cX12_odds_1 24 rfl) hl (k := 2) rfl ((nI_1 k)) (by decide) rfl (fun ls hl => ?_)
          refine lv_goto (tgt := 48) hx hb (fk_get fk_cX12_odds_1 25 rfl) (by decide) ?_
          exact ih (k + 1) ((v3 + 1)) ((v4 + 1)) (S_32) _ _ ls (by omega) (by omega) ((by first | exact hI2 | exact hI)) hP hD hS (lv_sub hl [0, 2, 1, 3, 4, 5] rfl)
        have p_c_26 := if1_t hw_25 c_26
        refine lv_iconst (v := 0) hx hb (fk_get fk_cX12_odds_1 5 rfl) (by decide) ?_
        refine lv_goto (tgt := 73) hx hb (fk_get fk_cX12_odds_1 6 rfl) (by decide) ?_
        refine lv_iadd hx hb (fk_get fk_cX12_odds_1 8 rfl) ?_
        refine lv_istore (lv' := [(4, .int ((v4 + 0))), (5, .int ((nI k))), (3, .int (v3)), (0, .ref (ad 0)), (1, .int (n_)), (2, .int (w_))]) hx hb (fk_get fk_cX12_odds_1 9 rfl) hl (by decide) rfl (fun ls hl => ?_)
        refine lv_iload_n hx hb (fk_get fk_cX12_odds_1 10 rfl) rfl (lv_at hl 2 rfl) ?_
        refine lv_aload_n hx hb (fk_get fk_cX12_odds_1 11 rfl) rfl (lv_at hl 3 rfl) ?_
        refine lv_iload hx hb (fk_get fk_cX12_odds_1 12 rfl) (lv_at hl 1 rfl) ?_
        refine vp_callSi (W.runV (As := [.int ((nI k))]) (rest := [.int (v3)]) ⟨hx, hb, hml, hown, hT⟩ (c_isGone l G ad SL H_15.size ((nI k)) (k) (rfl) (by omega)) (tV 1 hT m6_192 m6_194 mp_45 m1_17 m6_195 rfl rfl (by decide +kernel) ⟨Nat.le_of_ble_eq_true rfl, Nat.le_of_ble_eq_true rfl⟩) ⟨PcW_blind, va_recv hK hP (ci := 14) (q0 := 0) rfl (ix_at (by decide) (cR_0 G ad SL)), PcW_of hP hK hD _⟩ rfl rfl hl.1 rfl (lv_room (Nat.le_of_ble_eq_true rfl)) (fk_get fk_cX12_odds_1 13 rfl) ⟨Nat.zero_le _, Nat.zero_le _⟩) (fun r_34 hw_35 => ?_)
        try dsimp only at hw_35
        refine lv_if_ne (tgt := 99) hx hb (fk_get fk_cX12_odds_1 14 rfl) (by decide) (fun c_36 => ?_) (fun c_36 => ?_)
        · have p_c_36 := if1_t hw_35 c_36
          refine lv_iconst (v := 0) hx hb (fk_get fk_cX12_odds_1 21 rfl) (by decide) ?_
          refine lv_iadd hx hb (fk_get fk_cX12_odds_1 22 rfl) ?_
          refine lv_istore_n (lv' := [(3, .int ((v3 + 0))), (4, .int ((v4 + 0))), (5, .int ((nI k))), (0, .ref (ad 0)), (1, .int (n_)), (2, .int (w_))]) hx hb (fk_get fk_cX12_odds_1 23 rfl) rfl hl (by decide) rfl (fun ls hl => ?_)
          refine lv_iinc (v := (nI (k + 1))) (lv' := [(5, .int ((nI (k + 1)))), (3, .int ((v3 + 0))), (4, .int ((v4 + 0))), (0, .ref (ad 0)), (1, .int (n_)), (2, .int (w_))]) hx hb (fk_get fk_cX12_odds_1 24 rfl) hl (k := 2) rfl ((nI_1 k)) (by decide) rfl (fun ls hl => ?_)
          refine lv_goto (tgt := 48) hx hb (fk_get fk_cX12_odds_1 25 rfl) (by decide) ?_
          exact ih (k + 1) ((v3 + 0)) ((v4 + 0)) (SL) _ _ ls (by omega) (by omega) ((by first | exact hI2 | exact hI)) hP hD hS (lv_sub hl [0, 2, 1, 3, 4, 5] rfl)
        have p_c_36 := if1_f hw_35 c_36
        refine lv_aload_n hx hb (fk_get fk_cX12_odds_1 15 rfl) rfl (lv_at hl 3 rfl) ?_
        refine lv_iload hx hb (fk_get fk_cX12_odds_1 16 rfl) (lv_at hl 1 rfl) ?_
        have hFc := va_self hD hS hA
        refine va_calli (va_runV (As := [.int ((nI k))]) (rest := [.int (v3)]) ⟨hx, hb, hml, hown, hT⟩ (c_saysNo l G ad SL H_15.size ((nI k)) (k) (hI.HOK hHOK) (rfl) (by omega)) (tV 1 hT m6_154 m6_156 mp_42 m1_17 m6_157 rfl rfl (by decide +kernel) ⟨Nat.le_of_ble_eq_true rfl, Nat.le_of_ble_eq_true rfl⟩) ⟨PcW_blind, va_recv hK hP (ci := 14) (q0 := 0) rfl (ix_at (by decide) (cR_0 G ad SL)), PcW_of hP hK hD _⟩ rfl rfl hl.1 rfl (lv_room (Nat.le_of_ble_eq_true rfl)) (fk_get fk_cX12_odds_1 17 rfl) ⟨Nat.zero_le _, Nat.zero_le _⟩) hS (fun q _ h => hFc q h) hFc (fun r_37 S_39 t_ H locs ht_ hvm_ hw_38 hB_ hz_ hk_ hS => ?_)
        obtain ⟨hP, -, hD1_⟩ := hB_
        rw [ht_] at hP
        have hD : va_D A (wR G ad S_39) := hD1_.weaken (fun k q _ h => hFc q.1 h)
        try dsimp only at hw_38
        obtain ⟨hH1, hr01⟩ := hw_38
        have hI2 := hI.M hH1.M (hI.SV.H hH1)
        refine lv_if_eq (tgt := 99) hx hb (fk_get fk_cX12_odds_1 18 rfl) (by decide) (fun c_40 => ?_) (fun c_40 => ?_)
        · refine lv_iconst (v := 0) hx hb (fk_get fk_cX12_odds_1 21 rfl) (by decide) ?_
          refine lv_iadd hx hb (fk_get fk_cX12_odds_1 22 rfl) ?_
          refine lv_istore_n (lv' := [(3, .int ((v3 + 0))), (4, .int ((v4 + 0))), (5, .int ((nI k))), (0, .ref (ad 0)), (1, .int (n_)), (2, .int (w_))]) hx hb (fk_get fk_cX12_odds_1 23 rfl) rfl hl (by decide) rfl (fun ls hl => ?_)
          refine lv_iinc (v := (nI (k + 1))) (lv' := [(5, .int ((nI (k + 1)))), (3, .int ((v3 + 0))), (4, .int ((v4 + 0))), (0, .ref (ad 0)), (1, .int (n_)), (2, .int (w_))]) hx hb (fk_get fk_cX12_odds_1 24 rfl) hl (k := 2) rfl ((nI_1 k)) (by decide) rfl (fun ls hl => ?_)
          refine lv_goto (tgt := 48) hx hb (fk_get fk_cX12_odds_1 25 rfl) (by decide) ?_
          exact ih (k + 1) ((v3 + 0)) ((v4 + 0)) (S_39) _ _ ls (by omega) (by omega) ((by first | exact hI2 | exact hI)) hP hD hS (lv_sub hl [0, 2, 1, 3, 4, 5] rfl)
        refine lv_iconst (v := 1) hx hb (fk_get fk_cX12_odds_1 19 rfl) (by decide) ?_
        refine lv_goto (tgt := 100) hx hb (fk_get fk_cX12_odds_1 20 rfl) (by decide) ?_
        refine lv_iadd hx hb (fk_get fk_cX12_odds_1 22 rfl) ?_
        refine lv_istore_n (lv' := [(3, .int ((v3 + 1))), (4, .int ((v4 + 0))), (5, .int ((nI k))), (0, .ref (ad 0)), (1, .int (n_)), (2, .int (w_))]) hx hb (fk_get fk_cX12_odds_1 23 rfl) rfl hl (by decide) rfl (fun ls hl => ?_)
        refine lv_iinc (v := (nI (k + 1))) (lv' := [(5, .int ((nI (k + 1)))), (3, .int ((v3 + 1))), (4, .int ((v4 + 0))), (0, .ref (ad 0)), (1, .int (n_)), (2, .int (w_))]) hx hb (fk_get fk_cX12_odds_1 24 rfl) hl (k := 2) rfl ((nI_1 k)) (by decide) rfl (fun ls hl => ?_)
        refine lv_goto (tgt := 48) hx hb (fk_get fk_cX12_odds_1 25 rfl) (by decide) ?_
        exact ih (k + 1) ((v3 + 1)) ((v4 + 0)) (S_39) _ _ ls (by omega) (by omega) ((by first | exact hI2 | exact hI)) hP hD hS (lv_sub hl [0, 2, 1, 3, 4, 5] rfl)
    exact lp_13 (n + 1) (0) (0) (0) (S_12) _ _ ls (by omega) (by omega) (hI1) hP hD hS (lv_sub hl [0, 1, 2, 3, 4, 5] rfl)
  have p_c_6 := if1_f hw_5 c_6
  refine lv_ldc2 (v := (-9223372036854775808)) hx hb hown (hT _ m7_52) (fk_get fk_cX12_odds_0 15 rfl) ?_
  subst hQ
  have hpost : QP (setF S 0 8 0) (setF S 0 8 (0)) := by
    first | exact QP.rf h15 | exact hZq
  exact W.lret (v := (-9223372036854775808)) hx hb hr (fun t_ ht_ hW_ => ⟨⟨(-9223372036854775808), (setF S 0 8 (0)), rfl, hpost, by rw [ht_]; exact hP, va_K.moved hW_.alike hK, hD⟩, hS.F ht_⟩) hS.2.2 (fk_get fk_cX12_odds_0 16 rfl)
