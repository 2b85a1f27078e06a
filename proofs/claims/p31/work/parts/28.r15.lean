theorem SV.V2 {B j y : Nat} {S T : FS} (k : SV B S) (h : VR j y S T) (hy : y ≤ B) : SV B T := fun c hc => by
  by_cases q : c = j
  · subst q
    exact ⟨y, hy, h.2.2.2.2.2⟩
  · obtain ⟨x, h1, h2⟩ := k c hc
    exact ⟨x, h1, (h.2.2.2.2.1 (12 * c + 6) (by omega)).trans h2⟩
set_option maxHeartbeats 800000 in
set_option maxRecDepth 100000 in
theorem c_of (l : Launch) (G : GG) (ad : Nat → Nat) (S : FS) (sz : Nat) (n : Nat) (c what : Int32) (hn : fF S 0 1 = nI n) (hn6 : n ≤ 6) (hHOK : HOK S) (hSV : SV 9999 S) (h15 : fF S 0 15 = 0) : Met l yX12_of (Cond.code yX12_of cX12_of 3 (some .int) :: TBL) ({ frames := 7, cells := 0, slots := 0, locals := 201 } : Room) (PcW G (wR G ad S) sz [.ref (ad 0), .int (c), .int (what)]) (va_Qi (fun (r : Int32) (S' : FS) => HFr (setF S 0 8 0) S') (fun S' t => BW G (va_A (wR G ad S) sz) (wR G ad S') t) (va_A (wR G ad S) sz)) 0 0 (va_A (wR G ad S) sz) := by
  refine Met.ofW (cc := cX12_of) (maxL := 3) (ret := (some .int)) (by decide) rfl ?_
  intro p e s m args below meth c₀ s₁ B hml hv
  obtain ⟨rfl, hsz, hP, hK, hD0⟩ := hv
  have hx := B.exec
  have hb := B.bytes
  have hr := B.returns
  have hT : ∀ w ∈ TBL, w.before ([.ref (ad 0), .int (c), .int (what)] : List Value).toArray s = true := fun w h => atoms_spec (ws := Cond.code yX12_of cX12_of 3 (some .int) :: TBL) B.pre w (List.mem_cons_of_mem _ h)
  have hown : s.vm.findClass "LittleMoreModel" = some m.cls := findClass_of_methodNamed B.named
  have hlocks := B.notSynchronized
  subst hsz
  have hD := hD0.self (sz := s.heap.size)
  generalize hAe : va_A (wR G ad S) s.heap.size = A at hD ⊢
  have hA : ∀ q : Nat, s.heap.size ≤ q → A q := fun q h => by rw [← hAe]; exact Or.inr h
  have hS : va_S A s.heap s.heap [] := va_S.rf
  have hP : va_P G.1 vwCl (wR G ad S) s.heap := hP
  have hl := lv_entry ([.ref (ad 0), .int (c), .int (what)]) (n := 3) (Nat.le_of_ble_eq_true rfl)
  rw [lg_entry_eq]
  generalize (lg_sl ([.ref (ad 0), .int (c), .int (what)]) ++ List.replicate (3 - (lg_sl ([.ref (ad 0), .int (c), .int (what)])).length) Slot.unset).toArray = ls at hl ⊢
  have hl : lv_has ls 3 [(0, .ref (ad 0)), (1, .int (c)), (2, .int (what))] := hl
  refine W_abs (fun Q hQ => ?_)
  generalize ([.ref (ad 0), .int (c), .int (what)] : List Value).toArray = args at hT hQ ⊢
  refine lv_aload_n hx hb (fk_get fk_cX12_of_0 0 rfl) rfl (lv_at hl 0 rfl) ?_
  refine lv_iconst (v := 0) hx hb (fk_get fk_cX12_of_0 1 rfl) (by decide) ?_
  refine va_put (D := G.1) (ci := 14) (v := .int (0)) (ty := .int) (C := RX12) (T := TX12) (N := 49) hx hb hT inX12 tyX12 tyX12_ok nmX12 hown hK hP hD hS 0 (ix_at (by decide) (cR_0 G ad S)) rfl 8 (by decide) (hT _ m5_109) (fun _ h9 => h9) rfl (by decide +kernel) rfl rfl (Nat.le_of_ble_eq_true rfl) (fk_get fk_cX12_of_0 2 rfl) (fun H locs hP hD hS => ?_)
  rw [pR_thrown G ad S (0)] at hP hD
  refine lv_aload_n hx hb (fk_get fk_cX12_of_0 3 rfl) rfl (lv_at hl 0 rfl) ?_
  refine lv_iload_n hx hb (fk_get fk_cX12_of_0 4 rfl) rfl (lv_at hl 1 rfl) ?_
  refine vp_callSi (W.runV (As := [.int (c)]) (rest := []) ⟨hx, hb, hml, hown, hT⟩ (c_isCustomer l G ad (setF S 0 8 (0)) H.size (c) ) (tV 1 hT m6_110 m6_112 mp_32 m1_17 m6_113 rfl rfl (by decide +kernel) ⟨Nat.le_of_ble_eq_true rfl, Nat.le_of_ble_eq_true rfl⟩) ⟨PcW_blind, va_recv hK hP (ci := 14) (q0 := 0) rfl (ix_at (by decide) (cR_0 G ad (setF S 0 8 (0)))), PcW_of hP hK hD _⟩ rfl rfl hl.1 rfl (lv_room (Nat.le_of_ble_eq_true rfl)) (fk_get fk_cX12_of_0 5 rfl) ⟨Nat.zero_le _, Nat.zero_le _⟩) (fun r_1 hw_2 => ?_)
  try dsimp only at hw_2
  have hw_2 : r_1 = if 0 ≤ c ∧ c ≤ fF S 0 1 - 1 then 1 else 0 := hw_2
  refine lv_if_eq (tgt := 25) hx hb (fk_get fk_cX12_of_0 6 rfl) (by decide) (fun c_3 => ?_) (fun c_3 => ?_)
  · have p_c_3 := if1_f hw_2 c_3
    refine lv_iconst (v := (-1)) hx hb (fk_get fk_cX12_of_0 13 rfl) (by decide) ?_
    subst hQ
    have hpost : HFr (setF S 0 8 0) (setF S 0 8 (0)) := by
      first | exact HFr.rf _ | exact hH1
    exact W.iret (v := (-1)) hx hb hr (fun t_ ht_ hW_ => ⟨⟨(-1), (setF S 0 8 (0)), rfl, hpost, by rw [ht_]; exact hP, va_K.moved hW_.alike hK, hD⟩, hS.F ht_⟩) hS.2.2 (fk_get fk_cX12_of_0 14 rfl)
  have p_c_3 := if1_t hw_2 c_3
  obtain ⟨hj, ej⟩ := isC_n p_c_3 hn hn6
  refine lv_iload_n hx hb (fk_get fk_cX12_of_0 7 rfl) rfl (lv_at hl 2 rfl) ?_
  refine lv_i2l hx hb (fk_get fk_cX12_of_0 8 rfl) rfl ?_
  refine lv_lconst (v := 0) hx hb (fk_get fk_cX12_of_0 9 rfl) (by decide) ?_
  refine lv_ldc2 (v := 11) hx hb hown (hT _ m6_114) (fk_get fk_cX12_of_0 10 rfl) ?_
  refine vp_callSi (W.runS (As := [.long ((what).toInt64), .long (0), .long (11)]) (rest := []) ⟨hx, hb, hml, hown, hT⟩ (c_in l ((what).toInt64) (0) (11) ) (tS 3 hT m6_31 m6_32 m1_17 m6_33 rfl rfl (by decide +kernel) ⟨Nat.le_of_ble_eq_true rfl, Nat.le_of_ble_eq_true rfl⟩) ⟨PcN_blind, PcN_of _ _ _⟩ rfl rfl hl.1 rfl (lv_room (Nat.le_of_ble_eq_true rfl)) (fk_get fk_cX12_of_0 11 rfl) ⟨Nat.zero_le _, Nat.zero_le _⟩) (fun r_4 hw_5 => ?_)
  try dsimp only at hw_5
  have hw_5 := in_eq hw_5 (what) 0 11 (rfl) (by decide) (by decide)
  refine lv_if_ne (tgt := 27) hx hb (fk_get fk_cX12_of_0 12 rfl) (by decide) (fun c_6 => ?_) (fun c_6 => ?_)
  · have p_c_6 := if1_t hw_5 c_6
    obtain ⟨hw11, ew⟩ := in_n (b := 11) p_c_6 (by decide)
    obtain ⟨x, hxb, hx6⟩ := hSV c.toNatClampNeg (by omega)
    refine lv_iload_n hx hb (fk_get fk_cX12_of_0 15 rfl) rfl (lv_at hl 2 rfl) ?_
    by_cases c_7 : what = (8 : Int32)
    · refine lv_tableIn (off := 32) (tgt := 60) hx hb (dk_get dk_cX12_of_0 0 rfl) (by rw [c_7]; decide) (by rw [c_7]; decide) (by rw [c_7]; rfl) (by decide) ?_
      refine lv_aload_n hx hb (fk_get fk_cX12_of_0 16 rfl) rfl (lv_at hl 0 rfl) ?_
      refine lv_iload_n hx hb (fk_get fk_cX12_of_0 17 rfl) rfl (lv_at hl 1 rfl) ?_
      have hFc := va_self hD hS hA
      refine va_calli (va_runV (As := [.int (c)]) (rest := []) ⟨hx, hb, hml, hown, hT⟩ (c_moreOf l G ad (setF S 0 8 (0)) H.size (c) (c.toNatClampNeg) (hHOK) (ej) (by omega)) (tV 1 hT m6_115 m6_117 mp_33 m1_17 m6_118 rfl rfl (by decide +kernel) ⟨Nat.le_of_ble_eq_true rfl, Nat.le_of_ble_eq_true rfl⟩) ⟨PcW_blind, va_recv hK hP (ci := 14) (q0 := 0) rfl (ix_at (by decide) (cR_0 G ad (setF S 0 8 (0)))), PcW_of hP hK hD _⟩ rfl rfl hl.1 rfl (lv_room (Nat.le_of_ble_eq_true rfl)) (fk_get fk_cX12_of_0 18 rfl) ⟨Nat.zero_le _, Nat.zero_le _⟩) hS (fun q _ h => hFc q h) hFc (fun r_8 S_10 t_ H locs ht_ hvm_ hw_9 hB_ hz_ hk_ hS => ?_)
      obtain ⟨hP, -, hD1_⟩ := hB_
      rw [ht_] at hP
      have hD : va_D A (wR G ad S_10) := hD1_.weaken (fun k q _ h => hFc q.1 h)
      try dsimp only at hw_9
      have hH1 := hw_9
      subst hQ
      have hpost : HFr (setF S 0 8 0) S_10 := by
        first | exact HFr.rf _ | exact hH1
      exact W.iret (v := r_8) hx hb hr (fun t_ ht_ hW_ => ⟨⟨r_8, S_10, rfl, hpost, by rw [ht_]; exact hP, va_K.moved hW_.alike hK, hD⟩, hS.F ht_⟩) hS.2.2 (fk_get fk_cX12_of_0 19 rfl)
    by_cases c_11 : what = (9 : Int32)
    · refine lv_tableIn (off := 38) (tgt := 66) hx hb (dk_get dk_cX12_of_0 0 rfl) (by rw [c_11]; decide) (by rw [c_11]; decide) (by rw [c_11]; rfl) (by decide) ?_
      refine lv_aload_n hx hb (fk_get fk_cX12_of_0 20 rfl) rfl (lv_at hl 0 rfl) ?_
      refine lv_iload_n hx hb (fk_get fk_cX12_of_0 21 rfl) rfl (lv_at hl 1 rfl) ?_
      refine vp_callSi (W.runV (As := [.int (c)]) (rest := []) ⟨hx, hb, hml, hown, hT⟩ (c_asksOf l G ad (setF S 0 8 (0)) H.size (c) (c.toNatClampNeg) (x) (ej) (by omega) (hx6) (by omega)) (tV 1 hT m6_143 m6_145 mp_40 m1_17 m6_146 rfl rfl (by decide +kernel) ⟨Nat.le_of_ble_eq_true rfl, Nat.le_of_ble_eq_true rfl⟩) ⟨PcW_blind, va_recv hK hP (ci := 14) (q0 := 0) rfl (ix_at (by decide) (cR_0 G ad (setF S 0 8 (0)))), PcW_of hP hK hD _⟩ rfl rfl hl.1 rfl (lv_room (Nat.le_of_ble_eq_true rfl)) (fk_get fk_cX12_of_0 22 rfl) ⟨Nat.zero_le _, Nat.zero_le _⟩) (fun r_12 hw_13 => ?_)
      try dsimp only at hw_13
      subst hQ
      have hpost : HFr (setF S 0 8 0) (setF S 0 8 (0)) := by
        first | exact HFr.rf _ | exact hH1
      exact W.iret (v := r_12) hx hb hr (fun t_ ht_ hW_ => ⟨⟨r_12, (setF S 0 8 (0)), rfl, hpost, by rw [ht_]; exact hP, va_K.moved hW_.alike hK, hD⟩, hS.F ht_⟩) hS.2.2 (fk_get fk_cX12_of_0 23 rfl)
    by_cases c_14 : what = (10 : Int32)
    · refine lv_tableIn (off := 44) (tgt := 72) hx hb (dk_get dk_cX12_of_0 0 rfl) (by rw [c_14]; decide) (by rw [c_14]; decide) (by rw [c_14]; rfl) (by decide) ?_
      refine lv_aload_n hx hb (fk_get fk_cX12_of_0 24 rfl) rfl (lv_at hl 0 rfl) ?_
      refine lv_iload_n hx hb (fk_get fk_cX12_of_0 25 rfl) rfl (lv_at hl 1 rfl) ?_
      refine vp_callSi (W.runV (As := [.int (c)]) (rest := []) ⟨hx, hb, hml, hown, hT⟩ (c_letsOf l G ad (setF S 0 8 (0)) H.size (c) (c.toNatClampNeg) (ej) (by omega)) (tV 1 hT m6_150 m6_152 mp_41 m1_17 m6_153 rfl rfl (by decide +kernel) ⟨Nat.le_of_ble_eq_true rfl, Nat.le_of_ble_eq_true rfl⟩) ⟨PcW_blind, va_recv hK hP (ci := 14) (q0 := 0) rfl (ix_at (by decide) (cR_0 G ad (setF S 0 8 (0)))), PcW_of hP hK hD _⟩ rfl rfl hl.1 rfl (lv_room (Nat.le_of_ble_eq_true rfl)) (fk_get fk_cX12_of_0 26 rfl) ⟨Nat.zero_le _, Nat.zero_le _⟩) (fun r_15 hw_16 => ?_)
      try dsimp only at hw_16
      subst hQ
      have hpost : HFr (setF S 0 8 0) (setF S 0 8 (0)) := by
        first | exact HFr.rf _ | exact hH1
      exact W.iret (v := r_15) hx hb hr (fun t_ ht_ hW_ => ⟨⟨r_15, (setF S 0 8 (0)), rfl, hpost, by rw [ht_]; exact hP, va_K.moved hW_.alike hK, hD⟩, hS.F ht_⟩) hS.2.2 (fk_get fk_cX12_of_0 27 rfl)
    by_cases c_17 : what = (11 : Int32)
    · refine lv_tableIn (off := 50) (tgt := 78) hx hb (dk_get dk_cX12_of_0 0 rfl) (by rw [c_17]; decide) (by rw [c_17]; decide) (by rw [c_17]; rfl) (by decide) ?_
      refine lv_aload_n hx hb (fk_get fk_cX12_of_0 28 rfl) rfl (lv_at hl 0 rfl) ?_
      refine lv_iload_n hx hb (fk_get fk_cX12_of_0 29 rfl) rfl (lv_at hl 1 rfl) ?_
      have hFc := va_self hD hS hA
      refine va_calli (va_runV (As := [.int (c)]) (rest := []) ⟨hx, hb, hml, hown, hT⟩ (c_saysNo l G ad (setF S 0 8 (0)) H.size (c) (c.toNatClampNeg) (hHOK) (ej) (by omega)) (tV 1 hT m6_154 m6_156 mp_42 m1_17 m6_157 rfl rfl (by decide +kernel) ⟨Nat.le_of_ble_eq_true rfl, Nat.le_of_ble_eq_true rfl⟩) ⟨PcW_blind, va_recv hK hP (ci := 14) (q0 := 0) rfl (ix_at (by decide) (cR_0 G ad (setF S 0 8 (0)))), PcW_of hP hK hD _⟩ rfl rfl hl.1 rfl (lv_room (Nat.le_of_ble_eq_true rfl)) (fk_get fk_cX12_of_0 30 rfl) ⟨Nat.zero_le _, Nat.zero_le _⟩) hS (fun q _ h => hFc q h) hFc (fun r_18 S_20 t_ H locs ht_ hvm_ hw_19 hB_ hz_ hk_ hS => ?_)
      obtain ⟨hP, -, hD1_⟩ := hB_
      rw [ht_] at hP
      have hD : va_D A (wR G ad S_20) := hD1_.weaken (fun k q _ h => hFc q.1 h)
      try dsimp only at hw_19
      obtain ⟨hH1, hr01⟩ := hw_19
      refine lv_if_eq (tgt := 90) hx hb (fk_get fk_cX12_of_0 31 rfl) (by decide) (fun c_21 => ?_) (fun c_21 => ?_)
      · refine lv_iconst (v := 0) hx hb (fk_get fk_cX12_of_1 2 rfl) (by decide) ?_
        subst hQ
        have hpost : HFr (setF S 0 8 0) S_20 := by
          first | exact HFr.rf _ | exact hH1
        exact W.iret (v := 0) hx hb hr (fun t_ ht_ hW_ => ⟨⟨0, S_20, rfl, hpost, by rw [ht_]; exact hP, va_K.moved hW_.alike hK, hD⟩, hS.F ht_⟩) hS.2.2 (fk_get fk_cX12_of_1 3 rfl)
      refine lv_iconst (v := 1) hx hb (fk_get fk_cX12_of_1 0 rfl) (by decide) ?_
      refine lv_goto (tgt := 91) hx hb (fk_get fk_cX12_of_1 1 rfl) (by decide) ?_
      subst hQ
      have hpost : HFr (setF S 0 8 0) S_20 := by
        first | exact HFr.rf _ | exact hH1
      exact W.iret (v := 1) hx hb hr (fun t_ ht_ hW_ => ⟨⟨1, S_20, rfl, hpost, by rw [ht_]; exact hP, va_K.moved hW_.alike hK, hD⟩, hS.F ht_⟩) hS.2.2 (fk_get fk_cX12_of_1 3 rfl)
    have o_22 : (what).toInt < 8 ∨ 11 < (what).toInt := by
      have qc_7 : ¬ (what).toInt = 8 := lv_neT c_7 (by decide)
      have qc_11 : ¬ (what).toInt = 9 := lv_neT c_11 (by decide)
      have qc_14 : ¬ (what).toInt = 10 := lv_neT c_14 (by decide)
      have qc_17 : ¬ (what).toInt = 11 := lv_neT c_17 (by decide)
      omega
    refine lv_tableOut (tgt := 92) hx hb (dk_get dk_cX12_of_0 0 rfl) o_22 (by decide) ?_
    refine lv_aload_n hx hb (fk_get fk_cX12_of_1 4 rfl) rfl (lv_at hl 0 rfl) ?_
    refine lv_iload_n hx hb (fk_get fk_cX12_of_1 5 rfl) rfl (lv_at hl 1 rfl) ?_
    refine lv_iload_n hx hb (fk_get fk_cX12_of_1 6 rfl) rfl (lv_at hl 2 rfl) ?_
    refine vp_callSi (W.runV (As := [.int (c), .int (what)]) (rest := []) ⟨hx, hb, hml, hown, hT⟩ (c_of0 l G ad (setF S 0 8 (0)) H.size (c) (what) (12 * c.toNatClampNeg + what.toNatClampNeg) ((n_add (n_mul (show (12 : Int32) = nI 12 from rfl) ej) ew)) (by omega)) (tV 2 hT m6_119 m6_121 mp_34 m1_17 m6_122 rfl rfl (by decide +kernel) ⟨Nat.le_of_ble_eq_true rfl, Nat.le_of_ble_eq_true rfl⟩) ⟨PcW_blind, va_recv hK hP (ci := 14) (q0 := 0) rfl (ix_at (by decide) (cR_0 G ad (setF S 0 8 (0)))), PcW_of hP hK hD _⟩ rfl rfl hl.1 rfl (lv_room (Nat.le_of_ble_eq_true rfl)) (fk_get fk_cX12_of_1 7 rfl) ⟨Nat.zero_le _, Nat.zero_le _⟩) (fun r_23 hw_24 => ?_)
    try dsimp only at hw_24
    subst hQ
    have hpost : HFr (setF S 0 8 0) (setF S 0 8 (0)) := by
      first | exact HFr.rf _ | exact hH1
    exact W.iret (v := r_23) hx hb hr (fun t_ ht_ hW_ => ⟨⟨r_23, (setF S 0 8 (0)), rfl, hpost, by rw [ht_]; exact hP, va_K.moved hW_.alike hK, hD⟩, hS.F ht_⟩) hS.2.2 (fk_get fk_cX12_of_1 8 rfl)
  have p_c_6 := if1_f hw_5 c_6
  refine lv_iconst (v := (-1)) hx hb (fk_get fk_cX12_of_0 13 rfl) (by decide) ?_
  subst hQ
  have hpost : HFr (setF S 0 8 0) (setF S 0 8 (0)) := by
    first | exact HFr.rf _ | exact hH1
  exact W.iret (v := (-1)) hx hb hr (fun t_ ht_ hW_ => ⟨⟨(-1), (setF S 0 8 (0)), rfl, hpost, by rw [ht_]; exact hP, va_K.moved hW_.alike hK, hD⟩, hS.F ht_⟩) hS.2.2 (fk_get fk_cX12_of_0 14 rfl)
set_option maxHeartbeats 800000 in
set_option maxRecDepth 100000 in
theorem c_told (l : Launch) (G : GG) (ad : Nat → Nat) (S : FS) (sz : Nat) (n : Nat) (what : Int32) (hn : fF S 0 1 = nI n) (hn6 : n ≤ 6) (hHOK : HOK S) (hSV : SV 9999 S) (h15 : fF S 0 15 = 0) : Met l yX12_told (Cond.code yX12_told cX12_told 2 (some .int) :: TBL) ({ frames := 4, cells := 0, slots := 0, locals := 116 } : Room) (PcW G (wR G ad S) sz [.ref (ad 0), .int (what)]) (va_Qi (fun (r : Int32) (S' : FS) => S' = (setF S 0 8 0)) (fun S' t => BW G (va_A (wR G ad S) sz) (wR G ad S') t) (va_A (wR G ad S) sz)) 0 0 (va_A (wR G ad S) sz) := by
  refine Met.ofW (cc := cX12_told) (maxL := 2) (ret := (some .int)) (by decide) rfl ?_
  intro p e s m args below meth c₀ s₁ B hml hv
  obtain ⟨rfl, hsz, hP, hK, hD0⟩ := hv
  have hx := B.exec
  have hb := B.bytes
  have hr := B.returns
  have hT : ∀ w ∈ TBL, w.before ([.ref (ad 0), .int (what)] : List Value).toArray s = true := fun w h => atoms_spec (ws := Cond.code yX12_told cX12_told 2 (some .int) :: TBL) B.pre w (List.mem_cons_of_mem _ h)
  have hown : s.vm.findClass "LittleMoreModel" = some m.cls := findClass_of_methodNamed B.named
  have hlocks := B.notSynchronized
  subst hsz
  have hD := hD0.self (sz := s.heap.size)
  generalize hAe : va_A (wR G ad S) s.heap.size = A at hD ⊢
  have hA : ∀ q : Nat, s.heap.size ≤ q → A q := fun q h => by rw [← hAe]; exact Or.inr h
  have hS : va_S A s.heap s.heap [] := va_S.rf
  have hP : va_P G.1 vwCl (wR G ad S) s.heap := hP
  have hl := lv_entry ([.ref (ad 0), .int (what)]) (n := 2) (Nat.le_of_ble_eq_true rfl)
  rw [lg_entry_eq]
  generalize (lg_sl ([.ref (ad 0), .int (what)]) ++ List.replicate (2 - (lg_sl ([.ref (ad 0), .int (what)])).length) Slot.unset).toArray = ls at hl ⊢
  have hl : lv_has ls 2 [(0, .ref (ad 0)), (1, .int (what))] := hl
  refine W_abs (fun Q hQ => ?_)
  generalize ([.ref (ad 0), .int (what)] : List Value).toArray = args at hT hQ ⊢
  refine lv_aload_n hx hb (fk_get fk_cX12_told_0 0 rfl) rfl (lv_at hl 0 rfl) ?_
  refine lv_iconst (v := 0) hx hb (fk_get fk_cX12_told_0 1 rfl) (by decide) ?_
  refine va_put (D := G.1) (ci := 14) (v := .int (0)) (ty := .int) (C := RX12) (T := TX12) (N := 49) hx hb hT inX12 tyX12 tyX12_ok nmX12 hown hK hP hD hS 0 (ix_at (by decide) (cR_0 G ad S)) rfl 8 (by decide) (hT _ m5_109) (fun _ h9 => h9) rfl (by decide +kernel) rfl rfl (Nat.le_of_ble_eq_true rfl) (fk_get fk_cX12_told_0 2 rfl) (fun H locs hP hD hS => ?_)
  rw [pR_thrown G ad S (0)] at hP hD
  refine lv_iload_n hx hb (fk_get fk_cX12_told_0 3 rfl) rfl (lv_at hl 1 rfl) ?_
  by_cases c_1 : what = (0 : Int32)
  · refine lv_tableIn (off := 30) (tgt := 36) hx hb (dk_get dk_cX12_told_0 0 rfl) (by rw [c_1]; decide) (by rw [c_1]; decide) (by rw [c_1]; rfl) (by decide) ?_
    refine lv_aload_n hx hb (fk_get fk_cX12_told_0 4 rfl) rfl (lv_at hl 0 rfl) ?_
    refine va_get (D := G.1) (ci := 14) (v := .int ((fF S 0 2))) (C := RX12) (T := TX12) (N := 49) hx hb hT inX12 hown hK hP 0 (ix_at (by decide) (cR_0 G ad (setF S 0 8 (0)))) rfl 2 (by decide) (hT _ m5_103) (fun _ h9 => h9) rfl (fk_get fk_cX12_told_0 5 rfl) ?_
    subst hQ
    have hpost : (setF S 0 8 (0)) = (setF S 0 8 0) := by
      rfl
    exact W.iret (v := (fF S 0 2)) hx hb hr (fun t_ ht_ hW_ => ⟨⟨(fF S 0 2), (setF S 0 8 (0)), rfl, hpost, by rw [ht_]; exact hP, va_K.moved hW_.alike hK, hD⟩, hS.F ht_⟩) hS.2.2 (fk_get fk_cX12_told_0 6 rfl)
  by_cases c_2 : what = (1 : Int32)
  · refine lv_tableIn (off := 35) (tgt := 41) hx hb (dk_get dk_cX12_told_0 0 rfl) (by rw [c_2]; decide) (by rw [c_2]; decide) (by rw [c_2]; rfl) (by decide) ?_
    refine lv_aload_n hx hb (fk_get fk_cX12_told_0 7 rfl) rfl (lv_at hl 0 rfl) ?_
    refine lv_iconst (v := 2) hx hb (fk_get fk_cX12_told_0 8 rfl) (by decide) ?_
    refine lv_iconst (v := 5) hx hb (fk_get fk_cX12_told_0 9 rfl) (by decide) ?_
    refine vp_callSi (W.runV (As := [.int (2), .int (5)]) (rest := []) ⟨hx, hb, hml, hown, hT⟩ (c_lastOf l G ad (setF S 0 8 (0)) H.size (2) (5) (hHOK)) (tV 2 hT m6_180 m6_182 mp_43 m1_17 m6_183 rfl rfl (by decide +kernel) ⟨Nat.le_of_ble_eq_true rfl, Nat.le_of_ble_eq_true rfl⟩) ⟨PcW_blind, va_recv hK hP (ci := 14) (q0 := 0) rfl (ix_at (by decide) (cR_0 G ad (setF S 0 8 (0)))), PcW_of hP hK hD _⟩ rfl rfl hl.1 rfl (lv_room (Nat.le_of_ble_eq_true rfl)) (fk_get fk_cX12_told_0 10 rfl) ⟨Nat.zero_le _, Nat.zero_le _⟩) (fun r_3 hw_4 => ?_)
    try dsimp only at hw_4
    subst hQ
    have hpost : (setF S 0 8 (0)) = (setF S 0 8 0) := by
      rfl
    exact W.iret (v := r_3) hx hb hr (fun t_ ht_ hW_ => ⟨⟨r_3, (setF S 0 8 (0)), rfl, hpost, by rw [ht_]; exact hP, va_K.moved hW_.alike hK, hD⟩, hS.F ht_⟩) hS.2.2 (fk_get fk_cX12_told_0 11 rfl)
  by_cases c_5 : what = (2 : Int32)
  · refine lv_tableIn (off := 42) (tgt := 48) hx hb (dk_get dk_cX12_told_0 0 rfl) (by rw [c_5]; decide) (by rw [c_5]; decide) (by rw [c_5]; rfl) (by decide) ?_
    refine lv_aload_n hx hb (fk_get fk_cX12_told_0 12 rfl) rfl (lv_at hl 0 rfl) ?_
    refine lv_iconst (v := 3) hx hb (fk_get fk_cX12_told_0 13 rfl) (by decide) ?_
    refine lv_iconst (v := 1) hx hb (fk_get fk_cX12_told_0 14 rfl) (by decide) ?_
    refine vp_callSi (W.runV (As := [.int (3), .int (1)]) (rest := []) ⟨hx, hb, hml, hown, hT⟩ (c_lastOf l G ad (setF S 0 8 (0)) H.size (3) (1) (hHOK)) (tV 2 hT m6_180 m6_182 mp_43 m1_17 m6_183 rfl rfl (by decide +kernel) ⟨Nat.le_of_ble_eq_true rfl, Nat.le_of_ble_eq_true rfl⟩) ⟨PcW_blind, va_recv hK hP (ci := 14) (q0 := 0) rfl (ix_at (by decide) (cR_0 G ad (setF S 0 8 (0)))), PcW_of hP hK hD _⟩ rfl rfl hl.1 rfl (lv_room (Nat.le_of_ble_eq_true rfl)) (fk_get fk_cX12_told_0 15 rfl) ⟨Nat.zero_le _, Nat.zero_le _⟩) (fun r_6 hw_7 => ?_)
    try dsimp only at hw_7
    subst hQ
    have hpost : (setF S 0 8 (0)) = (setF S 0 8 0) := by
      rfl
    exact W.iret (v := r_6) hx hb hr (fun t_ ht_ hW_ => ⟨⟨r_6, (setF S 0 8 (0)), rfl, hpost, by rw [ht_]; exact hP, va_K.moved hW_.alike hK, hD⟩, hS.F ht_⟩) hS.2.2 (fk_get fk_cX12_told_0 16 rfl)
  by_cases c_8 : what = (3 : Int32)
  · refine lv_tableIn (off := 49) (tgt := 55) hx hb (dk_get dk_cX12_told_0 0 rfl) (by rw [c_8]; decide) (by rw [c_8]; decide) (by rw [c_8]; rfl) (by decide) ?_
    refine lv_aload_n hx hb (fk_get fk_cX12_told_0 17 rfl) rfl (lv_at hl 0 rfl) ?_
    refine vp_callSi (W.runV (As := []) (rest := []) ⟨hx, hb, hml, hown, hT⟩ (c_goneBits l G ad (setF S 0 8 (0)) H.size (n) (hn) (hn6)) (tV 0 hT m6_184 m6_186 mp_44 m1_17 m6_187 rfl rfl (by decide +kernel) ⟨Nat.le_of_ble_eq_true rfl, Nat.le_of_ble_eq_true rfl⟩) ⟨PcW_blind, va_recv hK hP (ci := 14) (q0 := 0) rfl (ix_at (by decide) (cR_0 G ad (setF S 0 8 (0)))), PcW_of hP hK hD _⟩ rfl rfl hl.1 rfl (lv_room (Nat.le_of_ble_eq_true rfl)) (fk_get fk_cX12_told_0 18 rfl) ⟨Nat.zero_le _, Nat.zero_le _⟩) (fun r_9 hw_10 => ?_)
    try dsimp only at hw_10
    subst hQ
    have hpost : (setF S 0 8 (0)) = (setF S 0 8 0) := by
      rfl
    exact W.iret (v := r_9) hx hb hr (fun t_ ht_ hW_ => ⟨⟨r_9, (setF S 0 8 (0)), rfl, hpost, by rw [ht_]; exact hP, va_K.moved hW_.alike hK, hD⟩, hS.F ht_⟩) hS.2.2 (fk_get fk_cX12_told_0 19 rfl)
  have o_11 : (what).toInt < 0 ∨ 3 < (what).toInt := by
    have qc_1 : ¬ (what).toInt = 0 := lv_neT c_1 (by decide)
    have qc_2 : ¬ (what).toInt = 1 := lv_neT c_2 (by decide)
    have qc_5 : ¬ (what).toInt = 2 := lv_neT c_5 (by decide)
    have qc_8 : ¬ (what).toInt = 3 := lv_neT c_8 (by decide)
    omega
  refine lv_tableOut (tgt := 60) hx hb (dk_get dk_cX12_told_0 0 rfl) o_11 (by decide) ?_
  refine lv_iconst (v := (-1)) hx hb (fk_get fk_cX12_told_0 20 rfl) (by decide) ?_
  subst hQ
  have hpost : (setF S 0 8 (0)) = (setF S 0 8 0) := by
    rfl
  exact W.iret (v := (-1)) hx hb hr (fun t_ ht_ hW_ => ⟨⟨(-1), (setF S 0 8 (0)), rfl, hpost, by rw [ht_]; exact hP, va_K.moved hW_.alike hK, hD⟩, hS.F ht_⟩) hS.2.2 (fk_get fk_cX12_told_0 21 rfl)
set_option maxHeartbeats 800000 in
set_option maxRecDepth 100000 in
theorem c_visit (l : Launch) (G : GG) (ad : Nat → Nat) (S : FS) (sz : Nat) (n : Nat) (c : Int32) (hn : fF S 0 1 = nI n) (hn6 : n ≤ 6) (hHOK : HOK S) (hSV : SV 9999 S) (h15 : fF S 0 15 = 0) : Met l yX12_visit (Cond.code yX12_visit cX12_visit 2 (some .int) :: TBL) ({ frames := 8, cells := 0, slots := 0, locals := 230 } : Room) (PcW G (wR G ad S) sz [.ref (ad 0), .int (c)]) (va_Qi (fun (r : Int32) (S' : FS) => MO (setF S 0 8 0) S' ∧ SV 9999 S') (fun S' t => BW G (va_A (wR G ad S) sz) (wR G ad S') t) (va_A (wR G ad S) sz)) 0 0 (va_A (wR G ad S) sz) := by
  refine Met.ofW (cc := cX12_visit) (maxL := 2) (ret := (some .int)) (by decide) rfl ?_
  intro p e s m args below meth c₀ s₁ B hml hv
  obtain ⟨rfl, hsz, hP, hK, hD0⟩ := hv
  have hx := B.exec
  have hb := B.bytes
  have hr := B.returns
  have hT : ∀ w ∈ TBL, w.before ([.ref (ad 0), .int (c)] : List Value).toArray s = true := fun w h => atoms_spec (ws := Cond.code yX12_visit cX12_visit 2 (some .int) :: TBL) B.pre w (List.mem_cons_of_mem _ h)
  have hown : s.vm.findClass "LittleMoreModel" = some m.cls := findClass_of_methodNamed B.named
  have hlocks := B.notSynchronized
  subst hsz
  have hD := hD0.self (sz := s.heap.size)
  generalize hAe : va_A (wR G ad S) s.heap.size = A at hD ⊢
  have hA : ∀ q : Nat, s.heap.size ≤ q → A q := fun q h => by rw [← hAe]; exact Or.inr h
  have hS : va_S A s.heap s.heap [] := va_S.rf
  have hP : va_P G.1 vwCl (wR G ad S) s.heap := hP
  have hl := lv_entry ([.ref (ad 0), .int (c)]) (n := 2) (Nat.le_of_ble_eq_true rfl)
  rw [lg_entry_eq]
  generalize (lg_sl ([.ref (ad 0), .int (c)]) ++ List.replicate (2 - (lg_sl ([.ref (ad 0), .int (c)])).length) Slot.unset).toArray = ls at hl ⊢
  have hl : lv_has ls 2 [(0, .ref (ad 0)), (1, .int (c))] := hl
  refine W_abs (fun Q hQ => ?_)
  generalize ([.ref (ad 0), .int (c)] : List Value).toArray = args at hT hQ ⊢
  refine lv_aload_n hx hb (fk_get fk_cX12_visit_0 0 rfl) rfl (lv_at hl 0 rfl) ?_
  refine lv_iconst (v := 0) hx hb (fk_get fk_cX12_visit_0 1 rfl) (by decide) ?_
  refine va_put (D := G.1) (ci := 14) (v := .int (0)) (ty := .int) (C := RX12) (T := TX12) (N := 49) hx hb hT inX12 tyX12 tyX12_ok nmX12 hown hK hP hD hS 0 (ix_at (by decide) (cR_0 G ad S)) rfl 8 (by decide) (hT _ m5_109) (fun _ h9 => h9) rfl (by decide +kernel) rfl rfl (Nat.le_of_ble_eq_true rfl) (fk_get fk_cX12_visit_0 2 rfl) (fun H locs hP hD hS => ?_)
  rw [pR_thrown G ad S (0)] at hP hD
  refine lv_aload_n hx hb (fk_get fk_cX12_visit_0 3 rfl) rfl (lv_at hl 0 rfl) ?_
  refine lv_iload_n hx hb (fk_get fk_cX12_visit_0 4 rfl) rfl (lv_at hl 1 rfl) ?_
  refine vp_callSi (W.runV (As := [.int (c)]) (rest := []) ⟨hx, hb, hml, hown, hT⟩ (c_isCustomer l G ad (setF S 0 8 (0)) H.size (c) ) (tV 1 hT m6_110 m6_112 mp_32 m1_17 m6_113 rfl rfl (by decide +kernel) ⟨Nat.le_of_ble_eq_true rfl, Nat.le_of_ble_eq_true rfl⟩) ⟨PcW_blind, va_recv hK hP (ci := 14) (q0 := 0) rfl (ix_at (by decide) (cR_0 G ad (setF S 0 8 (0)))), PcW_of hP hK hD _⟩ rfl rfl hl.1 rfl (lv_room (Nat.le_of_ble_eq_true rfl)) (fk_get fk_cX12_visit_0 5 rfl) ⟨Nat.zero_le _, Nat.zero_le _⟩) (fun r_1 hw_2 => ?_)
  try dsimp only at hw_2
  have hw_2 : r_1 = if 0 ≤ c ∧ c ≤ fF S 0 1 - 1 then 1 else 0 := hw_2
  refine lv_if_ne (tgt := 15) hx hb (fk_get fk_cX12_visit_0 6 rfl) (by decide) (fun c_3 => ?_) (fun c_3 => ?_)
  · have p_c_3 := if1_t hw_2 c_3
    obtain ⟨hj, ej⟩ := isC_n p_c_3 hn hn6
    obtain ⟨x, hxb, hx6⟩ := hSV c.toNatClampNeg (by omega)
    refine lv_aload_n hx hb (fk_get fk_cX12_visit_0 9 rfl) rfl (lv_at hl 0 rfl) ?_
    refine lv_iload_n hx hb (fk_get fk_cX12_visit_0 10 rfl) rfl (lv_at hl 1 rfl) ?_
    refine vp_callSi (W.runV (As := [.int (c)]) (rest := []) ⟨hx, hb, hml, hown, hT⟩ (c_isGone l G ad (setF S 0 8 (0)) H.size (c) (c.toNatClampNeg) (ej) (by omega)) (tV 1 hT m6_192 m6_194 mp_45 m1_17 m6_195 rfl rfl (by decide +kernel) ⟨Nat.le_of_ble_eq_true rfl, Nat.le_of_ble_eq_true rfl⟩) ⟨PcW_blind, va_recv hK hP (ci := 14) (q0 := 0) rfl (ix_at (by decide) (cR_0 G ad (setF S 0 8 (0)))), PcW_of hP hK hD _⟩ rfl rfl hl.1 rfl (lv_room (Nat.le_of_ble_eq_true rfl)) (fk_get fk_cX12_visit_0 11 rfl) ⟨Nat.zero_le _, Nat.zero_le _⟩) (fun r_4 hw_5 => ?_)
    try dsimp only at hw_5
    refine lv_if_eq (tgt := 26) hx hb (fk_get fk_cX12_visit_0 12 rfl) (by decide) (fun c_6 => ?_) (fun c_6 => ?_)
    · have p_c_6 := if1_f hw_5 c_6
      refine lv_aload_n hx hb (fk_get fk_cX12_visit_0 15 rfl) rfl (lv_at hl 0 rfl) ?_
      refine lv_iload_n hx hb (fk_get fk_cX12_visit_0 16 rfl) rfl (lv_at hl 1 rfl) ?_
      have hFc := va_self hD hS hA
      refine va_callv (va_runV (As := [.int (c)]) (rest := []) ⟨hx, hb, hml, hown, hT⟩ (c_visitOne l G ad (setF S 0 8 (0)) H.size (c) (c.toNatClampNeg) (x) (hHOK) (ej) (by omega) (hx6) (by omega)) (tV 1 hT m6_196 m6_198 mp_46 m1_17 m6_199 rfl rfl (by decide +kernel) ⟨Nat.le_of_ble_eq_true rfl, Nat.le_of_ble_eq_true rfl⟩) ⟨PcW_blind, va_recv hK hP (ci := 14) (q0 := 0) rfl (ix_at (by decide) (cR_0 G ad (setF S 0 8 (0)))), PcW_of hP hK hD _⟩ rfl rfl hl.1 rfl (lv_room (Nat.le_of_ble_eq_true rfl)) (fk_get fk_cX12_visit_0 17 rfl) ⟨Nat.zero_le _, Nat.zero_le _⟩) hS (fun q _ h => hFc q h) hFc (fun S_9 t_ H locs ht_ hvm_ hw_8 hB_ hz_ hk_ hS => ?_)
      obtain ⟨hP, -, hD1_⟩ := hB_
      rw [ht_] at hP
      have hD : va_D A (wR G ad S_9) := hD1_.weaken (fun k q _ h => hFc q.1 h)
      try dsimp only at hw_8
      obtain ⟨y, hV, hy, hy2⟩ := hw_8
      refine lv_aload_n hx hb (fk_get fk_cX12_visit_0 18 rfl) rfl (lv_at hl 0 rfl) ?_
      refine va_get (D := G.1) (ci := 14) (v := .int ((fF S_9 0 33))) (C := RX12) (T := TX12) (N := 49) hx hb hT inX12 hown hK hP 0 (ix_at (by decide) (cR_0 G ad S_9)) rfl 33 (by decide) (hT _ m5_134) (fun _ h9 => h9) rfl (fk_get fk_cX12_visit_0 19 rfl) ?_
      refine lv_aload_n hx hb (fk_get fk_cX12_visit_0 20 rfl) rfl (lv_at hl 0 rfl) ?_
      refine lv_iconst (v := 2) hx hb (fk_get fk_cX12_visit_0 21 rfl) (by decide) ?_
      refine lv_iconst (v := 5) hx hb (fk_get fk_cX12_visit_0 22 rfl) (by decide) ?_
      refine vp_callSi (W.runV (As := [.int (2), .int (5)]) (rest := [.int ((fF S_9 0 33))]) ⟨hx, hb, hml, hown, hT⟩ (c_lastOf l G ad S_9 H.size (2) (5) ((show HOK (setF S 0 8 0) from hHOK).M hV.M)) (tV 2 hT m6_180 m6_182 mp_43 m1_17 m6_183 rfl rfl (by decide +kernel) ⟨Nat.le_of_ble_eq_true rfl, Nat.le_of_ble_eq_true rfl⟩) ⟨PcW_blind, va_recv hK hP (ci := 14) (q0 := 0) rfl (ix_at (by decide) (cR_0 G ad S_9)), PcW_of hP hK hD _⟩ rfl rfl hl.1 rfl (lv_room (Nat.le_of_ble_eq_true rfl)) (fk_get fk_cX12_visit_0 23 rfl) ⟨Nat.zero_le _, Nat.zero_le _⟩) (fun r_10 hw_11 => ?_)
      try dsimp only at hw_11
      refine lv_imul hx hb (fk_get fk_cX12_visit_0 24 rfl) ?_
      subst hQ
      have hpost : MO (setF S 0 8 0) S_9 ∧ SV 9999 S_9 := by
        first | exact ⟨MO.rf _, hSV⟩ | exact ⟨hV.M, SV.V2 (S := (setF S 0 8 0)) hSV hV (hy2 h15 hxb)⟩
      exact W.iret (v := ((fF S_9 0 33) * r_10)) hx hb hr (fun t_ ht_ hW_ => ⟨⟨((fF S_9 0 33) * r_10), S_9, rfl, hpost, by rw [ht_]; exact hP, va_K.moved hW_.alike hK, hD⟩, hS.F ht_⟩) hS.2.2 (fk_get fk_cX12_visit_0 25 rfl)
    have p_c_6 := if1_t hw_5 c_6
    refine lv_bipush (v := (-3)) hx hb (fk_get fk_cX12_visit_0 13 rfl) (by decide) ?_
    subst hQ
    have hpost : MO (setF S 0 8 0) (setF S 0 8 (0)) ∧ SV 9999 (setF S 0 8 (0)) := by
      first | exact ⟨MO.rf _, hSV⟩ | exact ⟨hV.M, SV.V2 (S := (setF S 0 8 0)) hSV hV (hy2 h15 hxb)⟩
    exact W.iret (v := (-3)) hx hb hr (fun t_ ht_ hW_ => ⟨⟨(-3), (setF S 0 8 (0)), rfl, hpost, by rw [ht_]; exact hP, va_K.moved hW_.alike hK, hD⟩, hS.F ht_⟩) hS.2.2 (fk_get fk_cX12_visit_0 14 rfl)
  have p_c_3 := if1_f hw_2 c_3
  refine lv_iconst (v := (-1)) hx hb (fk_get fk_cX12_visit_0 7 rfl) (by decide) ?_
  subst hQ
  have hpost : MO (setF S 0 8 0) (setF S 0 8 (0)) ∧ SV 9999 (setF S 0 8 (0)) := by
    first | exact ⟨MO.rf _, hSV⟩ | exact ⟨hV.M, SV.V2 (S := (setF S 0 8 0)) hSV hV (hy2 h15 hxb)⟩
  exact W.iret (v := (-1)) hx hb hr (fun t_ ht_ hW_ => ⟨⟨(-1), (setF S 0 8 (0)), rfl, hpost, by rw [ht_]; exact hP, va_K.moved hW_.alike hK, hD⟩, hS.F ht_⟩) hS.2.2 (fk_get fk_cX12_visit_0 8 rfl)
set_option maxHeartbeats 800000 in
set_option maxRecDepth 100000 in
theorem c_saturday (l : Launch) (G : GG) (ad : Nat → Nat) (S : FS) (sz : Nat) (n : Nat) (hn : fF S 0 1 = nI n) (hn6 : n ≤ 6) (hHOK : HOK S) (hSV : SV 9999 S) (h15 : fF S 0 15 = 0) : Met l yX12_saturday (Cond.code yX12_saturday cX12_saturday 1 (some .int) :: TBL) ({ frames := 10, cells := 0, slots := 0, locals := 281 } : Room) (PcW G (wR G ad S) sz [.ref (ad 0)]) (va_Qi (fun (r : Int32) (S' : FS) => MO (setF S 0 8 0) S' ∧ SV 9999 S') (fun S' t => BW G (va_A (wR G ad S) sz) (wR G ad S') t) (va_A (wR G ad S) sz)) 0 0 (va_A (wR G ad S) sz) := by
  refine Met.ofW (cc := cX12_saturday) (maxL := 1) (ret := (some .int)) (by decide) rfl ?_
  intro p e s m args below meth c₀ s₁ B hml hv
  obtain ⟨rfl, hsz, hP, hK, hD0⟩ := hv
  have hx := B.exec
  have hb := B.bytes
  have hr := B.returns
  have hT : ∀ w ∈ TBL, w.before ([.ref (ad 0)] : List Value).toArray s = true := fun w h => atoms_spec (ws := Cond.code yX12_saturday cX12_saturday 1 (some .int) :: TBL) B.pre w (List.mem_cons_of_mem _ h)
  have hown : s.vm.findClass "LittleMoreModel" = some m.cls := findClass_of_methodNamed B.named
  have hlocks := B.notSynchronized
  subst hsz
  have hD := hD0.self (sz := s.heap.size)
  generalize hAe : va_A (wR G ad S) s.heap.size = A at hD ⊢
  have hA : ∀ q : Nat, s.heap.size ≤ q → A q := fun q h => by rw [← hAe]; exact Or.inr h
  have hS : va_S A s.heap s.heap [] := va_S.rf
  have hP : va_P G.1 vwCl (wR G ad S) s.heap := hP
  have hl := lv_entry ([.ref (ad 0)]) (n := 1) (Nat.le_of_ble_eq_true rfl)
  rw [lg_entry_eq]
  generalize (lg_sl ([.ref (ad 0)]) ++ List.replicate (1 - (lg_sl ([.ref (ad 0)])).length) Slot.unset).toArray = ls at hl ⊢
  have hl : lv_has ls 1 [(0, .ref (ad 0))] := hl
  refine W_abs (fun Q hQ => ?_)
  generalize ([.ref (ad 0)] : List Value).toArray = args at hT hQ ⊢
  refine lv_aload_n hx hb (fk_get fk_cX12_saturday_0 0 rfl) rfl (lv_at hl 0 rfl) ?_
  refine lv_iconst (v := 0) hx hb (fk_get fk_cX12_saturday_0 1 rfl) (by decide) ?_
  refine va_put (D := G.1) (ci := 14) (v := .int (0)) (ty := .int) (C := RX12) (T := TX12) (N := 49) hx hb hT inX12 tyX12 tyX12_ok nmX12 hown hK hP hD hS 0 (ix_at (by decide) (cR_0 G ad S)) rfl 8 (by decide) (hT _ m5_109) (fun _ h9 => h9) rfl (by decide +kernel) rfl rfl (Nat.le_of_ble_eq_true rfl) (fk_get fk_cX12_saturday_0 2 rfl) (fun H locs hP hD hS => ?_)
  rw [pR_thrown G ad S (0)] at hP hD
  refine lv_aload_n hx hb (fk_get fk_cX12_saturday_0 3 rfl) rfl (lv_at hl 0 rfl) ?_
  refine lv_iconst (v := 1) hx hb (fk_get fk_cX12_saturday_0 4 rfl) (by decide) ?_
  have hFc := va_self hD hS hA
  refine va_callv (va_runV (As := [.int (1)]) (rest := []) ⟨hx, hb, hml, hown, hT⟩ (c_saturdaysOn l G ad (setF S 0 8 (0)) H.size (n) (9999) (1) (hn) (hn6) (hHOK) (hSV) (by omega) (by omega)) (tV 1 hT m6_204 m6_206 mp_47 m1_17 m6_207 rfl rfl (by decide +kernel) ⟨Nat.le_of_ble_eq_true rfl, Nat.le_of_ble_eq_true rfl⟩) ⟨PcW_blind, va_recv hK hP (ci := 14) (q0 := 0) rfl (ix_at (by decide) (cR_0 G ad (setF S 0 8 (0)))), PcW_of hP hK hD _⟩ rfl rfl hl.1 rfl (lv_room (Nat.le_of_ble_eq_true rfl)) (fk_get fk_cX12_saturday_0 5 rfl) ⟨Nat.zero_le _, Nat.zero_le _⟩) hS (fun q _ h => hFc q h) hFc (fun S_3 t_ H locs ht_ hvm_ hw_2 hB_ hz_ hk_ hS => ?_)
  obtain ⟨hP, -, hD1_⟩ := hB_
  rw [ht_] at hP
  have hD : va_D A (wR G ad S_3) := hD1_.weaken (fun k q _ h => hFc q.1 h)
  try dsimp only at hw_2
  obtain ⟨hM2, hS2, hS3⟩ := hw_2
  refine lv_aload_n hx hb (fk_get fk_cX12_saturday_0 6 rfl) rfl (lv_at hl 0 rfl) ?_
  refine va_get (D := G.1) (ci := 14) (v := .int ((fF S_3 0 36))) (C := RX12) (T := TX12) (N := 49) hx hb hT inX12 hown hK hP 0 (ix_at (by decide) (cR_0 G ad S_3)) rfl 36 (by decide) (hT _ m5_137) (fun _ h9 => h9) rfl (fk_get fk_cX12_saturday_0 7 rfl) ?_
  refine lv_aload_n hx hb (fk_get fk_cX12_saturday_0 8 rfl) rfl (lv_at hl 0 rfl) ?_
  refine lv_iconst (v := 2) hx hb (fk_get fk_cX12_saturday_0 9 rfl) (by decide) ?_
  refine lv_iconst (v := 5) hx hb (fk_get fk_cX12_saturday_0 10 rfl) (by decide) ?_
  refine vp_callSi (W.runV (As := [.int (2), .int (5)]) (rest := [.int ((fF S_3 0 36))]) ⟨hx, hb, hml, hown, hT⟩ (c_lastOf l G ad S_3 H.size (2) (5) ((show HOK (setF S 0 8 0) from hHOK).M hM2)) (tV 2 hT m6_180 m6_182 mp_43 m1_17 m6_183 rfl rfl (by decide +kernel) ⟨Nat.le_of_ble_eq_true rfl, Nat.le_of_ble_eq_true rfl⟩) ⟨PcW_blind, va_recv hK hP (ci := 14) (q0 := 0) rfl (ix_at (by decide) (cR_0 G ad S_3)), PcW_of hP hK hD _⟩ rfl rfl hl.1 rfl (lv_room (Nat.le_of_ble_eq_true rfl)) (fk_get fk_cX12_saturday_0 11 rfl) ⟨Nat.zero_le _, Nat.zero_le _⟩) (fun r_4 hw_5 => ?_)
  try dsimp only at hw_5
  refine lv_imul hx hb (fk_get fk_cX12_saturday_0 12 rfl) ?_
  subst hQ
  have hpost : MO (setF S 0 8 0) S_3 ∧ SV 9999 S_3 := by
    exact ⟨hM2, hS3 h15 (by omega) (by omega)⟩
  exact W.iret (v := ((fF S_3 0 36) * r_4)) hx hb hr (fun t_ ht_ hW_ => ⟨⟨((fF S_3 0 36) * r_4), S_3, rfl, hpost, by rw [ht_]; exact hP, va_K.moved hW_.alike hK, hD⟩, hS.F ht_⟩) hS.2.2 (fk_get fk_cX12_saturday_0 13 rfl)
