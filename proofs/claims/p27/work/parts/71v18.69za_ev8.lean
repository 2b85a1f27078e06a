set_option maxHeartbeats 800000 in
set_option maxRecDepth 100000 in
theorem c_ofX (l : Launch) (G : GG) (ad : Nat → Nat) (S : FS) (sz : Nat) (z : Nat) (τ : Nat → Int32) (C : ClU) (n : Nat) (c what : Int32) (hn : fF S 0 1 = nI n) (hn6 : n ≤ 6) (hHOK : HOK S) (hSV : SV 9999 S) (h15 : fF S 0 15 = 0) (hHX : HOX S z τ C) : Met l yX12_of (Cond.code yX12_of cX12_of 3 (some .int) :: TBL) ({ frames := 7, cells := 0, slots := 0, locals := 201 } : Room) (PcW G (wR G ad S) sz [.ref (ad 0), .int (c), .int (what)]) (va_Qi (fun (r : Int32) (S' : FS) => HFr (setF S 0 8 0) S' ∧ r = ofP (fF S 0 2) τ C n (gR S) c what) (fun S' t => BW G (va_A (wR G ad S) sz) (wR G ad S') t) (va_A (wR G ad S) sz)) 0 0 (va_A (wR G ad S) sz) := by
  refine Met.ofW (cc := cX12_of) (maxL := 3) (ret := (some .int)) (by decide) rfl ?_
  intro p e s m args below meth c₀ s₁ B hml hv
  obtain ⟨rfl, hsz, hP, hK, hD0⟩ := hv
  have hx := B.exec
  have hb := B.bytes
  have hr := B.returns
  have hT : ∀ w ∈ TBL, w.before ([.ref (ad 0), .int (c), .int (what)] : List Value).toArray s = true := fun w h => atoms_spec (ws := Cond.code yX12_of cX12_of 3 (some .int) :: TBL) B.pre w (List.mem_cons_of_mem _ h)
  have hown : s.vm.findClass "LittleMoreModel" = some m.cls := findClass_of_methodNamed B.named
  have hlocks := B.notSynchronized
  subst hsz
  have hD := hD0.self (sz := s.heap.size)
  generalize hAe : va_A (wR G ad S) s.heap.size = A at hD ⊢
  have hA : ∀ q : Nat, s.heap.size ≤ q → A q := fun q h => by rw [← hAe]; exact Or.inr h
  have hS : va_S A s.heap s.heap [] := va_S.rf
  have hP : va_P G.1 vwCl (wR G ad S) s.heap := hP
  have hl := lv_entry ([.ref (ad 0), .int (c), .int (what)]) (n := 3) (Nat.le_of_ble_eq_true rfl)
  rw [lg_entry_eq]
  generalize (lg_sl ([.ref (ad 0), .int (c), .int (what)]) ++ List.replicate (3 - (lg_sl ([.ref (ad 0), .int (c), .int (what)])).length) Slot.unset).toArray = ls at hl ⊢
  have hl : lv_has ls 3 [(0, .ref (ad 0)), (1, .int (c)), (2, .int (what))] := hl
  refine W_abs (fun Q hQ => ?_)
  generalize ([.ref (ad 0), .int (c), .int (what)] : List Value).toArray = args at hT hQ ⊢
  refine lv_aload_n hx hb (fk_get fk_cX12_of_0 0 rfl) rfl (lv_at hl 0 rfl) ?_
  refine lv_iconst (v := 0) hx hb (fk_get fk_cX12_of_0 1 rfl) (by decide) ?_
  refine va_put (D := G.1) (ci := 14) (v := .int (0)) (ty := .int) (C := RX12) (T := TX12) (N := 49) hx hb hT inX12 tyX12 tyX12_ok nmX12 hown hK hP hD hS 0 (ix_at (by decide) (cR_0 G ad S)) rfl 8 (by decide) (hT _ m5_109) (fun _ h9 => h9) rfl (by decide +kernel) rfl rfl (Nat.le_of_ble_eq_true rfl) (fk_get fk_cX12_of_0 2 rfl) (fun H locs hP hD hS => ?_)
  rw [pR_thrown G ad S (0)] at hP hD
  refine lv_aload_n hx hb (fk_get fk_cX12_of_0 3 rfl) rfl (lv_at hl 0 rfl) ?_
  refine lv_iload_n hx hb (fk_get fk_cX12_of_0 4 rfl) rfl (lv_at hl 1 rfl) ?_
  refine vp_callSi (W.runV (As := [.int (c)]) (rest := []) ⟨hx, hb, hml, hown, hT⟩ (c_isCustomer l G ad (setF S 0 8 (0)) H.size (c) ) (tV 1 hT m6_110 m6_112 mp_32 m1_17 m6_113 rfl rfl (by decide +kernel) ⟨Nat.le_of_ble_eq_true rfl, Nat.le_of_ble_eq_true rfl⟩) ⟨PcW_blind, va_recv hK hP (ci := 14) (q0 := 0) rfl (ix_at (by decide) (cR_0 G ad (setF S 0 8 (0)))), PcW_of hP hK hD _⟩ rfl rfl hl.1 rfl (lv_room (Nat.le_of_ble_eq_true rfl)) (fk_get fk_cX12_of_0 5 rfl) ⟨Nat.zero_le _, Nat.zero_le _⟩) (fun r_1 hw_2 => ?_)
  try dsimp only at hw_2
  have hw_2 : r_1 = if 0 ≤ c ∧ c ≤ fF S 0 1 - 1 then 1 else 0 := hw_2
  refine lv_if_eq (tgt := 25) hx hb (fk_get fk_cX12_of_0 6 rfl) (by decide) (fun c_3 => ?_) (fun c_3 => ?_)
  · have p_c_3 := if1_f hw_2 c_3
    have hnC_ : ¬ isC n c := by
      show ¬ (0 ≤ c ∧ c ≤ nI n - 1)
      rw [← hn]
      exact p_c_3
    refine lv_iconst (v := (-1)) hx hb (fk_get fk_cX12_of_0 13 rfl) (by decide) ?_
    subst hQ
    have hpost : HFr (setF S 0 8 0) (setF S 0 8 (0)) ∧ ((-1) : Int32) = ofP (fF S 0 2) τ C n (gR S) c what := by
      first | exact ⟨HFr.rf _, of_o (Or.inl hnC_)⟩ | exact ⟨HFr.rf _, of_o (Or.inr (by assumption))⟩ | exact ⟨hH1, of_8 hC_ hw_ (by assumption)⟩ | exact ⟨HFr.rf _, of_9 hC_ hw_ (by assumption)⟩ | exact ⟨HFr.rf _, of_10 hC_ hw_ (by assumption)⟩ | exact ⟨hH1, of_11y hC_ hw_ (by assumption) hY⟩ | exact ⟨hH1, of_11n hC_ hw_ (by assumption) hN⟩ | exact ⟨HFr.rf _, (gR_k (by omega)).symm.trans (of_d hC_ hw_ (by assumption) (by assumption) (by assumption) (by assumption))⟩
    exact W.iret (v := (-1)) hx hb hr (fun t_ ht_ hW_ => ⟨⟨(-1), (setF S 0 8 (0)), rfl, hpost, by rw [ht_]; exact hP, va_K.moved hW_.alike hK, hD⟩, hS.F ht_⟩) hS.2.2 (fk_get fk_cX12_of_0 14 rfl)
  have p_c_3 := if1_t hw_2 c_3
  have hC_ : isC n c := by
    show 0 ≤ c ∧ c ≤ nI n - 1
    rw [← hn]
    exact p_c_3
  obtain ⟨hj, ej⟩ := isC_n p_c_3 hn hn6
  refine lv_iload_n hx hb (fk_get fk_cX12_of_0 7 rfl) rfl (lv_at hl 2 rfl) ?_
  refine lv_i2l hx hb (fk_get fk_cX12_of_0 8 rfl) rfl ?_
  refine lv_lconst (v := 0) hx hb (fk_get fk_cX12_of_0 9 rfl) (by decide) ?_
  refine lv_ldc2 (v := 11) hx hb hown (hT _ m6_114) (fk_get fk_cX12_of_0 10 rfl) ?_
  refine vp_callSi (W.runS (As := [.long ((what).toInt64), .long (0), .long (11)]) (rest := []) ⟨hx, hb, hml, hown, hT⟩ (c_in l ((what).toInt64) (0) (11) ) (tS 3 hT m6_31 m6_32 m1_17 m6_33 rfl rfl (by decide +kernel) ⟨Nat.le_of_ble_eq_true rfl, Nat.le_of_ble_eq_true rfl⟩) ⟨PcN_blind, PcN_of _ _ _⟩ rfl rfl hl.1 rfl (lv_room (Nat.le_of_ble_eq_true rfl)) (fk_get fk_cX12_of_0 11 rfl) ⟨Nat.zero_le _, Nat.zero_le _⟩) (fun r_4 hw_5 => ?_)
  try dsimp only at hw_5
  have hw_5 := in_eq hw_5 (what) 0 11 (rfl) (by decide) (by decide)
  refine lv_if_ne (tgt := 27) hx hb (fk_get fk_cX12_of_0 12 rfl) (by decide) (fun c_6 => ?_) (fun c_6 => ?_)
  · have p_c_6 := if1_t hw_5 c_6
    have hw_ := p_c_6
    obtain ⟨hw11, ew⟩ := in_n (b := 11) p_c_6 (by decide)
    obtain ⟨x, hxb, hx6⟩ := hSV c.toNatClampNeg (by omega)
    refine lv_iload_n hx hb (fk_get fk_cX12_of_0 15 rfl) rfl (lv_at hl 2 rfl) ?_
    by_cases c_7 : what = (8 : Int32)
    · refine lv_tableIn (off := 32) (tgt := 60) hx hb (dk_get dk_cX12_of_0 0 rfl) (by rw [c_7]; decide) (by rw [c_7]; decide) (by rw [c_7]; rfl) (by decide) ?_
      refine lv_aload_n hx hb (fk_get fk_cX12_of_0 16 rfl) rfl (lv_at hl 0 rfl) ?_
      refine lv_iload_n hx hb (fk_get fk_cX12_of_0 17 rfl) rfl (lv_at hl 1 rfl) ?_
      have hFc := va_self hD hS hA
      refine va_calli (va_runV (As := [.int (c)]) (rest := []) ⟨hx, hb, hml, hown, hT⟩ (c_moreOfE l G ad (setF S 0 8 (0)) H.size (z) (τ) (C) (c) (c.toNatClampNeg) (hHOK) (hHX) (ej) (by omega)) (tV 1 hT m6_115 m6_117 mp_33 m1_17 m6_118 rfl rfl (by decide +kernel) ⟨Nat.le_of_ble_eq_true rfl, Nat.le_of_ble_eq_true rfl⟩) ⟨PcW_blind, va_recv hK hP (ci := 14) (q0 := 0) rfl (ix_at (by decide) (cR_0 G ad (setF S 0 8 (0)))), PcW_of hP hK hD _⟩ rfl rfl hl.1 rfl (lv_room (Nat.le_of_ble_eq_true rfl)) (fk_get fk_cX12_of_0 18 rfl) ⟨Nat.zero_le _, Nat.zero_le _⟩) hS (fun q _ h => hFc q h) hFc (fun r_8 S_10 t_ H locs ht_ hvm_ hw_9 hB_ hz_ hk_ hS => ?_)
      obtain ⟨hP, -, hD1_⟩ := hB_
      rw [ht_] at hP
      have hD : va_D A (wR G ad S_10) := hD1_.weaken (fun k q _ h => hFc q.1 h)
      try dsimp only at hw_9
      obtain ⟨hH1, hmo_⟩ := hw_9
      subst hmo_
      subst hQ
      have hpost : HFr (setF S 0 8 0) S_10 ∧ (((moF (fF S 0 2) τ C c (gR S c.toNatClampNeg))) : Int32) = ofP (fF S 0 2) τ C n (gR S) c what := by
        first | exact ⟨HFr.rf _, of_o (Or.inl hnC_)⟩ | exact ⟨HFr.rf _, of_o (Or.inr (by assumption))⟩ | exact ⟨hH1, of_8 hC_ hw_ (by assumption)⟩ | exact ⟨HFr.rf _, of_9 hC_ hw_ (by assumption)⟩ | exact ⟨HFr.rf _, of_10 hC_ hw_ (by assumption)⟩ | exact ⟨hH1, of_11y hC_ hw_ (by assumption) hY⟩ | exact ⟨hH1, of_11n hC_ hw_ (by assumption) hN⟩ | exact ⟨HFr.rf _, (gR_k (by omega)).symm.trans (of_d hC_ hw_ (by assumption) (by assumption) (by assumption) (by assumption))⟩
      exact W.iret (v := ((moF (fF S 0 2) τ C c (gR S c.toNatClampNeg)))) hx hb hr (fun t_ ht_ hW_ => ⟨⟨((moF (fF S 0 2) τ C c (gR S c.toNatClampNeg))), S_10, rfl, hpost, by rw [ht_]; exact hP, va_K.moved hW_.alike hK, hD⟩, hS.F ht_⟩) hS.2.2 (fk_get fk_cX12_of_0 19 rfl)
    by_cases c_11 : what = (9 : Int32)
    · refine lv_tableIn (off := 38) (tgt := 66) hx hb (dk_get dk_cX12_of_0 0 rfl) (by rw [c_11]; decide) (by rw [c_11]; decide) (by rw [c_11]; rfl) (by decide) ?_
      refine lv_aload_n hx hb (fk_get fk_cX12_of_0 20 rfl) rfl (lv_at hl 0 rfl) ?_
      refine lv_iload_n hx hb (fk_get fk_cX12_of_0 21 rfl) rfl (lv_at hl 1 rfl) ?_
      refine vp_callSi (W.runV (As := [.int (c)]) (rest := []) ⟨hx, hb, hml, hown, hT⟩ (c_asksOfE l G ad (setF S 0 8 (0)) H.size (c) (c.toNatClampNeg) (x) (ej) (by omega) (hx6) (by omega)) (tV 1 hT m6_143 m6_145 mp_40 m1_17 m6_146 rfl rfl (by decide +kernel) ⟨Nat.le_of_ble_eq_true rfl, Nat.le_of_ble_eq_true rfl⟩) ⟨PcW_blind, va_recv hK hP (ci := 14) (q0 := 0) rfl (ix_at (by decide) (cR_0 G ad (setF S 0 8 (0)))), PcW_of hP hK hD _⟩ rfl rfl hl.1 rfl (lv_room (Nat.le_of_ble_eq_true rfl)) (fk_get fk_cX12_of_0 22 rfl) ⟨Nat.zero_le _, Nat.zero_le _⟩) (fun r_12 hw_13 => ?_)
      try dsimp only at hw_13
      subst hw_13
      subst hQ
      have hpost : HFr (setF S 0 8 0) (setF S 0 8 (0)) ∧ (((askF (gR S c.toNatClampNeg))) : Int32) = ofP (fF S 0 2) τ C n (gR S) c what := by
        first | exact ⟨HFr.rf _, of_o (Or.inl hnC_)⟩ | exact ⟨HFr.rf _, of_o (Or.inr (by assumption))⟩ | exact ⟨hH1, of_8 hC_ hw_ (by assumption)⟩ | exact ⟨HFr.rf _, of_9 hC_ hw_ (by assumption)⟩ | exact ⟨HFr.rf _, of_10 hC_ hw_ (by assumption)⟩ | exact ⟨hH1, of_11y hC_ hw_ (by assumption) hY⟩ | exact ⟨hH1, of_11n hC_ hw_ (by assumption) hN⟩ | exact ⟨HFr.rf _, (gR_k (by omega)).symm.trans (of_d hC_ hw_ (by assumption) (by assumption) (by assumption) (by assumption))⟩
      exact W.iret (v := ((askF (gR S c.toNatClampNeg)))) hx hb hr (fun t_ ht_ hW_ => ⟨⟨((askF (gR S c.toNatClampNeg))), (setF S 0 8 (0)), rfl, hpost, by rw [ht_]; exact hP, va_K.moved hW_.alike hK, hD⟩, hS.F ht_⟩) hS.2.2 (fk_get fk_cX12_of_0 23 rfl)
    by_cases c_14 : what = (10 : Int32)
    · refine lv_tableIn (off := 44) (tgt := 72) hx hb (dk_get dk_cX12_of_0 0 rfl) (by rw [c_14]; decide) (by rw [c_14]; decide) (by rw [c_14]; rfl) (by decide) ?_
      refine lv_aload_n hx hb (fk_get fk_cX12_of_0 24 rfl) rfl (lv_at hl 0 rfl) ?_
      refine lv_iload_n hx hb (fk_get fk_cX12_of_0 25 rfl) rfl (lv_at hl 1 rfl) ?_
      refine vp_callSi (W.runV (As := [.int (c)]) (rest := []) ⟨hx, hb, hml, hown, hT⟩ (c_letsOfE l G ad (setF S 0 8 (0)) H.size (c) (c.toNatClampNeg) (ej) (by omega)) (tV 1 hT m6_150 m6_152 mp_41 m1_17 m6_153 rfl rfl (by decide +kernel) ⟨Nat.le_of_ble_eq_true rfl, Nat.le_of_ble_eq_true rfl⟩) ⟨PcW_blind, va_recv hK hP (ci := 14) (q0 := 0) rfl (ix_at (by decide) (cR_0 G ad (setF S 0 8 (0)))), PcW_of hP hK hD _⟩ rfl rfl hl.1 rfl (lv_room (Nat.le_of_ble_eq_true rfl)) (fk_get fk_cX12_of_0 26 rfl) ⟨Nat.zero_le _, Nat.zero_le _⟩) (fun r_15 hw_16 => ?_)
      try dsimp only at hw_16
      subst hw_16
      subst hQ
      have hpost : HFr (setF S 0 8 0) (setF S 0 8 (0)) ∧ (((letF (gR S c.toNatClampNeg))) : Int32) = ofP (fF S 0 2) τ C n (gR S) c what := by
        first | exact ⟨HFr.rf _, of_o (Or.inl hnC_)⟩ | exact ⟨HFr.rf _, of_o (Or.inr (by assumption))⟩ | exact ⟨hH1, of_8 hC_ hw_ (by assumption)⟩ | exact ⟨HFr.rf _, of_9 hC_ hw_ (by assumption)⟩ | exact ⟨HFr.rf _, of_10 hC_ hw_ (by assumption)⟩ | exact ⟨hH1, of_11y hC_ hw_ (by assumption) hY⟩ | exact ⟨hH1, of_11n hC_ hw_ (by assumption) hN⟩ | exact ⟨HFr.rf _, (gR_k (by omega)).symm.trans (of_d hC_ hw_ (by assumption) (by assumption) (by assumption) (by assumption))⟩
      exact W.iret (v := ((letF (gR S c.toNatClampNeg)))) hx hb hr (fun t_ ht_ hW_ => ⟨⟨((letF (gR S c.toNatClampNeg))), (setF S 0 8 (0)), rfl, hpost, by rw [ht_]; exact hP, va_K.moved hW_.alike hK, hD⟩, hS.F ht_⟩) hS.2.2 (fk_get fk_cX12_of_0 27 rfl)
    by_cases c_17 : what = (11 : Int32)
    · refine lv_tableIn (off := 50) (tgt := 78) hx hb (dk_get dk_cX12_of_0 0 rfl) (by rw [c_17]; decide) (by rw [c_17]; decide) (by rw [c_17]; rfl) (by decide) ?_
      refine lv_aload_n hx hb (fk_get fk_cX12_of_0 28 rfl) rfl (lv_at hl 0 rfl) ?_
      refine lv_iload_n hx hb (fk_get fk_cX12_of_0 29 rfl) rfl (lv_at hl 1 rfl) ?_
      have hFc := va_self hD hS hA
      refine va_calli (va_runV (As := [.int (c)]) (rest := []) ⟨hx, hb, hml, hown, hT⟩ (c_saysNoE l G ad (setF S 0 8 (0)) H.size (z) (τ) (C) (c) (c.toNatClampNeg) (hHOK) (hHX) (ej) (by omega)) (tV 1 hT m6_154 m6_156 mp_42 m1_17 m6_157 rfl rfl (by decide +kernel) ⟨Nat.le_of_ble_eq_true rfl, Nat.le_of_ble_eq_true rfl⟩) ⟨PcW_blind, va_recv hK hP (ci := 14) (q0 := 0) rfl (ix_at (by decide) (cR_0 G ad (setF S 0 8 (0)))), PcW_of hP hK hD _⟩ rfl rfl hl.1 rfl (lv_room (Nat.le_of_ble_eq_true rfl)) (fk_get fk_cX12_of_0 30 rfl) ⟨Nat.zero_le _, Nat.zero_le _⟩) hS (fun q _ h => hFc q h) hFc (fun r_18 S_20 t_ H locs ht_ hvm_ hw_19 hB_ hz_ hk_ hS => ?_)
      obtain ⟨hP, -, hD1_⟩ := hB_
      rw [ht_] at hP
      have hD : va_D A (wR G ad S_20) := hD1_.weaken (fun k q _ h => hFc q.1 h)
      try dsimp only at hw_19
      obtain ⟨hH1, hno⟩ := hw_19
      refine lv_if_eq (tgt := 90) hx hb (fk_get fk_cX12_of_0 31 rfl) (by decide) (fun c_21 => ?_) (fun c_21 => ?_)
      · have hN := no_f hno c_21
        refine lv_iconst (v := 0) hx hb (fk_get fk_cX12_of_1 2 rfl) (by decide) ?_
        subst hQ
        have hpost : HFr (setF S 0 8 0) S_20 ∧ (0 : Int32) = ofP (fF S 0 2) τ C n (gR S) c what := by
          first | exact ⟨HFr.rf _, of_o (Or.inl hnC_)⟩ | exact ⟨HFr.rf _, of_o (Or.inr (by assumption))⟩ | exact ⟨hH1, of_8 hC_ hw_ (by assumption)⟩ | exact ⟨HFr.rf _, of_9 hC_ hw_ (by assumption)⟩ | exact ⟨HFr.rf _, of_10 hC_ hw_ (by assumption)⟩ | exact ⟨hH1, of_11y hC_ hw_ (by assumption) hY⟩ | exact ⟨hH1, of_11n hC_ hw_ (by assumption) hN⟩ | exact ⟨HFr.rf _, (gR_k (by omega)).symm.trans (of_d hC_ hw_ (by assumption) (by assumption) (by assumption) (by assumption))⟩
        exact W.iret (v := 0) hx hb hr (fun t_ ht_ hW_ => ⟨⟨0, S_20, rfl, hpost, by rw [ht_]; exact hP, va_K.moved hW_.alike hK, hD⟩, hS.F ht_⟩) hS.2.2 (fk_get fk_cX12_of_1 3 rfl)
      have hY := no_t hno c_21
      refine lv_iconst (v := 1) hx hb (fk_get fk_cX12_of_1 0 rfl) (by decide) ?_
      refine lv_goto (tgt := 91) hx hb (fk_get fk_cX12_of_1 1 rfl) (by decide) ?_
      subst hQ
      have hpost : HFr (setF S 0 8 0) S_20 ∧ (1 : Int32) = ofP (fF S 0 2) τ C n (gR S) c what := by
        first | exact ⟨HFr.rf _, of_o (Or.inl hnC_)⟩ | exact ⟨HFr.rf _, of_o (Or.inr (by assumption))⟩ | exact ⟨hH1, of_8 hC_ hw_ (by assumption)⟩ | exact ⟨HFr.rf _, of_9 hC_ hw_ (by assumption)⟩ | exact ⟨HFr.rf _, of_10 hC_ hw_ (by assumption)⟩ | exact ⟨hH1, of_11y hC_ hw_ (by assumption) hY⟩ | exact ⟨hH1, of_11n hC_ hw_ (by assumption) hN⟩ | exact ⟨HFr.rf _, (gR_k (by omega)).symm.trans (of_d hC_ hw_ (by assumption) (by assumption) (by assumption) (by assumption))⟩
      exact W.iret (v := 1) hx hb hr (fun t_ ht_ hW_ => ⟨⟨1, S_20, rfl, hpost, by rw [ht_]; exact hP, va_K.moved hW_.alike hK, hD⟩, hS.F ht_⟩) hS.2.2 (fk_get fk_cX12_of_1 3 rfl)
    have o_22 : (what).toInt < 8 ∨ 11 < (what).toInt := by
      have qc_7 : ¬ (what).toInt = 8 := lv_neT c_7 (by decide)
      have qc_11 : ¬ (what).toInt = 9 := lv_neT c_11 (by decide)
      have qc_14 : ¬ (what).toInt = 10 := lv_neT c_14 (by decide)
      have qc_17 : ¬ (what).toInt = 11 := lv_neT c_17 (by decide)
      omega
    refine lv_tableOut (tgt := 92) hx hb (dk_get dk_cX12_of_0 0 rfl) o_22 (by decide) ?_
    refine lv_aload_n hx hb (fk_get fk_cX12_of_1 4 rfl) rfl (lv_at hl 0 rfl) ?_
    refine lv_iload_n hx hb (fk_get fk_cX12_of_1 5 rfl) rfl (lv_at hl 1 rfl) ?_
    refine lv_iload_n hx hb (fk_get fk_cX12_of_1 6 rfl) rfl (lv_at hl 2 rfl) ?_
    refine vp_callSi (W.runV (As := [.int (c), .int (what)]) (rest := []) ⟨hx, hb, hml, hown, hT⟩ (c_of0 l G ad (setF S 0 8 (0)) H.size (c) (what) (12 * c.toNatClampNeg + what.toNatClampNeg) ((n_add (n_mul (show (12 : Int32) = nI 12 from rfl) ej) ew)) (by omega)) (tV 2 hT m6_119 m6_121 mp_34 m1_17 m6_122 rfl rfl (by decide +kernel) ⟨Nat.le_of_ble_eq_true rfl, Nat.le_of_ble_eq_true rfl⟩) ⟨PcW_blind, va_recv hK hP (ci := 14) (q0 := 0) rfl (ix_at (by decide) (cR_0 G ad (setF S 0 8 (0)))), PcW_of hP hK hD _⟩ rfl rfl hl.1 rfl (lv_room (Nat.le_of_ble_eq_true rfl)) (fk_get fk_cX12_of_1 7 rfl) ⟨Nat.zero_le _, Nat.zero_le _⟩) (fun r_23 hw_24 => ?_)
    try dsimp only at hw_24
    have hw8_ := of_lt hw11 ew (by assumption) (by assumption) (by assumption) (by assumption)
    subst hw_24
    subst hQ
    have hpost : HFr (setF S 0 8 0) (setF S 0 8 (0)) ∧ (((fA S 1 (12 * c.toNatClampNeg + what.toNatClampNeg))) : Int32) = ofP (fF S 0 2) τ C n (gR S) c what := by
      first | exact ⟨HFr.rf _, of_o (Or.inl hnC_)⟩ | exact ⟨HFr.rf _, of_o (Or.inr (by assumption))⟩ | exact ⟨hH1, of_8 hC_ hw_ (by assumption)⟩ | exact ⟨HFr.rf _, of_9 hC_ hw_ (by assumption)⟩ | exact ⟨HFr.rf _, of_10 hC_ hw_ (by assumption)⟩ | exact ⟨hH1, of_11y hC_ hw_ (by assumption) hY⟩ | exact ⟨hH1, of_11n hC_ hw_ (by assumption) hN⟩ | exact ⟨HFr.rf _, (gR_k (by omega)).symm.trans (of_d hC_ hw_ (by assumption) (by assumption) (by assumption) (by assumption))⟩
    exact W.iret (v := ((fA S 1 (12 * c.toNatClampNeg + what.toNatClampNeg)))) hx hb hr (fun t_ ht_ hW_ => ⟨⟨((fA S 1 (12 * c.toNatClampNeg + what.toNatClampNeg))), (setF S 0 8 (0)), rfl, hpost, by rw [ht_]; exact hP, va_K.moved hW_.alike hK, hD⟩, hS.F ht_⟩) hS.2.2 (fk_get fk_cX12_of_1 8 rfl)
  have p_c_6 := if1_f hw_5 c_6
  refine lv_iconst (v := (-1)) hx hb (fk_get fk_cX12_of_0 13 rfl) (by decide) ?_
  subst hQ
  have hpost : HFr (setF S 0 8 0) (setF S 0 8 (0)) ∧ ((-1) : Int32) = ofP (fF S 0 2) τ C n (gR S) c what := by
    first | exact ⟨HFr.rf _, of_o (Or.inl hnC_)⟩ | exact ⟨HFr.rf _, of_o (Or.inr (by assumption))⟩ | exact ⟨hH1, of_8 hC_ hw_ (by assumption)⟩ | exact ⟨HFr.rf _, of_9 hC_ hw_ (by assumption)⟩ | exact ⟨HFr.rf _, of_10 hC_ hw_ (by assumption)⟩ | exact ⟨hH1, of_11y hC_ hw_ (by assumption) hY⟩ | exact ⟨hH1, of_11n hC_ hw_ (by assumption) hN⟩ | exact ⟨HFr.rf _, (gR_k (by omega)).symm.trans (of_d hC_ hw_ (by assumption) (by assumption) (by assumption) (by assumption))⟩
  exact W.iret (v := (-1)) hx hb hr (fun t_ ht_ hW_ => ⟨⟨(-1), (setF S 0 8 (0)), rfl, hpost, by rw [ht_]; exact hP, va_K.moved hW_.alike hK, hD⟩, hS.F ht_⟩) hS.2.2 (fk_get fk_cX12_of_0 14 rfl)
set_option maxHeartbeats 800000 in
set_option maxRecDepth 100000 in
theorem c_toldX (l : Launch) (G : GG) (ad : Nat → Nat) (S : FS) (sz : Nat) (z : Nat) (τ : Nat → Int32) (C : ClU) (n : Nat) (what : Int32) (hn : fF S 0 1 = nI n) (hn6 : n ≤ 6) (hHOK : HOK S) (hSV : SV 9999 S) (h15 : fF S 0 15 = 0) (hHX : HOX S z τ C) (hg01 : ∀ d, d < n → gR S d 7 = 0 ∨ gR S d 7 = 1) : Met l yX12_told (Cond.code yX12_told cX12_told 2 (some .int) :: TBL) ({ frames := 4, cells := 0, slots := 0, locals := 116 } : Room) (PcW G (wR G ad S) sz [.ref (ad 0), .int (what)]) (va_Qi (fun (r : Int32) (S' : FS) => S' = (setF S 0 8 0) ∧ r = tldP (fF S 0 2) (lstW 3 1 C) (lstW 2 5 C) n (gR S) what) (fun S' t => BW G (va_A (wR G ad S) sz) (wR G ad S') t) (va_A (wR G ad S) sz)) 0 0 (va_A (wR G ad S) sz) := by
  refine Met.ofW (cc := cX12_told) (maxL := 2) (ret := (some .int)) (by decide) rfl ?_
  intro p e s m args below meth c₀ s₁ B hml hv
  obtain ⟨rfl, hsz, hP, hK, hD0⟩ := hv
  have hx := B.exec
  have hb := B.bytes
  have hr := B.returns
  have hT : ∀ w ∈ TBL, w.before ([.ref (ad 0), .int (what)] : List Value).toArray s = true := fun w h => atoms_spec (ws := Cond.code yX12_told cX12_told 2 (some .int) :: TBL) B.pre w (List.mem_cons_of_mem _ h)
  have hown : s.vm.findClass "LittleMoreModel" = some m.cls := findClass_of_methodNamed B.named
  have hlocks := B.notSynchronized
  subst hsz
  have hD := hD0.self (sz := s.heap.size)
  generalize hAe : va_A (wR G ad S) s.heap.size = A at hD ⊢
  have hA : ∀ q : Nat, s.heap.size ≤ q → A q := fun q h => by rw [← hAe]; exact Or.inr h
  have hS : va_S A s.heap s.heap [] := va_S.rf
  have hP : va_P G.1 vwCl (wR G ad S) s.heap := hP
  have hl := lv_entry ([.ref (ad 0), .int (what)]) (n := 2) (Nat.le_of_ble_eq_true rfl)
  rw [lg_entry_eq]
  generalize (lg_sl ([.ref (ad 0), .int (what)]) ++ List.replicate (2 - (lg_sl ([.ref (ad 0), .int (what)])).length) Slot.unset).toArray = ls at hl ⊢
  have hl : lv_has ls 2 [(0, .ref (ad 0)), (1, .int (what))] := hl
  refine W_abs (fun Q hQ => ?_)
  generalize ([.ref (ad 0), .int (what)] : List Value).toArray = args at hT hQ ⊢
  refine lv_aload_n hx hb (fk_get fk_cX12_told_0 0 rfl) rfl (lv_at hl 0 rfl) ?_
  refine lv_iconst (v := 0) hx hb (fk_get fk_cX12_told_0 1 rfl) (by decide) ?_
  refine va_put (D := G.1) (ci := 14) (v := .int (0)) (ty := .int) (C := RX12) (T := TX12) (N := 49) hx hb hT inX12 tyX12 tyX12_ok nmX12 hown hK hP hD hS 0 (ix_at (by decide) (cR_0 G ad S)) rfl 8 (by decide) (hT _ m5_109) (fun _ h9 => h9) rfl (by decide +kernel) rfl rfl (Nat.le_of_ble_eq_true rfl) (fk_get fk_cX12_told_0 2 rfl) (fun H locs hP hD hS => ?_)
  rw [pR_thrown G ad S (0)] at hP hD
  refine lv_iload_n hx hb (fk_get fk_cX12_told_0 3 rfl) rfl (lv_at hl 1 rfl) ?_
  by_cases c_1 : what = (0 : Int32)
  · refine lv_tableIn (off := 30) (tgt := 36) hx hb (dk_get dk_cX12_told_0 0 rfl) (by rw [c_1]; decide) (by rw [c_1]; decide) (by rw [c_1]; rfl) (by decide) ?_
    refine lv_aload_n hx hb (fk_get fk_cX12_told_0 4 rfl) rfl (lv_at hl 0 rfl) ?_
    refine va_get (D := G.1) (ci := 14) (v := .int ((fF S 0 2))) (C := RX12) (T := TX12) (N := 49) hx hb hT inX12 hown hK hP 0 (ix_at (by decide) (cR_0 G ad (setF S 0 8 (0)))) rfl 2 (by decide) (hT _ m5_103) (fun _ h9 => h9) rfl (fk_get fk_cX12_told_0 5 rfl) ?_
    subst hQ
    have hpost : (setF S 0 8 (0)) = (setF S 0 8 0) ∧ ((fF S 0 2) : Int32) = tldP (fF S 0 2) (lstW 3 1 C) (lstW 2 5 C) n (gR S) what := by
      first | exact ⟨rfl, tld_0 (by assumption)⟩ | exact ⟨rfl, tld_1 (by assumption)⟩ | exact ⟨rfl, tld_2 (by assumption)⟩ | exact ⟨rfl, tld_3 (by assumption)⟩ | exact ⟨rfl, tld_d (by assumption) (by assumption) (by assumption) (by assumption)⟩
    exact W.iret (v := (fF S 0 2)) hx hb hr (fun t_ ht_ hW_ => ⟨⟨(fF S 0 2), (setF S 0 8 (0)), rfl, hpost, by rw [ht_]; exact hP, va_K.moved hW_.alike hK, hD⟩, hS.F ht_⟩) hS.2.2 (fk_get fk_cX12_told_0 6 rfl)
  by_cases c_2 : what = (1 : Int32)
  · refine lv_tableIn (off := 35) (tgt := 41) hx hb (dk_get dk_cX12_told_0 0 rfl) (by rw [c_2]; decide) (by rw [c_2]; decide) (by rw [c_2]; rfl) (by decide) ?_
    refine lv_aload_n hx hb (fk_get fk_cX12_told_0 7 rfl) rfl (lv_at hl 0 rfl) ?_
    refine lv_iconst (v := 2) hx hb (fk_get fk_cX12_told_0 8 rfl) (by decide) ?_
    refine lv_iconst (v := 5) hx hb (fk_get fk_cX12_told_0 9 rfl) (by decide) ?_
    refine vp_callSi (W.runV (As := [.int (2), .int (5)]) (rest := []) ⟨hx, hb, hml, hown, hT⟩ (c_lastOfE l G ad (setF S 0 8 (0)) H.size (2) (z) (τ) (C) (5) (hHOK) (hHX) (by decide)) (tV 2 hT m6_180 m6_182 mp_43 m1_17 m6_183 rfl rfl (by decide +kernel) ⟨Nat.le_of_ble_eq_true rfl, Nat.le_of_ble_eq_true rfl⟩) ⟨PcW_blind, va_recv hK hP (ci := 14) (q0 := 0) rfl (ix_at (by decide) (cR_0 G ad (setF S 0 8 (0)))), PcW_of hP hK hD _⟩ rfl rfl hl.1 rfl (lv_room (Nat.le_of_ble_eq_true rfl)) (fk_get fk_cX12_told_0 10 rfl) ⟨Nat.zero_le _, Nat.zero_le _⟩) (fun r_3 hw_4 => ?_)
    try dsimp only at hw_4
    subst hw_4
    subst hQ
    have hpost : (setF S 0 8 (0)) = (setF S 0 8 0) ∧ (((lstW 2 5 C)) : Int32) = tldP (fF S 0 2) (lstW 3 1 C) (lstW 2 5 C) n (gR S) what := by
      first | exact ⟨rfl, tld_0 (by assumption)⟩ | exact ⟨rfl, tld_1 (by assumption)⟩ | exact ⟨rfl, tld_2 (by assumption)⟩ | exact ⟨rfl, tld_3 (by assumption)⟩ | exact ⟨rfl, tld_d (by assumption) (by assumption) (by assumption) (by assumption)⟩
    exact W.iret (v := ((lstW 2 5 C))) hx hb hr (fun t_ ht_ hW_ => ⟨⟨((lstW 2 5 C)), (setF S 0 8 (0)), rfl, hpost, by rw [ht_]; exact hP, va_K.moved hW_.alike hK, hD⟩, hS.F ht_⟩) hS.2.2 (fk_get fk_cX12_told_0 11 rfl)
  by_cases c_5 : what = (2 : Int32)
  · refine lv_tableIn (off := 42) (tgt := 48) hx hb (dk_get dk_cX12_told_0 0 rfl) (by rw [c_5]; decide) (by rw [c_5]; decide) (by rw [c_5]; rfl) (by decide) ?_
    refine lv_aload_n hx hb (fk_get fk_cX12_told_0 12 rfl) rfl (lv_at hl 0 rfl) ?_
    refine lv_iconst (v := 3) hx hb (fk_get fk_cX12_told_0 13 rfl) (by decide) ?_
    refine lv_iconst (v := 1) hx hb (fk_get fk_cX12_told_0 14 rfl) (by decide) ?_
    refine vp_callSi (W.runV (As := [.int (3), .int (1)]) (rest := []) ⟨hx, hb, hml, hown, hT⟩ (c_lastOfE l G ad (setF S 0 8 (0)) H.size (3) (z) (τ) (C) (1) (hHOK) (hHX) (by decide)) (tV 2 hT m6_180 m6_182 mp_43 m1_17 m6_183 rfl rfl (by decide +kernel) ⟨Nat.le_of_ble_eq_true rfl, Nat.le_of_ble_eq_true rfl⟩) ⟨PcW_blind, va_recv hK hP (ci := 14) (q0 := 0) rfl (ix_at (by decide) (cR_0 G ad (setF S 0 8 (0)))), PcW_of hP hK hD _⟩ rfl rfl hl.1 rfl (lv_room (Nat.le_of_ble_eq_true rfl)) (fk_get fk_cX12_told_0 15 rfl) ⟨Nat.zero_le _, Nat.zero_le _⟩) (fun r_6 hw_7 => ?_)
    try dsimp only at hw_7
    subst hw_7
    subst hQ
    have hpost : (setF S 0 8 (0)) = (setF S 0 8 0) ∧ (((lstW 3 1 C)) : Int32) = tldP (fF S 0 2) (lstW 3 1 C) (lstW 2 5 C) n (gR S) what := by
      first | exact ⟨rfl, tld_0 (by assumption)⟩ | exact ⟨rfl, tld_1 (by assumption)⟩ | exact ⟨rfl, tld_2 (by assumption)⟩ | exact ⟨rfl, tld_3 (by assumption)⟩ | exact ⟨rfl, tld_d (by assumption) (by assumption) (by assumption) (by assumption)⟩
    exact W.iret (v := ((lstW 3 1 C))) hx hb hr (fun t_ ht_ hW_ => ⟨⟨((lstW 3 1 C)), (setF S 0 8 (0)), rfl, hpost, by rw [ht_]; exact hP, va_K.moved hW_.alike hK, hD⟩, hS.F ht_⟩) hS.2.2 (fk_get fk_cX12_told_0 16 rfl)
  by_cases c_8 : what = (3 : Int32)
  · refine lv_tableIn (off := 49) (tgt := 55) hx hb (dk_get dk_cX12_told_0 0 rfl) (by rw [c_8]; decide) (by rw [c_8]; decide) (by rw [c_8]; rfl) (by decide) ?_
    refine lv_aload_n hx hb (fk_get fk_cX12_told_0 17 rfl) rfl (lv_at hl 0 rfl) ?_
    refine vp_callSi (W.runV (As := []) (rest := []) ⟨hx, hb, hml, hown, hT⟩ (c_goneBitsX l G ad (setF S 0 8 (0)) H.size (n) (hn) (hn6) (hg01)) (tV 0 hT m6_184 m6_186 mp_44 m1_17 m6_187 rfl rfl (by decide +kernel) ⟨Nat.le_of_ble_eq_true rfl, Nat.le_of_ble_eq_true rfl⟩) ⟨PcW_blind, va_recv hK hP (ci := 14) (q0 := 0) rfl (ix_at (by decide) (cR_0 G ad (setF S 0 8 (0)))), PcW_of hP hK hD _⟩ rfl rfl hl.1 rfl (lv_room (Nat.le_of_ble_eq_true rfl)) (fk_get fk_cX12_told_0 18 rfl) ⟨Nat.zero_le _, Nat.zero_le _⟩) (fun r_9 hw_10 => ?_)
    try dsimp only at hw_10
    subst hw_10
    subst hQ
    have hpost : (setF S 0 8 (0)) = (setF S 0 8 0) ∧ (((nI (goN (gR S) n))) : Int32) = tldP (fF S 0 2) (lstW 3 1 C) (lstW 2 5 C) n (gR S) what := by
      first | exact ⟨rfl, tld_0 (by assumption)⟩ | exact ⟨rfl, tld_1 (by assumption)⟩ | exact ⟨rfl, tld_2 (by assumption)⟩ | exact ⟨rfl, tld_3 (by assumption)⟩ | exact ⟨rfl, tld_d (by assumption) (by assumption) (by assumption) (by assumption)⟩
    exact W.iret (v := ((nI (goN (gR S) n)))) hx hb hr (fun t_ ht_ hW_ => ⟨⟨((nI (goN (gR S) n))), (setF S 0 8 (0)), rfl, hpost, by rw [ht_]; exact hP, va_K.moved hW_.alike hK, hD⟩, hS.F ht_⟩) hS.2.2 (fk_get fk_cX12_told_0 19 rfl)
  have o_11 : (what).toInt < 0 ∨ 3 < (what).toInt := by
    have qc_1 : ¬ (what).toInt = 0 := lv_neT c_1 (by decide)
    have qc_2 : ¬ (what).toInt = 1 := lv_neT c_2 (by decide)
    have qc_5 : ¬ (what).toInt = 2 := lv_neT c_5 (by decide)
    have qc_8 : ¬ (what).toInt = 3 := lv_neT c_8 (by decide)
    omega
  refine lv_tableOut (tgt := 60) hx hb (dk_get dk_cX12_told_0 0 rfl) o_11 (by decide) ?_
  refine lv_iconst (v := (-1)) hx hb (fk_get fk_cX12_told_0 20 rfl) (by decide) ?_
  subst hQ
  have hpost : (setF S 0 8 (0)) = (setF S 0 8 0) ∧ ((-1) : Int32) = tldP (fF S 0 2) (lstW 3 1 C) (lstW 2 5 C) n (gR S) what := by
    first | exact ⟨rfl, tld_0 (by assumption)⟩ | exact ⟨rfl, tld_1 (by assumption)⟩ | exact ⟨rfl, tld_2 (by assumption)⟩ | exact ⟨rfl, tld_3 (by assumption)⟩ | exact ⟨rfl, tld_d (by assumption) (by assumption) (by assumption) (by assumption)⟩
  exact W.iret (v := (-1)) hx hb hr (fun t_ ht_ hW_ => ⟨⟨(-1), (setF S 0 8 (0)), rfl, hpost, by rw [ht_]; exact hP, va_K.moved hW_.alike hK, hD⟩, hS.F ht_⟩) hS.2.2 (fk_get fk_cX12_told_0 21 rfl)
set_option maxHeartbeats 800000 in
set_option maxRecDepth 100000 in
theorem c_visitX (l : Launch) (G : GG) (ad : Nat → Nat) (S : FS) (sz : Nat) (z : Nat) (τ : Nat → Int32) (C : ClU) (n : Nat) (c : Int32) (hn : fF S 0 1 = nI n) (hn6 : n ≤ 6) (hHOK : HOK S) (hSV : SV 9999 S) (h15 : fF S 0 15 = 0) (hHX : HOX S z τ C) : Met l yX12_visit (Cond.code yX12_visit cX12_visit 2 (some .int) :: TBL) ({ frames := 8, cells := 0, slots := 0, locals := 230 } : Room) (PcW G (wR G ad S) sz [.ref (ad 0), .int (c)]) (va_Qi (fun (r : Int32) (S' : FS) => r = vitP (fF S 0 2) (lstW 2 5 C) τ C n (gR S) c ∧ (MO (setF S 0 8 0) S' ∧ SV 9999 S') ∧ ∀ d, gR S' d = vitG (fF S 0 2) (lstW 3 1 C) τ C n (gR S) c d) (fun S' t => BW G (va_A (wR G ad S) sz) (wR G ad S') t) (va_A (wR G ad S) sz)) 0 0 (va_A (wR G ad S) sz) := by
  refine Met.ofW (cc := cX12_visit) (maxL := 2) (ret := (some .int)) (by decide) rfl ?_
  intro p e s m args below meth c₀ s₁ B hml hv
  obtain ⟨rfl, hsz, hP, hK, hD0⟩ := hv
  have hx := B.exec
  have hb := B.bytes
  have hr := B.returns
  have hT : ∀ w ∈ TBL, w.before ([.ref (ad 0), .int (c)] : List Value).toArray s = true := fun w h => atoms_spec (ws := Cond.code yX12_visit cX12_visit 2 (some .int) :: TBL) B.pre w (List.mem_cons_of_mem _ h)
  have hown : s.vm.findClass "LittleMoreModel" = some m.cls := findClass_of_methodNamed B.named
  have hlocks := B.notSynchronized
  subst hsz
  have hD := hD0.self (sz := s.heap.size)
  generalize hAe : va_A (wR G ad S) s.heap.size = A at hD ⊢
  have hA : ∀ q : Nat, s.heap.size ≤ q → A q := fun q h => by rw [← hAe]; exact Or.inr h
  have hS : va_S A s.heap s.heap [] := va_S.rf
  have hP : va_P G.1 vwCl (wR G ad S) s.heap := hP
  have hl := lv_entry ([.ref (ad 0), .int (c)]) (n := 2) (Nat.le_of_ble_eq_true rfl)
  rw [lg_entry_eq]
  generalize (lg_sl ([.ref (ad 0), .int (c)]) ++ List.replicate (2 - (lg_sl ([.ref (ad 0), .int (c)])).length) Slot.unset).toArray = ls at hl ⊢
  have hl : lv_has ls 2 [(0, .ref (ad 0)), (1, .int (c))] := hl
  refine W_abs (fun Q hQ => ?_)
  generalize ([.ref (ad 0), .int (c)] : List Value).toArray = args at hT hQ ⊢
  refine lv_aload_n hx hb (fk_get fk_cX12_visit_0 0 rfl) rfl (lv_at hl 0 rfl) ?_
  refine lv_iconst (v := 0) hx hb (fk_get fk_cX12_visit_0 1 rfl) (by decide) ?_
  refine va_put (D := G.1) (ci := 14) (v := .int (0)) (ty := .int) (C := RX12) (T := TX12) (N := 49) hx hb hT inX12 tyX12 tyX12_ok nmX12 hown hK hP hD hS 0 (ix_at (by decide) (cR_0 G ad S)) rfl 8 (by decide) (hT _ m5_109) (fun _ h9 => h9) rfl (by decide +kernel) rfl rfl (Nat.le_of_ble_eq_true rfl) (fk_get fk_cX12_visit_0 2 rfl) (fun H locs hP hD hS => ?_)
  rw [pR_thrown G ad S (0)] at hP hD
  refine lv_aload_n hx hb (fk_get fk_cX12_visit_0 3 rfl) rfl (lv_at hl 0 rfl) ?_
  refine lv_iload_n hx hb (fk_get fk_cX12_visit_0 4 rfl) rfl (lv_at hl 1 rfl) ?_
  refine vp_callSi (W.runV (As := [.int (c)]) (rest := []) ⟨hx, hb, hml, hown, hT⟩ (c_isCustomer l G ad (setF S 0 8 (0)) H.size (c) ) (tV 1 hT m6_110 m6_112 mp_32 m1_17 m6_113 rfl rfl (by decide +kernel) ⟨Nat.le_of_ble_eq_true rfl, Nat.le_of_ble_eq_true rfl⟩) ⟨PcW_blind, va_recv hK hP (ci := 14) (q0 := 0) rfl (ix_at (by decide) (cR_0 G ad (setF S 0 8 (0)))), PcW_of hP hK hD _⟩ rfl rfl hl.1 rfl (lv_room (Nat.le_of_ble_eq_true rfl)) (fk_get fk_cX12_visit_0 5 rfl) ⟨Nat.zero_le _, Nat.zero_le _⟩) (fun r_1 hw_2 => ?_)
  try dsimp only at hw_2
  have hw_2 : r_1 = if 0 ≤ c ∧ c ≤ fF S 0 1 - 1 then 1 else 0 := hw_2
  refine lv_if_ne (tgt := 15) hx hb (fk_get fk_cX12_visit_0 6 rfl) (by decide) (fun c_3 => ?_) (fun c_3 => ?_)
  · have p_c_3 := if1_t hw_2 c_3
    have hC_ : isC n c := by
      show 0 ≤ c ∧ c ≤ nI n - 1
      rw [← hn]
      exact p_c_3
    obtain ⟨hj, ej⟩ := isC_n p_c_3 hn hn6
    obtain ⟨x, hxb, hx6⟩ := hSV c.toNatClampNeg (by omega)
    refine lv_aload_n hx hb (fk_get fk_cX12_visit_0 9 rfl) rfl (lv_at hl 0 rfl) ?_
    refine lv_iload_n hx hb (fk_get fk_cX12_visit_0 10 rfl) rfl (lv_at hl 1 rfl) ?_
    refine vp_callSi (W.runV (As := [.int (c)]) (rest := []) ⟨hx, hb, hml, hown, hT⟩ (c_isGone l G ad (setF S 0 8 (0)) H.size (c) (c.toNatClampNeg) (ej) (by omega)) (tV 1 hT m6_192 m6_194 mp_45 m1_17 m6_195 rfl rfl (by decide +kernel) ⟨Nat.le_of_ble_eq_true rfl, Nat.le_of_ble_eq_true rfl⟩) ⟨PcW_blind, va_recv hK hP (ci := 14) (q0 := 0) rfl (ix_at (by decide) (cR_0 G ad (setF S 0 8 (0)))), PcW_of hP hK hD _⟩ rfl rfl hl.1 rfl (lv_room (Nat.le_of_ble_eq_true rfl)) (fk_get fk_cX12_visit_0 11 rfl) ⟨Nat.zero_le _, Nat.zero_le _⟩) (fun r_4 hw_5 => ?_)
    try dsimp only at hw_5
    refine lv_if_eq (tgt := 26) hx hb (fk_get fk_cX12_visit_0 12 rfl) (by decide) (fun c_6 => ?_) (fun c_6 => ?_)
    · have p_c_6 := if1_f hw_5 c_6
      have hgo_ : ¬ gR S c.toNatClampNeg 7 = 1 := isg_0 p_c_6
      refine lv_aload_n hx hb (fk_get fk_cX12_visit_0 15 rfl) rfl (lv_at hl 0 rfl) ?_
      refine lv_iload_n hx hb (fk_get fk_cX12_visit_0 16 rfl) rfl (lv_at hl 1 rfl) ?_
      have hFc := va_self hD hS hA
      refine va_callv (va_runV (As := [.int (c)]) (rest := []) ⟨hx, hb, hml, hown, hT⟩ (c_visitOneE l G ad (setF S 0 8 (0)) H.size (z) (τ) (C) (c) (c.toNatClampNeg) (x) (hHOK) (hHX) (ej) (by omega) (hx6) (by omega)) (tV 1 hT m6_196 m6_198 mp_46 m1_17 m6_199 rfl rfl (by decide +kernel) ⟨Nat.le_of_ble_eq_true rfl, Nat.le_of_ble_eq_true rfl⟩) ⟨PcW_blind, va_recv hK hP (ci := 14) (q0 := 0) rfl (ix_at (by decide) (cR_0 G ad (setF S 0 8 (0)))), PcW_of hP hK hD _⟩ rfl rfl hl.1 rfl (lv_room (Nat.le_of_ble_eq_true rfl)) (fk_get fk_cX12_visit_0 17 rfl) ⟨Nat.zero_le _, Nat.zero_le _⟩) hS (fun q _ h => hFc q h) hFc (fun S_9 t_ H locs ht_ hvm_ hw_8 hB_ hz_ hk_ hS => ?_)
      obtain ⟨hP, -, hD1_⟩ := hB_
      rw [ht_] at hP
      have hD : va_D A (wR G ad S_9) := hD1_.weaken (fun k q _ h => hFc q.1 h)
      try dsimp only at hw_8
      obtain ⟨⟨y, hV, hy, hy2⟩, hvs_, hb33_, -⟩ := hw_8
      rw [show fF (setF S 0 8 0) 0 15 = 0 from h15] at hvs_
      have hgv_ := gr_vis hvs_
      refine lv_aload_n hx hb (fk_get fk_cX12_visit_0 18 rfl) rfl (lv_at hl 0 rfl) ?_
      refine va_get (D := G.1) (ci := 14) (v := .int ((fF S_9 0 33))) (C := RX12) (T := TX12) (N := 49) hx hb hT inX12 hown hK hP 0 (ix_at (by decide) (cR_0 G ad S_9)) rfl 33 (by decide) (hT _ m5_134) (fun _ h9 => h9) rfl (fk_get fk_cX12_visit_0 19 rfl) ?_
      refine lv_aload_n hx hb (fk_get fk_cX12_visit_0 20 rfl) rfl (lv_at hl 0 rfl) ?_
      refine lv_iconst (v := 2) hx hb (fk_get fk_cX12_visit_0 21 rfl) (by decide) ?_
      refine lv_iconst (v := 5) hx hb (fk_get fk_cX12_visit_0 22 rfl) (by decide) ?_
      refine vp_callSi (W.runV (As := [.int (2), .int (5)]) (rest := [.int ((fF S_9 0 33))]) ⟨hx, hb, hml, hown, hT⟩ (c_lastOfE l G ad S_9 H.size (2) (z) (τ) (C) (5) ((show HOK (setF S 0 8 0) from hHOK).M hV.M) ((show HOX (setF S 0 8 0) z τ C from hHX).M hV.M) (by decide)) (tV 2 hT m6_180 m6_182 mp_43 m1_17 m6_183 rfl rfl (by decide +kernel) ⟨Nat.le_of_ble_eq_true rfl, Nat.le_of_ble_eq_true rfl⟩) ⟨PcW_blind, va_recv hK hP (ci := 14) (q0 := 0) rfl (ix_at (by decide) (cR_0 G ad S_9)), PcW_of hP hK hD _⟩ rfl rfl hl.1 rfl (lv_room (Nat.le_of_ble_eq_true rfl)) (fk_get fk_cX12_visit_0 23 rfl) ⟨Nat.zero_le _, Nat.zero_le _⟩) (fun r_10 hw_11 => ?_)
      try dsimp only at hw_11
      subst hw_11
      refine lv_imul hx hb (fk_get fk_cX12_visit_0 24 rfl) ?_
      subst hQ
      have hpost : (((fF S_9 0 33) * ((lstW 2 5 C))) : Int32) = vitP (fF S 0 2) (lstW 2 5 C) τ C n (gR S) c ∧ (MO (setF S 0 8 0) S_9 ∧ SV 9999 S_9) ∧ ∀ d, gR S_9 d = vitG (fF S 0 2) (lstW 3 1 C) τ C n (gR S) c d := by
        first | exact ⟨vit_1 hnC_, ⟨MO.rf _, hSV⟩, fun d => vig_1 (Or.inl hnC_) d⟩ | exact ⟨vit_2 hC_ hgo_, ⟨MO.rf _, hSV⟩, fun d => vig_1 (Or.inr hgo_) d⟩ | exact ⟨vit_3 hC_ hgo_ hb33_, ⟨hV.M, SV.V2 (S := (setF S 0 8 0)) hSV hV (hy2 h15 hxb)⟩, fun d => vig_3 hC_ hgo_ hgv_ (fun d hd => gr_ne (S := (setF S 0 8 0)) hV hd) d⟩
      exact W.iret (v := ((fF S_9 0 33) * ((lstW 2 5 C)))) hx hb hr (fun t_ ht_ hW_ => ⟨⟨((fF S_9 0 33) * ((lstW 2 5 C))), S_9, rfl, hpost, by rw [ht_]; exact hP, va_K.moved hW_.alike hK, hD⟩, hS.F ht_⟩) hS.2.2 (fk_get fk_cX12_visit_0 25 rfl)
    have p_c_6 := if1_t hw_5 c_6
    have hgo_ : gR S c.toNatClampNeg 7 = 1 := isg_1 p_c_6
    refine lv_bipush (v := (-3)) hx hb (fk_get fk_cX12_visit_0 13 rfl) (by decide) ?_
    subst hQ
    have hpost : ((-3) : Int32) = vitP (fF S 0 2) (lstW 2 5 C) τ C n (gR S) c ∧ (MO (setF S 0 8 0) (setF S 0 8 (0)) ∧ SV 9999 (setF S 0 8 (0))) ∧ ∀ d, gR (setF S 0 8 (0)) d = vitG (fF S 0 2) (lstW 3 1 C) τ C n (gR S) c d := by
      first | exact ⟨vit_1 hnC_, ⟨MO.rf _, hSV⟩, fun d => vig_1 (Or.inl hnC_) d⟩ | exact ⟨vit_2 hC_ hgo_, ⟨MO.rf _, hSV⟩, fun d => vig_1 (Or.inr hgo_) d⟩ | exact ⟨vit_3 hC_ hgo_ hb33_, ⟨hV.M, SV.V2 (S := (setF S 0 8 0)) hSV hV (hy2 h15 hxb)⟩, fun d => vig_3 hC_ hgo_ hgv_ (fun d hd => gr_ne (S := (setF S 0 8 0)) hV hd) d⟩
    exact W.iret (v := (-3)) hx hb hr (fun t_ ht_ hW_ => ⟨⟨(-3), (setF S 0 8 (0)), rfl, hpost, by rw [ht_]; exact hP, va_K.moved hW_.alike hK, hD⟩, hS.F ht_⟩) hS.2.2 (fk_get fk_cX12_visit_0 14 rfl)
  have p_c_3 := if1_f hw_2 c_3
  have hnC_ : ¬ isC n c := by
    show ¬ (0 ≤ c ∧ c ≤ nI n - 1)
    rw [← hn]
    exact p_c_3
  refine lv_iconst (v := (-1)) hx hb (fk_get fk_cX12_visit_0 7 rfl) (by decide) ?_
  subst hQ
  have hpost : ((-1) : Int32) = vitP (fF S 0 2) (lstW 2 5 C) τ C n (gR S) c ∧ (MO (setF S 0 8 0) (setF S 0 8 (0)) ∧ SV 9999 (setF S 0 8 (0))) ∧ ∀ d, gR (setF S 0 8 (0)) d = vitG (fF S 0 2) (lstW 3 1 C) τ C n (gR S) c d := by
    first | exact ⟨vit_1 hnC_, ⟨MO.rf _, hSV⟩, fun d => vig_1 (Or.inl hnC_) d⟩ | exact ⟨vit_2 hC_ hgo_, ⟨MO.rf _, hSV⟩, fun d => vig_1 (Or.inr hgo_) d⟩ | exact ⟨vit_3 hC_ hgo_ hb33_, ⟨hV.M, SV.V2 (S := (setF S 0 8 0)) hSV hV (hy2 h15 hxb)⟩, fun d => vig_3 hC_ hgo_ hgv_ (fun d hd => gr_ne (S := (setF S 0 8 0)) hV hd) d⟩
  exact W.iret (v := (-1)) hx hb hr (fun t_ ht_ hW_ => ⟨⟨(-1), (setF S 0 8 (0)), rfl, hpost, by rw [ht_]; exact hP, va_K.moved hW_.alike hK, hD⟩, hS.F ht_⟩) hS.2.2 (fk_get fk_cX12_visit_0 8 rfl)
set_option maxHeartbeats 800000 in
set_option maxRecDepth 100000 in
theorem c_saturdayX (l : Launch) (G : GG) (ad : Nat → Nat) (S : FS) (sz : Nat) (z : Nat) (τ : Nat → Int32) (C : ClU) (n : Nat) (hn : fF S 0 1 = nI n) (hn6 : n ≤ 6) (hHOK : HOK S) (hSV : SV 9999 S) (h15 : fF S 0 15 = 0) (hHX : HOX S z τ C) : Met l yX12_saturday (Cond.code yX12_saturday cX12_saturday 1 (some .int) :: TBL) ({ frames := 10, cells := 0, slots := 0, locals := 281 } : Room) (PcW G (wR G ad S) sz [.ref (ad 0)]) (va_Qi (fun (r : Int32) (S' : FS) => r = sbN (fF S 0 2) τ C (gR S) n * (lstW 2 5 C) ∧ (MO (setF S 0 8 0) S' ∧ SV 9999 S') ∧ ∀ d, d < n → gR S' d = saG 0 (fF S 0 2) (lstW 3 1 C) τ C n (gR S) d) (fun S' t => BW G (va_A (wR G ad S) sz) (wR G ad S') t) (va_A (wR G ad S) sz)) 0 0 (va_A (wR G ad S) sz) := by
  refine Met.ofW (cc := cX12_saturday) (maxL := 1) (ret := (some .int)) (by decide) rfl ?_
  intro p e s m args below meth c₀ s₁ B hml hv
  obtain ⟨rfl, hsz, hP, hK, hD0⟩ := hv
  have hx := B.exec
  have hb := B.bytes
  have hr := B.returns
  have hT : ∀ w ∈ TBL, w.before ([.ref (ad 0)] : List Value).toArray s = true := fun w h => atoms_spec (ws := Cond.code yX12_saturday cX12_saturday 1 (some .int) :: TBL) B.pre w (List.mem_cons_of_mem _ h)
  have hown : s.vm.findClass "LittleMoreModel" = some m.cls := findClass_of_methodNamed B.named
  have hlocks := B.notSynchronized
  subst hsz
  have hD := hD0.self (sz := s.heap.size)
  generalize hAe : va_A (wR G ad S) s.heap.size = A at hD ⊢
  have hA : ∀ q : Nat, s.heap.size ≤ q → A q := fun q h => by rw [← hAe]; exact Or.inr h
  have hS : va_S A s.heap s.heap [] := va_S.rf
  have hP : va_P G.1 vwCl (wR G ad S) s.heap := hP
  have hl := lv_entry ([.ref (ad 0)]) (n := 1) (Nat.le_of_ble_eq_true rfl)
  rw [lg_entry_eq]
  generalize (lg_sl ([.ref (ad 0)]) ++ List.replicate (1 - (lg_sl ([.ref (ad 0)])).length) Slot.unset).toArray = ls at hl ⊢
  have hl : lv_has ls 1 [(0, .ref (ad 0))] := hl
  refine W_abs (fun Q hQ => ?_)
  generalize ([.ref (ad 0)] : List Value).toArray = args at hT hQ ⊢
  refine lv_aload_n hx hb (fk_get fk_cX12_saturday_0 0 rfl) rfl (lv_at hl 0 rfl) ?_
  refine lv_iconst (v := 0) hx hb (fk_get fk_cX12_saturday_0 1 rfl) (by decide) ?_
  refine va_put (D := G.1) (ci := 14) (v := .int (0)) (ty := .int) (C := RX12) (T := TX12) (N := 49) hx hb hT inX12 tyX12 tyX12_ok nmX12 hown hK hP hD hS 0 (ix_at (by decide) (cR_0 G ad S)) rfl 8 (by decide) (hT _ m5_109) (fun _ h9 => h9) rfl (by decide +kernel) rfl rfl (Nat.le_of_ble_eq_true rfl) (fk_get fk_cX12_saturday_0 2 rfl) (fun H locs hP hD hS => ?_)
  rw [pR_thrown G ad S (0)] at hP hD
  refine lv_aload_n hx hb (fk_get fk_cX12_saturday_0 3 rfl) rfl (lv_at hl 0 rfl) ?_
  refine lv_iconst (v := 1) hx hb (fk_get fk_cX12_saturday_0 4 rfl) (by decide) ?_
  have hFc := va_self hD hS hA
  refine va_callv (va_runV (As := [.int (1)]) (rest := []) ⟨hx, hb, hml, hown, hT⟩ (c_saturdaysOnXE l G ad (setF S 0 8 (0)) H.size (z) (τ) (C) (n) (9999) (1) (hn) (hn6) (hHOK) (hHX) (hSV) (by omega) (by omega) (1) (rfl)) (tV 1 hT m6_204 m6_206 mp_47 m1_17 m6_207 rfl rfl (by decide +kernel) ⟨Nat.le_of_ble_eq_true rfl, Nat.le_of_ble_eq_true rfl⟩) ⟨PcW_blind, va_recv hK hP (ci := 14) (q0 := 0) rfl (ix_at (by decide) (cR_0 G ad (setF S 0 8 (0)))), PcW_of hP hK hD _⟩ rfl rfl hl.1 rfl (lv_room (Nat.le_of_ble_eq_true rfl)) (fk_get fk_cX12_saturday_0 5 rfl) ⟨Nat.zero_le _, Nat.zero_le _⟩) hS (fun q _ h => hFc q h) hFc (fun S_3 t_ H locs ht_ hvm_ hw_2 hB_ hz_ hk_ hS => ?_)
  obtain ⟨hP, -, hD1_⟩ := hB_
  rw [ht_] at hP
  have hD : va_D A (wR G ad S_3) := hD1_.weaken (fun k q _ h => hFc q.1 h)
  try dsimp only at hw_2
  obtain ⟨hM2, hS2, hS3, hG2, hb_, -⟩ := hw_2
  rw [show fF (setF S 0 8 0) 0 15 = 0 from h15] at hG2
  refine lv_aload_n hx hb (fk_get fk_cX12_saturday_0 6 rfl) rfl (lv_at hl 0 rfl) ?_
  refine va_get (D := G.1) (ci := 14) (v := .int ((fF S_3 0 36))) (C := RX12) (T := TX12) (N := 49) hx hb hT inX12 hown hK hP 0 (ix_at (by decide) (cR_0 G ad S_3)) rfl 36 (by decide) (hT _ m5_137) (fun _ h9 => h9) rfl (fk_get fk_cX12_saturday_0 7 rfl) ?_
  refine lv_aload_n hx hb (fk_get fk_cX12_saturday_0 8 rfl) rfl (lv_at hl 0 rfl) ?_
  refine lv_iconst (v := 2) hx hb (fk_get fk_cX12_saturday_0 9 rfl) (by decide) ?_
  refine lv_iconst (v := 5) hx hb (fk_get fk_cX12_saturday_0 10 rfl) (by decide) ?_
  refine vp_callSi (W.runV (As := [.int (2), .int (5)]) (rest := [.int ((fF S_3 0 36))]) ⟨hx, hb, hml, hown, hT⟩ (c_lastOfE l G ad S_3 H.size (2) (z) (τ) (C) (5) ((show HOK (setF S 0 8 0) from hHOK).M hM2) ((show HOX (setF S 0 8 0) z τ C from hHX).M hM2) (by decide)) (tV 2 hT m6_180 m6_182 mp_43 m1_17 m6_183 rfl rfl (by decide +kernel) ⟨Nat.le_of_ble_eq_true rfl, Nat.le_of_ble_eq_true rfl⟩) ⟨PcW_blind, va_recv hK hP (ci := 14) (q0 := 0) rfl (ix_at (by decide) (cR_0 G ad S_3)), PcW_of hP hK hD _⟩ rfl rfl hl.1 rfl (lv_room (Nat.le_of_ble_eq_true rfl)) (fk_get fk_cX12_saturday_0 11 rfl) ⟨Nat.zero_le _, Nat.zero_le _⟩) (fun r_4 hw_5 => ?_)
  try dsimp only at hw_5
  subst hw_5
  refine lv_imul hx hb (fk_get fk_cX12_saturday_0 12 rfl) ?_
  subst hQ
  have hpost : (((fF S_3 0 36) * ((lstW 2 5 C))) : Int32) = sbN (fF S 0 2) τ C (gR S) n * (lstW 2 5 C) ∧ (MO (setF S 0 8 0) S_3 ∧ SV 9999 S_3) ∧ ∀ d, d < n → gR S_3 d = saG 0 (fF S 0 2) (lstW 3 1 C) τ C n (gR S) d := by
    exact ⟨congrArg (· * (lstW 2 5 C)) (sat_r hb_), ⟨hM2, hS3 h15 (by omega) (by omega)⟩, sat_g hG2⟩
  exact W.iret (v := ((fF S_3 0 36) * ((lstW 2 5 C)))) hx hb hr (fun t_ ht_ hW_ => ⟨⟨((fF S_3 0 36) * ((lstW 2 5 C))), S_3, rfl, hpost, by rw [ht_]; exact hP, va_K.moved hW_.alike hK, hD⟩, hS.F ht_⟩) hS.2.2 (fk_get fk_cX12_saturday_0 13 rfl)
set_option maxHeartbeats 800000 in
set_option maxRecDepth 100000 in
theorem c_askedX (l : Launch) (G : GG) (ad : Nat → Nat) (S : FS) (sz : Nat) (z : Nat) (τ : Nat → Int32) (C : ClU) (n : Nat) (c n_ : Int32) (hn : fF S 0 1 = nI n) (hn6 : n ≤ 6) (hHOK : HOK S) (hSV : SV 9999 S) (h15 : fF S 0 15 = 0) (hHX : HOX S z τ C) (h99 : N99 C) (hGC : ∀ d, d < n → GC 9999 (gR S d)) (hof : ∃ o : Nat, o ≤ 30 ∧ fF S 0 2 = nI o) : Met l yX12_asked (Cond.code yX12_asked cX12_asked 6 (some .int) :: TBL) ({ frames := 7, cells := 0, slots := 0, locals := 201 } : Room) (PcW G (wR G ad S) sz [.ref (ad 0), .int (c), .int (n_)]) (va_Qi (fun (r : Int32) (S' : FS) => HFr (setF S 0 8 0) S' ∧ r = asdP (fF S 0 2) τ C n (gR S) c n_) (fun S' t => BW G (va_A (wR G ad S) sz) (wR G ad S') t) (va_A (wR G ad S) sz)) 0 0 (va_A (wR G ad S) sz) := by
  refine Met.ofW (cc := cX12_asked) (maxL := 6) (ret := (some .int)) (by decide) rfl ?_
  intro p e s m args below meth c₀ s₁ B hml hv
  obtain ⟨rfl, hsz, hP, hK, hD0⟩ := hv
  have hx := B.exec
  have hb := B.bytes
  have hr := B.returns
  have hT : ∀ w ∈ TBL, w.before ([.ref (ad 0), .int (c), .int (n_)] : List Value).toArray s = true := fun w h => atoms_spec (ws := Cond.code yX12_asked cX12_asked 6 (some .int) :: TBL) B.pre w (List.mem_cons_of_mem _ h)
  have hown : s.vm.findClass "LittleMoreModel" = some m.cls := findClass_of_methodNamed B.named
  have hlocks := B.notSynchronized
  subst hsz
  have hD := hD0.self (sz := s.heap.size)
  generalize hAe : va_A (wR G ad S) s.heap.size = A at hD ⊢
  have hA : ∀ q : Nat, s.heap.size ≤ q → A q := fun q h => by rw [← hAe]; exact Or.inr h
  have hS : va_S A s.heap s.heap [] := va_S.rf
  have hP : va_P G.1 vwCl (wR G ad S) s.heap := hP
  have hl := lv_entry ([.ref (ad 0), .int (c), .int (n_)]) (n := 6) (Nat.le_of_ble_eq_true rfl)
  rw [lg_entry_eq]
  generalize (lg_sl ([.ref (ad 0), .int (c), .int (n_)]) ++ List.replicate (6 - (lg_sl ([.ref (ad 0), .int (c), .int (n_)])).length) Slot.unset).toArray = ls at hl ⊢
  have hl : lv_has ls 6 [(0, .ref (ad 0)), (1, .int (c)), (2, .int (n_))] := hl
  refine W_abs (fun Q hQ => ?_)
  generalize ([.ref (ad 0), .int (c), .int (n_)] : List Value).toArray = args at hT hQ ⊢
  refine lv_aload_n hx hb (fk_get fk_cX12_asked_0 0 rfl) rfl (lv_at hl 0 rfl) ?_
  refine lv_iconst (v := 0) hx hb (fk_get fk_cX12_asked_0 1 rfl) (by decide) ?_
  refine va_put (D := G.1) (ci := 14) (v := .int (0)) (ty := .int) (C := RX12) (T := TX12) (N := 49) hx hb hT inX12 tyX12 tyX12_ok nmX12 hown hK hP hD hS 0 (ix_at (by decide) (cR_0 G ad S)) rfl 8 (by decide) (hT _ m5_109) (fun _ h9 => h9) rfl (by decide +kernel) rfl rfl (Nat.le_of_ble_eq_true rfl) (fk_get fk_cX12_asked_0 2 rfl) (fun H locs hP hD hS => ?_)
  rw [pR_thrown G ad S (0)] at hP hD
  refine lv_aload_n hx hb (fk_get fk_cX12_asked_0 3 rfl) rfl (lv_at hl 0 rfl) ?_
  refine lv_iload_n hx hb (fk_get fk_cX12_asked_0 4 rfl) rfl (lv_at hl 1 rfl) ?_
  refine vp_callSi (W.runV (As := [.int (c)]) (rest := []) ⟨hx, hb, hml, hown, hT⟩ (c_isCustomer l G ad (setF S 0 8 (0)) H.size (c) ) (tV 1 hT m6_110 m6_112 mp_32 m1_17 m6_113 rfl rfl (by decide +kernel) ⟨Nat.le_of_ble_eq_true rfl, Nat.le_of_ble_eq_true rfl⟩) ⟨PcW_blind, va_recv hK hP (ci := 14) (q0 := 0) rfl (ix_at (by decide) (cR_0 G ad (setF S 0 8 (0)))), PcW_of hP hK hD _⟩ rfl rfl hl.1 rfl (lv_room (Nat.le_of_ble_eq_true rfl)) (fk_get fk_cX12_asked_0 5 rfl) ⟨Nat.zero_le _, Nat.zero_le _⟩) (fun r_1 hw_2 => ?_)
  try dsimp only at hw_2
  have hw_2 : r_1 = if 0 ≤ c ∧ c ≤ fF S 0 1 - 1 then 1 else 0 := hw_2
  refine lv_if_eq (tgt := 23) hx hb (fk_get fk_cX12_asked_0 6 rfl) (by decide) (fun c_3 => ?_) (fun c_3 => ?_)
  · have p_c_3 := if1_f hw_2 c_3
    have hnC_ : ¬ isC n c := by
      show ¬ (0 ≤ c ∧ c ≤ nI n - 1)
      rw [← hn]
      exact p_c_3
    refine lv_iconst (v := (-1)) hx hb (fk_get fk_cX12_asked_0 13 rfl) (by decide) ?_
    subst hQ
    have hpost : HFr (setF S 0 8 0) (setF S 0 8 (0)) ∧ ((-1) : Int32) = asdP (fF S 0 2) τ C n (gR S) c n_ := by
      first | exact ⟨HFr.rf _, asd_1 (Or.inl hnC_)⟩ | exact ⟨HFr.rf _, asd_1 (Or.inr (by assumption))⟩ | exact ⟨HFr.rf _, asd_2 hC_ hw_ hgo_⟩ | exact ⟨hHA, hfin_.1 (by first | assumption | exact Decidable.not_not.mp (by assumption))⟩ | exact ⟨hHA, hfin_.2 (by assumption)⟩
    exact W.iret (v := (-1)) hx hb hr (fun t_ ht_ hW_ => ⟨⟨(-1), (setF S 0 8 (0)), rfl, hpost, by rw [ht_]; exact hP, va_K.moved hW_.alike hK, hD⟩, hS.F ht_⟩) hS.2.2 (fk_get fk_cX12_asked_0 14 rfl)
  have p_c_3 := if1_t hw_2 c_3
  have hC_ : isC n c := by
    show 0 ≤ c ∧ c ≤ nI n - 1
    rw [← hn]
    exact p_c_3
  obtain ⟨hj, ej⟩ := isC_n p_c_3 hn hn6
  refine lv_iload_n hx hb (fk_get fk_cX12_asked_0 7 rfl) rfl (lv_at hl 2 rfl) ?_
  refine lv_i2l hx hb (fk_get fk_cX12_asked_0 8 rfl) rfl ?_
  refine lv_lconst (v := 0) hx hb (fk_get fk_cX12_asked_0 9 rfl) (by decide) ?_
  refine lv_lconst (v := 1) hx hb (fk_get fk_cX12_asked_0 10 rfl) (by decide) ?_
  refine vp_callSi (W.runS (As := [.long ((n_).toInt64), .long (0), .long (1)]) (rest := []) ⟨hx, hb, hml, hown, hT⟩ (c_in l ((n_).toInt64) (0) (1) ) (tS 3 hT m6_31 m6_32 m1_17 m6_33 rfl rfl (by decide +kernel) ⟨Nat.le_of_ble_eq_true rfl, Nat.le_of_ble_eq_true rfl⟩) ⟨PcN_blind, PcN_of _ _ _⟩ rfl rfl hl.1 rfl (lv_room (Nat.le_of_ble_eq_true rfl)) (fk_get fk_cX12_asked_0 11 rfl) ⟨Nat.zero_le _, Nat.zero_le _⟩) (fun r_4 hw_5 => ?_)
  try dsimp only at hw_5
  have hw_5 := in_eq hw_5 (n_) 0 1 (rfl) (by decide) (by decide)
  refine lv_if_ne (tgt := 25) hx hb (fk_get fk_cX12_asked_0 12 rfl) (by decide) (fun c_6 => ?_) (fun c_6 => ?_)
  · have p_c_6 := if1_t hw_5 c_6
    have hw_ := p_c_6
    refine lv_aload_n hx hb (fk_get fk_cX12_asked_0 15 rfl) rfl (lv_at hl 0 rfl) ?_
    refine lv_iload_n hx hb (fk_get fk_cX12_asked_0 16 rfl) rfl (lv_at hl 1 rfl) ?_
    refine vp_callSi (W.runV (As := [.int (c)]) (rest := []) ⟨hx, hb, hml, hown, hT⟩ (c_isGone l G ad (setF S 0 8 (0)) H.size (c) (c.toNatClampNeg) (ej) (by omega)) (tV 1 hT m6_192 m6_194 mp_45 m1_17 m6_195 rfl rfl (by decide +kernel) ⟨Nat.le_of_ble_eq_true rfl, Nat.le_of_ble_eq_true rfl⟩) ⟨PcW_blind, va_recv hK hP (ci := 14) (q0 := 0) rfl (ix_at (by decide) (cR_0 G ad (setF S 0 8 (0)))), PcW_of hP hK hD _⟩ rfl rfl hl.1 rfl (lv_room (Nat.le_of_ble_eq_true rfl)) (fk_get fk_cX12_asked_0 17 rfl) ⟨Nat.zero_le _, Nat.zero_le _⟩) (fun r_7 hw_8 => ?_)
    try dsimp only at hw_8
    refine lv_if_eq (tgt := 36) hx hb (fk_get fk_cX12_asked_0 18 rfl) (by decide) (fun c_9 => ?_) (fun c_9 => ?_)
    · have p_c_9 := if1_f hw_8 c_9
      have hgo_ : ¬ gR S c.toNatClampNeg 7 = 1 := isg_0 p_c_9
      refine lv_aload_n hx hb (fk_get fk_cX12_asked_0 21 rfl) rfl (lv_at hl 0 rfl) ?_
      refine lv_iload_n hx hb (fk_get fk_cX12_asked_0 22 rfl) rfl (lv_at hl 1 rfl) ?_
      have hFc := va_self hD hS hA
      refine va_calli (va_runV (As := [.int (c)]) (rest := []) ⟨hx, hb, hml, hown, hT⟩ (c_saysNoE l G ad (setF S 0 8 (0)) H.size (z) (τ) (C) (c) (c.toNatClampNeg) (hHOK) (hHX) (ej) (by omega)) (tV 1 hT m6_154 m6_156 mp_42 m1_17 m6_157 rfl rfl (by decide +kernel) ⟨Nat.le_of_ble_eq_true rfl, Nat.le_of_ble_eq_true rfl⟩) ⟨PcW_blind, va_recv hK hP (ci := 14) (q0 := 0) rfl (ix_at (by decide) (cR_0 G ad (setF S 0 8 (0)))), PcW_of hP hK hD _⟩ rfl rfl hl.1 rfl (lv_room (Nat.le_of_ble_eq_true rfl)) (fk_get fk_cX12_asked_0 23 rfl) ⟨Nat.zero_le _, Nat.zero_le _⟩) hS (fun q _ h => hFc q h) hFc (fun r_10 S_12 t_ H locs ht_ hvm_ hw_11 hB_ hz_ hk_ hS => ?_)
      obtain ⟨hP, -, hD1_⟩ := hB_
      rw [ht_] at hP
      have hD : va_D A (wR G ad S_12) := hD1_.weaken (fun k q _ h => hFc q.1 h)
      try dsimp only at hw_11
      obtain ⟨hH1, hno⟩ := hw_11
      have jn_13 : ∀ (v1 : Int32) (SA : FS) (H_15 : Heap) (locs_16 : List Loc) (ls : Array Slot),  (HFr (setF S 0 8 0) SA) → (v1 = (adF (moF (fF S 0 2) τ C c (gR S c.toNatClampNeg)) (gR S c.toNatClampNeg))) → va_P G.1 vwCl (wR G ad SA) H_15 → va_D A (wR G ad SA) → va_S A s.heap H_15 locs_16 → lv_has ls 6 [(0, .ref (ad 0)), (1, .int (c)), (2, .int (n_))] → W p l e ({ frames := 7, cells := 0, slots := 0, locals := 201 } : Room) s m args below meth c₀ H_15 locs_16 0 0 Q (F0 m 59 ls [.int (v1)]) := by
        intro v1 SA H_15 locs_16 ls hHA hv1 hP hD hS hl
        refine lv_istore_n (lv' := [(3, .int (v1)), (0, .ref (ad 0)), (1, .int (c)), (2, .int (n_))]) hx hb (fk_get fk_cX12_asked_1 2 rfl) rfl hl (by decide) rfl (fun ls hl => ?_)
        obtain ⟨mm, hmm_, emm_⟩ : ∃ m : Nat, m ≤ 1040 ∧ v1 = nI m := by
          rw [hv1]
          exact ad_b (mo_b h99 hof (hGC _ (by omega)))
        obtain ⟨ww, -, hww_, eww_⟩ := (hGC c.toNatClampNeg (by omega)).2.2.2.1
        refine lv_iconst (v := 1) hx hb (fk_get fk_cX12_asked_1 3 rfl) (by decide) ?_
        refine lv_istore (lv' := [(4, .int (1)), (3, .int (v1)), (0, .ref (ad 0)), (1, .int (c)), (2, .int (n_))]) hx hb (fk_get fk_cX12_asked_1 4 rfl) hl (by decide) rfl (fun ls hl => ?_)
        refine lv_iconst (v := 2) hx hb (fk_get fk_cX12_asked_1 5 rfl) (by decide) ?_
        refine lv_istore (lv' := [(5, .int (2)), (4, .int (1)), (3, .int (v1)), (0, .ref (ad 0)), (1, .int (c)), (2, .int (n_))]) hx hb (fk_get fk_cX12_asked_1 6 rfl) hl (by decide) rfl (fun ls hl => ?_)
        have lp_17 : ∀ (fu : Nat) (k : Nat) (v4 : Int32) (ls : Array Slot),  (k ≤ 100) → (2 ≤ k) → (100 < k + fu) → (v4 = nI (min (k - 1) (max 1 (ww - mm)))) → lv_has ls 6 [(5, .int ((nI k))), (4, .int (v4)), (3, .int (v1)), (0, .ref (ad 0)), (1, .int (c)), (2, .int (n_))] → W p l e ({ frames := 7, cells := 0, slots := 0, locals := 201 } : Room) s m args below meth c₀ H_15 locs_16 0 0 Q (F0 m 66 ls []) := by
          intro fu
          induction fu with
          | zero =>
            intro k v4 ls hk hk2 hf hB_ hl
            exact absurd hf (by omega)
          | succ fu ih =>
            intro k v4 ls hk hk2 hf hB_ hl
            refine lv_iload hx hb (fk_get fk_cX12_asked_1 7 rfl) (lv_at hl 0 rfl) ?_
            refine lv_bipush (v := 100) hx hb (fk_get fk_cX12_asked_1 8 rfl) (by decide) ?_
            refine lv_icmp_ge (tgt := 119) hx hb (fk_get fk_cX12_asked_1 9 rfl) (by decide) (fun c_18 => ?_) (fun c_18 => ?_)
            · have hke_ : k = 100 := by have z_ := (nI_leI (a := 100) (b := k) (by omega) (by omega)).mp c_18; omega
              rw [hke_] at hB_
              have hfin_ := asd_3 (a := v4) (τ := τ) (C := C) (off := fF S 0 2) (n := n) (G := gR S) hC_ hw_ hgo_ (by rw [hB_, asd_e hmm_ hww_, eww_, emm_]) hv1
              refine lv_iload_n hx hb (fk_get fk_cX12_asked_2 3 rfl) rfl (lv_at hl 5 rfl) ?_
              refine lv_if_ne (tgt := 128) hx hb (fk_get fk_cX12_asked_2 4 rfl) (by decide) (fun c_19 => ?_) (fun c_19 => ?_)
              · refine lv_iload hx hb (fk_get fk_cX12_asked_2 7 rfl) (lv_at hl 1 rfl) ?_
                refine lv_iload_n hx hb (fk_get fk_cX12_asked_2 8 rfl) rfl (lv_at hl 2 rfl) ?_
                refine lv_iadd hx hb (fk_get fk_cX12_asked_2 9 rfl) ?_
                subst hQ
                have hpost : HFr (setF S 0 8 0) SA ∧ ((v4 + v1) : Int32) = asdP (fF S 0 2) τ C n (gR S) c n_ := by
                  first | exact ⟨HFr.rf _, asd_1 (Or.inl hnC_)⟩ | exact ⟨HFr.rf _, asd_1 (Or.inr (by assumption))⟩ | exact ⟨HFr.rf _, asd_2 hC_ hw_ hgo_⟩ | exact ⟨hHA, hfin_.1 (by first | assumption | exact Decidable.not_not.mp (by assumption))⟩ | exact ⟨hHA, hfin_.2 (by assumption)⟩
                exact W.iret (v := (v4 + v1)) hx hb hr (fun t_ ht_ hW_ => ⟨⟨(v4 + v1), SA, rfl, hpost, by rw [ht_]; exact hP, va_K.moved hW_.alike hK, hD⟩, hS.F ht_⟩) hS.2.2 (fk_get fk_cX12_asked_2 10 rfl)
              refine lv_iload hx hb (fk_get fk_cX12_asked_2 5 rfl) (lv_at hl 1 rfl) ?_
              refine lv_goto (tgt := 132) hx hb (fk_get fk_cX12_asked_2 6 rfl) (by decide) ?_
              subst hQ
              have hpost : HFr (setF S 0 8 0) SA ∧ (v4 : Int32) = asdP (fF S 0 2) τ C n (gR S) c n_ := by
                first | exact ⟨HFr.rf _, asd_1 (Or.inl hnC_)⟩ | exact ⟨HFr.rf _, asd_1 (Or.inr (by assumption))⟩ | exact ⟨HFr.rf _, asd_2 hC_ hw_ hgo_⟩ | exact ⟨hHA, hfin_.1 (by first | assumption | exact Decidable.not_not.mp (by assumption))⟩ | exact ⟨hHA, hfin_.2 (by assumption)⟩
              exact W.iret (v := v4) hx hb hr (fun t_ ht_ hW_ => ⟨⟨v4, SA, rfl, hpost, by rw [ht_]; exact hP, va_K.moved hW_.alike hK, hD⟩, hS.F ht_⟩) hS.2.2 (fk_get fk_cX12_asked_2 10 rfl)
            have hlt : k < 100 := Nat.lt_of_not_le (fun wk => c_18 ((nI_leI (a := 100) (b := k) (by omega) (by omega)).mpr wk))
            refine lv_iload hx hb (fk_get fk_cX12_asked_1 10 rfl) (lv_at hl 0 rfl) ?_
            refine lv_iload_n hx hb (fk_get fk_cX12_asked_1 11 rfl) rfl (lv_at hl 2 rfl) ?_
            refine lv_iadd hx hb (fk_get fk_cX12_asked_1 12 rfl) ?_
            refine lv_aload_n hx hb (fk_get fk_cX12_asked_1 13 rfl) rfl (lv_at hl 3 rfl) ?_
            refine lv_iload_n hx hb (fk_get fk_cX12_asked_1 14 rfl) rfl (lv_at hl 4 rfl) ?_
            refine lv_iconst (v := 2) hx hb (fk_get fk_cX12_asked_1 15 rfl) (by decide) ?_
            refine vp_callSi (W.runV (As := [.int (c), .int (2)]) (rest := [.int (((nI k) + v1))]) ⟨hx, hb, hml, hown, hT⟩ (c_of0 l G ad SA H_15.size (c) (2) (((12 * c.toNatClampNeg) + 2)) (n_add (n_mul (rfl) (ej)) (rfl)) (by omega)) (tV 2 hT m6_119 m6_121 mp_34 m1_17 m6_122 rfl rfl (by decide +kernel) ⟨Nat.le_of_ble_eq_true rfl, Nat.le_of_ble_eq_true rfl⟩) ⟨PcW_blind, va_recv hK hP (ci := 14) (q0 := 0) rfl (ix_at (by decide) (cR_0 G ad SA)), PcW_of hP hK hD _⟩ rfl rfl hl.1 rfl (lv_room (Nat.le_of_ble_eq_true rfl)) (fk_get fk_cX12_asked_1 16 rfl) ⟨Nat.zero_le _, Nat.zero_le _⟩) (fun r_20 hw_21 => ?_)
            try dsimp only at hw_21
            rw [show fA SA 1 (12 * c.toNatClampNeg + 2) = gR S c.toNatClampNeg 2 from congrFun (gR_H hHA c.toNatClampNeg) 2, eww_] at hw_21
            subst hw_21
            refine lv_isub hx hb (fk_get fk_cX12_asked_1 17 rfl) ?_
            refine vp_callSi (W.runS (As := [.int ((((nI k) + v1) - ((nI ww))))]) (rest := []) ⟨hx, hb, hml, hown, hT⟩ (c_plainly l ((((nI k) + v1) - ((nI ww)))) ) (tS 1 hT m6_234 m6_235 m1_17 m6_236 rfl rfl (by decide +kernel) ⟨Nat.le_of_ble_eq_true rfl, Nat.le_of_ble_eq_true rfl⟩) ⟨PcN_blind, PcN_of _ _ _⟩ rfl rfl hl.1 rfl (lv_room (Nat.le_of_ble_eq_true rfl)) (fk_get fk_cX12_asked_1 18 rfl) ⟨Nat.zero_le _, Nat.zero_le _⟩) (fun r_22 hw_23 => ?_)
            try dsimp only at hw_23
            have hp1_ := hw_23
            refine lv_iload hx hb (fk_get fk_cX12_asked_1 19 rfl) (lv_at hl 1 rfl) ?_
            refine lv_iload_n hx hb (fk_get fk_cX12_asked_1 20 rfl) rfl (lv_at hl 2 rfl) ?_
            refine lv_iadd hx hb (fk_get fk_cX12_asked_1 21 rfl) ?_
            refine lv_aload_n hx hb (fk_get fk_cX12_asked_1 22 rfl) rfl (lv_at hl 3 rfl) ?_
            refine lv_iload_n hx hb (fk_get fk_cX12_asked_1 23 rfl) rfl (lv_at hl 4 rfl) ?_
            refine lv_iconst (v := 2) hx hb (fk_get fk_cX12_asked_1 24 rfl) (by decide) ?_
            refine vp_callSi (W.runV (As := [.int (c), .int (2)]) (rest := [.int ((v4 + v1)), .int (r_22)]) ⟨hx, hb, hml, hown, hT⟩ (c_of0 l G ad SA H_15.size (c) (2) (((12 * c.toNatClampNeg) + 2)) (n_add (n_mul (rfl) (ej)) (rfl)) (by omega)) (tV 2 hT m6_119 m6_121 mp_34 m1_17 m6_122 rfl rfl (by decide +kernel) ⟨Nat.le_of_ble_eq_true rfl, Nat.le_of_ble_eq_true rfl⟩) ⟨PcW_blind, va_recv hK hP (ci := 14) (q0 := 0) rfl (ix_at (by decide) (cR_0 G ad SA)), PcW_of hP hK hD _⟩ rfl rfl hl.1 rfl (lv_room (Nat.le_of_ble_eq_true rfl)) (fk_get fk_cX12_asked_1 25 rfl) ⟨Nat.zero_le _, Nat.zero_le _⟩) (fun r_24 hw_25 => ?_)
            try dsimp only at hw_25
            rw [show fA SA 1 (12 * c.toNatClampNeg + 2) = gR S c.toNatClampNeg 2 from congrFun (gR_H hHA c.toNatClampNeg) 2, eww_] at hw_25
            subst hw_25
            refine lv_isub hx hb (fk_get fk_cX12_asked_1 26 rfl) ?_
            refine vp_callSi (W.runS (As := [.int (((v4 + v1) - ((nI ww))))]) (rest := [.int (r_22)]) ⟨hx, hb, hml, hown, hT⟩ (c_plainly l (((v4 + v1) - ((nI ww)))) ) (tS 1 hT m6_234 m6_235 m1_17 m6_236 rfl rfl (by decide +kernel) ⟨Nat.le_of_ble_eq_true rfl, Nat.le_of_ble_eq_true rfl⟩) ⟨PcN_blind, PcN_of _ _ _⟩ rfl rfl hl.1 rfl (lv_room (Nat.le_of_ble_eq_true rfl)) (fk_get fk_cX12_asked_1 27 rfl) ⟨Nat.zero_le _, Nat.zero_le _⟩) (fun r_26 hw_27 => ?_)
            try dsimp only at hw_27
            have hp2_ := hw_27
            rw [emm_] at hp1_ hp2_
            have hst_ := asd_s ⟨hk2, by omega⟩ hmm_ hww_ hB_ hp1_ hp2_
            have jn_28 : ∀ (v8 : Int32) (ls : Array Slot),  (v8 = nI (min (k + 1 - 1) (max 1 (ww - mm)))) → lv_has ls 6 [(5, .int ((nI k))), (4, .int (v4)), (3, .int (v1)), (0, .ref (ad 0)), (1, .int (c)), (2, .int (n_))] → W p l e ({ frames := 7, cells := 0, slots := 0, locals := 201 } : Room) s m args below meth c₀ H_15 locs_16 0 0 Q (F0 m 111 ls [.int (v8)]) := by
              intro v8 ls hv8 hl
              refine lv_istore (lv' := [(4, .int (v8)), (5, .int ((nI k))), (3, .int (v1)), (0, .ref (ad 0)), (1, .int (c)), (2, .int (n_))]) hx hb (fk_get fk_cX12_asked_2 0 rfl) hl (by decide) rfl (fun ls hl => ?_)
              refine lv_iinc (v := (nI (k + 1))) (lv' := [(5, .int ((nI (k + 1)))), (4, .int (v8)), (3, .int (v1)), (0, .ref (ad 0)), (1, .int (c)), (2, .int (n_))]) hx hb (fk_get fk_cX12_asked_2 1 rfl) hl (k := 1) rfl ((nI_1 k)) (by decide) rfl (fun ls hl => ?_)
              refine lv_goto (tgt := 66) hx hb (fk_get fk_cX12_asked_2 2 rfl) (by decide) ?_
              exact ih (k + 1) (v8) ls (by omega) (by omega) (by omega) (hv8) (lv_sub hl [0, 1, 2, 3, 4, 5] rfl)
            refine lv_icmp_ge (tgt := 109) hx hb (fk_get fk_cX12_asked_1 28 rfl) (by decide) (fun c_29 => ?_) (fun c_29 => ?_)
            · refine lv_iload hx hb (fk_get fk_cX12_asked_1 31 rfl) (lv_at hl 1 rfl) ?_
              exact jn_28 ((v4)) ls ((by first | exact hst_.1 (by assumption) | exact hst_.1 (Int32.not_le.mp (by assumption)) | exact hst_.2 (by assumption) | exact hst_.2 (Int32.not_lt.mpr (by assumption)))) (lv_sub hl [0, 1, 2, 3, 4, 5] rfl)
            refine lv_iload hx hb (fk_get fk_cX12_asked_1 29 rfl) (lv_at hl 0 rfl) ?_
            refine lv_goto (tgt := 111) hx hb (fk_get fk_cX12_asked_1 30 rfl) (by decide) ?_
            exact jn_28 (((nI k))) ls ((by first | exact hst_.1 (by assumption) | exact hst_.1 (Int32.not_le.mp (by assumption)) | exact hst_.2 (by assumption) | exact hst_.2 (Int32.not_lt.mpr (by assumption)))) (lv_sub hl [0, 1, 2, 3, 4, 5] rfl)
        exact lp_17 (101) (2) (1) ls (by omega) (by omega) (by omega) ((congrArg nI (show 1 = min (2 - 1) (max 1 (ww - mm)) by omega))) (lv_sub hl [0, 1, 2, 3, 4, 5] rfl)
      refine lv_if_eq (tgt := 54) hx hb (fk_get fk_cX12_asked_0 24 rfl) (by decide) (fun c_30 => ?_) (fun c_30 => ?_)
      · have hN := no_f hno c_30
        refine lv_aload_n hx hb (fk_get fk_cX12_asked_0 31 rfl) rfl (lv_at hl 0 rfl) ?_
        refine lv_iload_n hx hb (fk_get fk_cX12_asked_1 0 rfl) rfl (lv_at hl 1 rfl) ?_
        have hFc := va_self hD hS hA
        refine va_calli (va_runV (As := [.int (c)]) (rest := []) ⟨hx, hb, hml, hown, hT⟩ (c_moreOfE l G ad S_12 H.size (z) (τ) (C) (c) (c.toNatClampNeg) ((show HOK (setF S 0 8 0) from hHOK).H hH1) ((show HOX (setF S 0 8 0) z τ C from hHX).H hH1) (ej) (by omega)) (tV 1 hT m6_115 m6_117 mp_33 m1_17 m6_118 rfl rfl (by decide +kernel) ⟨Nat.le_of_ble_eq_true rfl, Nat.le_of_ble_eq_true rfl⟩) ⟨PcW_blind, va_recv hK hP (ci := 14) (q0 := 0) rfl (ix_at (by decide) (cR_0 G ad S_12)), PcW_of hP hK hD _⟩ rfl rfl hl.1 rfl (lv_room (Nat.le_of_ble_eq_true rfl)) (fk_get fk_cX12_asked_1 1 rfl) ⟨Nat.zero_le _, Nat.zero_le _⟩) hS (fun q _ h => hFc q h) hFc (fun r_31 S_33 t_ H locs ht_ hvm_ hw_32 hB_ hz_ hk_ hS => ?_)
        obtain ⟨hP, -, hD1_⟩ := hB_
        rw [ht_] at hP
        have hD : va_D A (wR G ad S_33) := hD1_.weaken (fun k q _ h => hFc q.1 h)
        try dsimp only at hw_32
        obtain ⟨hHm, hmo_⟩ := hw_32
        have hH2 := hH1.trans hHm
        rw [gR_H hH1, hH1.2.2.1 2] at hmo_
        subst hmo_
        exact jn_13 ((((moF (fF S 0 2) τ C c (gR S c.toNatClampNeg))))) (S_33) _ _ ls (hH2) ((by first | exact (if_pos hY).symm | exact (if_neg hN).symm)) hP hD hS (lv_sub hl [0, 1, 2] rfl)
      have hY := no_t hno c_30
      refine lv_aload_n hx hb (fk_get fk_cX12_asked_0 25 rfl) rfl (lv_at hl 0 rfl) ?_
      refine lv_iload_n hx hb (fk_get fk_cX12_asked_0 26 rfl) rfl (lv_at hl 1 rfl) ?_
      have hFc := va_self hD hS hA
      refine va_calli (va_runV (As := [.int (c)]) (rest := []) ⟨hx, hb, hml, hown, hT⟩ (c_moreOfE l G ad S_12 H.size (z) (τ) (C) (c) (c.toNatClampNeg) ((show HOK (setF S 0 8 0) from hHOK).H hH1) ((show HOX (setF S 0 8 0) z τ C from hHX).H hH1) (ej) (by omega)) (tV 1 hT m6_115 m6_117 mp_33 m1_17 m6_118 rfl rfl (by decide +kernel) ⟨Nat.le_of_ble_eq_true rfl, Nat.le_of_ble_eq_true rfl⟩) ⟨PcW_blind, va_recv hK hP (ci := 14) (q0 := 0) rfl (ix_at (by decide) (cR_0 G ad S_12)), PcW_of hP hK hD _⟩ rfl rfl hl.1 rfl (lv_room (Nat.le_of_ble_eq_true rfl)) (fk_get fk_cX12_asked_0 27 rfl) ⟨Nat.zero_le _, Nat.zero_le _⟩) hS (fun q _ h => hFc q h) hFc (fun r_34 S_36 t_ H locs ht_ hvm_ hw_35 hB_ hz_ hk_ hS => ?_)
      obtain ⟨hP, -, hD1_⟩ := hB_
      rw [ht_] at hP
      have hD : va_D A (wR G ad S_36) := hD1_.weaken (fun k q _ h => hFc q.1 h)
      try dsimp only at hw_35
      obtain ⟨hHm, hmo_⟩ := hw_35
      have hH2 := hH1.trans hHm
      rw [gR_H hH1, hH1.2.2.1 2] at hmo_
      subst hmo_
      refine lv_iconst (v := 2) hx hb (fk_get fk_cX12_asked_0 28 rfl) (by decide) ?_
      refine lv_idiv hx hb (fk_get fk_cX12_asked_0 29 rfl) (by decide) ?_
      refine lv_goto (tgt := 59) hx hb (fk_get fk_cX12_asked_0 30 rfl) (by decide) ?_
      exact jn_13 (((((moF (fF S 0 2) τ C c (gR S c.toNatClampNeg))) / 2))) (S_36) _ _ ls (hH2) ((by first | exact (if_pos hY).symm | exact (if_neg hN).symm)) hP hD hS (lv_sub hl [0, 1, 2] rfl)
    have p_c_9 := if1_t hw_8 c_9
    have hgo_ : gR S c.toNatClampNeg 7 = 1 := isg_1 p_c_9
    refine lv_bipush (v := (-5)) hx hb (fk_get fk_cX12_asked_0 19 rfl) (by decide) ?_
    subst hQ
    have hpost : HFr (setF S 0 8 0) (setF S 0 8 (0)) ∧ ((-5) : Int32) = asdP (fF S 0 2) τ C n (gR S) c n_ := by
      first | exact ⟨HFr.rf _, asd_1 (Or.inl hnC_)⟩ | exact ⟨HFr.rf _, asd_1 (Or.inr (by assumption))⟩ | exact ⟨HFr.rf _, asd_2 hC_ hw_ hgo_⟩ | exact ⟨hHA, hfin_.1 (by first | assumption | exact Decidable.not_not.mp (by assumption))⟩ | exact ⟨hHA, hfin_.2 (by assumption)⟩
    exact W.iret (v := (-5)) hx hb hr (fun t_ ht_ hW_ => ⟨⟨(-5), (setF S 0 8 (0)), rfl, hpost, by rw [ht_]; exact hP, va_K.moved hW_.alike hK, hD⟩, hS.F ht_⟩) hS.2.2 (fk_get fk_cX12_asked_0 20 rfl)
  have p_c_6 := if1_f hw_5 c_6
  refine lv_iconst (v := (-1)) hx hb (fk_get fk_cX12_asked_0 13 rfl) (by decide) ?_
  subst hQ
  have hpost : HFr (setF S 0 8 0) (setF S 0 8 (0)) ∧ ((-1) : Int32) = asdP (fF S 0 2) τ C n (gR S) c n_ := by
    first | exact ⟨HFr.rf _, asd_1 (Or.inl hnC_)⟩ | exact ⟨HFr.rf _, asd_1 (Or.inr (by assumption))⟩ | exact ⟨HFr.rf _, asd_2 hC_ hw_ hgo_⟩ | exact ⟨hHA, hfin_.1 (by first | assumption | exact Decidable.not_not.mp (by assumption))⟩ | exact ⟨hHA, hfin_.2 (by assumption)⟩
  exact W.iret (v := (-1)) hx hb hr (fun t_ ht_ hW_ => ⟨⟨(-1), (setF S 0 8 (0)), rfl, hpost, by rw [ht_]; exact hP, va_K.moved hW_.alike hK, hD⟩, hS.F ht_⟩) hS.2.2 (fk_get fk_cX12_asked_0 14 rfl)
set_option maxHeartbeats 800000 in
set_option maxRecDepth 100000 in
theorem c_divisorX (l : Launch) (a b : Nat) (a_ b_ : Int32) (hea : a_ = nI a) (heb : b_ = nI b) (ha1 : a < 2 ^ 31) (hb1 : b < 2 ^ 31) (hb0 : ¬ b = 0) : Met l yX12_divisor (Cond.code yX12_divisor cX12_divisor 5 (some .int) :: TBL) ({ frames := 2, cells := 0, slots := 0, locals := 64 } : Room) (PcN [.int (a_), .int (b_)]) (vp_Si (fun (r : Int32) => ¬ r = 0 ∧ r = nI (Nat.gcd a b))) 0 0 (fun _ => False) := by
  refine Met.ofW (cc := cX12_divisor) (maxL := 5) (ret := (some .int)) (by decide) rfl ?_
  intro p e s m args below meth c₀ s₁ B hml hv
  obtain ⟨rfl, -⟩ := hv
  have hx := B.exec
  have hb := B.bytes
  have hr := B.returns
  have hT : ∀ w ∈ TBL, w.before ([.int (a_), .int (b_)] : List Value).toArray s = true := fun w h => atoms_spec (ws := Cond.code yX12_divisor cX12_divisor 5 (some .int) :: TBL) B.pre w (List.mem_cons_of_mem _ h)
  have hown : s.vm.findClass "LittleMoreModel" = some m.cls := findClass_of_methodNamed B.named
  have hlocks := B.notSynchronized
  have hl := lv_entry ([.int (a_), .int (b_)]) (n := 5) (Nat.le_of_ble_eq_true rfl)
  rw [lg_entry_eq]
  generalize (lg_sl ([.int (a_), .int (b_)]) ++ List.replicate (5 - (lg_sl ([.int (a_), .int (b_)])).length) Slot.unset).toArray = ls at hl ⊢
  have hl : lv_has ls 5 [(0, .int (a_)), (1, .int (b_))] := hl
  refine W_abs (fun Q hQ => ?_)
  generalize ([.int (a_), .int (b_)] : List Value).toArray = args at hT hQ ⊢
  refine lv_iload_n hx hb (fk_get fk_cX12_divisor_0 0 rfl) rfl (lv_at hl 0 rfl) ?_
  refine lv_istore_n (lv' := [(2, .int (a_)), (0, .int (a_)), (1, .int (b_))]) hx hb (fk_get fk_cX12_divisor_0 1 rfl) rfl hl (by decide) rfl (fun ls hl => ?_)
  refine lv_iload_n hx hb (fk_get fk_cX12_divisor_0 2 rfl) rfl (lv_at hl 2 rfl) ?_
  refine lv_istore_n (lv' := [(3, .int (b_)), (2, .int (a_)), (0, .int (a_)), (1, .int (b_))]) hx hb (fk_get fk_cX12_divisor_0 3 rfl) rfl hl (by decide) rfl (fun ls hl => ?_)
  have lp_1 : ∀ (fu : Nat) (v2 v3 : Int32) (x y : Nat) (ls : Array Slot),  (y < fu) → (v2 = nI x) → (v3 = nI y) → (x < 2 ^ 31) → (y < 2 ^ 31) → (Nat.gcd x y = Nat.gcd a b) → lv_has ls 5 [(3, .int (v3)), (2, .int (v2)), (0, .int (a_)), (1, .int (b_))] → W p l e ({ frames := 2, cells := 0, slots := 0, locals := 64 } : Room) s m args below meth c₀ s.heap [] 0 0 Q (F0 m 4 ls []) := by
    intro fu
    induction fu with
    | zero =>
      intro v2 v3 x y ls hf h2 h3 hx1 hy1 hg hl
      exact absurd hf (by omega)
    | succ fu ih =>
      intro v2 v3 x y ls hf h2 h3 hx1 hy1 hg hl
      refine lv_iload_n hx hb (fk_get fk_cX12_divisor_0 4 rfl) rfl (lv_at hl 0 rfl) ?_
      refine lv_if_eq (tgt := 21) hx hb (fk_get fk_cX12_divisor_0 5 rfl) (by decide) (fun c_2 => ?_) (fun c_2 => ?_)
      · have he_ := gcd_e h2 h3 hy1 hg c_2
        refine lv_iload_n hx hb (fk_get fk_cX12_divisor_0 15 rfl) rfl (lv_at hl 1 rfl) ?_
        subst hQ
        have hpost : ¬ (v2 : Int32) = 0 ∧ (v2 : Int32) = nI (Nat.gcd a b) := by
          refine ⟨?_, he_⟩
          rw [he_]
          intro z_
          have y_ := (nI_eq (b := 0) (by have q_ := Nat.gcd_le_right a (Nat.pos_of_ne_zero hb0); omega) (by omega)).mp z_
          exact hb0 (Nat.eq_zero_of_gcd_eq_zero_right y_)
        exact W.iret (v := v2) hx hb hr (fun t_ ht_ hW_ => ⟨v2, rfl, hpost, ht_⟩) (fun q h => by cases h) (fk_get fk_cX12_divisor_0 16 rfl)
      have hne : ¬ v3 = 0 := c_2
      have hy0 : y ≠ 0 := fun q => hne (by rw [h3, q]; rfl)
      refine lv_iload_n hx hb (fk_get fk_cX12_divisor_0 6 rfl) rfl (lv_at hl 1 rfl) ?_
      refine lv_iload_n hx hb (fk_get fk_cX12_divisor_0 7 rfl) rfl (lv_at hl 0 rfl) ?_
      refine lv_irem hx hb (fk_get fk_cX12_divisor_0 8 rfl) (hne) ?_
      refine lv_istore (lv' := [(4, .int ((v2 - v2 / v3 * v3))), (3, .int (v3)), (2, .int (v2)), (0, .int (a_)), (1, .int (b_))]) hx hb (fk_get fk_cX12_divisor_0 9 rfl) hl (by decide) rfl (fun ls hl => ?_)
      refine lv_iload_n hx hb (fk_get fk_cX12_divisor_0 10 rfl) rfl (lv_at hl 1 rfl) ?_
      refine lv_istore_n (lv' := [(2, .int (v3)), (4, .int ((v2 - v2 / v3 * v3))), (3, .int (v3)), (0, .int (a_)), (1, .int (b_))]) hx hb (fk_get fk_cX12_divisor_0 11 rfl) rfl hl (by decide) rfl (fun ls hl => ?_)
      refine lv_iload hx hb (fk_get fk_cX12_divisor_0 12 rfl) (lv_at hl 1 rfl) ?_
      refine lv_istore_n (lv' := [(3, .int ((v2 - v2 / v3 * v3))), (2, .int (v3)), (4, .int ((v2 - v2 / v3 * v3))), (0, .int (a_)), (1, .int (b_))]) hx hb (fk_get fk_cX12_divisor_0 13 rfl) rfl hl (by decide) rfl (fun ls hl => ?_)
      refine lv_goto (tgt := 4) hx hb (fk_get fk_cX12_divisor_0 14 rfl) (by decide) ?_
      exact ih (v3) ((v2 - v2 / v3 * v3)) (y) ((x % y)) ls ((by have z_ := Nat.mod_lt x (Nat.pos_of_ne_zero hy0); omega)) (h3) ((by rw [h2, h3]; exact pk_rem (a := x) (d := y) (by omega) (by omega) (by omega))) (hy1) ((by have z_ := Nat.mod_lt x (Nat.pos_of_ne_zero hy0); omega)) (((gcd_stp hy0).trans hg)) (lv_sub hl [0, 1, 3, 4] rfl)
  exact lp_1 (b + 1) (a_) (b_) (a) (b) ls (by omega) (hea) (heb) (ha1) (hb1) (rfl) (lv_sub hl [0, 1, 2, 3] rfl)
set_option maxHeartbeats 800000 in
set_option maxRecDepth 100000 in
theorem c_partOfX (l : Launch) (a b : Nat) (a_ b_ w_ : Int32) (hea : a_ = nI a) (heb : b_ = nI b) (ha1 : a < 2 ^ 31) (hb1 : b < 2 ^ 31) (hb0 : ¬ b = 0) : Met l yX12_partOf (Cond.code yX12_partOf cX12_partOf 4 (some .long) :: TBL) ({ frames := 3, cells := 0, slots := 0, locals := 92 } : Room) (PcN [.int (a_), .int (b_), .int (w_)]) (vp_Sl (fun (r : Int64) => r = frP a b w_)) 0 0 (fun _ => False) := by
  refine Met.ofW (cc := cX12_partOf) (maxL := 4) (ret := (some .long)) (by decide) rfl ?_
  intro p e s m args below meth c₀ s₁ B hml hv
  obtain ⟨rfl, -⟩ := hv
  have hx := B.exec
  have hb := B.bytes
  have hr := B.returns
  have hT : ∀ w ∈ TBL, w.before ([.int (a_), .int (b_), .int (w_)] : List Value).toArray s = true := fun w h => atoms_spec (ws := Cond.code yX12_partOf cX12_partOf 4 (some .long) :: TBL) B.pre w (List.mem_cons_of_mem _ h)
  have hown : s.vm.findClass "LittleMoreModel" = some m.cls := findClass_of_methodNamed B.named
  have hlocks := B.notSynchronized
  have hl := lv_entry ([.int (a_), .int (b_), .int (w_)]) (n := 4) (Nat.le_of_ble_eq_true rfl)
  rw [lg_entry_eq]
  generalize (lg_sl ([.int (a_), .int (b_), .int (w_)]) ++ List.replicate (4 - (lg_sl ([.int (a_), .int (b_), .int (w_)])).length) Slot.unset).toArray = ls at hl ⊢
  have hl : lv_has ls 4 [(0, .int (a_)), (1, .int (b_)), (2, .int (w_))] := hl
  refine W_abs (fun Q hQ => ?_)
  generalize ([.int (a_), .int (b_), .int (w_)] : List Value).toArray = args at hT hQ ⊢
  refine lv_iload_n hx hb (fk_get fk_cX12_partOf_0 0 rfl) rfl (lv_at hl 0 rfl) ?_
  refine vp_callSi (W.runS (As := [.int (a_)]) (rest := []) ⟨hx, hb, hml, hown, hT⟩ (c_plainly l (a_) ) (tS 1 hT m6_234 m6_235 m1_17 m6_236 rfl rfl (by decide +kernel) ⟨Nat.le_of_ble_eq_true rfl, Nat.le_of_ble_eq_true rfl⟩) ⟨PcN_blind, PcN_of _ _ _⟩ rfl rfl hl.1 rfl (lv_room (Nat.le_of_ble_eq_true rfl)) (fk_get fk_cX12_partOf_0 1 rfl) ⟨Nat.zero_le _, Nat.zero_le _⟩) (fun r_1 hw_2 => ?_)
  try dsimp only at hw_2
  have hw_2 : r_1 = nI a := by rw [hw_2, hea, if_neg (nI_nn ha1)]
  subst hw_2
  refine lv_iload_n hx hb (fk_get fk_cX12_partOf_0 2 rfl) rfl (lv_at hl 1 rfl) ?_
  refine vp_callSi (W.runS (As := [.int (((nI a))), .int (b_)]) (rest := []) ⟨hx, hb, hml, hown, hT⟩ (c_divisorX l (a) (b) (((nI a))) (b_) (rfl) (heb) (ha1) (hb1) (hb0)) (tS 2 hT m7_56 m7_57 m1_17 m7_58 rfl rfl (by decide +kernel) ⟨Nat.le_of_ble_eq_true rfl, Nat.le_of_ble_eq_true rfl⟩) ⟨PcN_blind, PcN_of _ _ _⟩ rfl rfl hl.1 rfl (lv_room (Nat.le_of_ble_eq_true rfl)) (fk_get fk_cX12_partOf_0 3 rfl) ⟨Nat.zero_le _, Nat.zero_le _⟩) (fun r_3 hw_4 => ?_)
  try dsimp only at hw_4
  obtain ⟨hr0, hr1_⟩ := hw_4
  subst hr1_
  refine lv_istore_n (lv' := [(3, .int (((nI (Nat.gcd a b))))), (0, .int (a_)), (1, .int (b_)), (2, .int (w_))]) hx hb (fk_get fk_cX12_partOf_0 4 rfl) rfl hl (by decide) rfl (fun ls hl => ?_)
  refine lv_iload_n hx hb (fk_get fk_cX12_partOf_0 5 rfl) rfl (lv_at hl 3 rfl) ?_
  refine lv_if_ne (tgt := 20) hx hb (fk_get fk_cX12_partOf_0 6 rfl) (by decide) (fun c_5 => ?_) (fun c_5 => ?_)
  · refine lv_iload_n hx hb (fk_get fk_cX12_partOf_0 12 rfl) rfl (lv_at hl 2 rfl) ?_
    refine lv_iload_n hx hb (fk_get fk_cX12_partOf_0 13 rfl) rfl (lv_at hl 0 rfl) ?_
    refine lv_idiv hx hb (fk_get fk_cX12_partOf_0 14 rfl) (hr0) ?_
    refine lv_i2l hx hb (fk_get fk_cX12_partOf_0 15 rfl) rfl ?_
    subst hQ
    have hpost : (((b_ / ((nI (Nat.gcd a b))))).toInt64 : Int64) = frP a b w_ := by
      first | exact fr_0 ha1 hb1 hb0 (by first | assumption | exact Decidable.not_not.mp (by assumption)) hea | exact fr_1 ha1 hb1 hb0 (by assumption) heb
    exact W.lret (v := ((b_ / ((nI (Nat.gcd a b))))).toInt64) hx hb hr (fun t_ ht_ hW_ => ⟨((b_ / ((nI (Nat.gcd a b))))).toInt64, rfl, hpost, ht_⟩) (fun q h => by cases h) (fk_get fk_cX12_partOf_0 16 rfl)
  refine lv_iload_n hx hb (fk_get fk_cX12_partOf_0 7 rfl) rfl (lv_at hl 1 rfl) ?_
  refine lv_iload_n hx hb (fk_get fk_cX12_partOf_0 8 rfl) rfl (lv_at hl 0 rfl) ?_
  refine lv_idiv hx hb (fk_get fk_cX12_partOf_0 9 rfl) (hr0) ?_
  refine lv_i2l hx hb (fk_get fk_cX12_partOf_0 10 rfl) rfl ?_
  refine lv_goto (tgt := 24) hx hb (fk_get fk_cX12_partOf_0 11 rfl) (by decide) ?_
  subst hQ
  have hpost : (((a_ / ((nI (Nat.gcd a b))))).toInt64 : Int64) = frP a b w_ := by
    first | exact fr_0 ha1 hb1 hb0 (by first | assumption | exact Decidable.not_not.mp (by assumption)) hea | exact fr_1 ha1 hb1 hb0 (by assumption) heb
  exact W.lret (v := ((a_ / ((nI (Nat.gcd a b))))).toInt64) hx hb hr (fun t_ ht_ hW_ => ⟨((a_ / ((nI (Nat.gcd a b))))).toInt64, rfl, hpost, ht_⟩) (fun q h => by cases h) (fk_get fk_cX12_partOf_0 16 rfl)
set_option maxHeartbeats 800000 in
set_option maxRecDepth 100000 in
theorem c_closeX (l : Launch) (G : GG) (ad : Nat → Nat) (S : FS) (sz : Nat) (S0 : FS) (b9 : Nat) (hMI : MI S0 S b9) : Met l yX12_close (Cond.code yX12_close cX12_close 1 none :: TBL) ({ frames := 4, cells := 0, slots := 0, locals := 116 } : Room) (PcW G (wR G ad S) sz [.ref (ad 0)]) (va_Qv (fun (S' : FS) => QP S0 S' ∧ ∀ k, 33 ≤ k → k ≤ 38 → fF S' 0 k = fF S 0 k) (fun S' t => BW G (va_A (wR G ad S) sz) (wR G ad S') t) (va_A (wR G ad S) sz)) 0 0 (va_A (wR G ad S) sz) := by
  refine Met.ofW (cc := cX12_close) (maxL := 1) (ret := none) (by decide) rfl ?_
  intro p e s m args below meth c₀ s₁ B hml hv
  obtain ⟨rfl, hsz, hP, hK, hD0⟩ := hv
  have hx := B.exec
  have hb := B.bytes
  have hr := B.returns
  have hT : ∀ w ∈ TBL, w.before ([.ref (ad 0)] : List Value).toArray s = true := fun w h => atoms_spec (ws := Cond.code yX12_close cX12_close 1 none :: TBL) B.pre w (List.mem_cons_of_mem _ h)
  have hown : s.vm.findClass "LittleMoreModel" = some m.cls := findClass_of_methodNamed B.named
  have hlocks := B.notSynchronized
  subst hsz
  have hD := hD0.self (sz := s.heap.size)
  generalize hAe : va_A (wR G ad S) s.heap.size = A at hD ⊢
  have hA : ∀ q : Nat, s.heap.size ≤ q → A q := fun q h => by rw [← hAe]; exact Or.inr h
  have hS : va_S A s.heap s.heap [] := va_S.rf
  have hP : va_P G.1 vwCl (wR G ad S) s.heap := hP
  have hl := lv_entry ([.ref (ad 0)]) (n := 1) (Nat.le_of_ble_eq_true rfl)
  rw [lg_entry_eq]
  generalize (lg_sl ([.ref (ad 0)]) ++ List.replicate (1 - (lg_sl ([.ref (ad 0)])).length) Slot.unset).toArray = ls at hl ⊢
  have hl : lv_has ls 1 [(0, .ref (ad 0))] := hl
  refine W_abs (fun Q hQ => ?_)
  generalize ([.ref (ad 0)] : List Value).toArray = args at hT hQ ⊢
  refine lv_aload_n hx hb (fk_get fk_cX12_close_0 0 rfl) rfl (lv_at hl 0 rfl) ?_
  refine lv_aload_n hx hb (fk_get fk_cX12_close_0 1 rfl) rfl (lv_at hl 0 rfl) ?_
  refine va_get (D := G.1) (ci := 14) (v := .ref (ad 4)) (C := RX12) (T := TX12) (N := 49) hx hb hT inX12 hown hK hP 0 (ix_at (by decide) (cR_0 G ad S)) rfl 9 (by decide) (hT _ m5_110) (fun _ h9 => h9) rfl (fk_get fk_cX12_close_0 2 rfl) ?_
  refine lv_iconst (v := 0) hx hb (fk_get fk_cX12_close_0 3 rfl) (by decide) ?_
  have hFc := va_self hD hS hA
  refine va_callv (va_runV (As := [.ref (ad 4), .int (0)]) (rest := []) ⟨hx, hb, hml, hown, hT⟩ (c_carryAll l G ad S s.heap.size (4) (fA S 4) (0) (by decide) (Or.inr ⟨rfl, fun _ => rfl⟩)) (tV 2 hT m6_14 m6_16 mp_18 m1_17 m6_17 rfl rfl (by decide +kernel) ⟨Nat.le_of_ble_eq_true rfl, Nat.le_of_ble_eq_true rfl⟩) ⟨PcW_blind, va_recv hK hP (ci := 14) (q0 := 0) rfl (ix_at (by decide) (cR_0 G ad S)), PcW_of hP hK hD _⟩ rfl rfl hl.1 rfl (lv_room (Nat.le_of_ble_eq_true rfl)) (fk_get fk_cX12_close_0 4 rfl) ⟨Nat.zero_le _, Nat.zero_le _⟩) hS (fun q _ h => hFc q h) hFc (fun S_3 t_ H locs ht_ hvm_ hw_2 hB_ hz_ hk_ hS => ?_)
  obtain ⟨hP, -, hD1_⟩ := hB_
  rw [ht_] at hP
  have hD : va_D A (wR G ad S_3) := hD1_.weaken (fun k q _ h => hFc q.1 h)
  try dsimp only at hw_2
  have hCA := hw_2
  refine lv_aload_n hx hb (fk_get fk_cX12_close_0 5 rfl) rfl (lv_at hl 0 rfl) ?_
  refine lv_iconst (v := 0) hx hb (fk_get fk_cX12_close_0 6 rfl) (by decide) ?_
  refine va_put (D := G.1) (ci := 14) (v := .int (0)) (ty := .boolean) (C := RX12) (T := TX12) (N := 49) hx hb hT inX12 tyX12 tyX12_ok nmX12 hown hK hP hD hS 0 (ix_at (by decide) (cR_0 G ad S_3)) rfl 15 (by decide) (hT _ m5_116) (fun _ h9 => h9) rfl (by decide +kernel) rfl rfl (Nat.le_of_ble_eq_true rfl) (fk_get fk_cX12_close_0 7 rfl) (fun H locs hP hD hS => ?_)
  rw [pR_isMind G ad S_3 (0)] at hP hD
  subst hQ
  have hpost : QP S0 (setF S_3 0 15 (0)) ∧ ∀ k, 33 ≤ k → k ≤ 38 → fF (setF S_3 0 15 (0)) 0 k = fF S 0 k := by
    exact ⟨MI_close hCA hMI, fun k a b => by rw [fF_setF, if_neg (by omega)]; exact hCA.2.1 k (by omega) (by omega) (by omega) (by omega) (by omega) (by omega) (by omega)⟩
  exact W.vret hx hb hr (fun t_ ht_ hW_ => ⟨⟨(setF S_3 0 15 (0)), rfl, hpost, by rw [ht_]; exact hP, va_K.moved hW_.alike hK, hD⟩, hS.F ht_⟩) hS.2.2 (fk_get fk_cX12_close_0 8 rfl)
set_option maxHeartbeats 800000 in
set_option maxRecDepth 100000 in
theorem c_meanX (l : Launch) (G : GG) (ad : Nat → Nat) (S : FS) (sz : Nat) (z : Nat) (τ : Nat → Int32) (C : ClU) (n : Nat) (n_ w_ : Int32) (hn : fF S 0 1 = nI n) (hn6 : n ≤ 6) (hHOK : HOK S) (hSV : SV 9999 S) (h15 : fF S 0 15 = 0) (hHX : HOX S z τ C) (h99 : N99 C) (hGC : ∀ d, d < n → GC 9999 (gR S d)) (hof : ∃ o : Nat, o ≤ 30 ∧ fF S 0 2 = nI o) : Met l yX12_mean (Cond.code yX12_mean cX12_mean 3 (some .long) :: TBL) ({ frames := 10, cells := 0, slots := 0, locals := 281 } : Room) (PcW G (wR G ad S) sz [.ref (ad 0), .int (n_), .int (w_)]) (va_Ql (fun (r : Int64) (S' : FS) => QP (setF S 0 8 0) S' ∧ r = meaP (fF S 0 2) (lstW 3 1 C) τ C n (gR S) n_ w_) (fun S' t => BW G (va_A (wR G ad S) sz) (wR G ad S') t) (va_A (wR G ad S) sz)) 0 0 (va_A (wR G ad S) sz) := by
  refine Met.ofW (cc := cX12_mean) (maxL := 3) (ret := (some .long)) (by decide) rfl ?_
  intro p e s m args below meth c₀ s₁ B hml hv
  obtain ⟨rfl, hsz, hP, hK, hD0⟩ := hv
  have hx := B.exec
  have hb := B.bytes
  have hr := B.returns
  have hT : ∀ w ∈ TBL, w.before ([.ref (ad 0), .int (n_), .int (w_)] : List Value).toArray s = true := fun w h => atoms_spec (ws := Cond.code yX12_mean cX12_mean 3 (some .long) :: TBL) B.pre w (List.mem_cons_of_mem _ h)
  have hown : s.vm.findClass "LittleMoreModel" = some m.cls := findClass_of_methodNamed B.named
  have hlocks := B.notSynchronized
  subst hsz
  have hD := hD0.self (sz := s.heap.size)
  generalize hAe : va_A (wR G ad S) s.heap.size = A at hD ⊢
  have hA : ∀ q : Nat, s.heap.size ≤ q → A q := fun q h => by rw [← hAe]; exact Or.inr h
  have hS : va_S A s.heap s.heap [] := va_S.rf
  have hP : va_P G.1 vwCl (wR G ad S) s.heap := hP
  have hl := lv_entry ([.ref (ad 0), .int (n_), .int (w_)]) (n := 3) (Nat.le_of_ble_eq_true rfl)
  rw [lg_entry_eq]
  generalize (lg_sl ([.ref (ad 0), .int (n_), .int (w_)]) ++ List.replicate (3 - (lg_sl ([.ref (ad 0), .int (n_), .int (w_)])).length) Slot.unset).toArray = ls at hl ⊢
  have hl : lv_has ls 3 [(0, .ref (ad 0)), (1, .int (n_)), (2, .int (w_))] := hl
  refine W_abs (fun Q hQ => ?_)
  generalize ([.ref (ad 0), .int (n_), .int (w_)] : List Value).toArray = args at hT hQ ⊢
  refine lv_aload_n hx hb (fk_get fk_cX12_mean_0 0 rfl) rfl (lv_at hl 0 rfl) ?_
  refine lv_iconst (v := 0) hx hb (fk_get fk_cX12_mean_0 1 rfl) (by decide) ?_
  refine va_put (D := G.1) (ci := 14) (v := .int (0)) (ty := .int) (C := RX12) (T := TX12) (N := 49) hx hb hT inX12 tyX12 tyX12_ok nmX12 hown hK hP hD hS 0 (ix_at (by decide) (cR_0 G ad S)) rfl 8 (by decide) (hT _ m5_109) (fun _ h9 => h9) rfl (by decide +kernel) rfl rfl (Nat.le_of_ble_eq_true rfl) (fk_get fk_cX12_mean_0 2 rfl) (fun H locs hP hD hS => ?_)
  rw [pR_thrown G ad S (0)] at hP hD
  refine lv_iload_n hx hb (fk_get fk_cX12_mean_0 3 rfl) rfl (lv_at hl 1 rfl) ?_
  refine lv_i2l hx hb (fk_get fk_cX12_mean_0 4 rfl) rfl ?_
  refine lv_lconst (v := 1) hx hb (fk_get fk_cX12_mean_0 5 rfl) (by decide) ?_
  refine lv_ldc2 (v := 40) hx hb hown (hT _ m6_217) (fk_get fk_cX12_mean_0 6 rfl) ?_
  refine vp_callSi (W.runS (As := [.long ((n_).toInt64), .long (1), .long (40)]) (rest := []) ⟨hx, hb, hml, hown, hT⟩ (c_in l ((n_).toInt64) (1) (40) ) (tS 3 hT m6_31 m6_32 m1_17 m6_33 rfl rfl (by decide +kernel) ⟨Nat.le_of_ble_eq_true rfl, Nat.le_of_ble_eq_true rfl⟩) ⟨PcN_blind, PcN_of _ _ _⟩ rfl rfl hl.1 rfl (lv_room (Nat.le_of_ble_eq_true rfl)) (fk_get fk_cX12_mean_0 7 rfl) ⟨Nat.zero_le _, Nat.zero_le _⟩) (fun r_1 hw_2 => ?_)
  try dsimp only at hw_2
  have hw_2 := in_eq hw_2 (n_) 1 40 (rfl) (by decide) (by decide)
  refine lv_if_eq (tgt := 27) hx hb (fk_get fk_cX12_mean_0 8 rfl) (by decide) (fun c_3 => ?_) (fun c_3 => ?_)
  · have p_c_3 := if1_f hw_2 c_3
    refine lv_ldc2 (v := (-9223372036854775808)) hx hb hown (hT _ m7_52) (fk_get fk_cX12_mean_0 15 rfl) ?_
    subst hQ
    have hpost : QP (setF S 0 8 0) (setF S 0 8 (0)) ∧ ((-9223372036854775808) : Int64) = meaP (fF S 0 2) (lstW 3 1 C) τ C n (gR S) n_ w_ := by
      first | exact ⟨QP.rf h15, mea_1 (Or.inl (by assumption))⟩ | exact ⟨QP.rf h15, mea_1 (Or.inr (by assumption))⟩ | exact ⟨hZq, mea_2 hpn hw_ rfl rfl (fr_z hb0)⟩ | exact ⟨hZq, mea_2 hpn hw_ rfl rfl hpo_⟩
    exact W.lret (v := (-9223372036854775808)) hx hb hr (fun t_ ht_ hW_ => ⟨⟨(-9223372036854775808), (setF S 0 8 (0)), rfl, hpost, by rw [ht_]; exact hP, va_K.moved hW_.alike hK, hD⟩, hS.F ht_⟩) hS.2.2 (fk_get fk_cX12_mean_0 16 rfl)
  have p_c_3 := if1_t hw_2 c_3
  have hpn := p_c_3
  refine lv_iload_n hx hb (fk_get fk_cX12_mean_0 9 rfl) rfl (lv_at hl 2 rfl) ?_
  refine lv_i2l hx hb (fk_get fk_cX12_mean_0 10 rfl) rfl ?_
  refine lv_lconst (v := 0) hx hb (fk_get fk_cX12_mean_0 11 rfl) (by decide) ?_
  refine lv_lconst (v := 1) hx hb (fk_get fk_cX12_mean_0 12 rfl) (by decide) ?_
  refine vp_callSi (W.runS (As := [.long ((w_).toInt64), .long (0), .long (1)]) (rest := []) ⟨hx, hb, hml, hown, hT⟩ (c_in l ((w_).toInt64) (0) (1) ) (tS 3 hT m6_31 m6_32 m1_17 m6_33 rfl rfl (by decide +kernel) ⟨Nat.le_of_ble_eq_true rfl, Nat.le_of_ble_eq_true rfl⟩) ⟨PcN_blind, PcN_of _ _ _⟩ rfl rfl hl.1 rfl (lv_room (Nat.le_of_ble_eq_true rfl)) (fk_get fk_cX12_mean_0 13 rfl) ⟨Nat.zero_le _, Nat.zero_le _⟩) (fun r_4 hw_5 => ?_)
  try dsimp only at hw_5
  have hw_5 := in_eq hw_5 (w_) 0 1 (rfl) (by decide) (by decide)
  refine lv_if_ne (tgt := 31) hx hb (fk_get fk_cX12_mean_0 14 rfl) (by decide) (fun c_6 => ?_) (fun c_6 => ?_)
  · have p_c_6 := if1_t hw_5 c_6
    obtain ⟨hw40, ew⟩ := in_n (b := 40) ⟨Int32.le_trans (by decide) hpn.1, hpn.2⟩ (by decide)
    have hw_ := p_c_6
    refine lv_aload_n hx hb (fk_get fk_cX12_mean_0 17 rfl) rfl (lv_at hl 0 rfl) ?_
    have hFc := va_self hD hS hA
    refine va_callv (va_runV (As := []) (rest := []) ⟨hx, hb, hml, hown, hT⟩ (c_openX l G ad (setF S 0 8 (0)) H.size (9999) (hSV)) (tV 0 hT m6_218 m6_220 mp_49 m1_17 m6_221 rfl rfl (by decide +kernel) ⟨Nat.le_of_ble_eq_true rfl, Nat.le_of_ble_eq_true rfl⟩) ⟨PcW_blind, va_recv hK hP (ci := 14) (q0 := 0) rfl (ix_at (by decide) (cR_0 G ad (setF S 0 8 (0)))), PcW_of hP hK hD _⟩ rfl rfl hl.1 rfl (lv_room (Nat.le_of_ble_eq_true rfl)) (fk_get fk_cX12_mean_0 18 rfl) ⟨Nat.zero_le _, Nat.zero_le _⟩) hS (fun q _ h => hFc q h) hFc (fun S_9 t_ H locs ht_ hvm_ hw_8 hB_ hz_ hk_ hS => ?_)
    obtain ⟨hP, -, hD1_⟩ := hB_
    rw [ht_] at hP
    have hD : va_D A (wR G ad S_9) := hD1_.weaken (fun k q _ h => hFc q.1 h)
    try dsimp only at hw_8
    obtain ⟨hI0, hg0_, ho0_⟩ := hw_8
    have hg0_ : ∀ d, d < 6 → gR S_9 d = gR S d := hg0_
    have ho0_ : fF S_9 0 2 = fF S 0 2 := ho0_
    have h10_ : fF S_9 0 15 = 1 := hI0.2.2.1
    refine lv_aload_n hx hb (fk_get fk_cX12_mean_0 19 rfl) rfl (lv_at hl 0 rfl) ?_
    refine lv_iload_n hx hb (fk_get fk_cX12_mean_0 20 rfl) rfl (lv_at hl 1 rfl) ?_
    have hFc := va_self hD hS hA
    refine va_callv (va_runV (As := [.int (n_)]) (rest := []) ⟨hx, hb, hml, hown, hT⟩ (c_saturdaysOnXE l G ad S_9 H.size (z) (τ) (C) (n) (9999) (n_.toNatClampNeg) (hI0.f (by decide) hn) (hn6) (hI0.HOK hHOK) ((HOX.MI (S := (setF S 0 8 0)) hHX hI0)) (hI0.SV) (by omega) (by omega) (n_) (ew)) (tV 1 hT m6_204 m6_206 mp_47 m1_17 m6_207 rfl rfl (by decide +kernel) ⟨Nat.le_of_ble_eq_true rfl, Nat.le_of_ble_eq_true rfl⟩) ⟨PcW_blind, va_recv hK hP (ci := 14) (q0 := 0) rfl (ix_at (by decide) (cR_0 G ad S_9)), PcW_of hP hK hD _⟩ rfl rfl hl.1 rfl (lv_room (Nat.le_of_ble_eq_true rfl)) (fk_get fk_cX12_mean_0 21 rfl) ⟨Nat.zero_le _, Nat.zero_le _⟩) hS (fun q _ h => hFc q h) hFc (fun S_12 t_ H locs ht_ hvm_ hw_11 hB_ hz_ hk_ hS => ?_)
    obtain ⟨hP, -, hD1_⟩ := hB_
    rw [ht_] at hP
    have hD : va_D A (wR G ad S_12) := hD1_.weaken (fun k q _ h => hFc q.1 h)
    try dsimp only at hw_11
    obtain ⟨hM2, hS2, -, -, hbs_, hks_, hvs_⟩ := hw_11
    have hI1 := hI0.M hM2 hS2
    rw [h10_, ho0_, cut_cg (n := n) (fun d hd => hg0_ d (by omega))] at hbs_ hks_ hvs_
    obtain ⟨hme_, aa, haa_, eks_, ebs_⟩ := me_b (τ := τ) (ln := (lstW 3 1 C)) h99 hn6 hof n_.toNatClampNeg 9999 (cutF n (gR S)) (by omega) (cut_gc hGC)
    have hvl_ : (vsF 1 (fF S 0 2) (lstW 3 1 C) τ C n n_.toNatClampNeg (cutF n (gR S))) ≤ 240 := Nat.le_trans (vn_le _ _) (by have z_ := Nat.mul_le_mul hn6 hw40; omega)
    refine lv_aload_n hx hb (fk_get fk_cX12_mean_0 22 rfl) rfl (lv_at hl 0 rfl) ?_
    have hFc := va_self hD hS hA
    refine va_callv (va_runV (As := []) (rest := []) ⟨hx, hb, hml, hown, hT⟩ (c_closeX l G ad S_12 H.size ((setF S 0 8 0)) (9999 + n_.toNatClampNeg) (hI1)) (tV 0 hT m6_226 m6_228 mp_51 m1_17 m6_229 rfl rfl (by decide +kernel) ⟨Nat.le_of_ble_eq_true rfl, Nat.le_of_ble_eq_true rfl⟩) ⟨PcW_blind, va_recv hK hP (ci := 14) (q0 := 0) rfl (ix_at (by decide) (cR_0 G ad S_12)), PcW_of hP hK hD _⟩ rfl rfl hl.1 rfl (lv_room (Nat.le_of_ble_eq_true rfl)) (fk_get fk_cX12_mean_0 23 rfl) ⟨Nat.zero_le _, Nat.zero_le _⟩) hS (fun q _ h => hFc q h) hFc (fun S_15 t_ H locs ht_ hvm_ hw_14 hB_ hz_ hk_ hS => ?_)
    obtain ⟨hP, -, hD1_⟩ := hB_
    rw [ht_] at hP
    have hD : va_D A (wR G ad S_15) := hD1_.weaken (fun k q _ h => hFc q.1 h)
    try dsimp only at hw_14
    obtain ⟨hZq, hkf_⟩ := hw_14
    rw [← hkf_ 36 (by omega) (by omega)] at hbs_
    rw [← hkf_ 37 (by omega) (by omega)] at hks_
    rw [← hkf_ 38 (by omega) (by omega)] at hvs_
    have hvq_ : fF S_15 0 38 = nI (vsF 1 (fF S 0 2) (lstW 3 1 C) τ C n n_.toNatClampNeg (cutF n (gR S))) := hvs_
    refine lv_aload_n hx hb (fk_get fk_cX12_mean_0 24 rfl) rfl (lv_at hl 0 rfl) ?_
    refine va_get (D := G.1) (ci := 14) (v := .int ((fF S_15 0 38))) (C := RX12) (T := TX12) (N := 49) hx hb hT inX12 hown hK hP 0 (ix_at (by decide) (cR_0 G ad S_15)) rfl 38 (by decide) (hT _ m5_139) (fun _ h9 => h9) rfl (fk_get fk_cX12_mean_0 25 rfl) ?_
    refine lv_if_ne (tgt := 57) hx hb (fk_get fk_cX12_mean_0 26 rfl) (by decide) (fun c_16 => ?_) (fun c_16 => ?_)
    · have hb0 : ¬ (vsF 1 (fF S 0 2) (lstW 3 1 C) τ C n n_.toNatClampNeg (cutF n (gR S))) = 0 := fun q => c_16 (by rw [hvq_, q]; rfl)
      refine lv_aload_n hx hb (fk_get fk_cX12_mean_0 29 rfl) rfl (lv_at hl 0 rfl) ?_
      refine va_get (D := G.1) (ci := 14) (v := .int ((fF S_15 0 36))) (C := RX12) (T := TX12) (N := 49) hx hb hT inX12 hown hK hP 0 (ix_at (by decide) (cR_0 G ad S_15)) rfl 36 (by decide) (hT _ m5_137) (fun _ h9 => h9) rfl (fk_get fk_cX12_mean_0 30 rfl) ?_
      refine lv_aload_n hx hb (fk_get fk_cX12_mean_0 31 rfl) rfl (lv_at hl 0 rfl) ?_
      refine va_get (D := G.1) (ci := 14) (v := .int ((fF S_15 0 37))) (C := RX12) (T := TX12) (N := 49) hx hb hT inX12 hown hK hP 0 (ix_at (by decide) (cR_0 G ad S_15)) rfl 37 (by decide) (hT _ m5_138) (fun _ h9 => h9) rfl (fk_get fk_cX12_mean_1 0 rfl) ?_
      refine lv_isub hx hb (fk_get fk_cX12_mean_1 1 rfl) ?_
      refine lv_aload_n hx hb (fk_get fk_cX12_mean_1 2 rfl) rfl (lv_at hl 0 rfl) ?_
      refine va_get (D := G.1) (ci := 14) (v := .int ((fF S_15 0 38))) (C := RX12) (T := TX12) (N := 49) hx hb hT inX12 hown hK hP 0 (ix_at (by decide) (cR_0 G ad S_15)) rfl 38 (by decide) (hT _ m5_139) (fun _ h9 => h9) rfl (fk_get fk_cX12_mean_1 3 rfl) ?_
      refine lv_iload_n hx hb (fk_get fk_cX12_mean_1 4 rfl) rfl (lv_at hl 2 rfl) ?_
      refine vp_callSl (W.runS (As := [.int (((fF S_15 0 36) - (fF S_15 0 37))), .int ((fF S_15 0 38)), .int (w_)]) (rest := []) ⟨hx, hb, hml, hown, hT⟩ (c_partOfX l ((meN (fF S 0 2) (lstW 3 1 C) τ C n n_.toNatClampNeg (cutF n (gR S)))) ((vsF 1 (fF S 0 2) (lstW 3 1 C) τ C n n_.toNatClampNeg (cutF n (gR S)))) (((fF S_15 0 36) - (fF S_15 0 37))) ((fF S_15 0 38)) (w_) ((by show fF _ 0 36 - fF _ 0 37 = _; rw [hbs_, hks_, ebs_, eks_, pk_sub (by omega)]; exact congrArg nI (by omega))) (hvs_) (by omega) (by omega) (hb0)) (tS 3 hT m7_53 m7_54 m1_17 m7_55 rfl rfl (by decide +kernel) ⟨Nat.le_of_ble_eq_true rfl, Nat.le_of_ble_eq_true rfl⟩) ⟨PcN_blind, PcN_of _ _ _⟩ rfl rfl hl.1 rfl (lv_room (Nat.le_of_ble_eq_true rfl)) (fk_get fk_cX12_mean_1 5 rfl) ⟨Nat.zero_le _, Nat.zero_le _⟩) (fun r_17 hw_18 => ?_)
      try dsimp only at hw_18
      have hpo_ := hw_18
      subst hQ
      have hpost : QP (setF S 0 8 0) S_15 ∧ (r_17 : Int64) = meaP (fF S 0 2) (lstW 3 1 C) τ C n (gR S) n_ w_ := by
        first | exact ⟨QP.rf h15, mea_1 (Or.inl (by assumption))⟩ | exact ⟨QP.rf h15, mea_1 (Or.inr (by assumption))⟩ | exact ⟨hZq, mea_2 hpn hw_ rfl rfl (fr_z hb0)⟩ | exact ⟨hZq, mea_2 hpn hw_ rfl rfl hpo_⟩
      exact W.lret (v := r_17) hx hb hr (fun t_ ht_ hW_ => ⟨⟨r_17, S_15, rfl, hpost, by rw [ht_]; exact hP, va_K.moved hW_.alike hK, hD⟩, hS.F ht_⟩) hS.2.2 (fk_get fk_cX12_mean_1 6 rfl)
    have hb0 : (vsF 1 (fF S 0 2) (lstW 3 1 C) τ C n n_.toNatClampNeg (cutF n (gR S))) = 0 := (nI_eq (b := 0) (by omega) (by omega)).mp (hvq_.symm.trans (by first | exact c_16 | exact Decidable.not_not.mp c_16))
    refine lv_ldc2 (v := (-9223372036854775808)) hx hb hown (hT _ m7_52) (fk_get fk_cX12_mean_0 27 rfl) ?_
    refine lv_goto (tgt := 74) hx hb (fk_get fk_cX12_mean_0 28 rfl) (by decide) ?_
    subst hQ
    have hpost : QP (setF S 0 8 0) S_15 ∧ ((-9223372036854775808) : Int64) = meaP (fF S 0 2) (lstW 3 1 C) τ C n (gR S) n_ w_ := by
      first | exact ⟨QP.rf h15, mea_1 (Or.inl (by assumption))⟩ | exact ⟨QP.rf h15, mea_1 (Or.inr (by assumption))⟩ | exact ⟨hZq, mea_2 hpn hw_ rfl rfl (fr_z hb0)⟩ | exact ⟨hZq, mea_2 hpn hw_ rfl rfl hpo_⟩
    exact W.lret (v := (-9223372036854775808)) hx hb hr (fun t_ ht_ hW_ => ⟨⟨(-9223372036854775808), S_15, rfl, hpost, by rw [ht_]; exact hP, va_K.moved hW_.alike hK, hD⟩, hS.F ht_⟩) hS.2.2 (fk_get fk_cX12_mean_1 6 rfl)
  have p_c_6 := if1_f hw_5 c_6
  refine lv_ldc2 (v := (-9223372036854775808)) hx hb hown (hT _ m7_52) (fk_get fk_cX12_mean_0 15 rfl) ?_
  subst hQ
  have hpost : QP (setF S 0 8 0) (setF S 0 8 (0)) ∧ ((-9223372036854775808) : Int64) = meaP (fF S 0 2) (lstW 3 1 C) τ C n (gR S) n_ w_ := by
    first | exact ⟨QP.rf h15, mea_1 (Or.inl (by assumption))⟩ | exact ⟨QP.rf h15, mea_1 (Or.inr (by assumption))⟩ | exact ⟨hZq, mea_2 hpn hw_ rfl rfl (fr_z hb0)⟩ | exact ⟨hZq, mea_2 hpn hw_ rfl rfl hpo_⟩
  exact W.lret (v := (-9223372036854775808)) hx hb hr (fun t_ ht_ hW_ => ⟨⟨(-9223372036854775808), (setF S 0 8 (0)), rfl, hpost, by rw [ht_]; exact hP, va_K.moved hW_.alike hK, hD⟩, hS.F ht_⟩) hS.2.2 (fk_get fk_cX12_mean_0 16 rfl)
set_option maxHeartbeats 800000 in
set_option maxRecDepth 100000 in
theorem c_oddsX (l : Launch) (G : GG) (ad : Nat → Nat) (S : FS) (sz : Nat) (z : Nat) (τ : Nat → Int32) (C : ClU) (n : Nat) (n_ w_ : Int32) (hn : fF S 0 1 = nI n) (hn6 : n ≤ 6) (hHOK : HOK S) (hSV : SV 9999 S) (h15 : fF S 0 15 = 0) (hHX : HOX S z τ C) : Met l yX12_odds (Cond.code yX12_odds cX12_odds 6 (some .long) :: TBL) ({ frames := 10, cells := 0, slots := 0, locals := 281 } : Room) (PcW G (wR G ad S) sz [.ref (ad 0), .int (n_), .int (w_)]) (va_Ql (fun (r : Int64) (S' : FS) => QP (setF S 0 8 0) S' ∧ r = oddP (fF S 0 2) (lstW 3 1 C) τ C n (gR S) n_ w_) (fun S' t => BW G (va_A (wR G ad S) sz) (wR G ad S') t) (va_A (wR G ad S) sz)) 0 0 (va_A (wR G ad S) sz) := by
  refine Met.ofW (cc := cX12_odds) (maxL := 6) (ret := (some .long)) (by decide) rfl ?_
  intro p e s m args below meth c₀ s₁ B hml hv
  obtain ⟨rfl, hsz, hP, hK, hD0⟩ := hv
  have hx := B.exec
  have hb := B.bytes
  have hr := B.returns
  have hT : ∀ w ∈ TBL, w.before ([.ref (ad 0), .int (n_), .int (w_)] : List Value).toArray s = true := fun w h => atoms_spec (ws := Cond.code yX12_odds cX12_odds 6 (some .long) :: TBL) B.pre w (List.mem_cons_of_mem _ h)
  have hown : s.vm.findClass "LittleMoreModel" = some m.cls := findClass_of_methodNamed B.named
  have hlocks := B.notSynchronized
  subst hsz
  have hD := hD0.self (sz := s.heap.size)
  generalize hAe : va_A (wR G ad S) s.heap.size = A at hD ⊢
  have hA : ∀ q : Nat, s.heap.size ≤ q → A q := fun q h => by rw [← hAe]; exact Or.inr h
  have hS : va_S A s.heap s.heap [] := va_S.rf
  have hP : va_P G.1 vwCl (wR G ad S) s.heap := hP
  have hl := lv_entry ([.ref (ad 0), .int (n_), .int (w_)]) (n := 6) (Nat.le_of_ble_eq_true rfl)
  rw [lg_entry_eq]
  generalize (lg_sl ([.ref (ad 0), .int (n_), .int (w_)]) ++ List.replicate (6 - (lg_sl ([.ref (ad 0), .int (n_), .int (w_)])).length) Slot.unset).toArray = ls at hl ⊢
  have hl : lv_has ls 6 [(0, .ref (ad 0)), (1, .int (n_)), (2, .int (w_))] := hl
  refine W_abs (fun Q hQ => ?_)
  generalize ([.ref (ad 0), .int (n_), .int (w_)] : List Value).toArray = args at hT hQ ⊢
  refine lv_aload_n hx hb (fk_get fk_cX12_odds_0 0 rfl) rfl (lv_at hl 0 rfl) ?_
  refine lv_iconst (v := 0) hx hb (fk_get fk_cX12_odds_0 1 rfl) (by decide) ?_
  refine va_put (D := G.1) (ci := 14) (v := .int (0)) (ty := .int) (C := RX12) (T := TX12) (N := 49) hx hb hT inX12 tyX12 tyX12_ok nmX12 hown hK hP hD hS 0 (ix_at (by decide) (cR_0 G ad S)) rfl 8 (by decide) (hT _ m5_109) (fun _ h9 => h9) rfl (by decide +kernel) rfl rfl (Nat.le_of_ble_eq_true rfl) (fk_get fk_cX12_odds_0 2 rfl) (fun H locs hP hD hS => ?_)
  rw [pR_thrown G ad S (0)] at hP hD
  refine lv_iload_n hx hb (fk_get fk_cX12_odds_0 3 rfl) rfl (lv_at hl 1 rfl) ?_
  refine lv_i2l hx hb (fk_get fk_cX12_odds_0 4 rfl) rfl ?_
  refine lv_lconst (v := 0) hx hb (fk_get fk_cX12_odds_0 5 rfl) (by decide) ?_
  refine lv_ldc2 (v := 40) hx hb hown (hT _ m6_217) (fk_get fk_cX12_odds_0 6 rfl) ?_
  refine vp_callSi (W.runS (As := [.long ((n_).toInt64), .long (0), .long (40)]) (rest := []) ⟨hx, hb, hml, hown, hT⟩ (c_in l ((n_).toInt64) (0) (40) ) (tS 3 hT m6_31 m6_32 m1_17 m6_33 rfl rfl (by decide +kernel) ⟨Nat.le_of_ble_eq_true rfl, Nat.le_of_ble_eq_true rfl⟩) ⟨PcN_blind, PcN_of _ _ _⟩ rfl rfl hl.1 rfl (lv_room (Nat.le_of_ble_eq_true rfl)) (fk_get fk_cX12_odds_0 7 rfl) ⟨Nat.zero_le _, Nat.zero_le _⟩) (fun r_1 hw_2 => ?_)
  try dsimp only at hw_2
  have hw_2 := in_eq hw_2 (n_) 0 40 (rfl) (by decide) (by decide)
  refine lv_if_eq (tgt := 27) hx hb (fk_get fk_cX12_odds_0 8 rfl) (by decide) (fun c_3 => ?_) (fun c_3 => ?_)
  · have p_c_3 := if1_f hw_2 c_3
    refine lv_ldc2 (v := (-9223372036854775808)) hx hb hown (hT _ m7_52) (fk_get fk_cX12_odds_0 15 rfl) ?_
    subst hQ
    have hpost : QP (setF S 0 8 0) (setF S 0 8 (0)) ∧ ((-9223372036854775808) : Int64) = oddP (fF S 0 2) (lstW 3 1 C) τ C n (gR S) n_ w_ := by
      first | exact ⟨QP.rf h15, odd_1 (Or.inl (by assumption))⟩ | exact ⟨QP.rf h15, odd_1 (Or.inr (by assumption))⟩ | exact ⟨hZq, odd_2 hpn hw_ rfl rfl (fr_z hb0)⟩ | exact ⟨hZq, odd_2 hpn hw_ rfl rfl hpo_⟩
    exact W.lret (v := (-9223372036854775808)) hx hb hr (fun t_ ht_ hW_ => ⟨⟨(-9223372036854775808), (setF S 0 8 (0)), rfl, hpost, by rw [ht_]; exact hP, va_K.moved hW_.alike hK, hD⟩, hS.F ht_⟩) hS.2.2 (fk_get fk_cX12_odds_0 16 rfl)
  have p_c_3 := if1_t hw_2 c_3
  have hpn := p_c_3
  refine lv_iload_n hx hb (fk_get fk_cX12_odds_0 9 rfl) rfl (lv_at hl 2 rfl) ?_
  refine lv_i2l hx hb (fk_get fk_cX12_odds_0 10 rfl) rfl ?_
  refine lv_lconst (v := 0) hx hb (fk_get fk_cX12_odds_0 11 rfl) (by decide) ?_
  refine lv_lconst (v := 1) hx hb (fk_get fk_cX12_odds_0 12 rfl) (by decide) ?_
  refine vp_callSi (W.runS (As := [.long ((w_).toInt64), .long (0), .long (1)]) (rest := []) ⟨hx, hb, hml, hown, hT⟩ (c_in l ((w_).toInt64) (0) (1) ) (tS 3 hT m6_31 m6_32 m1_17 m6_33 rfl rfl (by decide +kernel) ⟨Nat.le_of_ble_eq_true rfl, Nat.le_of_ble_eq_true rfl⟩) ⟨PcN_blind, PcN_of _ _ _⟩ rfl rfl hl.1 rfl (lv_room (Nat.le_of_ble_eq_true rfl)) (fk_get fk_cX12_odds_0 13 rfl) ⟨Nat.zero_le _, Nat.zero_le _⟩) (fun r_4 hw_5 => ?_)
  try dsimp only at hw_5
  have hw_5 := in_eq hw_5 (w_) 0 1 (rfl) (by decide) (by decide)
  refine lv_if_ne (tgt := 31) hx hb (fk_get fk_cX12_odds_0 14 rfl) (by decide) (fun c_6 => ?_) (fun c_6 => ?_)
  · have p_c_6 := if1_t hw_5 c_6
    obtain ⟨hw40, ew⟩ := in_n (b := 40) hpn (by decide)
    have hw_ := p_c_6
    refine lv_iconst (v := 0) hx hb (fk_get fk_cX12_odds_0 17 rfl) (by decide) ?_
    refine lv_istore_n (lv' := [(3, .int (0)), (0, .ref (ad 0)), (1, .int (n_)), (2, .int (w_))]) hx hb (fk_get fk_cX12_odds_0 18 rfl) rfl hl (by decide) rfl (fun ls hl => ?_)
    refine lv_iconst (v := 0) hx hb (fk_get fk_cX12_odds_0 19 rfl) (by decide) ?_
    refine lv_istore (lv' := [(4, .int (0)), (3, .int (0)), (0, .ref (ad 0)), (1, .int (n_)), (2, .int (w_))]) hx hb (fk_get fk_cX12_odds_0 20 rfl) hl (by decide) rfl (fun ls hl => ?_)
    refine lv_aload_n hx hb (fk_get fk_cX12_odds_0 21 rfl) rfl (lv_at hl 2 rfl) ?_
    have hFc := va_self hD hS hA
    refine va_callv (va_runV (As := []) (rest := []) ⟨hx, hb, hml, hown, hT⟩ (c_openX l G ad (setF S 0 8 (0)) H.size (9999) (hSV)) (tV 0 hT m6_218 m6_220 mp_49 m1_17 m6_221 rfl rfl (by decide +kernel) ⟨Nat.le_of_ble_eq_true rfl, Nat.le_of_ble_eq_true rfl⟩) ⟨PcW_blind, va_recv hK hP (ci := 14) (q0 := 0) rfl (ix_at (by decide) (cR_0 G ad (setF S 0 8 (0)))), PcW_of hP hK hD _⟩ rfl rfl hl.1 rfl (lv_room (Nat.le_of_ble_eq_true rfl)) (fk_get fk_cX12_odds_0 22 rfl) ⟨Nat.zero_le _, Nat.zero_le _⟩) hS (fun q _ h => hFc q h) hFc (fun S_9 t_ H locs ht_ hvm_ hw_8 hB_ hz_ hk_ hS => ?_)
    obtain ⟨hP, -, hD1_⟩ := hB_
    rw [ht_] at hP
    have hD : va_D A (wR G ad S_9) := hD1_.weaken (fun k q _ h => hFc q.1 h)
    try dsimp only at hw_8
    obtain ⟨hI0, hg0_, ho0_⟩ := hw_8
    have hg0_ : ∀ d, d < 6 → gR S_9 d = gR S d := hg0_
    have ho0_ : fF S_9 0 2 = fF S 0 2 := ho0_
    have h10_ : fF S_9 0 15 = 1 := hI0.2.2.1
    refine lv_aload_n hx hb (fk_get fk_cX12_odds_0 23 rfl) rfl (lv_at hl 2 rfl) ?_
    refine lv_iload_n hx hb (fk_get fk_cX12_odds_0 24 rfl) rfl (lv_at hl 3 rfl) ?_
    have hFc := va_self hD hS hA
    refine va_callv (va_runV (As := [.int (n_)]) (rest := []) ⟨hx, hb, hml, hown, hT⟩ (c_saturdaysOnXE l G ad S_9 H.size (z) (τ) (C) (n) (9999) (n_.toNatClampNeg) (hI0.f (by decide) hn) (hn6) (hI0.HOK hHOK) ((HOX.MI (S := (setF S 0 8 0)) hHX hI0)) (hI0.SV) (by omega) (by omega) (n_) (ew)) (tV 1 hT m6_204 m6_206 mp_47 m1_17 m6_207 rfl rfl (by decide +kernel) ⟨Nat.le_of_ble_eq_true rfl, Nat.le_of_ble_eq_true rfl⟩) ⟨PcW_blind, va_recv hK hP (ci := 14) (q0 := 0) rfl (ix_at (by decide) (cR_0 G ad S_9)), PcW_of hP hK hD _⟩ rfl rfl hl.1 rfl (lv_room (Nat.le_of_ble_eq_true rfl)) (fk_get fk_cX12_odds_0 25 rfl) ⟨Nat.zero_le _, Nat.zero_le _⟩) hS (fun q _ h => hFc q h) hFc (fun S_12 t_ H locs ht_ hvm_ hw_11 hB_ hz_ hk_ hS => ?_)
    obtain ⟨hP, -, hD1_⟩ := hB_
    rw [ht_] at hP
    have hD : va_D A (wR G ad S_12) := hD1_.weaken (fun k q _ h => hFc q.1 h)
    try dsimp only at hw_11
    obtain ⟨hM2, hS2, -, hG2, -⟩ := hw_11
    have hI1 := (hI0.M hM2 hS2).mono (C := 11000) (by omega)
    rw [h10_, ho0_, cut_cg (n := n) (G := gR _) (G' := gR S) (fun d hd => hg0_ d (by omega))] at hG2
    have hO1_ : fF S_12 0 2 = fF S 0 2 := (hM2.2.2.1 2 (by omega) (by omega) (by omega) (by omega) (by omega) (by omega)).trans ho0_
    refine lv_iconst (v := 0) hx hb (fk_get fk_cX12_odds_0 26 rfl) (by decide) ?_
    refine lv_istore (lv' := [(5, .int (0)), (4, .int (0)), (3, .int (0)), (0, .ref (ad 0)), (1, .int (n_)), (2, .int (w_))]) hx hb (fk_get fk_cX12_odds_0 27 rfl) hl (by decide) rfl (fun ls hl => ?_)
    have lp_13 : ∀ (fu : Nat) (k : Nat) (v3 v4 : Int32) (SL : FS) (H_15 : Heap) (locs_16 : List Loc) (ls : Array Slot),  (k ≤ n) → (n < k + fu) → (MI (setF S 0 8 0) SL 11000) → (fF SL 0 2 = fF S 0 2) → (∀ d, d < n → gR SL d = (stF 1 (fF S 0 2) (lstW 3 1 C) τ C n n_.toNatClampNeg (cutF n (gR S))) d) → (v3 = nI (rfN (fF S 0 2) τ C (stF 1 (fF S 0 2) (lstW 3 1 C) τ C n n_.toNatClampNeg (cutF n (gR S))) k)) → (v4 = nI (stN (stF 1 (fF S 0 2) (lstW 3 1 C) τ C n n_.toNatClampNeg (cutF n (gR S))) k)) → va_P G.1 vwCl (wR G ad SL) H_15 → va_D A (wR G ad SL) → va_S A s.heap H_15 locs_16 → lv_has ls 6 [(5, .int ((nI k))), (4, .int (v4)), (3, .int (v3)), (0, .ref (ad 0)), (1, .int (n_)), (2, .int (w_))] → W p l e ({ frames := 10, cells := 0, slots := 0, locals := 281 } : Room) s m args below meth c₀ H_15 locs_16 0 0 Q (F0 m 48 ls []) := by
      intro fu
      induction fu with
      | zero =>
        intro k v3 v4 SL H_15 locs_16 ls hk hf hI hO hgY h3_ h4_ hP hD hS hl
        exact absurd hf (by omega)
      | succ fu ih =>
        intro k v3 v4 SL H_15 locs_16 ls hk hf hI hO hgY h3_ h4_ hP hD hS hl
        refine lv_iload hx hb (fk_get fk_cX12_odds_0 28 rfl) (lv_at hl 0 rfl) ?_
        refine lv_aload_n hx hb (fk_get fk_cX12_odds_0 29 rfl) rfl (lv_at hl 3 rfl) ?_
        refine va_get (D := G.1) (ci := 14) (v := .int ((fF SL 0 1))) (C := RX12) (T := TX12) (N := 49) hx hb hT inX12 hown hK hP 0 (ix_at (by decide) (cR_0 G ad SL)) rfl 1 (by decide) (hT _ m5_102) (fun _ h9 => h9) rfl (fk_get fk_cX12_odds_0 30 rfl) ?_
        refine lv_icmp_ge (tgt := 108) hx hb (fk_get fk_cX12_odds_0 31 rfl) (by decide) (fun c_17 => ?_) (fun c_17 => ?_)
        · have hkn : n = k := by have z_ := (nI_leI (a := n) (b := k) (by omega) (by omega)).mp (by rw [← show fF SL 0 1 = nI n from hI.f (by decide) hn]; exact c_17); omega
          rw [← hkn] at h3_ h4_
          refine lv_aload_n hx hb (fk_get fk_cX12_odds_1 26 rfl) rfl (lv_at hl 3 rfl) ?_
          have hFc := va_self hD hS hA
          refine va_callv (va_runV (As := []) (rest := []) ⟨hx, hb, hml, hown, hT⟩ (c_close l G ad SL H_15.size ((setF S 0 8 0)) (11000) (hI)) (tV 0 hT m6_226 m6_228 mp_51 m1_17 m6_229 rfl rfl (by decide +kernel) ⟨Nat.le_of_ble_eq_true rfl, Nat.le_of_ble_eq_true rfl⟩) ⟨PcW_blind, va_recv hK hP (ci := 14) (q0 := 0) rfl (ix_at (by decide) (cR_0 G ad SL)), PcW_of hP hK hD _⟩ rfl rfl hl.1 rfl (lv_room (Nat.le_of_ble_eq_true rfl)) (fk_get fk_cX12_odds_1 27 rfl) ⟨Nat.zero_le _, Nat.zero_le _⟩) hS (fun q _ h => hFc q h) hFc (fun S_20 t_ H locs ht_ hvm_ hw_19 hB_ hz_ hk_ hS => ?_)
          obtain ⟨hP, -, hD1_⟩ := hB_
          rw [ht_] at hP
          have hD : va_D A (wR G ad S_20) := hD1_.weaken (fun k q _ h => hFc q.1 h)
          try dsimp only at hw_19
          have hZq := hw_19
          refine lv_iload hx hb (fk_get fk_cX12_odds_1 28 rfl) (lv_at hl 1 rfl) ?_
          refine lv_if_ne (tgt := 123) hx hb (fk_get fk_cX12_odds_1 29 rfl) (by decide) (fun c_21 => ?_) (fun c_21 => ?_)
          · have hb0 : ¬ stN (stF 1 (fF S 0 2) (lstW 3 1 C) τ C n n_.toNatClampNeg (cutF n (gR S))) n = 0 := fun q => c_21 (by rw [h4_, q]; rfl)
            refine lv_iload_n hx hb (fk_get fk_cX12_odds_2 0 rfl) rfl (lv_at hl 2 rfl) ?_
            refine lv_iload hx hb (fk_get fk_cX12_odds_2 1 rfl) (lv_at hl 1 rfl) ?_
            refine lv_iload_n hx hb (fk_get fk_cX12_odds_2 2 rfl) rfl (lv_at hl 5 rfl) ?_
            refine vp_callSl (W.runS (As := [.int (v3), .int (v4), .int (w_)]) (rest := []) ⟨hx, hb, hml, hown, hT⟩ (c_partOfX l ((rfN (fF S 0 2) τ C (stF 1 (fF S 0 2) (lstW 3 1 C) τ C n n_.toNatClampNeg (cutF n (gR S))) n)) ((stN (stF 1 (fF S 0 2) (lstW 3 1 C) τ C n n_.toNatClampNeg (cutF n (gR S))) n)) (v3) (v4) (w_) (h3_) (h4_) ((by have z_ := rf_le (off := (fF S 0 2)) (τ := τ) (C := C) (stF 1 (fF S 0 2) (lstW 3 1 C) τ C n n_.toNatClampNeg (cutF n (gR S))) n; omega)) ((by have z_ := st_le (stF 1 (fF S 0 2) (lstW 3 1 C) τ C n n_.toNatClampNeg (cutF n (gR S))) n; omega)) (hb0)) (tS 3 hT m7_53 m7_54 m1_17 m7_55 rfl rfl (by decide +kernel) ⟨Nat.le_of_ble_eq_true rfl, Nat.le_of_ble_eq_true rfl⟩) ⟨PcN_blind, PcN_of _ _ _⟩ rfl rfl hl.1 rfl (lv_room (Nat.le_of_ble_eq_true rfl)) (fk_get fk_cX12_odds_2 3 rfl) ⟨Nat.zero_le _, Nat.zero_le _⟩) (fun r_22 hw_23 => ?_)
            try dsimp only at hw_23
            have hpo_ := hw_23
            subst hQ
            have hpost : QP (setF S 0 8 0) S_20 ∧ (r_22 : Int64) = oddP (fF S 0 2) (lstW 3 1 C) τ C n (gR S) n_ w_ := by
              first | exact ⟨QP.rf h15, odd_1 (Or.inl (by assumption))⟩ | exact ⟨QP.rf h15, odd_1 (Or.inr (by assumption))⟩ | exact ⟨hZq, odd_2 hpn hw_ rfl rfl (fr_z hb0)⟩ | exact ⟨hZq, odd_2 hpn hw_ rfl rfl hpo_⟩
            exact W.lret (v := r_22) hx hb hr (fun t_ ht_ hW_ => ⟨⟨r_22, S_20, rfl, hpost, by rw [ht_]; exact hP, va_K.moved hW_.alike hK, hD⟩, hS.F ht_⟩) hS.2.2 (fk_get fk_cX12_odds_2 4 rfl)
          have hb0 : stN (stF 1 (fF S 0 2) (lstW 3 1 C) τ C n n_.toNatClampNeg (cutF n (gR S))) n = 0 := (nI_eq (b := 0) (by have z_ := st_le (stF 1 (fF S 0 2) (lstW 3 1 C) τ C n n_.toNatClampNeg (cutF n (gR S))) n; omega) (by omega)).mp (h4_.symm.trans (by first | exact c_21 | exact Decidable.not_not.mp c_21))
          refine lv_ldc2 (v := (-9223372036854775808)) hx hb hown (hT _ m7_52) (fk_get fk_cX12_odds_1 30 rfl) ?_
          refine lv_goto (tgt := 130) hx hb (fk_get fk_cX12_odds_1 31 rfl) (by decide) ?_
          subst hQ
          have hpost : QP (setF S 0 8 0) S_20 ∧ ((-9223372036854775808) : Int64) = oddP (fF S 0 2) (lstW 3 1 C) τ C n (gR S) n_ w_ := by
            first | exact ⟨QP.rf h15, odd_1 (Or.inl (by assumption))⟩ | exact ⟨QP.rf h15, odd_1 (Or.inr (by assumption))⟩ | exact ⟨hZq, odd_2 hpn hw_ rfl rfl (fr_z hb0)⟩ | exact ⟨hZq, odd_2 hpn hw_ rfl rfl hpo_⟩
          exact W.lret (v := (-9223372036854775808)) hx hb hr (fun t_ ht_ hW_ => ⟨⟨(-9223372036854775808), S_20, rfl, hpost, by rw [ht_]; exact hP, va_K.moved hW_.alike hK, hD⟩, hS.F ht_⟩) hS.2.2 (fk_get fk_cX12_odds_2 4 rfl)
        have hlt : k < n := Nat.lt_of_not_le (fun wk => c_17 (by rw [show fF SL 0 1 = nI n from hI.f (by decide) hn]; exact (nI_leI (a := n) (b := k) (by omega) (by omega)).mpr wk))
        refine lv_iload hx hb (fk_get fk_cX12_odds_1 0 rfl) (lv_at hl 1 rfl) ?_
        refine lv_aload_n hx hb (fk_get fk_cX12_odds_1 1 rfl) rfl (lv_at hl 3 rfl) ?_
        refine lv_iload hx hb (fk_get fk_cX12_odds_1 2 rfl) (lv_at hl 0 rfl) ?_
        refine vp_callSi (W.runV (As := [.int ((nI k))]) (rest := [.int (v4)]) ⟨hx, hb, hml, hown, hT⟩ (c_isGone l G ad SL H_15.size ((nI k)) (k) (rfl) (by omega)) (tV 1 hT m6_192 m6_194 mp_45 m1_17 m6_195 rfl rfl (by decide +kernel) ⟨Nat.le_of_ble_eq_true rfl, Nat.le_of_ble_eq_true rfl⟩) ⟨PcW_blind, va_recv hK hP (ci := 14) (q0 := 0) rfl (ix_at (by decide) (cR_0 G ad SL)), PcW_of hP hK hD _⟩ rfl rfl hl.1 rfl (lv_room (Nat.le_of_ble_eq_true rfl)) (fk_get fk_cX12_odds_1 3 rfl) ⟨Nat.zero_le _, Nat.zero_le _⟩) (fun r_24 hw_25 => ?_)
        try dsimp only at hw_25
        refine lv_if_eq (tgt := 72) hx hb (fk_get fk_cX12_odds_1 4 rfl) (by decide) (fun c_26 => ?_) (fun c_26 => ?_)
        · have p_c_26 := if1_f hw_25 c_26
          have hgo_ : ¬ (stF 1 (fF S 0 2) (lstW 3 1 C) τ C n n_.toNatClampNeg (cutF n (gR S))) k 7 = 1 := by rw [← hgY k (by omega)]; exact isg_0 p_c_26
          refine lv_iconst (v := 1) hx hb (fk_get fk_cX12_odds_1 7 rfl) (by decide) ?_
          refine lv_iadd hx hb (fk_get fk_cX12_odds_1 8 rfl) ?_
          refine lv_istore (lv' := [(4, .int ((v4 + 1))), (5, .int ((nI k))), (3, .int (v3)), (0, .ref (ad 0)), (1, .int (n_)), (2, .int (w_))]) hx hb (fk_get fk_cX12_odds_1 9 rfl) hl (by decide) rfl (fun ls hl => ?_)
          refine lv_iload_n hx hb (fk_get fk_cX12_odds_1 10 rfl) rfl (lv_at hl 2 rfl) ?_
          refine lv_aload_n hx hb (fk_get fk_cX12_odds_1 11 rfl) rfl (lv_at hl 3 rfl) ?_
          refine lv_iload hx hb (fk_get fk_cX12_odds_1 12 rfl) (lv_at hl 1 rfl) ?_
          refine vp_callSi (W.runV (As := [.int ((nI k))]) (rest := [.int (v3)]) ⟨hx, hb, hml, hown, hT⟩ (c_isGone l G ad SL H_15.size ((nI k)) (k) (rfl) (by omega)) (tV 1 hT m6_192 m6_194 mp_45 m1_17 m6_195 rfl rfl (by decide +kernel) ⟨Nat.le_of_ble_eq_true rfl, Nat.le_of_ble_eq_true rfl⟩) ⟨PcW_blind, va_recv hK hP (ci := 14) (q0 := 0) rfl (ix_at (by decide) (cR_0 G ad SL)), PcW_of hP hK hD _⟩ rfl rfl hl.1 rfl (lv_room (Nat.le_of_ble_eq_true rfl)) (fk_get fk_cX12_odds_1 13 rfl) ⟨Nat.zero_le _, Nat.zero_le _⟩) (fun r_27 hw_28 => ?_)
          try dsimp only at hw_28
          refine lv_if_ne (tgt := 99) hx hb (fk_get fk_cX12_odds_1 14 rfl) (by decide) (fun c_29 => ?_) (fun c_29 => ?_)
          · have p_c_29 := if1_t hw_28 c_29
            have hg2_ : (stF 1 (fF S 0 2) (lstW 3 1 C) τ C n n_.toNatClampNeg (cutF n (gR S))) k 7 = 1 := by rw [← hgY k (by omega)]; exact isg_1 p_c_29
            refine lv_iconst (v := 0) hx hb (fk_get fk_cX12_odds_1 21 rfl) (by decide) ?_
            refine lv_iadd hx hb (fk_get fk_cX12_odds_1 22 rfl) ?_
            refine lv_istore_n (lv' := [(3, .int ((v3 + 0))), (4, .int ((v4 + 1))), (5, .int ((nI k))), (0, .ref (ad 0)), (1, .int (n_)), (2, .int (w_))]) hx hb (fk_get fk_cX12_odds_1 23 rfl) rfl hl (by decide) rfl (fun ls hl => ?_)
            refine lv_iinc (v := (nI (k + 1))) (lv' := [(5, .int ((nI (k + 1)))), (3, .int ((v3 + 0))), (4, .int ((v4 + 1))), (0, .ref (ad 0)), (1, .int (n_)), (2, .int (w_))]) hx hb (fk_get fk_cX12_odds_1 24 rfl) hl (k := 2) rfl ((nI_1 k)) (by decide) rfl (fun ls hl => ?_)
            refine lv_goto (tgt := 48) hx hb (fk_get fk_cX12_odds_1 25 rfl) (by decide) ?_
            exact ih (k + 1) ((v3 + 0)) ((v4 + 1)) (SL) _ _ ls (by omega) (by omega) ((by first | exact hI2 | exact hI)) ((by first | exact hO2 | exact hO)) ((by first | exact hgY2 | exact hgY)) ((by first | exact rf_y h3_ hg3_ hY | exact rfn0 h3_ (Or.inr hN) | exact rfn0 h3_ (Or.inl hg2_))) ((by first | exact sty h4_ hgo_ | exact stn h4_ hgo_)) hP hD hS (lv_sub hl [0, 2, 1, 3, 4, 5] rfl)
          have p_c_29 := if1_f hw_28 c_29
          have hg3_ : ¬ (stF 1 (fF S 0 2) (lstW 3 1 C) τ C n n_.toNatClampNeg (cutF n (gR S))) k 7 = 1 := by rw [← hgY k (by omega)]; exact isg_0 p_c_29
          refine lv_aload_n hx hb (fk_get fk_cX12_odds_1 15 rfl) rfl (lv_at hl 3 rfl) ?_
          refine lv_iload hx hb (fk_get fk_cX12_odds_1 16 rfl) (lv_at hl 1 rfl) ?_
          have hFc := va_self hD hS hA
          refine va_calli (va_runV (As := [.int ((nI k))]) (rest := [.int (v3)]) ⟨hx, hb, hml, hown, hT⟩ (c_saysNoE l G ad SL H_15.size (z) (τ) (C) ((nI k)) (k) (hI.HOK hHOK) ((HOX.MI (S := (setF S 0 8 0)) hHX hI)) (rfl) (by omega)) (tV 1 hT m6_154 m6_156 mp_42 m1_17 m6_157 rfl rfl (by decide +kernel) ⟨Nat.le_of_ble_eq_true rfl, Nat.le_of_ble_eq_true rfl⟩) ⟨PcW_blind, va_recv hK hP (ci := 14) (q0 := 0) rfl (ix_at (by decide) (cR_0 G ad SL)), PcW_of hP hK hD _⟩ rfl rfl hl.1 rfl (lv_room (Nat.le_of_ble_eq_true rfl)) (fk_get fk_cX12_odds_1 17 rfl) ⟨Nat.zero_le _, Nat.zero_le _⟩) hS (fun q _ h => hFc q h) hFc (fun r_30 S_32 t_ H locs ht_ hvm_ hw_31 hB_ hz_ hk_ hS => ?_)
          obtain ⟨hP, -, hD1_⟩ := hB_
          rw [ht_] at hP
          have hD : va_D A (wR G ad S_32) := hD1_.weaken (fun k q _ h => hFc q.1 h)
          try dsimp only at hw_31
          obtain ⟨hH1, hno⟩ := hw_31
          have hI2 := hI.M hH1.M (hI.SV.H hH1)
          rw [hO, hgY k (by omega)] at hno
          have hO2 : fF S_32 0 2 = fF S 0 2 := (hH1.2.2.1 2).trans hO
          have hgY2 : ∀ d, d < n → gR S_32 d = (stF 1 (fF S 0 2) (lstW 3 1 C) τ C n n_.toNatClampNeg (cutF n (gR S))) d := fun d hd => (gR_H hH1 d).trans (hgY d hd)
          refine lv_if_eq (tgt := 99) hx hb (fk_get fk_cX12_odds_1 18 rfl) (by decide) (fun c_33 => ?_) (fun c_33 => ?_)
          · have hN := no_f hno c_33
            refine lv_iconst (v := 0) hx hb (fk_get fk_cX12_odds_1 21 rfl) (by decide) ?_
            refine lv_iadd hx hb (fk_get fk_cX12_odds_1 22 rfl) ?_
            refine lv_istore_n (lv' := [(3, .int ((v3 + 0))), (4, .int ((v4 + 1))), (5, .int ((nI k))), (0, .ref (ad 0)), (1, .int (n_)), (2, .int (w_))]) hx hb (fk_get fk_cX12_odds_1 23 rfl) rfl hl (by decide) rfl (fun ls hl => ?_)
            refine lv_iinc (v := (nI (k + 1))) (lv' := [(5, .int ((nI (k + 1)))), (3, .int ((v3 + 0))), (4, .int ((v4 + 1))), (0, .ref (ad 0)), (1, .int (n_)), (2, .int (w_))]) hx hb (fk_get fk_cX12_odds_1 24 rfl) hl (k := 2) rfl ((nI_1 k)) (by decide) rfl (fun ls hl => ?_)
            refine lv_goto (tgt := 48) hx hb (fk_get fk_cX12_odds_1 25 rfl) (by decide) ?_
            exact ih (k + 1) ((v3 + 0)) ((v4 + 1)) (S_32) _ _ ls (by omega) (by omega) ((by first | exact hI2 | exact hI)) ((by first | exact hO2 | exact hO)) ((by first | exact hgY2 | exact hgY)) ((by first | exact rf_y h3_ hg3_ hY | exact rfn0 h3_ (Or.inr hN) | exact rfn0 h3_ (Or.inl hg2_))) ((by first | exact sty h4_ hgo_ | exact stn h4_ hgo_)) hP hD hS (lv_sub hl [0, 2, 1, 3, 4, 5] rfl)
          have hY := no_t hno c_33
          refine lv_iconst (v := 1) hx hb (fk_get fk_cX12_odds_1 19 rfl) (by decide) ?_
          refine lv_goto (tgt := 100) hx hb (fk_get fk_cX12_odds_1 20 rfl) (by decide) ?_
          refine lv_iadd hx hb (fk_get fk_cX12_odds_1 22 rfl) ?_
          refine lv_istore_n (lv' := [(3, .int ((v3 + 1))), (4, .int ((v4 + 1))), (5, .int ((nI k))), (0, .ref (ad 0)), (1, .int (n_)), (2, .int (w_))]) hx hb (fk_get fk_cX12_odds_1 23 rfl) rfl hl (by decide) rfl (fun ls hl => ?_)
          refine lv_iinc (v := (nI (k + 1))) (lv' := [(5, .int ((nI (k + 1)))), (3, .int ((v3 + 1))), (4, .int ((v4 + 1))), (0, .ref (ad 0)), (1, .int (n_)), (2, .int (w_))]) hx hb (fk_get fk_cX12_odds_1 24 rfl) hl (k := 2) rfl ((nI_1 k)) (by decide) rfl (fun ls hl => ?_)
          refine lv_goto (tgt := 48) hx hb (fk_get fk_cX12_odds_1 25 rfl) (by decide) ?_
          exact ih (k + 1) ((v3 + 1)) ((v4 + 1)) (S_32) _ _ ls (by omega) (by omega) ((by first | exact hI2 | exact hI)) ((by first | exact hO2 | exact hO)) ((by first | exact hgY2 | exact hgY)) ((by first | exact rf_y h3_ hg3_ hY | exact rfn0 h3_ (Or.inr hN) | exact rfn0 h3_ (Or.inl hg2_))) ((by first | exact sty h4_ hgo_ | exact stn h4_ hgo_)) hP hD hS (lv_sub hl [0, 2, 1, 3, 4, 5] rfl)
        have p_c_26 := if1_t hw_25 c_26
        have hgo_ : (stF 1 (fF S 0 2) (lstW 3 1 C) τ C n n_.toNatClampNeg (cutF n (gR S))) k 7 = 1 := by rw [← hgY k (by omega)]; exact isg_1 p_c_26
        refine lv_iconst (v := 0) hx hb (fk_get fk_cX12_odds_1 5 rfl) (by decide) ?_
        refine lv_goto (tgt := 73) hx hb (fk_get fk_cX12_odds_1 6 rfl) (by decide) ?_
        refine lv_iadd hx hb (fk_get fk_cX12_odds_1 8 rfl) ?_
        refine lv_istore (lv' := [(4, .int ((v4 + 0))), (5, .int ((nI k))), (3, .int (v3)), (0, .ref (ad 0)), (1, .int (n_)), (2, .int (w_))]) hx hb (fk_get fk_cX12_odds_1 9 rfl) hl (by decide) rfl (fun ls hl => ?_)
        refine lv_iload_n hx hb (fk_get fk_cX12_odds_1 10 rfl) rfl (lv_at hl 2 rfl) ?_
        refine lv_aload_n hx hb (fk_get fk_cX12_odds_1 11 rfl) rfl (lv_at hl 3 rfl) ?_
        refine lv_iload hx hb (fk_get fk_cX12_odds_1 12 rfl) (lv_at hl 1 rfl) ?_
        refine vp_callSi (W.runV (As := [.int ((nI k))]) (rest := [.int (v3)]) ⟨hx, hb, hml, hown, hT⟩ (c_isGone l G ad SL H_15.size ((nI k)) (k) (rfl) (by omega)) (tV 1 hT m6_192 m6_194 mp_45 m1_17 m6_195 rfl rfl (by decide +kernel) ⟨Nat.le_of_ble_eq_true rfl, Nat.le_of_ble_eq_true rfl⟩) ⟨PcW_blind, va_recv hK hP (ci := 14) (q0 := 0) rfl (ix_at (by decide) (cR_0 G ad SL)), PcW_of hP hK hD _⟩ rfl rfl hl.1 rfl (lv_room (Nat.le_of_ble_eq_true rfl)) (fk_get fk_cX12_odds_1 13 rfl) ⟨Nat.zero_le _, Nat.zero_le _⟩) (fun r_34 hw_35 => ?_)
        try dsimp only at hw_35
        refine lv_if_ne (tgt := 99) hx hb (fk_get fk_cX12_odds_1 14 rfl) (by decide) (fun c_36 => ?_) (fun c_36 => ?_)
        · have p_c_36 := if1_t hw_35 c_36
          have hg2_ : (stF 1 (fF S 0 2) (lstW 3 1 C) τ C n n_.toNatClampNeg (cutF n (gR S))) k 7 = 1 := by rw [← hgY k (by omega)]; exact isg_1 p_c_36
          refine lv_iconst (v := 0) hx hb (fk_get fk_cX12_odds_1 21 rfl) (by decide) ?_
          refine lv_iadd hx hb (fk_get fk_cX12_odds_1 22 rfl) ?_
          refine lv_istore_n (lv' := [(3, .int ((v3 + 0))), (4, .int ((v4 + 0))), (5, .int ((nI k))), (0, .ref (ad 0)), (1, .int (n_)), (2, .int (w_))]) hx hb (fk_get fk_cX12_odds_1 23 rfl) rfl hl (by decide) rfl (fun ls hl => ?_)
          refine lv_iinc (v := (nI (k + 1))) (lv' := [(5, .int ((nI (k + 1)))), (3, .int ((v3 + 0))), (4, .int ((v4 + 0))), (0, .ref (ad 0)), (1, .int (n_)), (2, .int (w_))]) hx hb (fk_get fk_cX12_odds_1 24 rfl) hl (k := 2) rfl ((nI_1 k)) (by decide) rfl (fun ls hl => ?_)
          refine lv_goto (tgt := 48) hx hb (fk_get fk_cX12_odds_1 25 rfl) (by decide) ?_
          exact ih (k + 1) ((v3 + 0)) ((v4 + 0)) (SL) _ _ ls (by omega) (by omega) ((by first | exact hI2 | exact hI)) ((by first | exact hO2 | exact hO)) ((by first | exact hgY2 | exact hgY)) ((by first | exact rf_y h3_ hg3_ hY | exact rfn0 h3_ (Or.inr hN) | exact rfn0 h3_ (Or.inl hg2_))) ((by first | exact sty h4_ hgo_ | exact stn h4_ hgo_)) hP hD hS (lv_sub hl [0, 2, 1, 3, 4, 5] rfl)
        have p_c_36 := if1_f hw_35 c_36
        have hg3_ : ¬ (stF 1 (fF S 0 2) (lstW 3 1 C) τ C n n_.toNatClampNeg (cutF n (gR S))) k 7 = 1 := by rw [← hgY k (by omega)]; exact isg_0 p_c_36
        refine lv_aload_n hx hb (fk_get fk_cX12_odds_1 15 rfl) rfl (lv_at hl 3 rfl) ?_
        refine lv_iload hx hb (fk_get fk_cX12_odds_1 16 rfl) (lv_at hl 1 rfl) ?_
        have hFc := va_self hD hS hA
        refine va_calli (va_runV (As := [.int ((nI k))]) (rest := [.int (v3)]) ⟨hx, hb, hml, hown, hT⟩ (c_saysNoE l G ad SL H_15.size (z) (τ) (C) ((nI k)) (k) (hI.HOK hHOK) ((HOX.MI (S := (setF S 0 8 0)) hHX hI)) (rfl) (by omega)) (tV 1 hT m6_154 m6_156 mp_42 m1_17 m6_157 rfl rfl (by decide +kernel) ⟨Nat.le_of_ble_eq_true rfl, Nat.le_of_ble_eq_true rfl⟩) ⟨PcW_blind, va_recv hK hP (ci := 14) (q0 := 0) rfl (ix_at (by decide) (cR_0 G ad SL)), PcW_of hP hK hD _⟩ rfl rfl hl.1 rfl (lv_room (Nat.le_of_ble_eq_true rfl)) (fk_get fk_cX12_odds_1 17 rfl) ⟨Nat.zero_le _, Nat.zero_le _⟩) hS (fun q _ h => hFc q h) hFc (fun r_37 S_39 t_ H locs ht_ hvm_ hw_38 hB_ hz_ hk_ hS => ?_)
        obtain ⟨hP, -, hD1_⟩ := hB_
        rw [ht_] at hP
        have hD : va_D A (wR G ad S_39) := hD1_.weaken (fun k q _ h => hFc q.1 h)
        try dsimp only at hw_38
        obtain ⟨hH1, hno⟩ := hw_38
        have hI2 := hI.M hH1.M (hI.SV.H hH1)
        rw [hO, hgY k (by omega)] at hno
        have hO2 : fF S_39 0 2 = fF S 0 2 := (hH1.2.2.1 2).trans hO
        have hgY2 : ∀ d, d < n → gR S_39 d = (stF 1 (fF S 0 2) (lstW 3 1 C) τ C n n_.toNatClampNeg (cutF n (gR S))) d := fun d hd => (gR_H hH1 d).trans (hgY d hd)
        refine lv_if_eq (tgt := 99) hx hb (fk_get fk_cX12_odds_1 18 rfl) (by decide) (fun c_40 => ?_) (fun c_40 => ?_)
        · have hN := no_f hno c_40
          refine lv_iconst (v := 0) hx hb (fk_get fk_cX12_odds_1 21 rfl) (by decide) ?_
          refine lv_iadd hx hb (fk_get fk_cX12_odds_1 22 rfl) ?_
          refine lv_istore_n (lv' := [(3, .int ((v3 + 0))), (4, .int ((v4 + 0))), (5, .int ((nI k))), (0, .ref (ad 0)), (1, .int (n_)), (2, .int (w_))]) hx hb (fk_get fk_cX12_odds_1 23 rfl) rfl hl (by decide) rfl (fun ls hl => ?_)
          refine lv_iinc (v := (nI (k + 1))) (lv' := [(5, .int ((nI (k + 1)))), (3, .int ((v3 + 0))), (4, .int ((v4 + 0))), (0, .ref (ad 0)), (1, .int (n_)), (2, .int (w_))]) hx hb (fk_get fk_cX12_odds_1 24 rfl) hl (k := 2) rfl ((nI_1 k)) (by decide) rfl (fun ls hl => ?_)
          refine lv_goto (tgt := 48) hx hb (fk_get fk_cX12_odds_1 25 rfl) (by decide) ?_
          exact ih (k + 1) ((v3 + 0)) ((v4 + 0)) (S_39) _ _ ls (by omega) (by omega) ((by first | exact hI2 | exact hI)) ((by first | exact hO2 | exact hO)) ((by first | exact hgY2 | exact hgY)) ((by first | exact rf_y h3_ hg3_ hY | exact rfn0 h3_ (Or.inr hN) | exact rfn0 h3_ (Or.inl hg2_))) ((by first | exact sty h4_ hgo_ | exact stn h4_ hgo_)) hP hD hS (lv_sub hl [0, 2, 1, 3, 4, 5] rfl)
        have hY := no_t hno c_40
        refine lv_iconst (v := 1) hx hb (fk_get fk_cX12_odds_1 19 rfl) (by decide) ?_
        refine lv_goto (tgt := 100) hx hb (fk_get fk_cX12_odds_1 20 rfl) (by decide) ?_
        refine lv_iadd hx hb (fk_get fk_cX12_odds_1 22 rfl) ?_
        refine lv_istore_n (lv' := [(3, .int ((v3 + 1))), (4, .int ((v4 + 0))), (5, .int ((nI k))), (0, .ref (ad 0)), (1, .int (n_)), (2, .int (w_))]) hx hb (fk_get fk_cX12_odds_1 23 rfl) rfl hl (by decide) rfl (fun ls hl => ?_)
        refine lv_iinc (v := (nI (k + 1))) (lv' := [(5, .int ((nI (k + 1)))), (3, .int ((v3 + 1))), (4, .int ((v4 + 0))), (0, .ref (ad 0)), (1, .int (n_)), (2, .int (w_))]) hx hb (fk_get fk_cX12_odds_1 24 rfl) hl (k := 2) rfl ((nI_1 k)) (by decide) rfl (fun ls hl => ?_)
        refine lv_goto (tgt := 48) hx hb (fk_get fk_cX12_odds_1 25 rfl) (by decide) ?_
        exact ih (k + 1) ((v3 + 1)) ((v4 + 0)) (S_39) _ _ ls (by omega) (by omega) ((by first | exact hI2 | exact hI)) ((by first | exact hO2 | exact hO)) ((by first | exact hgY2 | exact hgY)) ((by first | exact rf_y h3_ hg3_ hY | exact rfn0 h3_ (Or.inr hN) | exact rfn0 h3_ (Or.inl hg2_))) ((by first | exact sty h4_ hgo_ | exact stn h4_ hgo_)) hP hD hS (lv_sub hl [0, 2, 1, 3, 4, 5] rfl)
    exact lp_13 (n + 1) (0) (0) (0) (S_12) _ _ ls (by omega) (by omega) (hI1) (hO1_) (cut_st (X := S) (S := S) hG2) (rfl) (rfl) hP hD hS (lv_sub hl [0, 1, 2, 3, 4, 5] rfl)
  have p_c_6 := if1_f hw_5 c_6
  refine lv_ldc2 (v := (-9223372036854775808)) hx hb hown (hT _ m7_52) (fk_get fk_cX12_odds_0 15 rfl) ?_
  subst hQ
  have hpost : QP (setF S 0 8 0) (setF S 0 8 (0)) ∧ ((-9223372036854775808) : Int64) = oddP (fF S 0 2) (lstW 3 1 C) τ C n (gR S) n_ w_ := by
    first | exact ⟨QP.rf h15, odd_1 (Or.inl (by assumption))⟩ | exact ⟨QP.rf h15, odd_1 (Or.inr (by assumption))⟩ | exact ⟨hZq, odd_2 hpn hw_ rfl rfl (fr_z hb0)⟩ | exact ⟨hZq, odd_2 hpn hw_ rfl rfl hpo_⟩
  exact W.lret (v := (-9223372036854775808)) hx hb hr (fun t_ ht_ hW_ => ⟨⟨(-9223372036854775808), (setF S 0 8 (0)), rfl, hpost, by rw [ht_]; exact hP, va_K.moved hW_.alike hK, hD⟩, hS.F ht_⟩) hS.2.2 (fk_get fk_cX12_odds_0 16 rfl)
set_option maxHeartbeats 800000 in
set_option maxRecDepth 100000 in
theorem c_judgeX (l : Launch) (G : GG) (ad : Nat → Nat) (S : FS) (sz : Nat) (n : Nat) (t i : Int32) (hTP : TPok S) (hn : fF S 0 1 = nI n) (hn6 : n ≤ 6) : Met l yX12_judge (Cond.code yX12_judge cX12_judge 4 (some .int) :: TBL) ({ frames := 4, cells := 0, slots := 0, locals := 118 } : Room) (PcW G (wR G ad S) sz [.ref (ad 0), .int (t), .int (i)]) (va_Qi (fun (r : Int32) (S' : FS) => S' = (setF S 0 8 0) ∧ r = judP (fA S 22 t.toNatClampNeg = 0 ∨ fA S 18 t.toNatClampNeg = 0) (mnR (fA S 22 t.toNatClampNeg) (fA S 19 t.toNatClampNeg)) (fun q => fL S 20 (60 * t.toNatClampNeg + q)) (fun d => gR S d 3) t i n) (fun S' t => BW G (va_A (wR G ad S) sz) (wR G ad S') t) (va_A (wR G ad S) sz)) 0 0 (va_A (wR G ad S) sz) := by
  refine Met.ofW (cc := cX12_judge) (maxL := 4) (ret := (some .int)) (by decide) rfl ?_
  intro p e s m args below meth c₀ s₁ B hml hv
  obtain ⟨rfl, hsz, hP, hK, hD0⟩ := hv
  have hx := B.exec
  have hb := B.bytes
  have hr := B.returns
  have hT : ∀ w ∈ TBL, w.before ([.ref (ad 0), .int (t), .int (i)] : List Value).toArray s = true := fun w h => atoms_spec (ws := Cond.code yX12_judge cX12_judge 4 (some .int) :: TBL) B.pre w (List.mem_cons_of_mem _ h)
  have hown : s.vm.findClass "LittleMoreModel" = some m.cls := findClass_of_methodNamed B.named
  have hlocks := B.notSynchronized
  subst hsz
  have hD := hD0.self (sz := s.heap.size)
  generalize hAe : va_A (wR G ad S) s.heap.size = A at hD ⊢
  have hA : ∀ q : Nat, s.heap.size ≤ q → A q := fun q h => by rw [← hAe]; exact Or.inr h
  have hS : va_S A s.heap s.heap [] := va_S.rf
  have hP : va_P G.1 vwCl (wR G ad S) s.heap := hP
  have hl := lv_entry ([.ref (ad 0), .int (t), .int (i)]) (n := 4) (Nat.le_of_ble_eq_true rfl)
  rw [lg_entry_eq]
  generalize (lg_sl ([.ref (ad 0), .int (t), .int (i)]) ++ List.replicate (4 - (lg_sl ([.ref (ad 0), .int (t), .int (i)])).length) Slot.unset).toArray = ls at hl ⊢
  have hl : lv_has ls 4 [(0, .ref (ad 0)), (1, .int (t)), (2, .int (i))] := hl
  refine W_abs (fun Q hQ => ?_)
  generalize ([.ref (ad 0), .int (t), .int (i)] : List Value).toArray = args at hT hQ ⊢
  refine lv_aload_n hx hb (fk_get fk_cX12_judge_0 0 rfl) rfl (lv_at hl 0 rfl) ?_
  refine lv_iconst (v := 0) hx hb (fk_get fk_cX12_judge_0 1 rfl) (by decide) ?_
  refine va_put (D := G.1) (ci := 14) (v := .int (0)) (ty := .int) (C := RX12) (T := TX12) (N := 49) hx hb hT inX12 tyX12 tyX12_ok nmX12 hown hK hP hD hS 0 (ix_at (by decide) (cR_0 G ad S)) rfl 8 (by decide) (hT _ m5_109) (fun _ h9 => h9) rfl (by decide +kernel) rfl rfl (Nat.le_of_ble_eq_true rfl) (fk_get fk_cX12_judge_0 2 rfl) (fun H locs hP hD hS => ?_)
  rw [pR_thrown G ad S (0)] at hP hD
  refine lv_aload_n hx hb (fk_get fk_cX12_judge_0 3 rfl) rfl (lv_at hl 0 rfl) ?_
  refine lv_iload_n hx hb (fk_get fk_cX12_judge_0 4 rfl) rfl (lv_at hl 1 rfl) ?_
  refine vp_callSi (W.runV (As := [.int (t)]) (rest := []) ⟨hx, hb, hml, hown, hT⟩ (c_isTape l G ad (setF S 0 8 (0)) H.size (t) ) (tV 1 hT m7_155 m7_157 mp_70 m1_17 m7_158 rfl rfl (by decide +kernel) ⟨Nat.le_of_ble_eq_true rfl, Nat.le_of_ble_eq_true rfl⟩) ⟨PcW_blind, va_recv hK hP (ci := 14) (q0 := 0) rfl (ix_at (by decide) (cR_0 G ad (setF S 0 8 (0)))), PcW_of hP hK hD _⟩ rfl rfl hl.1 rfl (lv_room (Nat.le_of_ble_eq_true rfl)) (fk_get fk_cX12_judge_0 5 rfl) ⟨Nat.zero_le _, Nat.zero_le _⟩) (fun r_1 hw_2 => ?_)
  try dsimp only at hw_2
  refine lv_if_ne (tgt := 15) hx hb (fk_get fk_cX12_judge_0 6 rfl) (by decide) (fun c_3 => ?_) (fun c_3 => ?_)
  · have p_c_3 := if1_t hw_2 c_3
    have hT_ : 0 ≤ t ∧ t ≤ 5 := p_c_3
    obtain ⟨ht5, et⟩ := in_n (b := 5) p_c_3 (by decide)
    refine lv_aload_n hx hb (fk_get fk_cX12_judge_0 9 rfl) rfl (lv_at hl 0 rfl) ?_
    refine va_get (D := G.1) (ci := 14) (v := .ref (ad 22)) (C := RX12) (T := TX12) (N := 49) hx hb hT inX12 hown hK hP 0 (ix_at (by decide) (cR_0 G ad (setF S 0 8 (0)))) rfl 48 (by decide) (hT _ m5_149) (fun _ h9 => h9) rfl (fk_get fk_cX12_judge_0 10 rfl) ?_
    refine lv_iload_n hx hb (fk_get fk_cX12_judge_0 11 rfl) rfl (lv_at hl 1 rfl) ?_
    refine r_zald (f := fA S 22) hx hb hK hP 22 3 (ix_at (by decide) (cR_holdsRow G ad (setF S 0 8 (0)))) rfl (t.toNatClampNeg) (et) (by omega) (by decide) (fk_get fk_cX12_judge_0 12 rfl) ?_
    refine lv_if_eq (tgt := 36) hx hb (fk_get fk_cX12_judge_0 13 rfl) (by decide) (fun c_4 => ?_) (fun c_4 => ?_)
    · have hok_ : fA S 22 t.toNatClampNeg = 0 ∨ fA S 18 t.toNatClampNeg = 0 := Or.inl c_4
      refine lv_iconst (v := 0) hx hb (fk_get fk_cX12_judge_0 21 rfl) (by decide) ?_
      refine lv_istore_n (lv' := [(3, .int (0)), (0, .ref (ad 0)), (1, .int (t)), (2, .int (i))]) hx hb (fk_get fk_cX12_judge_0 22 rfl) rfl hl (by decide) rfl (fun ls hl => ?_)
      have lp_5 : ∀ (fu : Nat) (k : Nat) (ls : Array Slot),  (k ≤ n) → (n < k + fu) → (juN (mnR (fA S 22 t.toNatClampNeg) (fA S 19 t.toNatClampNeg)) (fun q => fL S 20 (60 * t.toNatClampNeg + q)) (fun d => gR S d 3) i (n - k) k = (juN (mnR (fA S 22 t.toNatClampNeg) (fA S 19 t.toNatClampNeg)) (fun q => fL S 20 (60 * t.toNatClampNeg + q)) (fun d => gR S d 3) i n 0)) → lv_has ls 4 [(3, .int ((nI k))), (0, .ref (ad 0)), (1, .int (t)), (2, .int (i))] → W p l e ({ frames := 4, cells := 0, slots := 0, locals := 118 } : Room) s m args below meth c₀ H locs 0 0 Q (F0 m 38 ls []) := by
        intro fu
        induction fu with
        | zero =>
          intro k ls hk hf hJ_ hl
          exact absurd hf (by omega)
        | succ fu ih =>
          intro k ls hk hf hJ_ hl
          refine lv_iload_n hx hb (fk_get fk_cX12_judge_0 23 rfl) rfl (lv_at hl 0 rfl) ?_
          refine lv_aload_n hx hb (fk_get fk_cX12_judge_0 24 rfl) rfl (lv_at hl 1 rfl) ?_
          refine va_get (D := G.1) (ci := 14) (v := .int ((fF S 0 1))) (C := RX12) (T := TX12) (N := 49) hx hb hT inX12 hown hK hP 0 (ix_at (by decide) (cR_0 G ad (setF S 0 8 (0)))) rfl 1 (by decide) (hT _ m5_102) (fun _ h9 => h9) rfl (fk_get fk_cX12_judge_0 25 rfl) ?_
          refine lv_icmp_ge (tgt := 112) hx hb (fk_get fk_cX12_judge_0 26 rfl) (by decide) (fun c_6 => ?_) (fun c_6 => ?_)
          · have hge_ : n ≤ k := (nI_leI (a := n) (b := k) (by omega) (by omega)).mp (by rw [← hn]; exact c_6)
            refine lv_bipush (v := (-5)) hx hb (fk_get fk_cX12_judge_2 7 rfl) (by decide) ?_
            subst hQ
            have hpost : (setF S 0 8 (0)) = (setF S 0 8 0) ∧ ((-5) : Int32) = judP (fA S 22 t.toNatClampNeg = 0 ∨ fA S 18 t.toNatClampNeg = 0) (mnR (fA S 22 t.toNatClampNeg) (fA S 19 t.toNatClampNeg)) (fun q => fL S 20 (60 * t.toNatClampNeg + q)) (fun d => gR S d 3) t i n := by
              first | exact ⟨rfl, jud_1 (by assumption)⟩ | exact ⟨rfl, jud_2 hT_ hnk_⟩ | exact ⟨rfl, jud_3 hT_ hok_ hno_⟩ | exact ⟨rfl, jud_3 hT_ hok_ (ju_e hJ_ hge_)⟩ | exact ⟨rfl, jud_3 hT_ hok_ (hy_.2 (lc_ne (by rw [← Nat.add_assoc]; assumption)))⟩
            exact W.iret (v := (-5)) hx hb hr (fun t_ ht_ hW_ => ⟨⟨(-5), (setF S 0 8 (0)), rfl, hpost, by rw [ht_]; exact hP, va_K.moved hW_.alike hK, hD⟩, hS.F ht_⟩) hS.2.2 (fk_get fk_cX12_judge_2 8 rfl)
          have hlt : k < n := Nat.lt_of_not_le (fun z => c_6 (by rw [hn]; exact (nI_leI (a := n) (b := k) (by omega) (by omega)).mpr z))
          refine lv_aload_n hx hb (fk_get fk_cX12_judge_0 27 rfl) rfl (lv_at hl 1 rfl) ?_
          refine va_get (D := G.1) (ci := 14) (v := .ref (ad 22)) (C := RX12) (T := TX12) (N := 49) hx hb hT inX12 hown hK hP 0 (ix_at (by decide) (cR_0 G ad (setF S 0 8 (0)))) rfl 48 (by decide) (hT _ m5_149) (fun _ h9 => h9) rfl (fk_get fk_cX12_judge_0 28 rfl) ?_
          refine lv_iload_n hx hb (fk_get fk_cX12_judge_0 29 rfl) rfl (lv_at hl 2 rfl) ?_
          refine r_zald (f := fA S 22) hx hb hK hP 22 3 (ix_at (by decide) (cR_holdsRow G ad (setF S 0 8 (0)))) rfl (t.toNatClampNeg) (et) (by omega) (by decide) (fk_get fk_cX12_judge_0 30 rfl) ?_
          refine lv_if_eq (tgt := 75) hx hb (fk_get fk_cX12_judge_0 31 rfl) (by decide) (fun _ => ?_) (fun c_7 => absurd (by first | assumption | exact Int32.not_lt.mp (by assumption) | exact Int32.not_le.mp (by assumption) | exact Int32.not_lt.mpr (by assumption) | exact Int32.not_le.mpr (by assumption) ) c_7)
          have hno_ := ju_n hJ_ hlt (mn_h (by assumption))
          refine lv_bipush (v := 100) hx hb (fk_get fk_cX12_judge_1 14 rfl) (by decide) ?_
          refine lv_iload_n hx hb (fk_get fk_cX12_judge_1 15 rfl) rfl (lv_at hl 0 rfl) ?_
          refine lv_iadd hx hb (fk_get fk_cX12_judge_1 16 rfl) ?_
          subst hQ
          have hpost : (setF S 0 8 (0)) = (setF S 0 8 0) ∧ ((100 + (nI k)) : Int32) = judP (fA S 22 t.toNatClampNeg = 0 ∨ fA S 18 t.toNatClampNeg = 0) (mnR (fA S 22 t.toNatClampNeg) (fA S 19 t.toNatClampNeg)) (fun q => fL S 20 (60 * t.toNatClampNeg + q)) (fun d => gR S d 3) t i n := by
            first | exact ⟨rfl, jud_1 (by assumption)⟩ | exact ⟨rfl, jud_2 hT_ hnk_⟩ | exact ⟨rfl, jud_3 hT_ hok_ hno_⟩ | exact ⟨rfl, jud_3 hT_ hok_ (ju_e hJ_ hge_)⟩ | exact ⟨rfl, jud_3 hT_ hok_ (hy_.2 (lc_ne (by rw [← Nat.add_assoc]; assumption)))⟩
          exact W.iret (v := (100 + (nI k))) hx hb hr (fun t_ ht_ hW_ => ⟨⟨(100 + (nI k)), (setF S 0 8 (0)), rfl, hpost, by rw [ht_]; exact hP, va_K.moved hW_.alike hK, hD⟩, hS.F ht_⟩) hS.2.2 (fk_get fk_cX12_judge_1 17 rfl)
      exact lp_5 (n + 1) (0) ls (by omega) (by omega) (rfl) (lv_sub hl [0, 1, 2, 3] rfl)
    have hh_ : ¬ fA S 22 t.toNatClampNeg = 0 := c_4
    refine lv_aload_n hx hb (fk_get fk_cX12_judge_0 14 rfl) rfl (lv_at hl 0 rfl) ?_
    refine va_get (D := G.1) (ci := 14) (v := .ref (ad 18)) (C := RX12) (T := TX12) (N := 49) hx hb hT inX12 hown hK hP 0 (ix_at (by decide) (cR_0 G ad (setF S 0 8 (0)))) rfl 44 (by decide) (hT _ m5_145) (fun _ h9 => h9) rfl (fk_get fk_cX12_judge_0 15 rfl) ?_
    refine lv_iload_n hx hb (fk_get fk_cX12_judge_0 16 rfl) rfl (lv_at hl 1 rfl) ?_
    refine r_iald (f := fA S 18) hx hb hK hP 18 0 (ix_at (by decide) (cR_sortOf G ad (setF S 0 8 (0)))) rfl (t.toNatClampNeg) (et) (by omega) (by decide) (fk_get fk_cX12_judge_0 17 rfl) ?_
    refine lv_if_eq (tgt := 36) hx hb (fk_get fk_cX12_judge_0 18 rfl) (by decide) (fun c_8 => ?_) (fun c_8 => ?_)
    · have hok_ : fA S 22 t.toNatClampNeg = 0 ∨ fA S 18 t.toNatClampNeg = 0 := Or.inr c_8
      refine lv_iconst (v := 0) hx hb (fk_get fk_cX12_judge_0 21 rfl) (by decide) ?_
      refine lv_istore_n (lv' := [(3, .int (0)), (0, .ref (ad 0)), (1, .int (t)), (2, .int (i))]) hx hb (fk_get fk_cX12_judge_0 22 rfl) rfl hl (by decide) rfl (fun ls hl => ?_)
      have lp_9 : ∀ (fu : Nat) (k : Nat) (ls : Array Slot),  (k ≤ n) → (n < k + fu) → (juN (mnR (fA S 22 t.toNatClampNeg) (fA S 19 t.toNatClampNeg)) (fun q => fL S 20 (60 * t.toNatClampNeg + q)) (fun d => gR S d 3) i (n - k) k = (juN (mnR (fA S 22 t.toNatClampNeg) (fA S 19 t.toNatClampNeg)) (fun q => fL S 20 (60 * t.toNatClampNeg + q)) (fun d => gR S d 3) i n 0)) → lv_has ls 4 [(3, .int ((nI k))), (0, .ref (ad 0)), (1, .int (t)), (2, .int (i))] → W p l e ({ frames := 4, cells := 0, slots := 0, locals := 118 } : Room) s m args below meth c₀ H locs 0 0 Q (F0 m 38 ls []) := by
        intro fu
        induction fu with
        | zero =>
          intro k ls hk hf hJ_ hl
          exact absurd hf (by omega)
        | succ fu ih =>
          intro k ls hk hf hJ_ hl
          refine lv_iload_n hx hb (fk_get fk_cX12_judge_0 23 rfl) rfl (lv_at hl 0 rfl) ?_
          refine lv_aload_n hx hb (fk_get fk_cX12_judge_0 24 rfl) rfl (lv_at hl 1 rfl) ?_
          refine va_get (D := G.1) (ci := 14) (v := .int ((fF S 0 1))) (C := RX12) (T := TX12) (N := 49) hx hb hT inX12 hown hK hP 0 (ix_at (by decide) (cR_0 G ad (setF S 0 8 (0)))) rfl 1 (by decide) (hT _ m5_102) (fun _ h9 => h9) rfl (fk_get fk_cX12_judge_0 25 rfl) ?_
          refine lv_icmp_ge (tgt := 112) hx hb (fk_get fk_cX12_judge_0 26 rfl) (by decide) (fun c_10 => ?_) (fun c_10 => ?_)
          · have hge_ : n ≤ k := (nI_leI (a := n) (b := k) (by omega) (by omega)).mp (by rw [← hn]; exact c_10)
            refine lv_bipush (v := (-5)) hx hb (fk_get fk_cX12_judge_2 7 rfl) (by decide) ?_
            subst hQ
            have hpost : (setF S 0 8 (0)) = (setF S 0 8 0) ∧ ((-5) : Int32) = judP (fA S 22 t.toNatClampNeg = 0 ∨ fA S 18 t.toNatClampNeg = 0) (mnR (fA S 22 t.toNatClampNeg) (fA S 19 t.toNatClampNeg)) (fun q => fL S 20 (60 * t.toNatClampNeg + q)) (fun d => gR S d 3) t i n := by
              first | exact ⟨rfl, jud_1 (by assumption)⟩ | exact ⟨rfl, jud_2 hT_ hnk_⟩ | exact ⟨rfl, jud_3 hT_ hok_ hno_⟩ | exact ⟨rfl, jud_3 hT_ hok_ (ju_e hJ_ hge_)⟩ | exact ⟨rfl, jud_3 hT_ hok_ (hy_.2 (lc_ne (by rw [← Nat.add_assoc]; assumption)))⟩
            exact W.iret (v := (-5)) hx hb hr (fun t_ ht_ hW_ => ⟨⟨(-5), (setF S 0 8 (0)), rfl, hpost, by rw [ht_]; exact hP, va_K.moved hW_.alike hK, hD⟩, hS.F ht_⟩) hS.2.2 (fk_get fk_cX12_judge_2 8 rfl)
          have hlt : k < n := Nat.lt_of_not_le (fun z => c_10 (by rw [hn]; exact (nI_leI (a := n) (b := k) (by omega) (by omega)).mpr z))
          refine lv_aload_n hx hb (fk_get fk_cX12_judge_0 27 rfl) rfl (lv_at hl 1 rfl) ?_
          refine va_get (D := G.1) (ci := 14) (v := .ref (ad 22)) (C := RX12) (T := TX12) (N := 49) hx hb hT inX12 hown hK hP 0 (ix_at (by decide) (cR_0 G ad (setF S 0 8 (0)))) rfl 48 (by decide) (hT _ m5_149) (fun _ h9 => h9) rfl (fk_get fk_cX12_judge_0 28 rfl) ?_
          refine lv_iload_n hx hb (fk_get fk_cX12_judge_0 29 rfl) rfl (lv_at hl 2 rfl) ?_
          refine r_zald (f := fA S 22) hx hb hK hP 22 3 (ix_at (by decide) (cR_holdsRow G ad (setF S 0 8 (0)))) rfl (t.toNatClampNeg) (et) (by omega) (by decide) (fk_get fk_cX12_judge_0 30 rfl) ?_
          refine lv_if_eq (tgt := 75) hx hb (fk_get fk_cX12_judge_0 31 rfl) (by decide) (fun c_11 => absurd c_11 (by first | assumption | exact Int32.not_lt.mp (by assumption) | exact Int32.not_le.mp (by assumption) | exact Int32.not_lt.mpr (by assumption) | exact Int32.not_le.mpr (by assumption) )) (fun _ => ?_)
          have hh2_ : ¬ fA S 22 t.toNatClampNeg = 0 := (by assumption)
          refine lv_iload_n hx hb (fk_get fk_cX12_judge_1 0 rfl) rfl (lv_at hl 3 rfl) ?_
          refine lv_if_lt (tgt := 75) hx hb (fk_get fk_cX12_judge_1 1 rfl) (by decide) (fun c_12 => ?_) (fun c_12 => ?_)
          · have hno_ := ju_n hJ_ hlt (mn_i c_12)
            refine lv_bipush (v := 100) hx hb (fk_get fk_cX12_judge_1 14 rfl) (by decide) ?_
            refine lv_iload_n hx hb (fk_get fk_cX12_judge_1 15 rfl) rfl (lv_at hl 0 rfl) ?_
            refine lv_iadd hx hb (fk_get fk_cX12_judge_1 16 rfl) ?_
            subst hQ
            have hpost : (setF S 0 8 (0)) = (setF S 0 8 0) ∧ ((100 + (nI k)) : Int32) = judP (fA S 22 t.toNatClampNeg = 0 ∨ fA S 18 t.toNatClampNeg = 0) (mnR (fA S 22 t.toNatClampNeg) (fA S 19 t.toNatClampNeg)) (fun q => fL S 20 (60 * t.toNatClampNeg + q)) (fun d => gR S d 3) t i n := by
              first | exact ⟨rfl, jud_1 (by assumption)⟩ | exact ⟨rfl, jud_2 hT_ hnk_⟩ | exact ⟨rfl, jud_3 hT_ hok_ hno_⟩ | exact ⟨rfl, jud_3 hT_ hok_ (ju_e hJ_ hge_)⟩ | exact ⟨rfl, jud_3 hT_ hok_ (hy_.2 (lc_ne (by rw [← Nat.add_assoc]; assumption)))⟩
            exact W.iret (v := (100 + (nI k))) hx hb hr (fun t_ ht_ hW_ => ⟨⟨(100 + (nI k)), (setF S 0 8 (0)), rfl, hpost, by rw [ht_]; exact hP, va_K.moved hW_.alike hK, hD⟩, hS.F ht_⟩) hS.2.2 (fk_get fk_cX12_judge_1 17 rfl)
          have hi0_ := c_12
          obtain ⟨hii, ei⟩ := nn_n c_12
          refine lv_iload_n hx hb (fk_get fk_cX12_judge_1 2 rfl) rfl (lv_at hl 3 rfl) ?_
          refine lv_i2l hx hb (fk_get fk_cX12_judge_1 3 rfl) rfl ?_
          refine lv_iload_n hx hb (fk_get fk_cX12_judge_1 4 rfl) rfl (lv_at hl 0 rfl) ?_
          refine lv_i2l hx hb (fk_get fk_cX12_judge_1 5 rfl) rfl ?_
          refine lv_ladd hx hb (fk_get fk_cX12_judge_1 6 rfl) ?_
          refine lv_aload_n hx hb (fk_get fk_cX12_judge_1 7 rfl) rfl (lv_at hl 1 rfl) ?_
          refine va_get (D := G.1) (ci := 14) (v := .ref (ad 19)) (C := RX12) (T := TX12) (N := 49) hx hb hT inX12 hown hK hP 0 (ix_at (by decide) (cR_0 G ad (setF S 0 8 (0)))) rfl 45 (by decide) (hT _ m5_146) (fun _ h9 => h9) rfl (fk_get fk_cX12_judge_1 8 rfl) ?_
          refine lv_iload_n hx hb (fk_get fk_cX12_judge_1 9 rfl) rfl (lv_at hl 2 rfl) ?_
          refine r_iald (f := fA S 19) hx hb hK hP 19 0 (ix_at (by decide) (cR_manyOf G ad (setF S 0 8 (0)))) rfl (t.toNatClampNeg) (et) (by omega) (by decide) (fk_get fk_cX12_judge_1 10 rfl) ?_
          refine lv_i2l hx hb (fk_get fk_cX12_judge_1 11 rfl) rfl ?_
          refine W.lcmp hx hb (fk_get fk_cX12_judge_1 12 rfl) ?_
          refine lv_if_lt (tgt := 80) hx hb (fk_get fk_cX12_judge_1 13 rfl) (by decide) (fun c_13 => ?_) (fun c_13 => ?_)
          · have hs1 := (i64_addlt i (nI k) _ hi0_ (nI_pos (by omega))).mp c_13
            have hb2 := tp_lt hTP (t := t.toNatClampNeg) (by omega) (i := i) (k := k) hi0_ (by omega) hs1
            have hy_ := ju_y hJ_ hlt (mn_y hh2_ (by omega) hi0_ hs1)
            refine lv_aload_n hx hb (fk_get fk_cX12_judge_1 18 rfl) rfl (lv_at hl 1 rfl) ?_
            refine va_get (D := G.1) (ci := 14) (v := .ref (ad 20)) (C := RX12) (T := TX12) (N := 49) hx hb hT inX12 hown hK hP 0 (ix_at (by decide) (cR_0 G ad (setF S 0 8 (0)))) rfl 46 (by decide) (hT _ m5_147) (fun _ h9 => h9) rfl (fk_get fk_cX12_judge_1 19 rfl) ?_
            refine lv_bipush (v := 60) hx hb (fk_get fk_cX12_judge_1 20 rfl) (by decide) ?_
            refine lv_iload_n hx hb (fk_get fk_cX12_judge_1 21 rfl) rfl (lv_at hl 2 rfl) ?_
            refine lv_imul hx hb (fk_get fk_cX12_judge_1 22 rfl) ?_
            refine lv_iload_n hx hb (fk_get fk_cX12_judge_1 23 rfl) rfl (lv_at hl 3 rfl) ?_
            refine lv_iadd hx hb (fk_get fk_cX12_judge_1 24 rfl) ?_
            refine lv_iload_n hx hb (fk_get fk_cX12_judge_1 25 rfl) rfl (lv_at hl 0 rfl) ?_
            refine lv_iadd hx hb (fk_get fk_cX12_judge_1 26 rfl) ?_
            refine r_lald (f := fL S 20) hx hb hK hP 20 1 (ix_at (by decide) (cR_items G ad (setF S 0 8 (0)))) rfl ((((60 * t.toNatClampNeg) + i.toNatClampNeg) + k)) (n_add (n_add (n_mul (rfl) (et)) (ei)) (rfl)) (by omega) (by decide) (fk_get fk_cX12_judge_1 27 rfl) ?_
            refine lv_aload_n hx hb (fk_get fk_cX12_judge_1 28 rfl) rfl (lv_at hl 1 rfl) ?_
            refine lv_iload_n hx hb (fk_get fk_cX12_judge_1 29 rfl) rfl (lv_at hl 0 rfl) ?_
            refine lv_iconst (v := 3) hx hb (fk_get fk_cX12_judge_1 30 rfl) (by decide) ?_
            refine vp_callSi (W.runV (As := [.int ((nI k)), .int (3)]) (rest := [.long ((fL S 20 ((((60 * t.toNatClampNeg) + i.toNatClampNeg) + k))))]) ⟨hx, hb, hml, hown, hT⟩ (c_of0 l G ad (setF S 0 8 (0)) H.size ((nI k)) (3) (((12 * k) + 3)) (n_add (n_mul (rfl) (rfl)) (rfl)) (by omega)) (tV 2 hT m6_119 m6_121 mp_34 m1_17 m6_122 rfl rfl (by decide +kernel) ⟨Nat.le_of_ble_eq_true rfl, Nat.le_of_ble_eq_true rfl⟩) ⟨PcW_blind, va_recv hK hP (ci := 14) (q0 := 0) rfl (ix_at (by decide) (cR_0 G ad (setF S 0 8 (0)))), PcW_of hP hK hD _⟩ rfl rfl hl.1 rfl (lv_room (Nat.le_of_ble_eq_true rfl)) (fk_get fk_cX12_judge_1 31 rfl) ⟨Nat.zero_le _, Nat.zero_le _⟩) (fun r_14 hw_15 => ?_)
            try dsimp only at hw_15
            have hq_ : r_14 = gR S k 3 := hw_15
            subst hq_
            refine lv_i2l hx hb (fk_get fk_cX12_judge_2 0 rfl) rfl ?_
            refine W.lcmp hx hb (fk_get fk_cX12_judge_2 1 rfl) ?_
            refine lv_if_eq (tgt := 106) hx hb (fk_get fk_cX12_judge_2 2 rfl) (by decide) (fun c_16 => ?_) (fun c_16 => ?_)
            · refine lv_iinc (v := (nI (k + 1))) (lv' := [(3, .int ((nI (k + 1)))), (0, .ref (ad 0)), (1, .int (t)), (2, .int (i))]) hx hb (fk_get fk_cX12_judge_2 5 rfl) hl (k := 0) rfl ((nI_1 k)) (by decide) rfl (fun ls hl => ?_)
              refine lv_goto (tgt := 38) hx hb (fk_get fk_cX12_judge_2 6 rfl) (by decide) ?_
              exact ih (k + 1) ls (by omega) (by omega) (hy_.1 (lc_eq (by rw [← Nat.add_assoc]; first | assumption | exact Decidable.not_not.mp (by assumption)))) (lv_sub hl [0, 1, 2, 3] rfl)
            refine lv_iload_n hx hb (fk_get fk_cX12_judge_2 3 rfl) rfl (lv_at hl 0 rfl) ?_
            subst hQ
            have hpost : (setF S 0 8 (0)) = (setF S 0 8 0) ∧ ((nI k) : Int32) = judP (fA S 22 t.toNatClampNeg = 0 ∨ fA S 18 t.toNatClampNeg = 0) (mnR (fA S 22 t.toNatClampNeg) (fA S 19 t.toNatClampNeg)) (fun q => fL S 20 (60 * t.toNatClampNeg + q)) (fun d => gR S d 3) t i n := by
              first | exact ⟨rfl, jud_1 (by assumption)⟩ | exact ⟨rfl, jud_2 hT_ hnk_⟩ | exact ⟨rfl, jud_3 hT_ hok_ hno_⟩ | exact ⟨rfl, jud_3 hT_ hok_ (ju_e hJ_ hge_)⟩ | exact ⟨rfl, jud_3 hT_ hok_ (hy_.2 (lc_ne (by rw [← Nat.add_assoc]; assumption)))⟩
            exact W.iret (v := (nI k)) hx hb hr (fun t_ ht_ hW_ => ⟨⟨(nI k), (setF S 0 8 (0)), rfl, hpost, by rw [ht_]; exact hP, va_K.moved hW_.alike hK, hD⟩, hS.F ht_⟩) hS.2.2 (fk_get fk_cX12_judge_2 4 rfl)
          have hno_ := ju_n hJ_ hlt (mn_n hh2_ (by omega) (fun z => c_13 ((i64_addlt i (nI k) _ hi0_ (nI_pos (by omega))).mpr z)))
          refine lv_bipush (v := 100) hx hb (fk_get fk_cX12_judge_1 14 rfl) (by decide) ?_
          refine lv_iload_n hx hb (fk_get fk_cX12_judge_1 15 rfl) rfl (lv_at hl 0 rfl) ?_
          refine lv_iadd hx hb (fk_get fk_cX12_judge_1 16 rfl) ?_
          subst hQ
          have hpost : (setF S 0 8 (0)) = (setF S 0 8 0) ∧ ((100 + (nI k)) : Int32) = judP (fA S 22 t.toNatClampNeg = 0 ∨ fA S 18 t.toNatClampNeg = 0) (mnR (fA S 22 t.toNatClampNeg) (fA S 19 t.toNatClampNeg)) (fun q => fL S 20 (60 * t.toNatClampNeg + q)) (fun d => gR S d 3) t i n := by
            first | exact ⟨rfl, jud_1 (by assumption)⟩ | exact ⟨rfl, jud_2 hT_ hnk_⟩ | exact ⟨rfl, jud_3 hT_ hok_ hno_⟩ | exact ⟨rfl, jud_3 hT_ hok_ (ju_e hJ_ hge_)⟩ | exact ⟨rfl, jud_3 hT_ hok_ (hy_.2 (lc_ne (by rw [← Nat.add_assoc]; assumption)))⟩
          exact W.iret (v := (100 + (nI k))) hx hb hr (fun t_ ht_ hW_ => ⟨⟨(100 + (nI k)), (setF S 0 8 (0)), rfl, hpost, by rw [ht_]; exact hP, va_K.moved hW_.alike hK, hD⟩, hS.F ht_⟩) hS.2.2 (fk_get fk_cX12_judge_1 17 rfl)
      exact lp_9 (n + 1) (0) ls (by omega) (by omega) (rfl) (lv_sub hl [0, 1, 2, 3] rfl)
    have hnk_ : ¬ (fA S 22 t.toNatClampNeg = 0 ∨ fA S 18 t.toNatClampNeg = 0) := fun q => q.elim hh_ c_8
    refine lv_bipush (v := (-12)) hx hb (fk_get fk_cX12_judge_0 19 rfl) (by decide) ?_
    subst hQ
    have hpost : (setF S 0 8 (0)) = (setF S 0 8 0) ∧ ((-12) : Int32) = judP (fA S 22 t.toNatClampNeg = 0 ∨ fA S 18 t.toNatClampNeg = 0) (mnR (fA S 22 t.toNatClampNeg) (fA S 19 t.toNatClampNeg)) (fun q => fL S 20 (60 * t.toNatClampNeg + q)) (fun d => gR S d 3) t i n := by
      first | exact ⟨rfl, jud_1 (by assumption)⟩ | exact ⟨rfl, jud_2 hT_ hnk_⟩ | exact ⟨rfl, jud_3 hT_ hok_ hno_⟩ | exact ⟨rfl, jud_3 hT_ hok_ (ju_e hJ_ hge_)⟩ | exact ⟨rfl, jud_3 hT_ hok_ (hy_.2 (lc_ne (by rw [← Nat.add_assoc]; assumption)))⟩
    exact W.iret (v := (-12)) hx hb hr (fun t_ ht_ hW_ => ⟨⟨(-12), (setF S 0 8 (0)), rfl, hpost, by rw [ht_]; exact hP, va_K.moved hW_.alike hK, hD⟩, hS.F ht_⟩) hS.2.2 (fk_get fk_cX12_judge_0 20 rfl)
  have p_c_3 := if1_f hw_2 c_3
  refine lv_iconst (v := (-1)) hx hb (fk_get fk_cX12_judge_0 7 rfl) (by decide) ?_
  subst hQ
  have hpost : (setF S 0 8 (0)) = (setF S 0 8 0) ∧ ((-1) : Int32) = judP (fA S 22 t.toNatClampNeg = 0 ∨ fA S 18 t.toNatClampNeg = 0) (mnR (fA S 22 t.toNatClampNeg) (fA S 19 t.toNatClampNeg)) (fun q => fL S 20 (60 * t.toNatClampNeg + q)) (fun d => gR S d 3) t i n := by
    first | exact ⟨rfl, jud_1 (by assumption)⟩ | exact ⟨rfl, jud_2 hT_ hnk_⟩ | exact ⟨rfl, jud_3 hT_ hok_ hno_⟩ | exact ⟨rfl, jud_3 hT_ hok_ (ju_e hJ_ hge_)⟩ | exact ⟨rfl, jud_3 hT_ hok_ (hy_.2 (lc_ne (by rw [← Nat.add_assoc]; assumption)))⟩
  exact W.iret (v := (-1)) hx hb hr (fun t_ ht_ hW_ => ⟨⟨(-1), (setF S 0 8 (0)), rfl, hpost, by rw [ht_]; exact hP, va_K.moved hW_.alike hK, hD⟩, hS.F ht_⟩) hS.2.2 (fk_get fk_cX12_judge_0 8 rfl)
