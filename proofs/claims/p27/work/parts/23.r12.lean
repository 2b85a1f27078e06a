set_option maxHeartbeats 800000 in
set_option maxRecDepth 100000 in
theorem c_visitOne (l : Launch) (G : GG) (ad : Nat → Nat) (S : FS) (sz : Nat) (c : Int32) (j x : Nat) (hHOK : HOK S) (ej : c = nI j) (hj : j < 6) (hx6 : fA S 1 (12 * j + 6) = nI x) (hx30 : x < 1000000) : Met l yX12_visitOne (Cond.code yX12_visitOne cX12_visitOne 6 none :: TBL) ({ frames := 7, cells := 0, slots := 0, locals := 201 } : Room) (PcW G (wR G ad S) sz [.ref (ad 0), .int (c)]) (va_Qv (fun (S' : FS) => ∃ y, VR j y S S' ∧ y ≤ x + 1 ∧ (fF S 0 15 = 0 → x ≤ 9999 → y ≤ 9999)) (fun S' t => BW G (va_A (wR G ad S) sz) (wR G ad S') t) (va_A (wR G ad S) sz)) 0 0 (va_A (wR G ad S) sz) := by
  refine Met.ofW (cc := cX12_visitOne) (maxL := 6) (ret := none) (by decide) rfl ?_
  intro p e s m args below meth c₀ s₁ B hml hv
  obtain ⟨rfl, hsz, hP, hK, hD0⟩ := hv
  have hx := B.exec
  have hb := B.bytes
  have hr := B.returns
  have hT : ∀ w ∈ TBL, w.before ([.ref (ad 0), .int (c)] : List Value).toArray s = true := fun w h => atoms_spec (ws := Cond.code yX12_visitOne cX12_visitOne 6 none :: TBL) B.pre w (List.mem_cons_of_mem _ h)
  have hown : s.vm.findClass "LittleMoreModel" = some m.cls := findClass_of_methodNamed B.named
  have hlocks := B.notSynchronized
  subst hsz
  have hD := hD0.self (sz := s.heap.size)
  generalize hAe : va_A (wR G ad S) s.heap.size = A at hD ⊢
  have hA : ∀ q : Nat, s.heap.size ≤ q → A q := fun q h => by rw [← hAe]; exact Or.inr h
  have hS : va_S A s.heap s.heap [] := va_S.rf
  have hP : va_P G.1 vwCl (wR G ad S) s.heap := hP
  have hl := lv_entry ([.ref (ad 0), .int (c)]) (n := 6) (Nat.le_of_ble_eq_true rfl)
  rw [lg_entry_eq]
  generalize (lg_sl ([.ref (ad 0), .int (c)]) ++ List.replicate (6 - (lg_sl ([.ref (ad 0), .int (c)])).length) Slot.unset).toArray = ls at hl ⊢
  have hl : lv_has ls 6 [(0, .ref (ad 0)), (1, .int (c))] := hl
  refine W_abs (fun Q hQ => ?_)
  generalize ([.ref (ad 0), .int (c)] : List Value).toArray = args at hT hQ ⊢
  refine lv_aload_n hx hb (fk_get fk_cX12_visitOne_0 0 rfl) rfl (lv_at hl 0 rfl) ?_
  refine lv_iload_n hx hb (fk_get fk_cX12_visitOne_0 1 rfl) rfl (lv_at hl 1 rfl) ?_
  have hFc := va_self hD hS hA
  refine va_calli (va_runV (As := [.int (c)]) (rest := []) ⟨hx, hb, hml, hown, hT⟩ (c_moreOf l G ad S s.heap.size (c) (j) (hHOK) (ej) (hj)) (tV 1 hT m6_115 m6_117 mp_33 m1_17 m6_118 rfl rfl (by decide +kernel) ⟨Nat.le_of_ble_eq_true rfl, Nat.le_of_ble_eq_true rfl⟩) ⟨PcW_blind, va_recv hK hP (ci := 14) (q0 := 0) rfl (ix_at (by decide) (cR_0 G ad S)), PcW_of hP hK hD _⟩ rfl rfl hl.1 rfl (lv_room (Nat.le_of_ble_eq_true rfl)) (fk_get fk_cX12_visitOne_0 2 rfl) ⟨Nat.zero_le _, Nat.zero_le _⟩) hS (fun q _ h => hFc q h) hFc (fun r_1 S_3 t_ H locs ht_ hvm_ hw_2 hB_ hz_ hk_ hS => ?_)
  obtain ⟨hP, -, hD1_⟩ := hB_
  rw [ht_] at hP
  have hD : va_D A (wR G ad S_3) := hD1_.weaken (fun k q _ h => hFc q.1 h)
  try dsimp only at hw_2
  have hH1 := hw_2
  refine lv_istore_n (lv' := [(2, .int (r_1)), (0, .ref (ad 0)), (1, .int (c))]) hx hb (fk_get fk_cX12_visitOne_0 3 rfl) rfl hl (by decide) rfl (fun ls hl => ?_)
  refine lv_aload_n hx hb (fk_get fk_cX12_visitOne_0 4 rfl) rfl (lv_at hl 1 rfl) ?_
  refine lv_iload_n hx hb (fk_get fk_cX12_visitOne_0 5 rfl) rfl (lv_at hl 2 rfl) ?_
  have hFc := va_self hD hS hA
  refine va_calli (va_runV (As := [.int (c)]) (rest := []) ⟨hx, hb, hml, hown, hT⟩ (c_saysNo l G ad S_3 H.size (c) (j) (hHOK.H hH1) (ej) (hj)) (tV 1 hT m6_154 m6_156 mp_42 m1_17 m6_157 rfl rfl (by decide +kernel) ⟨Nat.le_of_ble_eq_true rfl, Nat.le_of_ble_eq_true rfl⟩) ⟨PcW_blind, va_recv hK hP (ci := 14) (q0 := 0) rfl (ix_at (by decide) (cR_0 G ad S_3)), PcW_of hP hK hD _⟩ rfl rfl hl.1 rfl (lv_room (Nat.le_of_ble_eq_true rfl)) (fk_get fk_cX12_visitOne_0 6 rfl) ⟨Nat.zero_le _, Nat.zero_le _⟩) hS (fun q _ h => hFc q h) hFc (fun r_4 S_6 t_ H locs ht_ hvm_ hw_5 hB_ hz_ hk_ hS => ?_)
  obtain ⟨hP, -, hD1_⟩ := hB_
  rw [ht_] at hP
  have hD : va_D A (wR G ad S_6) := hD1_.weaken (fun k q _ h => hFc q.1 h)
  try dsimp only at hw_5
  obtain ⟨hHb, hno⟩ := hw_5
  have hH2 := hH1.trans hHb
  refine lv_istore_n (lv' := [(3, .int (r_4)), (2, .int (r_1)), (0, .ref (ad 0)), (1, .int (c))]) hx hb (fk_get fk_cX12_visitOne_0 7 rfl) rfl hl (by decide) rfl (fun ls hl => ?_)
  refine lv_aload_n hx hb (fk_get fk_cX12_visitOne_0 8 rfl) rfl (lv_at hl 2 rfl) ?_
  refine lv_aload_n hx hb (fk_get fk_cX12_visitOne_0 9 rfl) rfl (lv_at hl 2 rfl) ?_
  refine lv_iload_n hx hb (fk_get fk_cX12_visitOne_0 10 rfl) rfl (lv_at hl 3 rfl) ?_
  refine vp_callSi (W.runV (As := [.int (c)]) (rest := [.ref (ad 0)]) ⟨hx, hb, hml, hown, hT⟩ (c_asksOf l G ad S_6 H.size (c) (j) (x) (ej) (hj) ((congrFun (hH2.a (i := 1) (by decide)) _).trans hx6) (hx30)) (tV 1 hT m6_143 m6_145 mp_40 m1_17 m6_146 rfl rfl (by decide +kernel) ⟨Nat.le_of_ble_eq_true rfl, Nat.le_of_ble_eq_true rfl⟩) ⟨PcW_blind, va_recv hK hP (ci := 14) (q0 := 0) rfl (ix_at (by decide) (cR_0 G ad S_6)), PcW_of hP hK hD _⟩ rfl rfl hl.1 rfl (lv_room (Nat.le_of_ble_eq_true rfl)) (fk_get fk_cX12_visitOne_0 11 rfl) ⟨Nat.zero_le _, Nat.zero_le _⟩) (fun r_7 hw_8 => ?_)
  try dsimp only at hw_8
  refine va_put (D := G.1) (ci := 14) (v := .int (r_7)) (ty := .int) (C := RX12) (T := TX12) (N := 49) hx hb hT inX12 tyX12 tyX12_ok nmX12 hown hK hP hD hS 0 (ix_at (by decide) (cR_0 G ad S_6)) rfl 34 (by decide) (hT _ m5_135) (fun _ h9 => h9) rfl (by decide +kernel) rfl rfl (Nat.le_of_ble_eq_true rfl) (fk_get fk_cX12_visitOne_0 12 rfl) (fun H locs hP hD hS => ?_)
  rw [pR_askedFor G ad S_6 (r_7)] at hP hD
  refine lv_aload_n hx hb (fk_get fk_cX12_visitOne_0 13 rfl) rfl (lv_at hl 2 rfl) ?_
  refine lv_aload_n hx hb (fk_get fk_cX12_visitOne_0 14 rfl) rfl (lv_at hl 2 rfl) ?_
  refine va_get (D := G.1) (ci := 14) (v := .int (r_7)) (C := RX12) (T := TX12) (N := 49) hx hb hT inX12 hown hK hP 0 (ix_at (by decide) (cR_0 G ad (setF S_6 0 34 (r_7)))) rfl 34 (by decide) (hT _ m5_135) (fun _ h9 => h9) rfl (fk_get fk_cX12_visitOne_0 15 rfl) ?_
  refine lv_iload_n hx hb (fk_get fk_cX12_visitOne_0 16 rfl) rfl (lv_at hl 1 rfl) ?_
  refine lv_iadd hx hb (fk_get fk_cX12_visitOne_0 17 rfl) ?_
  refine va_put (D := G.1) (ci := 14) (v := .int ((r_7 + r_1))) (ty := .int) (C := RX12) (T := TX12) (N := 49) hx hb hT inX12 tyX12 tyX12_ok nmX12 hown hK hP hD hS 0 (ix_at (by decide) (cR_0 G ad (setF S_6 0 34 (r_7)))) rfl 35 (by decide) (hT _ m5_136) (fun _ h9 => h9) rfl (by decide +kernel) rfl rfl (Nat.le_of_ble_eq_true rfl) (fk_get fk_cX12_visitOne_0 18 rfl) (fun H locs hP hD hS => ?_)
  rw [pR_cut G ad (setF S_6 0 34 (r_7)) ((r_7 + r_1))] at hP hD
  have jn_9 : ∀ (v1 : Int32) (ls : Array Slot),  lv_has ls 6 [(3, .int (r_4)), (2, .int (r_1)), (0, .ref (ad 0)), (1, .int (c))] → W p l e ({ frames := 7, cells := 0, slots := 0, locals := 201 } : Room) s m args below meth c₀ H locs 0 0 Q (F0 m 51 ls [.int (v1), .ref (ad 0)]) := by
    intro v1 ls  hl
    refine va_put (D := G.1) (ci := 14) (v := .int (v1)) (ty := .int) (C := RX12) (T := TX12) (N := 49) hx hb hT inX12 tyX12 tyX12_ok nmX12 hown hK hP hD hS 0 (ix_at (by decide) (cR_0 G ad (setF (setF S_6 0 34 (r_7)) 0 35 ((r_7 + r_1))))) rfl 33 (by decide) (hT _ m5_134) (fun _ h9 => h9) rfl (by decide +kernel) rfl rfl (Nat.le_of_ble_eq_true rfl) (fk_get fk_cX12_visitOne_0 31 rfl) (fun H locs hP hD hS => ?_)
    rw [pR_bought G ad (setF (setF S_6 0 34 (r_7)) 0 35 ((r_7 + r_1))) (v1)] at hP hD
    have hVc : VR j x S (setF (setF (setF S_6 0 34 (r_7)) 0 35 ((r_7 + r_1))) 0 33 (v1)) := ((((VR.rf hx6).H hH2).setF (by decide) _).setF (by decide) _).setF (by decide) _
    refine lv_aload_n hx hb (fk_get fk_cX12_visitOne_1 0 rfl) rfl (lv_at hl 2 rfl) ?_
    refine lv_iload_n hx hb (fk_get fk_cX12_visitOne_1 1 rfl) rfl (lv_at hl 3 rfl) ?_
    refine lv_iconst (v := 3) hx hb (fk_get fk_cX12_visitOne_1 2 rfl) (by decide) ?_
    refine vp_callSi (W.runV (As := [.int (c), .int (3)]) (rest := []) ⟨hx, hb, hml, hown, hT⟩ (c_of0 l G ad (setF (setF (setF S_6 0 34 (r_7)) 0 35 ((r_7 + r_1))) 0 33 (v1)) H.size (c) (3) (((12 * j) + 3)) (n_add (n_mul (rfl) (ej)) (rfl)) (by omega)) (tV 2 hT m6_119 m6_121 mp_34 m1_17 m6_122 rfl rfl (by decide +kernel) ⟨Nat.le_of_ble_eq_true rfl, Nat.le_of_ble_eq_true rfl⟩) ⟨PcW_blind, va_recv hK hP (ci := 14) (q0 := 0) rfl (ix_at (by decide) (cR_0 G ad (setF (setF (setF S_6 0 34 (r_7)) 0 35 ((r_7 + r_1))) 0 33 (v1)))), PcW_of hP hK hD _⟩ rfl rfl hl.1 rfl (lv_room (Nat.le_of_ble_eq_true rfl)) (fk_get fk_cX12_visitOne_1 3 rfl) ⟨Nat.zero_le _, Nat.zero_le _⟩) (fun r_10 hw_11 => ?_)
    try dsimp only at hw_11
    have jn_12 : ∀ (v2 : Int32) (ls : Array Slot),  lv_has ls 6 [(3, .int (r_4)), (2, .int (r_1)), (0, .ref (ad 0)), (1, .int (c))] → W p l e ({ frames := 7, cells := 0, slots := 0, locals := 201 } : Room) s m args below meth c₀ H locs 0 0 Q (F0 m 75 ls [.int (v2), .int (r_10)]) := by
      intro v2 ls  hl
      refine lv_iadd hx hb (fk_get fk_cX12_visitOne_1 12 rfl) ?_
      refine lv_istore (lv' := [(4, .int ((r_10 + v2))), (3, .int (r_4)), (2, .int (r_1)), (0, .ref (ad 0)), (1, .int (c))]) hx hb (fk_get fk_cX12_visitOne_1 13 rfl) hl (by decide) rfl (fun ls hl => ?_)
      have jn_13 : ∀ (v3 : Int32) (ls : Array Slot),  lv_has ls 6 [(4, .int ((r_10 + v2))), (3, .int (r_4)), (2, .int (r_1)), (0, .ref (ad 0)), (1, .int (c))] → W p l e ({ frames := 7, cells := 0, slots := 0, locals := 201 } : Room) s m args below meth c₀ H locs 0 0 Q (F0 m 104 ls [.int (v3), .int (3), .int (c), .ref (ad 0)]) := by
        intro v3 ls  hl
        have hFc := va_self hD hS hA
        refine va_callv (va_runV (As := [.int (c), .int (3), .int (v3)]) (rest := []) ⟨hx, hb, hml, hown, hT⟩ (c_put l G ad (setF (setF (setF S_6 0 34 (r_7)) 0 35 ((r_7 + r_1))) 0 33 (v1)) H.size (c) (3) (v3) (((12 * j) + 3)) (n_add (n_mul (rfl) (ej)) (rfl)) (by omega)) (tV 3 hT m6_102 m6_104 mp_31 m1_17 m6_105 rfl rfl (by decide +kernel) ⟨Nat.le_of_ble_eq_true rfl, Nat.le_of_ble_eq_true rfl⟩) ⟨PcW_blind, va_recv hK hP (ci := 14) (q0 := 0) rfl (ix_at (by decide) (cR_0 G ad (setF (setF (setF S_6 0 34 (r_7)) 0 35 ((r_7 + r_1))) 0 33 (v1)))), PcW_of hP hK hD _⟩ rfl rfl hl.1 rfl (lv_room (Nat.le_of_ble_eq_true rfl)) (fk_get fk_cX12_visitOne_1 27 rfl) ⟨Nat.zero_le _, Nat.zero_le _⟩) hS (fun q _ h => hFc q h) hFc (fun S_16 t_ H locs ht_ hvm_ hw_15 hB_ hz_ hk_ hS => ?_)
        obtain ⟨hP, -, hD1_⟩ := hB_
        rw [ht_] at hP
        have hD : va_D A (wR G ad S_16) := hD1_.weaken (fun k q _ h => hFc q.1 h)
        try dsimp only at hw_15
        subst hw_15
        have jn_17 : ∀  (SA : FS) (H_19 : Heap) (locs_20 : List Loc) (ls : Array Slot),  (VR j x S SA) → va_P G.1 vwCl (wR G ad SA) H_19 → va_D A (wR G ad SA) → va_S A s.heap H_19 locs_20 → lv_has ls 6 [(4, .int ((r_10 + v2))), (3, .int (r_4)), (2, .int (r_1)), (0, .ref (ad 0)), (1, .int (c))] → W p l e ({ frames := 7, cells := 0, slots := 0, locals := 201 } : Room) s m args below meth c₀ H_19 locs_20 0 0 Q (F0 m 136 ls []) := by
          intro  SA H_19 locs_20 ls hVA hP hD hS hl
          have jn_21 : ∀  (SB : FS) (H_23 : Heap) (locs_24 : List Loc) (ls : Array Slot),  (VR j x S SB) → va_P G.1 vwCl (wR G ad SB) H_23 → va_D A (wR G ad SB) → va_S A s.heap H_23 locs_24 → lv_has ls 6 [(4, .int ((r_10 + v2))), (3, .int (r_4)), (2, .int (r_1)), (0, .ref (ad 0)), (1, .int (c))] → W p l e ({ frames := 7, cells := 0, slots := 0, locals := 201 } : Room) s m args below meth c₀ H_23 locs_24 0 0 Q (F0 m 168 ls []) := by
            intro  SB H_23 locs_24 ls hVB hP hD hS hl
            refine lv_aload_n hx hb (fk_get fk_cX12_visitOne_3 1 rfl) rfl (lv_at hl 3 rfl) ?_
            refine va_get (D := G.1) (ci := 14) (v := .int ((fF SB 0 33))) (C := RX12) (T := TX12) (N := 49) hx hb hT inX12 hown hK hP 0 (ix_at (by decide) (cR_0 G ad SB)) rfl 33 (by decide) (hT _ m5_134) (fun _ h9 => h9) rfl (fk_get fk_cX12_visitOne_3 2 rfl) ?_
            refine lv_aload_n hx hb (fk_get fk_cX12_visitOne_3 3 rfl) rfl (lv_at hl 3 rfl) ?_
            refine lv_iload_n hx hb (fk_get fk_cX12_visitOne_3 4 rfl) rfl (lv_at hl 4 rfl) ?_
            refine lv_iconst (v := 2) hx hb (fk_get fk_cX12_visitOne_3 5 rfl) (by decide) ?_
            refine vp_callSi (W.runV (As := [.int (c), .int (2)]) (rest := [.int ((fF SB 0 33))]) ⟨hx, hb, hml, hown, hT⟩ (c_of0 l G ad SB H_23.size (c) (2) (((12 * j) + 2)) (n_add (n_mul (rfl) (ej)) (rfl)) (by omega)) (tV 2 hT m6_119 m6_121 mp_34 m1_17 m6_122 rfl rfl (by decide +kernel) ⟨Nat.le_of_ble_eq_true rfl, Nat.le_of_ble_eq_true rfl⟩) ⟨PcW_blind, va_recv hK hP (ci := 14) (q0 := 0) rfl (ix_at (by decide) (cR_0 G ad SB)), PcW_of hP hK hD _⟩ rfl rfl hl.1 rfl (lv_room (Nat.le_of_ble_eq_true rfl)) (fk_get fk_cX12_visitOne_3 6 rfl) ⟨Nat.zero_le _, Nat.zero_le _⟩) (fun r_25 hw_26 => ?_)
            try dsimp only at hw_26
            refine lv_isub hx hb (fk_get fk_cX12_visitOne_3 7 rfl) ?_
            refine lv_istore (lv' := [(5, .int (((fF SB 0 33) - r_25))), (4, .int ((r_10 + v2))), (3, .int (r_4)), (2, .int (r_1)), (0, .ref (ad 0)), (1, .int (c))]) hx hb (fk_get fk_cX12_visitOne_3 8 rfl) hl (by decide) rfl (fun ls hl => ?_)
            have jn_27 : ∀ (v4 : Int32) (ls : Array Slot),  lv_has ls 6 [(5, .int (((fF SB 0 33) - r_25))), (4, .int ((r_10 + v2))), (3, .int (r_4)), (2, .int (r_1)), (0, .ref (ad 0)), (1, .int (c))] → W p l e ({ frames := 7, cells := 0, slots := 0, locals := 201 } : Room) s m args below meth c₀ H_23 locs_24 0 0 Q (F0 m 207 ls [.int (v4), .int (4), .int (c), .ref (ad 0)]) := by
              intro v4 ls  hl
              have hFc := va_self hD hS hA
              refine va_callv (va_runV (As := [.int (c), .int (4), .int (v4)]) (rest := []) ⟨hx, hb, hml, hown, hT⟩ (c_put l G ad SB H_23.size (c) (4) (v4) (((12 * j) + 4)) (n_add (n_mul (rfl) (ej)) (rfl)) (by omega)) (tV 3 hT m6_102 m6_104 mp_31 m1_17 m6_105 rfl rfl (by decide +kernel) ⟨Nat.le_of_ble_eq_true rfl, Nat.le_of_ble_eq_true rfl⟩) ⟨PcW_blind, va_recv hK hP (ci := 14) (q0 := 0) rfl (ix_at (by decide) (cR_0 G ad SB)), PcW_of hP hK hD _⟩ rfl rfl hl.1 rfl (lv_room (Nat.le_of_ble_eq_true rfl)) (fk_get fk_cX12_visitOne_3 22 rfl) ⟨Nat.zero_le _, Nat.zero_le _⟩) hS (fun q _ h => hFc q h) hFc (fun S_30 t_ H locs ht_ hvm_ hw_29 hB_ hz_ hk_ hS => ?_)
              obtain ⟨hP, -, hD1_⟩ := hB_
              rw [ht_] at hP
              have hD : va_D A (wR G ad S_30) := hD1_.weaken (fun k q _ h => hFc q.1 h)
              try dsimp only at hw_29
              subst hw_29
              have hV4 : VR j x S (setA SB 1 (upd (fA SB 1) (((12 * j) + 4)) (v4))) := hVB.put (k := 4) (by decide) _
              have h15 : fF SB 0 15 = fF S 0 15 := hVB.2.2.1 15 (by decide) (by decide) (by decide)
              refine lv_aload_n hx hb (fk_get fk_cX12_visitOne_3 23 rfl) rfl (lv_at hl 4 rfl) ?_
              refine va_get (D := G.1) (ci := 14) (v := .int ((fF SB 0 15))) (C := RX12) (T := TX12) (N := 49) hx hb hT inX12 hown hK hP 0 (ix_at (by decide) (cR_0 G ad (setA SB 1 (upd (fA SB 1) (((12 * j) + 4)) (v4))))) rfl 15 (by decide) (hT _ m5_116) (fun _ h9 => h9) rfl (fk_get fk_cX12_visitOne_3 24 rfl) ?_
              refine lv_if_ne (tgt := 230) hx hb (fk_get fk_cX12_visitOne_3 25 rfl) (by decide) (fun c_31 => ?_) (fun c_31 => ?_)
              · refine lv_aload_n hx hb (fk_get fk_cX12_visitOne_4 0 rfl) rfl (lv_at hl 4 rfl) ?_
                refine lv_iload_n hx hb (fk_get fk_cX12_visitOne_4 1 rfl) rfl (lv_at hl 5 rfl) ?_
                refine lv_bipush (v := 6) hx hb (fk_get fk_cX12_visitOne_4 2 rfl) (by decide) ?_
                refine lv_aload_n hx hb (fk_get fk_cX12_visitOne_4 3 rfl) rfl (lv_at hl 4 rfl) ?_
                refine lv_iload_n hx hb (fk_get fk_cX12_visitOne_4 4 rfl) rfl (lv_at hl 5 rfl) ?_
                refine lv_bipush (v := 6) hx hb (fk_get fk_cX12_visitOne_4 5 rfl) (by decide) ?_
                refine vp_callSi (W.runV (As := [.int (c), .int (6)]) (rest := [.int (6), .int (c), .ref (ad 0)]) ⟨hx, hb, hml, hown, hT⟩ (c_of0 l G ad (setA SB 1 (upd (fA SB 1) (((12 * j) + 4)) (v4))) H.size (c) (6) (((12 * j) + 6)) (n_add (n_mul (rfl) (ej)) (rfl)) (by omega)) (tV 2 hT m6_119 m6_121 mp_34 m1_17 m6_122 rfl rfl (by decide +kernel) ⟨Nat.le_of_ble_eq_true rfl, Nat.le_of_ble_eq_true rfl⟩) ⟨PcW_blind, va_recv hK hP (ci := 14) (q0 := 0) rfl (ix_at (by decide) (cR_0 G ad (setA SB 1 (upd (fA SB 1) (((12 * j) + 4)) (v4))))), PcW_of hP hK hD _⟩ rfl rfl hl.1 rfl (lv_room (Nat.le_of_ble_eq_true rfl)) (fk_get fk_cX12_visitOne_4 6 rfl) ⟨Nat.zero_le _, Nat.zero_le _⟩) (fun r_32 hw_33 => ?_)
                try dsimp only at hw_33
                have hw_33 : r_32 = nI x := hw_33.trans hV4.2.2.2.2.2
                subst hw_33
                refine lv_iconst (v := 1) hx hb (fk_get fk_cX12_visitOne_4 7 rfl) (by decide) ?_
                refine lv_iadd hx hb (fk_get fk_cX12_visitOne_4 8 rfl) ?_
                rw [show ((nI x) + 1) = (nI (x + 1)) from (nI_1 x)]
                have hFc := va_self hD hS hA
                refine va_callv (va_runV (As := [.int (c), .int (6), .int ((nI (x + 1)))]) (rest := []) ⟨hx, hb, hml, hown, hT⟩ (c_put l G ad (setA SB 1 (upd (fA SB 1) (((12 * j) + 4)) (v4))) H.size (c) (6) ((nI (x + 1))) (((12 * j) + 6)) (n_add (n_mul (rfl) (ej)) (rfl)) (by omega)) (tV 3 hT m6_102 m6_104 mp_31 m1_17 m6_105 rfl rfl (by decide +kernel) ⟨Nat.le_of_ble_eq_true rfl, Nat.le_of_ble_eq_true rfl⟩) ⟨PcW_blind, va_recv hK hP (ci := 14) (q0 := 0) rfl (ix_at (by decide) (cR_0 G ad (setA SB 1 (upd (fA SB 1) (((12 * j) + 4)) (v4))))), PcW_of hP hK hD _⟩ rfl rfl hl.1 rfl (lv_room (Nat.le_of_ble_eq_true rfl)) (fk_get fk_cX12_visitOne_4 9 rfl) ⟨Nat.zero_le _, Nat.zero_le _⟩) hS (fun q _ h => hFc q h) hFc (fun S_36 t_ H locs ht_ hvm_ hw_35 hB_ hz_ hk_ hS => ?_)
                obtain ⟨hP, -, hD1_⟩ := hB_
                rw [ht_] at hP
                have hD : va_D A (wR G ad S_36) := hD1_.weaken (fun k q _ h => hFc q.1 h)
                try dsimp only at hw_35
                subst hw_35
                subst hQ
                have hpost : ∃ y, VR j y S (setA (setA SB 1 (upd (fA SB 1) (((12 * j) + 4)) (v4))) 1 (upd (fA (setA SB 1 (upd (fA SB 1) (((12 * j) + 4)) (v4))) 1) (((12 * j) + 6)) ((nI (x + 1))))) ∧ y ≤ x + 1 ∧ (fF S 0 15 = 0 → x ≤ 9999 → y ≤ 9999) := by
                  first
                  | exact ⟨x + 1, hV4.put6, by omega, fun q _ => absurd (h15.trans q) (by assumption)⟩
                  | exact ⟨x + 1, hV4.put6, by omega, fun _ _ => by omega⟩
                  | exact ⟨x, hV4, by omega, fun _ q => q⟩
                exact W.vret hx hb hr (fun t_ ht_ hW_ => ⟨⟨(setA (setA SB 1 (upd (fA SB 1) (((12 * j) + 4)) (v4))) 1 (upd (fA (setA SB 1 (upd (fA SB 1) (((12 * j) + 4)) (v4))) 1) (((12 * j) + 6)) ((nI (x + 1))))), rfl, hpost, by rw [ht_]; exact hP, va_K.moved hW_.alike hK, hD⟩, hS.F ht_⟩) hS.2.2 (fk_get fk_cX12_visitOne_4 10 rfl)
              refine lv_aload_n hx hb (fk_get fk_cX12_visitOne_3 26 rfl) rfl (lv_at hl 4 rfl) ?_
              refine lv_iload_n hx hb (fk_get fk_cX12_visitOne_3 27 rfl) rfl (lv_at hl 5 rfl) ?_
              refine lv_bipush (v := 6) hx hb (fk_get fk_cX12_visitOne_3 28 rfl) (by decide) ?_
              refine vp_callSi (W.runV (As := [.int (c), .int (6)]) (rest := []) ⟨hx, hb, hml, hown, hT⟩ (c_of0 l G ad (setA SB 1 (upd (fA SB 1) (((12 * j) + 4)) (v4))) H.size (c) (6) (((12 * j) + 6)) (n_add (n_mul (rfl) (ej)) (rfl)) (by omega)) (tV 2 hT m6_119 m6_121 mp_34 m1_17 m6_122 rfl rfl (by decide +kernel) ⟨Nat.le_of_ble_eq_true rfl, Nat.le_of_ble_eq_true rfl⟩) ⟨PcW_blind, va_recv hK hP (ci := 14) (q0 := 0) rfl (ix_at (by decide) (cR_0 G ad (setA SB 1 (upd (fA SB 1) (((12 * j) + 4)) (v4))))), PcW_of hP hK hD _⟩ rfl rfl hl.1 rfl (lv_room (Nat.le_of_ble_eq_true rfl)) (fk_get fk_cX12_visitOne_3 29 rfl) ⟨Nat.zero_le _, Nat.zero_le _⟩) (fun r_37 hw_38 => ?_)
              try dsimp only at hw_38
              have hw_38 : r_37 = nI x := hw_38.trans hV4.2.2.2.2.2
              subst hw_38
              refine lv_sipush (v := 9999) hx hb (fk_get fk_cX12_visitOne_3 30 rfl) (by decide) ?_
              refine lv_icmp_ge (tgt := 246) hx hb (fk_get fk_cX12_visitOne_3 31 rfl) (by decide) (fun c_39 => ?_) (fun c_39 => ?_)
              · subst hQ
                have hpost : ∃ y, VR j y S (setA SB 1 (upd (fA SB 1) (((12 * j) + 4)) (v4))) ∧ y ≤ x + 1 ∧ (fF S 0 15 = 0 → x ≤ 9999 → y ≤ 9999) := by
                  first
                  | exact ⟨x + 1, hV4.put6, by omega, fun q _ => absurd (h15.trans q) (by assumption)⟩
                  | exact ⟨x + 1, hV4.put6, by omega, fun _ _ => by omega⟩
                  | exact ⟨x, hV4, by omega, fun _ q => q⟩
                exact W.vret hx hb hr (fun t_ ht_ hW_ => ⟨⟨(setA SB 1 (upd (fA SB 1) (((12 * j) + 4)) (v4))), rfl, hpost, by rw [ht_]; exact hP, va_K.moved hW_.alike hK, hD⟩, hS.F ht_⟩) hS.2.2 (fk_get fk_cX12_visitOne_4 10 rfl)
              have hlt : x < 9999 := Nat.lt_of_not_le (fun w => c_39 ((nI_leI (a := 9999) (b := x) (by omega) (by omega)).mpr w))
              refine lv_aload_n hx hb (fk_get fk_cX12_visitOne_4 0 rfl) rfl (lv_at hl 4 rfl) ?_
              refine lv_iload_n hx hb (fk_get fk_cX12_visitOne_4 1 rfl) rfl (lv_at hl 5 rfl) ?_
              refine lv_bipush (v := 6) hx hb (fk_get fk_cX12_visitOne_4 2 rfl) (by decide) ?_
              refine lv_aload_n hx hb (fk_get fk_cX12_visitOne_4 3 rfl) rfl (lv_at hl 4 rfl) ?_
              refine lv_iload_n hx hb (fk_get fk_cX12_visitOne_4 4 rfl) rfl (lv_at hl 5 rfl) ?_
              refine lv_bipush (v := 6) hx hb (fk_get fk_cX12_visitOne_4 5 rfl) (by decide) ?_
              refine vp_callSi (W.runV (As := [.int (c), .int (6)]) (rest := [.int (6), .int (c), .ref (ad 0)]) ⟨hx, hb, hml, hown, hT⟩ (c_of0 l G ad (setA SB 1 (upd (fA SB 1) (((12 * j) + 4)) (v4))) H.size (c) (6) (((12 * j) + 6)) (n_add (n_mul (rfl) (ej)) (rfl)) (by omega)) (tV 2 hT m6_119 m6_121 mp_34 m1_17 m6_122 rfl rfl (by decide +kernel) ⟨Nat.le_of_ble_eq_true rfl, Nat.le_of_ble_eq_true rfl⟩) ⟨PcW_blind, va_recv hK hP (ci := 14) (q0 := 0) rfl (ix_at (by decide) (cR_0 G ad (setA SB 1 (upd (fA SB 1) (((12 * j) + 4)) (v4))))), PcW_of hP hK hD _⟩ rfl rfl hl.1 rfl (lv_room (Nat.le_of_ble_eq_true rfl)) (fk_get fk_cX12_visitOne_4 6 rfl) ⟨Nat.zero_le _, Nat.zero_le _⟩) (fun r_40 hw_41 => ?_)
              try dsimp only at hw_41
              have hw_41 : r_40 = nI x := hw_41.trans hV4.2.2.2.2.2
              subst hw_41
              refine lv_iconst (v := 1) hx hb (fk_get fk_cX12_visitOne_4 7 rfl) (by decide) ?_
              refine lv_iadd hx hb (fk_get fk_cX12_visitOne_4 8 rfl) ?_
              rw [show ((nI x) + 1) = (nI (x + 1)) from (nI_1 x)]
              have hFc := va_self hD hS hA
              refine va_callv (va_runV (As := [.int (c), .int (6), .int ((nI (x + 1)))]) (rest := []) ⟨hx, hb, hml, hown, hT⟩ (c_put l G ad (setA SB 1 (upd (fA SB 1) (((12 * j) + 4)) (v4))) H.size (c) (6) ((nI (x + 1))) (((12 * j) + 6)) (n_add (n_mul (rfl) (ej)) (rfl)) (by omega)) (tV 3 hT m6_102 m6_104 mp_31 m1_17 m6_105 rfl rfl (by decide +kernel) ⟨Nat.le_of_ble_eq_true rfl, Nat.le_of_ble_eq_true rfl⟩) ⟨PcW_blind, va_recv hK hP (ci := 14) (q0 := 0) rfl (ix_at (by decide) (cR_0 G ad (setA SB 1 (upd (fA SB 1) (((12 * j) + 4)) (v4))))), PcW_of hP hK hD _⟩ rfl rfl hl.1 rfl (lv_room (Nat.le_of_ble_eq_true rfl)) (fk_get fk_cX12_visitOne_4 9 rfl) ⟨Nat.zero_le _, Nat.zero_le _⟩) hS (fun q _ h => hFc q h) hFc (fun S_44 t_ H locs ht_ hvm_ hw_43 hB_ hz_ hk_ hS => ?_)
              obtain ⟨hP, -, hD1_⟩ := hB_
              rw [ht_] at hP
              have hD : va_D A (wR G ad S_44) := hD1_.weaken (fun k q _ h => hFc q.1 h)
              try dsimp only at hw_43
              subst hw_43
              subst hQ
              have hpost : ∃ y, VR j y S (setA (setA SB 1 (upd (fA SB 1) (((12 * j) + 4)) (v4))) 1 (upd (fA (setA SB 1 (upd (fA SB 1) (((12 * j) + 4)) (v4))) 1) (((12 * j) + 6)) ((nI (x + 1))))) ∧ y ≤ x + 1 ∧ (fF S 0 15 = 0 → x ≤ 9999 → y ≤ 9999) := by
                first
                | exact ⟨x + 1, hV4.put6, by omega, fun q _ => absurd (h15.trans q) (by assumption)⟩
                | exact ⟨x + 1, hV4.put6, by omega, fun _ _ => by omega⟩
                | exact ⟨x, hV4, by omega, fun _ q => q⟩
              exact W.vret hx hb hr (fun t_ ht_ hW_ => ⟨⟨(setA (setA SB 1 (upd (fA SB 1) (((12 * j) + 4)) (v4))) 1 (upd (fA (setA SB 1 (upd (fA SB 1) (((12 * j) + 4)) (v4))) 1) (((12 * j) + 6)) ((nI (x + 1))))), rfl, hpost, by rw [ht_]; exact hP, va_K.moved hW_.alike hK, hD⟩, hS.F ht_⟩) hS.2.2 (fk_get fk_cX12_visitOne_4 10 rfl)
            refine lv_aload_n hx hb (fk_get fk_cX12_visitOne_3 9 rfl) rfl (lv_at hl 4 rfl) ?_
            refine lv_iload_n hx hb (fk_get fk_cX12_visitOne_3 10 rfl) rfl (lv_at hl 5 rfl) ?_
            refine lv_iconst (v := 4) hx hb (fk_get fk_cX12_visitOne_3 11 rfl) (by decide) ?_
            refine lv_iload hx hb (fk_get fk_cX12_visitOne_3 12 rfl) (lv_at hl 0 rfl) ?_
            refine lv_if_ge (tgt := 193) hx hb (fk_get fk_cX12_visitOne_3 13 rfl) (by decide) (fun c_45 => ?_) (fun c_45 => ?_)
            · refine lv_iload hx hb (fk_get fk_cX12_visitOne_3 16 rfl) (lv_at hl 0 rfl) ?_
              refine lv_bipush (v := 99) hx hb (fk_get fk_cX12_visitOne_3 17 rfl) (by decide) ?_
              refine lv_icmp_le (tgt := 205) hx hb (fk_get fk_cX12_visitOne_3 18 rfl) (by decide) (fun c_46 => ?_) (fun c_46 => ?_)
              · refine lv_iload hx hb (fk_get fk_cX12_visitOne_3 21 rfl) (lv_at hl 0 rfl) ?_
                exact jn_27 ((((fF SB 0 33) - r_25))) ls  (lv_sub hl [0, 1, 2, 3, 4, 5] rfl)
              refine lv_bipush (v := 99) hx hb (fk_get fk_cX12_visitOne_3 19 rfl) (by decide) ?_
              refine lv_goto (tgt := 207) hx hb (fk_get fk_cX12_visitOne_3 20 rfl) (by decide) ?_
              exact jn_27 ((99)) ls  (lv_sub hl [0, 1, 2, 3, 4, 5] rfl)
            refine lv_iconst (v := 0) hx hb (fk_get fk_cX12_visitOne_3 14 rfl) (by decide) ?_
            refine lv_goto (tgt := 207) hx hb (fk_get fk_cX12_visitOne_3 15 rfl) (by decide) ?_
            exact jn_27 ((0)) ls  (lv_sub hl [0, 1, 2, 3, 4, 5] rfl)
          refine lv_iload_n hx hb (fk_get fk_cX12_visitOne_2 14 rfl) rfl (lv_at hl 1 rfl) ?_
          refine lv_if_eq (tgt := 168) hx hb (fk_get fk_cX12_visitOne_2 15 rfl) (by decide) (fun c_47 => ?_) (fun c_47 => ?_)
          · exact jn_21  (SA) _ _ ls ((by first | exact hVA | exact hVA.put (k := 7) (by decide) _)) hP hD hS (lv_sub hl [0, 1, 2, 3, 4] rfl)
          refine lv_aload_n hx hb (fk_get fk_cX12_visitOne_2 16 rfl) rfl (lv_at hl 3 rfl) ?_
          refine lv_iload_n hx hb (fk_get fk_cX12_visitOne_2 17 rfl) rfl (lv_at hl 4 rfl) ?_
          refine lv_iconst (v := 0) hx hb (fk_get fk_cX12_visitOne_2 18 rfl) (by decide) ?_
          refine vp_callSi (W.runV (As := [.int (c), .int (0)]) (rest := []) ⟨hx, hb, hml, hown, hT⟩ (c_of0 l G ad SA H_19.size (c) (0) (((12 * j) + 0)) (n_add (n_mul (rfl) (ej)) (rfl)) (by omega)) (tV 2 hT m6_119 m6_121 mp_34 m1_17 m6_122 rfl rfl (by decide +kernel) ⟨Nat.le_of_ble_eq_true rfl, Nat.le_of_ble_eq_true rfl⟩) ⟨PcW_blind, va_recv hK hP (ci := 14) (q0 := 0) rfl (ix_at (by decide) (cR_0 G ad SA)), PcW_of hP hK hD _⟩ rfl rfl hl.1 rfl (lv_room (Nat.le_of_ble_eq_true rfl)) (fk_get fk_cX12_visitOne_2 19 rfl) ⟨Nat.zero_le _, Nat.zero_le _⟩) (fun r_48 hw_49 => ?_)
          try dsimp only at hw_49
          refine lv_iconst (v := 5) hx hb (fk_get fk_cX12_visitOne_2 20 rfl) (by decide) ?_
          refine lv_icmp_ne (tgt := 168) hx hb (fk_get fk_cX12_visitOne_2 21 rfl) (by decide) (fun c_50 => ?_) (fun c_50 => ?_)
          · exact jn_21  (SA) _ _ ls ((by first | exact hVA | exact hVA.put (k := 7) (by decide) _)) hP hD hS (lv_sub hl [0, 1, 2, 3, 4] rfl)
          refine lv_aload_n hx hb (fk_get fk_cX12_visitOne_2 22 rfl) rfl (lv_at hl 3 rfl) ?_
          refine lv_iload_n hx hb (fk_get fk_cX12_visitOne_2 23 rfl) rfl (lv_at hl 4 rfl) ?_
          refine lv_iconst (v := 5) hx hb (fk_get fk_cX12_visitOne_2 24 rfl) (by decide) ?_
          refine vp_callSi (W.runV (As := [.int (c), .int (5)]) (rest := []) ⟨hx, hb, hml, hown, hT⟩ (c_of0 l G ad SA H_19.size (c) (5) (((12 * j) + 5)) (n_add (n_mul (rfl) (ej)) (rfl)) (by omega)) (tV 2 hT m6_119 m6_121 mp_34 m1_17 m6_122 rfl rfl (by decide +kernel) ⟨Nat.le_of_ble_eq_true rfl, Nat.le_of_ble_eq_true rfl⟩) ⟨PcW_blind, va_recv hK hP (ci := 14) (q0 := 0) rfl (ix_at (by decide) (cR_0 G ad SA)), PcW_of hP hK hD _⟩ rfl rfl hl.1 rfl (lv_room (Nat.le_of_ble_eq_true rfl)) (fk_get fk_cX12_visitOne_2 25 rfl) ⟨Nat.zero_le _, Nat.zero_le _⟩) (fun r_51 hw_52 => ?_)
          try dsimp only at hw_52
          refine lv_iconst (v := 3) hx hb (fk_get fk_cX12_visitOne_2 26 rfl) (by decide) ?_
          refine lv_icmp_lt (tgt := 168) hx hb (fk_get fk_cX12_visitOne_2 27 rfl) (by decide) (fun c_53 => ?_) (fun c_53 => ?_)
          · exact jn_21  (SA) _ _ ls ((by first | exact hVA | exact hVA.put (k := 7) (by decide) _)) hP hD hS (lv_sub hl [0, 1, 2, 3, 4] rfl)
          refine lv_aload_n hx hb (fk_get fk_cX12_visitOne_2 28 rfl) rfl (lv_at hl 3 rfl) ?_
          refine lv_iload_n hx hb (fk_get fk_cX12_visitOne_2 29 rfl) rfl (lv_at hl 4 rfl) ?_
          refine lv_bipush (v := 7) hx hb (fk_get fk_cX12_visitOne_2 30 rfl) (by decide) ?_
          refine lv_iconst (v := 1) hx hb (fk_get fk_cX12_visitOne_2 31 rfl) (by decide) ?_
          have hFc := va_self hD hS hA
          refine va_callv (va_runV (As := [.int (c), .int (7), .int (1)]) (rest := []) ⟨hx, hb, hml, hown, hT⟩ (c_put l G ad SA H_19.size (c) (7) (1) (((12 * j) + 7)) (n_add (n_mul (rfl) (ej)) (rfl)) (by omega)) (tV 3 hT m6_102 m6_104 mp_31 m1_17 m6_105 rfl rfl (by decide +kernel) ⟨Nat.le_of_ble_eq_true rfl, Nat.le_of_ble_eq_true rfl⟩) ⟨PcW_blind, va_recv hK hP (ci := 14) (q0 := 0) rfl (ix_at (by decide) (cR_0 G ad SA)), PcW_of hP hK hD _⟩ rfl rfl hl.1 rfl (lv_room (Nat.le_of_ble_eq_true rfl)) (fk_get fk_cX12_visitOne_3 0 rfl) ⟨Nat.zero_le _, Nat.zero_le _⟩) hS (fun q _ h => hFc q h) hFc (fun S_56 t_ H locs ht_ hvm_ hw_55 hB_ hz_ hk_ hS => ?_)
          obtain ⟨hP, -, hD1_⟩ := hB_
          rw [ht_] at hP
          have hD : va_D A (wR G ad S_56) := hD1_.weaken (fun k q _ h => hFc q.1 h)
          try dsimp only at hw_55
          subst hw_55
          exact jn_21  (setA SA 1 (upd (fA SA 1) (((12 * j) + 7)) (1))) _ _ ls ((by first | exact hVA | exact hVA.put (k := 7) (by decide) _)) hP hD hS (lv_sub hl [0, 1, 2, 3, 4] rfl)
        have hV1 : VR j x S (setA (setF (setF (setF S_6 0 34 (r_7)) 0 35 ((r_7 + r_1))) 0 33 (v1)) 1 (upd (fA (setF (setF (setF S_6 0 34 (r_7)) 0 35 ((r_7 + r_1))) 0 33 (v1)) 1) (((12 * j) + 3)) (v3))) := hVc.put (k := 3) (by decide) _
        refine lv_iload_n hx hb (fk_get fk_cX12_visitOne_1 28 rfl) rfl (lv_at hl 1 rfl) ?_
        refine lv_if_eq (tgt := 136) hx hb (fk_get fk_cX12_visitOne_1 29 rfl) (by decide) (fun c_57 => ?_) (fun c_57 => ?_)
        · exact jn_17  (setA (setF (setF (setF S_6 0 34 (r_7)) 0 35 ((r_7 + r_1))) 0 33 (v1)) 1 (upd (fA (setF (setF (setF S_6 0 34 (r_7)) 0 35 ((r_7 + r_1))) 0 33 (v1)) 1) (((12 * j) + 3)) (v3))) _ _ ls ((by first | exact hV1 | exact hV1.put (k := 5) (by decide) _)) hP hD hS (lv_sub hl [0, 1, 2, 3, 4] rfl)
        refine lv_aload_n hx hb (fk_get fk_cX12_visitOne_1 30 rfl) rfl (lv_at hl 3 rfl) ?_
        refine lv_iload_n hx hb (fk_get fk_cX12_visitOne_1 31 rfl) rfl (lv_at hl 4 rfl) ?_
        refine lv_iconst (v := 5) hx hb (fk_get fk_cX12_visitOne_2 0 rfl) (by decide) ?_
        refine vp_callSi (W.runV (As := [.int (c), .int (5)]) (rest := []) ⟨hx, hb, hml, hown, hT⟩ (c_of0 l G ad (setA (setF (setF (setF S_6 0 34 (r_7)) 0 35 ((r_7 + r_1))) 0 33 (v1)) 1 (upd (fA (setF (setF (setF S_6 0 34 (r_7)) 0 35 ((r_7 + r_1))) 0 33 (v1)) 1) (((12 * j) + 3)) (v3))) H.size (c) (5) (((12 * j) + 5)) (n_add (n_mul (rfl) (ej)) (rfl)) (by omega)) (tV 2 hT m6_119 m6_121 mp_34 m1_17 m6_122 rfl rfl (by decide +kernel) ⟨Nat.le_of_ble_eq_true rfl, Nat.le_of_ble_eq_true rfl⟩) ⟨PcW_blind, va_recv hK hP (ci := 14) (q0 := 0) rfl (ix_at (by decide) (cR_0 G ad (setA (setF (setF (setF S_6 0 34 (r_7)) 0 35 ((r_7 + r_1))) 0 33 (v1)) 1 (upd (fA (setF (setF (setF S_6 0 34 (r_7)) 0 35 ((r_7 + r_1))) 0 33 (v1)) 1) (((12 * j) + 3)) (v3))))), PcW_of hP hK hD _⟩ rfl rfl hl.1 rfl (lv_room (Nat.le_of_ble_eq_true rfl)) (fk_get fk_cX12_visitOne_2 1 rfl) ⟨Nat.zero_le _, Nat.zero_le _⟩) (fun r_58 hw_59 => ?_)
        try dsimp only at hw_59
        refine lv_bipush (v := 99) hx hb (fk_get fk_cX12_visitOne_2 2 rfl) (by decide) ?_
        refine lv_icmp_ge (tgt := 136) hx hb (fk_get fk_cX12_visitOne_2 3 rfl) (by decide) (fun c_60 => ?_) (fun c_60 => ?_)
        · exact jn_17  (setA (setF (setF (setF S_6 0 34 (r_7)) 0 35 ((r_7 + r_1))) 0 33 (v1)) 1 (upd (fA (setF (setF (setF S_6 0 34 (r_7)) 0 35 ((r_7 + r_1))) 0 33 (v1)) 1) (((12 * j) + 3)) (v3))) _ _ ls ((by first | exact hV1 | exact hV1.put (k := 5) (by decide) _)) hP hD hS (lv_sub hl [0, 1, 2, 3, 4] rfl)
        refine lv_aload_n hx hb (fk_get fk_cX12_visitOne_2 4 rfl) rfl (lv_at hl 3 rfl) ?_
        refine lv_iload_n hx hb (fk_get fk_cX12_visitOne_2 5 rfl) rfl (lv_at hl 4 rfl) ?_
        refine lv_iconst (v := 5) hx hb (fk_get fk_cX12_visitOne_2 6 rfl) (by decide) ?_
        refine lv_aload_n hx hb (fk_get fk_cX12_visitOne_2 7 rfl) rfl (lv_at hl 3 rfl) ?_
        refine lv_iload_n hx hb (fk_get fk_cX12_visitOne_2 8 rfl) rfl (lv_at hl 4 rfl) ?_
        refine lv_iconst (v := 5) hx hb (fk_get fk_cX12_visitOne_2 9 rfl) (by decide) ?_
        refine vp_callSi (W.runV (As := [.int (c), .int (5)]) (rest := [.int (5), .int (c), .ref (ad 0)]) ⟨hx, hb, hml, hown, hT⟩ (c_of0 l G ad (setA (setF (setF (setF S_6 0 34 (r_7)) 0 35 ((r_7 + r_1))) 0 33 (v1)) 1 (upd (fA (setF (setF (setF S_6 0 34 (r_7)) 0 35 ((r_7 + r_1))) 0 33 (v1)) 1) (((12 * j) + 3)) (v3))) H.size (c) (5) (((12 * j) + 5)) (n_add (n_mul (rfl) (ej)) (rfl)) (by omega)) (tV 2 hT m6_119 m6_121 mp_34 m1_17 m6_122 rfl rfl (by decide +kernel) ⟨Nat.le_of_ble_eq_true rfl, Nat.le_of_ble_eq_true rfl⟩) ⟨PcW_blind, va_recv hK hP (ci := 14) (q0 := 0) rfl (ix_at (by decide) (cR_0 G ad (setA (setF (setF (setF S_6 0 34 (r_7)) 0 35 ((r_7 + r_1))) 0 33 (v1)) 1 (upd (fA (setF (setF (setF S_6 0 34 (r_7)) 0 35 ((r_7 + r_1))) 0 33 (v1)) 1) (((12 * j) + 3)) (v3))))), PcW_of hP hK hD _⟩ rfl rfl hl.1 rfl (lv_room (Nat.le_of_ble_eq_true rfl)) (fk_get fk_cX12_visitOne_2 10 rfl) ⟨Nat.zero_le _, Nat.zero_le _⟩) (fun r_61 hw_62 => ?_)
        try dsimp only at hw_62
        refine lv_iconst (v := 1) hx hb (fk_get fk_cX12_visitOne_2 11 rfl) (by decide) ?_
        refine lv_iadd hx hb (fk_get fk_cX12_visitOne_2 12 rfl) ?_
        have hFc := va_self hD hS hA
        refine va_callv (va_runV (As := [.int (c), .int (5), .int ((r_61 + 1))]) (rest := []) ⟨hx, hb, hml, hown, hT⟩ (c_put l G ad (setA (setF (setF (setF S_6 0 34 (r_7)) 0 35 ((r_7 + r_1))) 0 33 (v1)) 1 (upd (fA (setF (setF (setF S_6 0 34 (r_7)) 0 35 ((r_7 + r_1))) 0 33 (v1)) 1) (((12 * j) + 3)) (v3))) H.size (c) (5) ((r_61 + 1)) (((12 * j) + 5)) (n_add (n_mul (rfl) (ej)) (rfl)) (by omega)) (tV 3 hT m6_102 m6_104 mp_31 m1_17 m6_105 rfl rfl (by decide +kernel) ⟨Nat.le_of_ble_eq_true rfl, Nat.le_of_ble_eq_true rfl⟩) ⟨PcW_blind, va_recv hK hP (ci := 14) (q0 := 0) rfl (ix_at (by decide) (cR_0 G ad (setA (setF (setF (setF S_6 0 34 (r_7)) 0 35 ((r_7 + r_1))) 0 33 (v1)) 1 (upd (fA (setF (setF (setF S_6 0 34 (r_7)) 0 35 ((r_7 + r_1))) 0 33 (v1)) 1) (((12 * j) + 3)) (v3))))), PcW_of hP hK hD _⟩ rfl rfl hl.1 rfl (lv_room (Nat.le_of_ble_eq_true rfl)) (fk_get fk_cX12_visitOne_2 13 rfl) ⟨Nat.zero_le _, Nat.zero_le _⟩) hS (fun q _ h => hFc q h) hFc (fun S_65 t_ H locs ht_ hvm_ hw_64 hB_ hz_ hk_ hS => ?_)
        obtain ⟨hP, -, hD1_⟩ := hB_
        rw [ht_] at hP
        have hD : va_D A (wR G ad S_65) := hD1_.weaken (fun k q _ h => hFc q.1 h)
        try dsimp only at hw_64
        subst hw_64
        exact jn_17  (setA (setA (setF (setF (setF S_6 0 34 (r_7)) 0 35 ((r_7 + r_1))) 0 33 (v1)) 1 (upd (fA (setF (setF (setF S_6 0 34 (r_7)) 0 35 ((r_7 + r_1))) 0 33 (v1)) 1) (((12 * j) + 3)) (v3))) 1 (upd (fA (setA (setF (setF (setF S_6 0 34 (r_7)) 0 35 ((r_7 + r_1))) 0 33 (v1)) 1 (upd (fA (setF (setF (setF S_6 0 34 (r_7)) 0 35 ((r_7 + r_1))) 0 33 (v1)) 1) (((12 * j) + 3)) (v3))) 1) (((12 * j) + 5)) ((r_61 + 1)))) _ _ ls ((by first | exact hV1 | exact hV1.put (k := 5) (by decide) _)) hP hD hS (lv_sub hl [0, 1, 2, 3, 4] rfl)
      refine lv_aload_n hx hb (fk_get fk_cX12_visitOne_1 14 rfl) rfl (lv_at hl 3 rfl) ?_
      refine lv_iload_n hx hb (fk_get fk_cX12_visitOne_1 15 rfl) rfl (lv_at hl 4 rfl) ?_
      refine lv_iconst (v := 3) hx hb (fk_get fk_cX12_visitOne_1 16 rfl) (by decide) ?_
      refine lv_iload hx hb (fk_get fk_cX12_visitOne_1 17 rfl) (lv_at hl 0 rfl) ?_
      refine lv_if_ge (tgt := 90) hx hb (fk_get fk_cX12_visitOne_1 18 rfl) (by decide) (fun c_66 => ?_) (fun c_66 => ?_)
      · refine lv_iload hx hb (fk_get fk_cX12_visitOne_1 21 rfl) (lv_at hl 0 rfl) ?_
        refine lv_bipush (v := 20) hx hb (fk_get fk_cX12_visitOne_1 22 rfl) (by decide) ?_
        refine lv_icmp_le (tgt := 102) hx hb (fk_get fk_cX12_visitOne_1 23 rfl) (by decide) (fun c_67 => ?_) (fun c_67 => ?_)
        · refine lv_iload hx hb (fk_get fk_cX12_visitOne_1 26 rfl) (lv_at hl 0 rfl) ?_
          exact jn_13 (((r_10 + v2))) ls  (lv_sub hl [0, 1, 2, 3, 4] rfl)
        refine lv_bipush (v := 20) hx hb (fk_get fk_cX12_visitOne_1 24 rfl) (by decide) ?_
        refine lv_goto (tgt := 104) hx hb (fk_get fk_cX12_visitOne_1 25 rfl) (by decide) ?_
        exact jn_13 ((20)) ls  (lv_sub hl [0, 1, 2, 3, 4] rfl)
      refine lv_iconst (v := 0) hx hb (fk_get fk_cX12_visitOne_1 19 rfl) (by decide) ?_
      refine lv_goto (tgt := 104) hx hb (fk_get fk_cX12_visitOne_1 20 rfl) (by decide) ?_
      exact jn_13 ((0)) ls  (lv_sub hl [0, 1, 2, 3, 4] rfl)
    refine lv_iload_n hx hb (fk_get fk_cX12_visitOne_1 4 rfl) rfl (lv_at hl 0 rfl) ?_
    refine lv_if_eq (tgt := 69) hx hb (fk_get fk_cX12_visitOne_1 5 rfl) (by decide) (fun c_68 => ?_) (fun c_68 => ?_)
    · refine lv_aload_n hx hb (fk_get fk_cX12_visitOne_1 8 rfl) rfl (lv_at hl 2 rfl) ?_
      refine lv_iconst (v := 3) hx hb (fk_get fk_cX12_visitOne_1 9 rfl) (by decide) ?_
      refine lv_iconst (v := 1) hx hb (fk_get fk_cX12_visitOne_1 10 rfl) (by decide) ?_
      refine vp_callSi (W.runV (As := [.int (3), .int (1)]) (rest := [.int (r_10)]) ⟨hx, hb, hml, hown, hT⟩ (c_lastOf l G ad (setF (setF (setF S_6 0 34 (r_7)) 0 35 ((r_7 + r_1))) 0 33 (v1)) H.size (3) (1) (hHOK.V hVc)) (tV 2 hT m6_180 m6_182 mp_43 m1_17 m6_183 rfl rfl (by decide +kernel) ⟨Nat.le_of_ble_eq_true rfl, Nat.le_of_ble_eq_true rfl⟩) ⟨PcW_blind, va_recv hK hP (ci := 14) (q0 := 0) rfl (ix_at (by decide) (cR_0 G ad (setF (setF (setF S_6 0 34 (r_7)) 0 35 ((r_7 + r_1))) 0 33 (v1)))), PcW_of hP hK hD _⟩ rfl rfl hl.1 rfl (lv_room (Nat.le_of_ble_eq_true rfl)) (fk_get fk_cX12_visitOne_1 11 rfl) ⟨Nat.zero_le _, Nat.zero_le _⟩) (fun r_69 hw_70 => ?_)
      try dsimp only at hw_70
      exact jn_12 ((r_69)) ls  (lv_sub hl [0, 1, 2, 3] rfl)
    refine lv_bipush (v := (-2)) hx hb (fk_get fk_cX12_visitOne_1 6 rfl) (by decide) ?_
    refine lv_goto (tgt := 75) hx hb (fk_get fk_cX12_visitOne_1 7 rfl) (by decide) ?_
    exact jn_12 (((-2))) ls  (lv_sub hl [0, 1, 2, 3] rfl)
  refine lv_aload_n hx hb (fk_get fk_cX12_visitOne_0 19 rfl) rfl (lv_at hl 2 rfl) ?_
  refine lv_iload_n hx hb (fk_get fk_cX12_visitOne_0 20 rfl) rfl (lv_at hl 0 rfl) ?_
  refine lv_if_eq (tgt := 47) hx hb (fk_get fk_cX12_visitOne_0 21 rfl) (by decide) (fun c_71 => ?_) (fun c_71 => ?_)
  · refine lv_aload_n hx hb (fk_get fk_cX12_visitOne_0 29 rfl) rfl (lv_at hl 2 rfl) ?_
    refine va_get (D := G.1) (ci := 14) (v := .int ((r_7 + r_1))) (C := RX12) (T := TX12) (N := 49) hx hb hT inX12 hown hK hP 0 (ix_at (by decide) (cR_0 G ad (setF (setF S_6 0 34 (r_7)) 0 35 ((r_7 + r_1))))) rfl 35 (by decide) (hT _ m5_136) (fun _ h9 => h9) rfl (fk_get fk_cX12_visitOne_0 30 rfl) ?_
    exact jn_9 (((r_7 + r_1))) ls  (lv_sub hl [0, 1, 2, 3] rfl)
  refine lv_aload_n hx hb (fk_get fk_cX12_visitOne_0 22 rfl) rfl (lv_at hl 2 rfl) ?_
  refine va_get (D := G.1) (ci := 14) (v := .int (r_7)) (C := RX12) (T := TX12) (N := 49) hx hb hT inX12 hown hK hP 0 (ix_at (by decide) (cR_0 G ad (setF (setF S_6 0 34 (r_7)) 0 35 ((r_7 + r_1))))) rfl 34 (by decide) (hT _ m5_135) (fun _ h9 => h9) rfl (fk_get fk_cX12_visitOne_0 23 rfl) ?_
  refine lv_iload_n hx hb (fk_get fk_cX12_visitOne_0 24 rfl) rfl (lv_at hl 1 rfl) ?_
  refine lv_iconst (v := 2) hx hb (fk_get fk_cX12_visitOne_0 25 rfl) (by decide) ?_
  refine lv_idiv hx hb (fk_get fk_cX12_visitOne_0 26 rfl) (by decide) ?_
  refine lv_iadd hx hb (fk_get fk_cX12_visitOne_0 27 rfl) ?_
  refine lv_goto (tgt := 51) hx hb (fk_get fk_cX12_visitOne_0 28 rfl) (by decide) ?_
  exact jn_9 (((r_7 + (r_1 / 2)))) ls  (lv_sub hl [0, 1, 2, 3] rfl)
