theorem c_saturdaysOnE (l : Launch) (G : GG) (ad : Nat → Nat) (S : FS) (sz : Nat) (n bb wk : Nat) (hn : fF S 0 1 = nI n) (hn6 : n ≤ 6) (hHOK : HOK S) (hSV : SV bb S) (hB : bb < 800000) (hw40 : wk ≤ 40) (n_ : Int32) (ew : n_ = nI wk) : Met l yX12_saturdaysOn (Cond.code yX12_saturdaysOn cX12_saturdaysOn 3 none :: TBL) ({ frames := 9, cells := 0, slots := 0, locals := 255 } : Room) (PcW G (wR G ad S) sz [.ref (ad 0), .int (n_)]) (va_Qv (fun (S' : FS) => MO S S' ∧ SV (bb + wk) S' ∧ (fF S 0 15 = 0 → bb ≤ 9999 → wk ≤ 1 → SV 9999 S')) (fun S' t => BW G (va_A (wR G ad S) sz) (wR G ad S') t) (va_A (wR G ad S) sz)) 0 0 (va_A (wR G ad S) sz) := by
  subst ew
  exact c_saturdaysOn l G ad S sz n bb wk hn hn6 hHOK hSV hB hw40
theorem c_buysInE (l : Launch) (G : GG) (ad : Nat → Nat) (S : FS) (sz : Nat) (c : Int32) (j bb wk : Nat) (hHOK : HOK S) (hSV : SV bb S) (hB : bb < 900000) (ej : c = nI j) (hj : j < 6) (hw40 : wk ≤ 40) (n_ : Int32) (ew : n_ = nI wk) : Met l yX12_buysIn (Cond.code yX12_buysIn cX12_buysIn 5 (some .int) :: TBL) ({ frames := 8, cells := 0, slots := 0, locals := 230 } : Room) (PcW G (wR G ad S) sz [.ref (ad 0), .int (c), .int (n_)]) (va_Qi (fun (r : Int32) (S' : FS) => MO S S' ∧ SV (bb + wk) S') (fun S' t => BW G (va_A (wR G ad S) sz) (wR G ad S') t) (va_A (wR G ad S) sz)) 0 0 (va_A (wR G ad S) sz) := by
  subst ew
  exact c_buysIn l G ad S sz c j bb wk hHOK hSV hB ej hj hw40
set_option maxHeartbeats 800000 in
set_option maxRecDepth 100000 in
theorem c_lost (l : Launch) (G : GG) (ad : Nat → Nat) (S : FS) (sz : Nat) (n : Nat) (n_ : Int32) (hn : fF S 0 1 = nI n) (hn6 : n ≤ 6) (hHOK : HOK S) (hSV : SV 9999 S) (h15 : fF S 0 15 = 0) : Met l yX12_lost (Cond.code yX12_lost cX12_lost 3 (some .int) :: TBL) ({ frames := 10, cells := 0, slots := 0, locals := 281 } : Room) (PcW G (wR G ad S) sz [.ref (ad 0), .int (n_)]) (va_Qi (fun (r : Int32) (S' : FS) => QP (setF S 0 8 0) S') (fun S' t => BW G (va_A (wR G ad S) sz) (wR G ad S') t) (va_A (wR G ad S) sz)) 0 0 (va_A (wR G ad S) sz) := by
  refine Met.ofW (cc := cX12_lost) (maxL := 3) (ret := (some .int)) (by decide) rfl ?_
  intro p e s m args below meth c₀ s₁ B hml hv
  obtain ⟨rfl, hsz, hP, hK, hD0⟩ := hv
  have hx := B.exec
  have hb := B.bytes
  have hr := B.returns
  have hT : ∀ w ∈ TBL, w.before ([.ref (ad 0), .int (n_)] : List Value).toArray s = true := fun w h => atoms_spec (ws := Cond.code yX12_lost cX12_lost 3 (some .int) :: TBL) B.pre w (List.mem_cons_of_mem _ h)
  have hown : s.vm.findClass "LittleMoreModel" = some m.cls := findClass_of_methodNamed B.named
  have hlocks := B.notSynchronized
  subst hsz
  have hD := hD0.self (sz := s.heap.size)
  generalize hAe : va_A (wR G ad S) s.heap.size = A at hD ⊢
  have hA : ∀ q : Nat, s.heap.size ≤ q → A q := fun q h => by rw [← hAe]; exact Or.inr h
  have hS : va_S A s.heap s.heap [] := va_S.rf
  have hP : va_P G.1 vwCl (wR G ad S) s.heap := hP
  have hl := lv_entry ([.ref (ad 0), .int (n_)]) (n := 3) (Nat.le_of_ble_eq_true rfl)
  rw [lg_entry_eq]
  generalize (lg_sl ([.ref (ad 0), .int (n_)]) ++ List.replicate (3 - (lg_sl ([.ref (ad 0), .int (n_)])).length) Slot.unset).toArray = ls at hl ⊢
  have hl : lv_has ls 3 [(0, .ref (ad 0)), (1, .int (n_))] := hl
  refine W_abs (fun Q hQ => ?_)
  generalize ([.ref (ad 0), .int (n_)] : List Value).toArray = args at hT hQ ⊢
  refine lv_aload_n hx hb dX12_lost_0 rfl (lv_at hl 0 rfl) ?_
  refine lv_iconst (v := 0) hx hb dX12_lost_1 (by decide) ?_
  refine va_put (D := G.1) (ci := 14) (v := .int (0)) (ty := .int) (C := RX12) (T := TX12) (N := 49) hx hb hT inX12 tyX12 tyX12_ok nmX12 hown hK hP hD hS 0 (ix_at (by decide) (cR_0 G ad S)) rfl 8 (by decide) (hT _ m5_109) (fun _ h9 => h9) rfl (by decide +kernel) rfl rfl (Nat.le_of_ble_eq_true rfl) dX12_lost_2 (fun H locs hP hD hS => ?_)
  rw [pR_thrown G ad S (0)] at hP hD
  refine lv_iload_n hx hb dX12_lost_5 rfl (lv_at hl 1 rfl) ?_
  refine lv_i2l hx hb dX12_lost_6 rfl ?_
  refine lv_lconst (v := 0) hx hb dX12_lost_7 (by decide) ?_
  refine lv_ldc2 (v := 40) hx hb hown (hT _ m6_217) dX12_lost_8 ?_
  refine vp_callSi (W.runS (As := [.long ((n_).toInt64), .long (0), .long (40)]) (rest := []) ⟨hx, hb, hml, hown, hT⟩ (c_in l ((n_).toInt64) (0) (40) ) (tS 3 hT m6_31 m6_32 m1_17 m6_33 rfl rfl (by decide +kernel) ⟨Nat.le_of_ble_eq_true rfl, Nat.le_of_ble_eq_true rfl⟩) ⟨PcN_blind, PcN_of _ _ _⟩ rfl rfl hl.1 rfl (lv_room (Nat.le_of_ble_eq_true rfl)) dX12_lost_11 ⟨Nat.zero_le _, Nat.zero_le _⟩) (fun r_1 hw_2 => ?_)
  try dsimp only at hw_2
  have hw_2 := in_eq hw_2 (n_) 0 40 (rfl) (by decide) (by decide)
  refine lv_if_ne (tgt := 20) hx hb dX12_lost_14 (by decide) (fun c_3 => ?_) (fun c_3 => ?_)
  · have p_c_3 := if1_t hw_2 c_3
    obtain ⟨hw40, ew⟩ := in_n (b := 40) p_c_3 (by decide)
    refine lv_aload_n hx hb dX12_lost_20 rfl (lv_at hl 0 rfl) ?_
    have hFc := va_self hD hS hA
    refine va_callv (va_runV (As := []) (rest := []) ⟨hx, hb, hml, hown, hT⟩ (c_open l G ad (setF S 0 8 (0)) H.size (9999) (hSV)) (tV 0 hT m6_218 m6_220 mp_49 m1_17 m6_221 rfl rfl (by decide +kernel) ⟨Nat.le_of_ble_eq_true rfl, Nat.le_of_ble_eq_true rfl⟩) ⟨PcW_blind, va_recv hK hP (ci := 14) (q0 := 0) rfl (ix_at (by decide) (cR_0 G ad (setF S 0 8 (0)))), PcW_of hP hK hD _⟩ rfl rfl hl.1 rfl (lv_room (Nat.le_of_ble_eq_true rfl)) dX12_lost_21 ⟨Nat.zero_le _, Nat.zero_le _⟩) hS (fun q _ h => hFc q h) hFc (fun S_6 t_ H locs ht_ hvm_ hw_5 hB_ hz_ hk_ hS => ?_)
    obtain ⟨hP, -, hD1_⟩ := hB_
    rw [ht_] at hP
    have hD : va_D A (wR G ad S_6) := hD1_.weaken (fun k q _ h => hFc q.1 h)
    try dsimp only at hw_5
    have hI0 := hw_5
    refine lv_aload_n hx hb dX12_lost_24 rfl (lv_at hl 0 rfl) ?_
    refine lv_iload_n hx hb dX12_lost_25 rfl (lv_at hl 1 rfl) ?_
    have hFc := va_self hD hS hA
    refine va_callv (va_runV (As := [.int (n_)]) (rest := []) ⟨hx, hb, hml, hown, hT⟩ (c_saturdaysOnE l G ad S_6 H.size (n) (9999) (n_.toNatClampNeg) (hI0.f (by decide) hn) (hn6) (hI0.HOK hHOK) (hI0.SV) (by omega) (hw40) (n_) (ew)) (tV 1 hT m6_204 m6_206 mp_47 m1_17 m6_207 rfl rfl (by decide +kernel) ⟨Nat.le_of_ble_eq_true rfl, Nat.le_of_ble_eq_true rfl⟩) ⟨PcW_blind, va_recv hK hP (ci := 14) (q0 := 0) rfl (ix_at (by decide) (cR_0 G ad S_6)), PcW_of hP hK hD _⟩ rfl rfl hl.1 rfl (lv_room (Nat.le_of_ble_eq_true rfl)) dX12_lost_26 ⟨Nat.zero_le _, Nat.zero_le _⟩) hS (fun q _ h => hFc q h) hFc (fun S_9 t_ H locs ht_ hvm_ hw_8 hB_ hz_ hk_ hS => ?_)
    obtain ⟨hP, -, hD1_⟩ := hB_
    rw [ht_] at hP
    have hD : va_D A (wR G ad S_9) := hD1_.weaken (fun k q _ h => hFc q.1 h)
    try dsimp only at hw_8
    obtain ⟨hM2, hS2, -⟩ := hw_8
    have hI1 := hI0.M hM2 hS2
    refine lv_aload_n hx hb dX12_lost_29 rfl (lv_at hl 0 rfl) ?_
    refine vp_callSi (W.runV (As := []) (rest := []) ⟨hx, hb, hml, hown, hT⟩ (c_goneBits l G ad S_9 H.size (n) (hI1.f (by decide) hn) (hn6)) (tV 0 hT m6_184 m6_186 mp_44 m1_17 m6_187 rfl rfl (by decide +kernel) ⟨Nat.le_of_ble_eq_true rfl, Nat.le_of_ble_eq_true rfl⟩) ⟨PcW_blind, va_recv hK hP (ci := 14) (q0 := 0) rfl (ix_at (by decide) (cR_0 G ad S_9)), PcW_of hP hK hD _⟩ rfl rfl hl.1 rfl (lv_room (Nat.le_of_ble_eq_true rfl)) dX12_lost_30 ⟨Nat.zero_le _, Nat.zero_le _⟩) (fun r_10 hw_11 => ?_)
    try dsimp only at hw_11
    refine lv_istore_n (lv' := [(2, .int (r_10)), (0, .ref (ad 0)), (1, .int (n_))]) hx hb dX12_lost_33 rfl hl (by decide) rfl (fun ls hl => ?_)
    refine lv_aload_n hx hb dX12_lost_34 rfl (lv_at hl 1 rfl) ?_
    have hFc := va_self hD hS hA
    refine va_callv (va_runV (As := []) (rest := []) ⟨hx, hb, hml, hown, hT⟩ (c_close l G ad S_9 H.size ((setF S 0 8 0)) (9999 + n_.toNatClampNeg) (hI1)) (tV 0 hT m6_226 m6_228 mp_51 m1_17 m6_229 rfl rfl (by decide +kernel) ⟨Nat.le_of_ble_eq_true rfl, Nat.le_of_ble_eq_true rfl⟩) ⟨PcW_blind, va_recv hK hP (ci := 14) (q0 := 0) rfl (ix_at (by decide) (cR_0 G ad S_9)), PcW_of hP hK hD _⟩ rfl rfl hl.1 rfl (lv_room (Nat.le_of_ble_eq_true rfl)) dX12_lost_35 ⟨Nat.zero_le _, Nat.zero_le _⟩) hS (fun q _ h => hFc q h) hFc (fun S_14 t_ H locs ht_ hvm_ hw_13 hB_ hz_ hk_ hS => ?_)
    obtain ⟨hP, -, hD1_⟩ := hB_
    rw [ht_] at hP
    have hD : va_D A (wR G ad S_14) := hD1_.weaken (fun k q _ h => hFc q.1 h)
    try dsimp only at hw_13
    have hZq := hw_13
    refine lv_iload_n hx hb dX12_lost_38 rfl (lv_at hl 0 rfl) ?_
    subst hQ
    have hpost : QP (setF S 0 8 0) S_14 := by
      first | exact QP.rf h15 | exact hZq
    exact W.iret (v := r_10) hx hb hr (fun t_ ht_ hW_ => ⟨⟨r_10, S_14, rfl, hpost, by rw [ht_]; exact hP, va_K.moved hW_.alike hK, hD⟩, hS.F ht_⟩) hS.2.2 dX12_lost_39
  have p_c_3 := if1_f hw_2 c_3
  refine lv_bipush (v := (-2)) hx hb dX12_lost_17 (by decide) ?_
  subst hQ
  have hpost : QP (setF S 0 8 0) (setF S 0 8 (0)) := by
    first | exact QP.rf h15 | exact hZq
  exact W.iret (v := (-2)) hx hb hr (fun t_ ht_ hW_ => ⟨⟨(-2), (setF S 0 8 (0)), rfl, hpost, by rw [ht_]; exact hP, va_K.moved hW_.alike hK, hD⟩, hS.F ht_⟩) hS.2.2 dX12_lost_19
set_option maxHeartbeats 800000 in
set_option maxRecDepth 100000 in
theorem c_nobody (l : Launch) (G : GG) (ad : Nat → Nat) (S : FS) (sz : Nat) (n : Nat) (hn : fF S 0 1 = nI n) (hn6 : n ≤ 6) (hHOK : HOK S) (hSV : SV 9999 S) (h15 : fF S 0 15 = 0) : Met l yX12_nobody (Cond.code yX12_nobody cX12_nobody 3 (some .int) :: TBL) ({ frames := 10, cells := 0, slots := 0, locals := 281 } : Room) (PcW G (wR G ad S) sz [.ref (ad 0)]) (va_Qi (fun (r : Int32) (S' : FS) => QP (setF S 0 8 0) S') (fun S' t => BW G (va_A (wR G ad S) sz) (wR G ad S') t) (va_A (wR G ad S) sz)) 0 0 (va_A (wR G ad S) sz) := by
  refine Met.ofW (cc := cX12_nobody) (maxL := 3) (ret := (some .int)) (by decide) rfl ?_
  intro p e s m args below meth c₀ s₁ B hml hv
  obtain ⟨rfl, hsz, hP, hK, hD0⟩ := hv
  have hx := B.exec
  have hb := B.bytes
  have hr := B.returns
  have hT : ∀ w ∈ TBL, w.before ([.ref (ad 0)] : List Value).toArray s = true := fun w h => atoms_spec (ws := Cond.code yX12_nobody cX12_nobody 3 (some .int) :: TBL) B.pre w (List.mem_cons_of_mem _ h)
  have hown : s.vm.findClass "LittleMoreModel" = some m.cls := findClass_of_methodNamed B.named
  have hlocks := B.notSynchronized
  subst hsz
  have hD := hD0.self (sz := s.heap.size)
  generalize hAe : va_A (wR G ad S) s.heap.size = A at hD ⊢
  have hA : ∀ q : Nat, s.heap.size ≤ q → A q := fun q h => by rw [← hAe]; exact Or.inr h
  have hS : va_S A s.heap s.heap [] := va_S.rf
  have hP : va_P G.1 vwCl (wR G ad S) s.heap := hP
  have hl := lv_entry ([.ref (ad 0)]) (n := 3) (Nat.le_of_ble_eq_true rfl)
  rw [lg_entry_eq]
  generalize (lg_sl ([.ref (ad 0)]) ++ List.replicate (3 - (lg_sl ([.ref (ad 0)])).length) Slot.unset).toArray = ls at hl ⊢
  have hl : lv_has ls 3 [(0, .ref (ad 0))] := hl
  refine W_abs (fun Q hQ => ?_)
  generalize ([.ref (ad 0)] : List Value).toArray = args at hT hQ ⊢
  refine lv_aload_n hx hb dX12_nobody_0 rfl (lv_at hl 0 rfl) ?_
  refine lv_iconst (v := 0) hx hb dX12_nobody_1 (by decide) ?_
  refine va_put (D := G.1) (ci := 14) (v := .int (0)) (ty := .int) (C := RX12) (T := TX12) (N := 49) hx hb hT inX12 tyX12 tyX12_ok nmX12 hown hK hP hD hS 0 (ix_at (by decide) (cR_0 G ad S)) rfl 8 (by decide) (hT _ m5_109) (fun _ h9 => h9) rfl (by decide +kernel) rfl rfl (Nat.le_of_ble_eq_true rfl) dX12_nobody_2 (fun H locs hP hD hS => ?_)
  rw [pR_thrown G ad S (0)] at hP hD
  refine lv_bipush (v := (-5)) hx hb dX12_nobody_5 (by decide) ?_
  refine lv_istore_n (lv' := [(1, .int ((-5))), (0, .ref (ad 0))]) hx hb dX12_nobody_7 rfl hl (by decide) rfl (fun ls hl => ?_)
  refine lv_aload_n hx hb dX12_nobody_8 rfl (lv_at hl 1 rfl) ?_
  have hFc := va_self hD hS hA
  refine va_callv (va_runV (As := []) (rest := []) ⟨hx, hb, hml, hown, hT⟩ (c_open l G ad (setF S 0 8 (0)) H.size (9999) (hSV)) (tV 0 hT m6_218 m6_220 mp_49 m1_17 m6_221 rfl rfl (by decide +kernel) ⟨Nat.le_of_ble_eq_true rfl, Nat.le_of_ble_eq_true rfl⟩) ⟨PcW_blind, va_recv hK hP (ci := 14) (q0 := 0) rfl (ix_at (by decide) (cR_0 G ad (setF S 0 8 (0)))), PcW_of hP hK hD _⟩ rfl rfl hl.1 rfl (lv_room (Nat.le_of_ble_eq_true rfl)) dX12_nobody_9 ⟨Nat.zero_le _, Nat.zero_le _⟩) hS (fun q _ h => hFc q h) hFc (fun S_3 t_ H locs ht_ hvm_ hw_2 hB_ hz_ hk_ hS => ?_)
  obtain ⟨hP, -, hD1_⟩ := hB_
  rw [ht_] at hP
  have hD : va_D A (wR G ad S_3) := hD1_.weaken (fun k q _ h => hFc q.1 h)
  try dsimp only at hw_2
  have hI0 := hw_2
  refine lv_iconst (v := 0) hx hb dX12_nobody_12 (by decide) ?_
  refine lv_istore_n (lv' := [(2, .int (0)), (1, .int ((-5))), (0, .ref (ad 0))]) hx hb dX12_nobody_13 rfl hl (by decide) rfl (fun ls hl => ?_)
  have lp_4 : ∀ (fu : Nat) (k : Nat) (v1 : Int32) (SL : FS) (H_6 : Heap) (locs_7 : List Loc) (ls : Array Slot),  (k ≤ 41) → (41 < k + fu) → (MI (setF S 0 8 0) SL (9999 + k)) → va_P G.1 vwCl (wR G ad SL) H_6 → va_D A (wR G ad SL) → va_S A s.heap H_6 locs_7 → lv_has ls 3 [(2, .int ((nI k))), (1, .int (v1)), (0, .ref (ad 0))] → W p l e ({ frames := 10, cells := 0, slots := 0, locals := 281 } : Room) s m args below meth c₀ H_6 locs_7 0 0 Q (F0 m 14 ls []) := by
    intro fu
    induction fu with
    | zero =>
      intro k v1 SL H_6 locs_7 ls hk hf hI hP hD hS hl
      exact absurd hf (by omega)
    | succ fu ih =>
      intro k v1 SL H_6 locs_7 ls hk hf hI hP hD hS hl
      refine lv_iload_n hx hb dX12_nobody_14 rfl (lv_at hl 0 rfl) ?_
      refine lv_bipush (v := 40) hx hb dX12_nobody_15 (by decide) ?_
      refine lv_icmp_gt (tgt := 49) hx hb dX12_nobody_17 (by decide) (fun c_8 => ?_) (fun c_8 => ?_)
      · refine lv_aload_n hx hb dX12_nobody_49 rfl (lv_at hl 2 rfl) ?_
        have hFc := va_self hD hS hA
        refine va_callv (va_runV (As := []) (rest := []) ⟨hx, hb, hml, hown, hT⟩ (c_close l G ad SL H_6.size ((setF S 0 8 0)) (9999 + k) (hI)) (tV 0 hT m6_226 m6_228 mp_51 m1_17 m6_229 rfl rfl (by decide +kernel) ⟨Nat.le_of_ble_eq_true rfl, Nat.le_of_ble_eq_true rfl⟩) ⟨PcW_blind, va_recv hK hP (ci := 14) (q0 := 0) rfl (ix_at (by decide) (cR_0 G ad SL)), PcW_of hP hK hD _⟩ rfl rfl hl.1 rfl (lv_room (Nat.le_of_ble_eq_true rfl)) dX12_nobody_50 ⟨Nat.zero_le _, Nat.zero_le _⟩) hS (fun q _ h => hFc q h) hFc (fun S_11 t_ H locs ht_ hvm_ hw_10 hB_ hz_ hk_ hS => ?_)
        obtain ⟨hP, -, hD1_⟩ := hB_
        rw [ht_] at hP
        have hD : va_D A (wR G ad S_11) := hD1_.weaken (fun k q _ h => hFc q.1 h)
        try dsimp only at hw_10
        have hZq := hw_10
        refine lv_iload_n hx hb dX12_nobody_53 rfl (lv_at hl 1 rfl) ?_
        subst hQ
        have hpost : QP (setF S 0 8 0) S_11 := by
          first | exact QP.rf h15 | exact hZq
        exact W.iret (v := v1) hx hb hr (fun t_ ht_ hW_ => ⟨⟨v1, S_11, rfl, hpost, by rw [ht_]; exact hP, va_K.moved hW_.alike hK, hD⟩, hS.F ht_⟩) hS.2.2 dX12_nobody_54
      have hlt : k ≤ 40 := (nI_leI (a := k) (b := 40) (by omega) (by omega)).mp (Int32.not_lt.mp c_8)
      refine lv_iload_n hx hb dX12_nobody_20 rfl (lv_at hl 1 rfl) ?_
      refine lv_if_ge (tgt := 49) hx hb dX12_nobody_21 (by decide) (fun c_12 => ?_) (fun c_12 => ?_)
      · refine lv_aload_n hx hb dX12_nobody_49 rfl (lv_at hl 2 rfl) ?_
        have hFc := va_self hD hS hA
        refine va_callv (va_runV (As := []) (rest := []) ⟨hx, hb, hml, hown, hT⟩ (c_close l G ad SL H_6.size ((setF S 0 8 0)) (9999 + k) (hI)) (tV 0 hT m6_226 m6_228 mp_51 m1_17 m6_229 rfl rfl (by decide +kernel) ⟨Nat.le_of_ble_eq_true rfl, Nat.le_of_ble_eq_true rfl⟩) ⟨PcW_blind, va_recv hK hP (ci := 14) (q0 := 0) rfl (ix_at (by decide) (cR_0 G ad SL)), PcW_of hP hK hD _⟩ rfl rfl hl.1 rfl (lv_room (Nat.le_of_ble_eq_true rfl)) dX12_nobody_50 ⟨Nat.zero_le _, Nat.zero_le _⟩) hS (fun q _ h => hFc q h) hFc (fun S_15 t_ H locs ht_ hvm_ hw_14 hB_ hz_ hk_ hS => ?_)
        obtain ⟨hP, -, hD1_⟩ := hB_
        rw [ht_] at hP
        have hD : va_D A (wR G ad S_15) := hD1_.weaken (fun k q _ h => hFc q.1 h)
        try dsimp only at hw_14
        have hZq := hw_14
        refine lv_iload_n hx hb dX12_nobody_53 rfl (lv_at hl 1 rfl) ?_
        subst hQ
        have hpost : QP (setF S 0 8 0) S_15 := by
          first | exact QP.rf h15 | exact hZq
        exact W.iret (v := v1) hx hb hr (fun t_ ht_ hW_ => ⟨⟨v1, S_15, rfl, hpost, by rw [ht_]; exact hP, va_K.moved hW_.alike hK, hD⟩, hS.F ht_⟩) hS.2.2 dX12_nobody_54
      refine lv_aload_n hx hb dX12_nobody_24 rfl (lv_at hl 2 rfl) ?_
      have hFc := va_self hD hS hA
      refine va_calli (va_runV (As := []) (rest := []) ⟨hx, hb, hml, hown, hT⟩ (c_nobodySaysNo l G ad SL H_6.size (n) (hI.f (by decide) hn) (hn6) (hI.HOK hHOK)) (tV 0 hT m7_13 m7_15 mp_53 m1_17 m7_16 rfl rfl (by decide +kernel) ⟨Nat.le_of_ble_eq_true rfl, Nat.le_of_ble_eq_true rfl⟩) ⟨PcW_blind, va_recv hK hP (ci := 14) (q0 := 0) rfl (ix_at (by decide) (cR_0 G ad SL)), PcW_of hP hK hD _⟩ rfl rfl hl.1 rfl (lv_room (Nat.le_of_ble_eq_true rfl)) dX12_nobody_25 ⟨Nat.zero_le _, Nat.zero_le _⟩) hS (fun q _ h => hFc q h) hFc (fun r_16 S_18 t_ H locs ht_ hvm_ hw_17 hB_ hz_ hk_ hS => ?_)
      obtain ⟨hP, -, hD1_⟩ := hB_
      rw [ht_] at hP
      have hD : va_D A (wR G ad S_18) := hD1_.weaken (fun k q _ h => hFc q.1 h)
      try dsimp only at hw_17
      obtain ⟨hH1, hr01⟩ := hw_17
      have hI1 := hI.M hH1.M (hI.SV.H hH1)
      have jn_19 : ∀ (v7 : Int32) (ls : Array Slot),  lv_has ls 3 [(2, .int ((nI k))), (1, .int (v1)), (0, .ref (ad 0))] → W p l e ({ frames := 10, cells := 0, slots := 0, locals := 281 } : Room) s m args below meth c₀ H locs 0 0 Q (F0 m 37 ls [.int (v7)]) := by
        intro v7 ls  hl
        refine lv_istore_n (lv' := [(1, .int (v7)), (2, .int ((nI k))), (0, .ref (ad 0))]) hx hb dX12_nobody_37 rfl hl (by decide) rfl (fun ls hl => ?_)
        refine lv_aload_n hx hb dX12_nobody_38 rfl (lv_at hl 2 rfl) ?_
        refine lv_iconst (v := 1) hx hb dX12_nobody_39 (by decide) ?_
        have hFc := va_self hD hS hA
        refine va_callv (va_runV (As := [.int (1)]) (rest := []) ⟨hx, hb, hml, hown, hT⟩ (c_saturdaysOnE l G ad S_18 H.size (n) (9999 + k) (1) (hI1.f (by decide) hn) (hn6) (hI1.HOK hHOK) (hI1.SV) (by omega) (by omega) (1) (rfl)) (tV 1 hT m6_204 m6_206 mp_47 m1_17 m6_207 rfl rfl (by decide +kernel) ⟨Nat.le_of_ble_eq_true rfl, Nat.le_of_ble_eq_true rfl⟩) ⟨PcW_blind, va_recv hK hP (ci := 14) (q0 := 0) rfl (ix_at (by decide) (cR_0 G ad S_18)), PcW_of hP hK hD _⟩ rfl rfl hl.1 rfl (lv_room (Nat.le_of_ble_eq_true rfl)) dX12_nobody_40 ⟨Nat.zero_le _, Nat.zero_le _⟩) hS (fun q _ h => hFc q h) hFc (fun S_22 t_ H locs ht_ hvm_ hw_21 hB_ hz_ hk_ hS => ?_)
        obtain ⟨hP, -, hD1_⟩ := hB_
        rw [ht_] at hP
        have hD : va_D A (wR G ad S_22) := hD1_.weaken (fun k q _ h => hFc q.1 h)
        try dsimp only at hw_21
        obtain ⟨hM2, hS2, -⟩ := hw_21
        have hI2 := hI1.M hM2 hS2
        refine lv_iinc (v := (nI (k + 1))) (lv' := [(2, .int ((nI (k + 1)))), (1, .int (v7)), (0, .ref (ad 0))]) hx hb dX12_nobody_43 hl (k := 1) rfl ((nI_1 k)) (by decide) rfl (fun ls hl => ?_)
        refine lv_goto (tgt := 14) hx hb dX12_nobody_46 (by decide) ?_
        exact ih (k + 1) (v7) (S_22) _ _ ls (by omega) (by omega) (hI2) hP hD hS (lv_sub hl [0, 1, 2] rfl)
      refine lv_if_eq (tgt := 35) hx hb dX12_nobody_28 (by decide) (fun c_23 => ?_) (fun c_23 => ?_)
      · refine lv_bipush (v := (-5)) hx hb dX12_nobody_35 (by decide) ?_
        exact jn_19 (((-5))) ls  (lv_sub hl [0, 1, 2] rfl)
      refine lv_iload_n hx hb dX12_nobody_31 rfl (lv_at hl 0 rfl) ?_
      refine lv_goto (tgt := 37) hx hb dX12_nobody_32 (by decide) ?_
      exact jn_19 (((nI k))) ls  (lv_sub hl [0, 1, 2] rfl)
  exact lp_4 (42) (0) ((-5)) (S_3) _ _ ls (by omega) (by omega) (hI0) hP hD hS (lv_sub hl [0, 1, 2] rfl)
