set_option maxHeartbeats 800000 in
set_option maxRecDepth 100000 in
theorem c_readWord (l : Launch) (G : GG) (ad : Nat → Nat) (S : FS) (sz : Nat) (z u : Nat) (hz : fF S 0 17 = nI z) (hz1 : z ≤ 100) (hp : fF S 0 25 = nI u) (hp1 : u ≤ z) (hb26 : fF S 0 26 = 1 ∨ fF S 0 26 = 0) : Met l yX12_readWord (Cond.code yX12_readWord cX12_readWord 3 (some .int) :: TBL) ({ frames := 5, cells := 0, slots := 0, locals := 141 } : Room) (PcW G (wR G ad S) sz [.ref (ad 0)]) (va_Qi (fun (r : Int32) (S' : FS) => TA S S' z ∧ (r = 0 ∨ r = 1 ∨ r = 2 ∨ r = 3)) (fun S' t => BW G (va_A (wR G ad S) sz) (wR G ad S') t) (va_A (wR G ad S) sz)) 0 0 (va_A (wR G ad S) sz) := by
  refine Met.ofW (cc := cX12_readWord) (maxL := 3) (ret := (some .int)) (by decide) rfl ?_
  intro p e s m args below meth c₀ s₁ B hml hv
  obtain ⟨rfl, hsz, hP, hK, hD0⟩ := hv
  have hx := B.exec
  have hb := B.bytes
  have hr := B.returns
  have hT : ∀ w ∈ TBL, w.before ([.ref (ad 0)] : List Value).toArray s = true := fun w h => atoms_spec (ws := Cond.code yX12_readWord cX12_readWord 3 (some .int) :: TBL) B.pre w (List.mem_cons_of_mem _ h)
  have hown : s.vm.findClass "LittleMoreModel" = some m.cls := findClass_of_methodNamed B.named
  have hlocks := B.notSynchronized
  subst hsz
  have hD := hD0.self (sz := s.heap.size)
  generalize hAe : va_A (wR G ad S) s.heap.size = A at hD ⊢
  have hA : ∀ q : Nat, s.heap.size ≤ q → A q := fun q h => by rw [← hAe]; exact Or.inr h
  have hS : va_S A s.heap s.heap [] := va_S.rf
  have hP : va_P G.1 vwCl (wR G ad S) s.heap := hP
  have hl := lv_entry ([.ref (ad 0)]) (n := 3) (Nat.le_of_ble_eq_true rfl)
  rw [lg_entry_eq]
  generalize (lg_sl ([.ref (ad 0)]) ++ List.replicate (3 - (lg_sl ([.ref (ad 0)])).length) Slot.unset).toArray = ls at hl ⊢
  have hl : lv_has ls 3 [(0, .ref (ad 0))] := hl
  refine W_abs (fun Q hQ => ?_)
  generalize ([.ref (ad 0)] : List Value).toArray = args at hT hQ ⊢
  refine lv_aload_n hx hb (fk_get fk_cX12_readWord_0 0 rfl) rfl (lv_at hl 0 rfl) ?_
  refine vp_callSi (W.runV (As := []) (rest := []) ⟨hx, hb, hml, hown, hT⟩ (c_here l G ad S s.heap.size (z) (u) (hz) (hz1) (hp) (by omega)) (tV 0 hT m6_46 m6_48 mp_22 m1_17 m6_49 rfl rfl (by decide +kernel) ⟨Nat.le_of_ble_eq_true rfl, Nat.le_of_ble_eq_true rfl⟩) ⟨PcW_blind, va_recv hK hP (ci := 14) (q0 := 0) rfl (ix_at (by decide) (cR_0 G ad S)), PcW_of hP hK hD _⟩ rfl rfl hl.1 rfl (lv_room (Nat.le_of_ble_eq_true rfl)) (fk_get fk_cX12_readWord_0 1 rfl) ⟨Nat.zero_le _, Nat.zero_le _⟩) (fun r_1 hw_2 => ?_)
  try dsimp only at hw_2
  subst hw_2
  refine lv_istore_n (lv' := [(1, .int ((hrS (fA S 6) z u))), (0, .ref (ad 0))]) hx hb (fk_get fk_cX12_readWord_0 2 rfl) rfl hl (by decide) rfl (fun ls hl => ?_)
  refine lv_iload_n hx hb (fk_get fk_cX12_readWord_0 3 rfl) rfl (lv_at hl 0 rfl) ?_
  refine lv_bipush (v := 109) hx hb (fk_get fk_cX12_readWord_0 4 rfl) (by decide) ?_
  refine lv_icmp_eq (tgt := 17) hx hb (fk_get fk_cX12_readWord_0 5 rfl) (by decide) (fun c_3 => ?_) (fun c_3 => ?_)
  · have hlt := hr_lt (t := fA S 6) (z := z) (u := u) (by rw [show hrS (fA S 6) z u = 109 from c_3]; decide)
    refine lv_aload_n hx hb (fk_get fk_cX12_readWord_0 9 rfl) rfl (lv_at hl 1 rfl) ?_
    refine lv_dup hx hb (fk_get fk_cX12_readWord_0 10 rfl) rfl ?_
    refine va_get (D := G.1) (ci := 14) (v := .int ((fF S 0 25))) (C := RX12) (T := TX12) (N := 49) hx hb hT inX12 hown hK hP 0 (ix_at (by decide) (cR_0 G ad S)) rfl 25 (by decide) (hT _ m5_126) (fun _ h9 => h9) rfl (fk_get fk_cX12_readWord_0 11 rfl) ?_
    refine lv_iconst (v := 1) hx hb (fk_get fk_cX12_readWord_0 12 rfl) (by decide) ?_
    refine lv_iadd hx hb (fk_get fk_cX12_readWord_0 13 rfl) ?_
    rw [show ((fF S 0 25) + 1) = (nI (u + 1)) from (by rw [hp]; exact nI_1 u)]
    refine va_put (D := G.1) (ci := 14) (v := .int ((nI (u + 1)))) (ty := .int) (C := RX12) (T := TX12) (N := 49) hx hb hT inX12 tyX12 tyX12_ok nmX12 hown hK hP hD hS 0 (ix_at (by decide) (cR_0 G ad S)) rfl 25 (by decide) (hT _ m5_126) (fun _ h9 => h9) rfl (by decide +kernel) rfl rfl (Nat.le_of_ble_eq_true rfl) (fk_get fk_cX12_readWord_0 14 rfl) (fun H locs hP hD hS => ?_)
    rw [pR_at G ad S ((nI (u + 1)))] at hP hD
    refine lv_aload_n hx hb (fk_get fk_cX12_readWord_0 15 rfl) rfl (lv_at hl 1 rfl) ?_
    refine lv_iload_n hx hb (fk_get fk_cX12_readWord_0 16 rfl) rfl (lv_at hl 0 rfl) ?_
    refine lv_bipush (v := 109) hx hb (fk_get fk_cX12_readWord_0 17 rfl) (by decide) ?_
    refine lv_icmp_ne (tgt := 40) hx hb (fk_get fk_cX12_readWord_0 18 rfl) (by decide) (fun c_4 => absurd (by first | assumption | exact Int32.not_lt.mp (by assumption) | exact Int32.not_le.mp (by assumption) | exact Int32.not_lt.mpr (by assumption) | exact Int32.not_le.mpr (by assumption) ) c_4) (fun _ => ?_)
    refine lv_ldc2 (v := 543519343) hx hb hown (hT _ m6_50) (fk_get fk_cX12_readWord_0 19 rfl) ?_
    refine lv_goto (tgt := 43) hx hb (fk_get fk_cX12_readWord_0 20 rfl) (by decide) ?_
    have hFc := va_self hD hS hA
    refine va_callv (va_runV (As := [.long (543519343)]) (rest := []) ⟨hx, hb, hml, hown, hT⟩ (c_takeAll l G ad (setF S 0 25 ((nI (u + 1)))) H.size (z) (u + 1) (543519343) (hz) (hz1) (rfl) (hlt) (hb26) (by decide)) (tV 1 hT m6_52 m6_54 mp_23 m1_17 m6_55 rfl rfl (by decide +kernel) ⟨Nat.le_of_ble_eq_true rfl, Nat.le_of_ble_eq_true rfl⟩) ⟨PcW_blind, va_recv hK hP (ci := 14) (q0 := 0) rfl (ix_at (by decide) (cR_0 G ad (setF S 0 25 ((nI (u + 1)))))), PcW_of hP hK hD _⟩ rfl rfl hl.1 rfl (lv_room (Nat.le_of_ble_eq_true rfl)) (fk_get fk_cX12_readWord_0 22 rfl) ⟨Nat.zero_le _, Nat.zero_le _⟩) hS (fun q _ h => hFc q h) hFc (fun S_7 t_ H locs ht_ hvm_ hw_6 hB_ hz_ hk_ hS => ?_)
    obtain ⟨hP, -, hD1_⟩ := hB_
    rw [ht_] at hP
    have hD : va_D A (wR G ad S_7) := hD1_.weaken (fun k q _ h => hFc q.1 h)
    try dsimp only at hw_6
    have hA3 := (TA_at hb26 hlt).trans hw_6
    refine lv_iload_n hx hb (fk_get fk_cX12_readWord_0 23 rfl) rfl (lv_at hl 0 rfl) ?_
    refine lv_bipush (v := 109) hx hb (fk_get fk_cX12_readWord_0 24 rfl) (by decide) ?_
    refine lv_icmp_ne (tgt := 56) hx hb (fk_get fk_cX12_readWord_0 25 rfl) (by decide) (fun c_8 => absurd (by first | assumption | exact Int32.not_lt.mp (by assumption) | exact Int32.not_le.mp (by assumption) | exact Int32.not_lt.mpr (by assumption) | exact Int32.not_le.mpr (by assumption) ) c_8) (fun _ => ?_)
    refine lv_iconst (v := 0) hx hb (fk_get fk_cX12_readWord_0 26 rfl) (by decide) ?_
    refine lv_goto (tgt := 57) hx hb (fk_get fk_cX12_readWord_0 27 rfl) (by decide) ?_
    subst hQ
    have hpost : TA S S_7 z ∧ ((0 : Int32) = 0 ∨ (0 : Int32) = 1 ∨ (0 : Int32) = 2 ∨ (0 : Int32) = 3) := by
      exact ⟨hA3, by decide⟩
    exact W.iret (v := 0) hx hb hr (fun t_ ht_ hW_ => ⟨⟨0, S_7, rfl, hpost, by rw [ht_]; exact hP, va_K.moved hW_.alike hK, hD⟩, hS.F ht_⟩) hS.2.2 (fk_get fk_cX12_readWord_0 29 rfl)
  refine lv_iload_n hx hb (fk_get fk_cX12_readWord_0 6 rfl) rfl (lv_at hl 0 rfl) ?_
  refine lv_bipush (v := 112) hx hb (fk_get fk_cX12_readWord_0 7 rfl) (by decide) ?_
  refine lv_icmp_ne (tgt := 58) hx hb (fk_get fk_cX12_readWord_0 8 rfl) (by decide) (fun c_9 => ?_) (fun c_9 => ?_)
  · refine lv_aload_n hx hb (fk_get fk_cX12_readWord_0 30 rfl) rfl (lv_at hl 1 rfl) ?_
    refine lv_bipush (v := 108) hx hb (fk_get fk_cX12_readWord_0 31 rfl) (by decide) ?_
    have hFc := va_self hD hS hA
    refine va_callv (va_runV (As := [.int (108)]) (rest := []) ⟨hx, hb, hml, hown, hT⟩ (c_take l G ad S s.heap.size (z) (u) (108) (hz) (hz1) (hp) (by omega)) (tV 1 hT m6_57 m6_59 mp_24 m1_17 m6_60 rfl rfl (by decide +kernel) ⟨Nat.le_of_ble_eq_true rfl, Nat.le_of_ble_eq_true rfl⟩) ⟨PcW_blind, va_recv hK hP (ci := 14) (q0 := 0) rfl (ix_at (by decide) (cR_0 G ad S)), PcW_of hP hK hD _⟩ rfl rfl hl.1 rfl (lv_room (Nat.le_of_ble_eq_true rfl)) (fk_get fk_cX12_readWord_1 0 rfl) ⟨Nat.zero_le _, Nat.zero_le _⟩) hS (fun q _ h => hFc q h) hFc (fun S_12 t_ H locs ht_ hvm_ hw_11 hB_ hz_ hk_ hS => ?_)
    obtain ⟨hP, -, hD1_⟩ := hB_
    rw [ht_] at hP
    have hD : va_D A (wR G ad S_12) := hD1_.weaken (fun k q _ h => hFc q.1 h)
    try dsimp only at hw_11
    have hA1 := TA_take hw_11 hp1 (by decide)
    obtain ⟨hQ1, u1, hu1, hq1, hb1⟩ := id hA1
    refine lv_aload_n hx hb (fk_get fk_cX12_readWord_1 1 rfl) rfl (lv_at hl 1 rfl) ?_
    refine lv_bipush (v := 101) hx hb (fk_get fk_cX12_readWord_1 2 rfl) (by decide) ?_
    have hFc := va_self hD hS hA
    refine va_callv (va_runV (As := [.int (101)]) (rest := []) ⟨hx, hb, hml, hown, hT⟩ (c_take l G ad S_12 H.size (z) (u1) (101) (hQ1.f17 hz) (hz1) (hq1) (by omega)) (tV 1 hT m6_57 m6_59 mp_24 m1_17 m6_60 rfl rfl (by decide +kernel) ⟨Nat.le_of_ble_eq_true rfl, Nat.le_of_ble_eq_true rfl⟩) ⟨PcW_blind, va_recv hK hP (ci := 14) (q0 := 0) rfl (ix_at (by decide) (cR_0 G ad S_12)), PcW_of hP hK hD _⟩ rfl rfl hl.1 rfl (lv_room (Nat.le_of_ble_eq_true rfl)) (fk_get fk_cX12_readWord_1 3 rfl) ⟨Nat.zero_le _, Nat.zero_le _⟩) hS (fun q _ h => hFc q h) hFc (fun S_15 t_ H locs ht_ hvm_ hw_14 hB_ hz_ hk_ hS => ?_)
    obtain ⟨hP, -, hD1_⟩ := hB_
    rw [ht_] at hP
    have hD : va_D A (wR G ad S_15) := hD1_.weaken (fun k q _ h => hFc q.1 h)
    try dsimp only at hw_14
    have hA2 := hA1.trans (TA_take hw_14 hu1 (by decide))
    obtain ⟨hQ2, u2, hu2, hq2, hb2⟩ := id hA2
    refine lv_aload_n hx hb (fk_get fk_cX12_readWord_1 4 rfl) rfl (lv_at hl 1 rfl) ?_
    refine vp_callSi (W.runV (As := []) (rest := []) ⟨hx, hb, hml, hown, hT⟩ (c_here l G ad S_15 H.size (z) (u2) (hQ2.f17 hz) (hz1) (hq2) (by omega)) (tV 0 hT m6_46 m6_48 mp_22 m1_17 m6_49 rfl rfl (by decide +kernel) ⟨Nat.le_of_ble_eq_true rfl, Nat.le_of_ble_eq_true rfl⟩) ⟨PcW_blind, va_recv hK hP (ci := 14) (q0 := 0) rfl (ix_at (by decide) (cR_0 G ad S_15)), PcW_of hP hK hD _⟩ rfl rfl hl.1 rfl (lv_room (Nat.le_of_ble_eq_true rfl)) (fk_get fk_cX12_readWord_1 5 rfl) ⟨Nat.zero_le _, Nat.zero_le _⟩) (fun r_16 hw_17 => ?_)
    try dsimp only at hw_17
    rw [hQ2.a6] at hw_17
    subst hw_17
    refine lv_istore_n (lv' := [(2, .int ((hrS (fA S 6) z u2))), (1, .int ((hrS (fA S 6) z u))), (0, .ref (ad 0))]) hx hb (fk_get fk_cX12_readWord_1 6 rfl) rfl hl (by decide) rfl (fun ls hl => ?_)
    refine lv_aload_n hx hb (fk_get fk_cX12_readWord_1 7 rfl) rfl (lv_at hl 2 rfl) ?_
    refine lv_aload_n hx hb (fk_get fk_cX12_readWord_1 8 rfl) rfl (lv_at hl 2 rfl) ?_
    refine va_get (D := G.1) (ci := 14) (v := .int ((fF S_15 0 26))) (C := RX12) (T := TX12) (N := 49) hx hb hT inX12 hown hK hP 0 (ix_at (by decide) (cR_0 G ad S_15)) rfl 26 (by decide) (hT _ m5_127) (fun _ h9 => h9) rfl (fk_get fk_cX12_readWord_1 9 rfl) ?_
    refine lv_if_ne (tgt := 95) hx hb (fk_get fk_cX12_readWord_1 10 rfl) (by decide) (fun c_18 => ?_) (fun c_18 => ?_)
    · refine lv_iconst (v := 1) hx hb (fk_get fk_cX12_readWord_1 17 rfl) (by decide) ?_
      refine lv_goto (tgt := 100) hx hb (fk_get fk_cX12_readWord_1 18 rfl) (by decide) ?_
      refine va_put (D := G.1) (ci := 14) (v := .int (1)) (ty := .boolean) (C := RX12) (T := TX12) (N := 49) hx hb hT inX12 tyX12 tyX12_ok nmX12 hown hK hP hD hS 0 (ix_at (by decide) (cR_0 G ad S_15)) rfl 26 (by decide) (hT _ m5_127) (fun _ h9 => h9) rfl (by decide +kernel) rfl rfl (Nat.le_of_ble_eq_true rfl) (fk_get fk_cX12_readWord_1 20 rfl) (fun H locs hP hD hS => ?_)
      rw [pR_isBad G ad S_15 (1)] at hP hD
      refine lv_aload_n hx hb (fk_get fk_cX12_readWord_1 21 rfl) rfl (lv_at hl 2 rfl) ?_
      refine lv_dup hx hb (fk_get fk_cX12_readWord_1 22 rfl) rfl ?_
      refine va_get (D := G.1) (ci := 14) (v := .int ((fF S_15 0 25))) (C := RX12) (T := TX12) (N := 49) hx hb hT inX12 hown hK hP 0 (ix_at (by decide) (cR_0 G ad (setF S_15 0 26 (1)))) rfl 25 (by decide) (hT _ m5_126) (fun _ h9 => h9) rfl (fk_get fk_cX12_readWord_1 23 rfl) ?_
      refine lv_aload_n hx hb (fk_get fk_cX12_readWord_1 24 rfl) rfl (lv_at hl 2 rfl) ?_
      refine va_get (D := G.1) (ci := 14) (v := .int (1)) (C := RX12) (T := TX12) (N := 49) hx hb hT inX12 hown hK hP 0 (ix_at (by decide) (cR_0 G ad (setF S_15 0 26 (1)))) rfl 26 (by decide) (hT _ m5_127) (fun _ h9 => h9) rfl (fk_get fk_cX12_readWord_1 25 rfl) ?_
      refine lv_if_eq (tgt := 119) hx hb (fk_get fk_cX12_readWord_1 26 rfl) (by decide) (fun c_19 => absurd c_19 ((by decide))) (fun _ => ?_)
      refine lv_iconst (v := 0) hx hb (fk_get fk_cX12_readWord_1 27 rfl) (by decide) ?_
      refine lv_goto (tgt := 120) hx hb (fk_get fk_cX12_readWord_1 28 rfl) (by decide) ?_
      refine lv_iadd hx hb (fk_get fk_cX12_readWord_1 30 rfl) ?_
      rw [show ((fF S_15 0 25) + 0) = (nI u2) from (by rw [hq2]; exact Int32.add_zero _)]
      refine va_put (D := G.1) (ci := 14) (v := .int ((nI u2))) (ty := .int) (C := RX12) (T := TX12) (N := 49) hx hb hT inX12 tyX12 tyX12_ok nmX12 hown hK hP hD hS 0 (ix_at (by decide) (cR_0 G ad (setF S_15 0 26 (1)))) rfl 25 (by decide) (hT _ m5_126) (fun _ h9 => h9) rfl (by decide +kernel) rfl rfl (Nat.le_of_ble_eq_true rfl) (fk_get fk_cX12_readWord_1 31 rfl) (fun H locs hP hD hS => ?_)
      rw [pR_at G ad (setF S_15 0 26 (1)) ((nI u2))] at hP hD
      refine lv_aload_n hx hb (fk_get fk_cX12_readWord_2 0 rfl) rfl (lv_at hl 2 rfl) ?_
      refine lv_iload_n hx hb (fk_get fk_cX12_readWord_2 1 rfl) rfl (lv_at hl 0 rfl) ?_
      refine lv_bipush (v := 115) hx hb (fk_get fk_cX12_readWord_2 2 rfl) (by decide) ?_
      refine lv_icmp_ne (tgt := 137) hx hb (fk_get fk_cX12_readWord_2 3 rfl) (by decide) (fun c_20 => ?_) (fun c_20 => ?_)
      · refine lv_ldc2 (v := 2125426) hx hb hown (hT _ m6_62) (fk_get fk_cX12_readWord_2 6 rfl) ?_
        have hFc := va_self hD hS hA
        refine va_callv (va_runV (As := [.long (2125426)]) (rest := []) ⟨hx, hb, hml, hown, hT⟩ (c_takeAll l G ad (setF (setF S_15 0 26 (1)) 0 25 ((nI u2))) H.size (z) (u2) (2125426) (hQ2.f17 hz) (hz1) (rfl) (by omega) (by first | exact Or.inl rfl | exact Or.inr rfl) (by decide)) (tV 1 hT m6_52 m6_54 mp_23 m1_17 m6_55 rfl rfl (by decide +kernel) ⟨Nat.le_of_ble_eq_true rfl, Nat.le_of_ble_eq_true rfl⟩) ⟨PcW_blind, va_recv hK hP (ci := 14) (q0 := 0) rfl (ix_at (by decide) (cR_0 G ad (setF (setF S_15 0 26 (1)) 0 25 ((nI u2))))), PcW_of hP hK hD _⟩ rfl rfl hl.1 rfl (lv_room (Nat.le_of_ble_eq_true rfl)) (fk_get fk_cX12_readWord_2 7 rfl) ⟨Nat.zero_le _, Nat.zero_le _⟩) hS (fun q _ h => hFc q h) hFc (fun S_23 t_ H locs ht_ hvm_ hw_22 hB_ hz_ hk_ hS => ?_)
        obtain ⟨hP, -, hD1_⟩ := hB_
        rw [ht_] at hP
        have hD : va_D A (wR G ad S_23) := hD1_.weaken (fun k q _ h => hFc q.1 h)
        try dsimp only at hw_22
        have hA3 := (TA_fail hA2 hu2).trans hw_22
        refine lv_iload_n hx hb (fk_get fk_cX12_readWord_2 8 rfl) rfl (lv_at hl 0 rfl) ?_
        refine lv_bipush (v := 115) hx hb (fk_get fk_cX12_readWord_2 9 rfl) (by decide) ?_
        refine lv_icmp_ne (tgt := 153) hx hb (fk_get fk_cX12_readWord_2 10 rfl) (by decide) (fun _ => ?_) (fun c_24 => absurd c_24 (by first | assumption | exact Int32.not_lt.mp (by assumption) | exact Int32.not_le.mp (by assumption) | exact Int32.not_lt.mpr (by assumption) | exact Int32.not_le.mpr (by assumption) ))
        refine lv_iconst (v := 3) hx hb (fk_get fk_cX12_readWord_2 13 rfl) (by decide) ?_
        subst hQ
        have hpost : TA S S_23 z ∧ ((3 : Int32) = 0 ∨ (3 : Int32) = 1 ∨ (3 : Int32) = 2 ∨ (3 : Int32) = 3) := by
          exact ⟨hA3, by decide⟩
        exact W.iret (v := 3) hx hb hr (fun t_ ht_ hW_ => ⟨⟨3, S_23, rfl, hpost, by rw [ht_]; exact hP, va_K.moved hW_.alike hK, hD⟩, hS.F ht_⟩) hS.2.2 (fk_get fk_cX12_readWord_2 14 rfl)
      refine lv_ldc2 (v := 8307) hx hb hown (hT _ m6_61) (fk_get fk_cX12_readWord_2 4 rfl) ?_
      refine lv_goto (tgt := 140) hx hb (fk_get fk_cX12_readWord_2 5 rfl) (by decide) ?_
      have hFc := va_self hD hS hA
      refine va_callv (va_runV (As := [.long (8307)]) (rest := []) ⟨hx, hb, hml, hown, hT⟩ (c_takeAll l G ad (setF (setF S_15 0 26 (1)) 0 25 ((nI u2))) H.size (z) (u2) (8307) (hQ2.f17 hz) (hz1) (rfl) (by omega) (by first | exact Or.inl rfl | exact Or.inr rfl) (by decide)) (tV 1 hT m6_52 m6_54 mp_23 m1_17 m6_55 rfl rfl (by decide +kernel) ⟨Nat.le_of_ble_eq_true rfl, Nat.le_of_ble_eq_true rfl⟩) ⟨PcW_blind, va_recv hK hP (ci := 14) (q0 := 0) rfl (ix_at (by decide) (cR_0 G ad (setF (setF S_15 0 26 (1)) 0 25 ((nI u2))))), PcW_of hP hK hD _⟩ rfl rfl hl.1 rfl (lv_room (Nat.le_of_ble_eq_true rfl)) (fk_get fk_cX12_readWord_2 7 rfl) ⟨Nat.zero_le _, Nat.zero_le _⟩) hS (fun q _ h => hFc q h) hFc (fun S_27 t_ H locs ht_ hvm_ hw_26 hB_ hz_ hk_ hS => ?_)
      obtain ⟨hP, -, hD1_⟩ := hB_
      rw [ht_] at hP
      have hD : va_D A (wR G ad S_27) := hD1_.weaken (fun k q _ h => hFc q.1 h)
      try dsimp only at hw_26
      have hA3 := (TA_fail hA2 hu2).trans hw_26
      refine lv_iload_n hx hb (fk_get fk_cX12_readWord_2 8 rfl) rfl (lv_at hl 0 rfl) ?_
      refine lv_bipush (v := 115) hx hb (fk_get fk_cX12_readWord_2 9 rfl) (by decide) ?_
      refine lv_icmp_ne (tgt := 153) hx hb (fk_get fk_cX12_readWord_2 10 rfl) (by decide) (fun c_28 => absurd (by first | assumption | exact Int32.not_lt.mp (by assumption) | exact Int32.not_le.mp (by assumption) | exact Int32.not_lt.mpr (by assumption) | exact Int32.not_le.mpr (by assumption) ) c_28) (fun _ => ?_)
      refine lv_iconst (v := 1) hx hb (fk_get fk_cX12_readWord_2 11 rfl) (by decide) ?_
      refine lv_goto (tgt := 154) hx hb (fk_get fk_cX12_readWord_2 12 rfl) (by decide) ?_
      subst hQ
      have hpost : TA S S_27 z ∧ ((1 : Int32) = 0 ∨ (1 : Int32) = 1 ∨ (1 : Int32) = 2 ∨ (1 : Int32) = 3) := by
        exact ⟨hA3, by decide⟩
      exact W.iret (v := 1) hx hb hr (fun t_ ht_ hW_ => ⟨⟨1, S_27, rfl, hpost, by rw [ht_]; exact hP, va_K.moved hW_.alike hK, hD⟩, hS.F ht_⟩) hS.2.2 (fk_get fk_cX12_readWord_2 14 rfl)
    refine lv_iload_n hx hb (fk_get fk_cX12_readWord_1 11 rfl) rfl (lv_at hl 0 rfl) ?_
    refine lv_bipush (v := 115) hx hb (fk_get fk_cX12_readWord_1 12 rfl) (by decide) ?_
    refine lv_icmp_eq (tgt := 99) hx hb (fk_get fk_cX12_readWord_1 13 rfl) (by decide) (fun c_29 => ?_) (fun c_29 => ?_)
    · have hlt2 := hr_lt (t := fA S 6) (z := z) (u := u2) (by rw [show hrS (fA S 6) z u2 = 115 from c_29]; decide)
      refine lv_iconst (v := 0) hx hb (fk_get fk_cX12_readWord_1 19 rfl) (by decide) ?_
      refine va_put (D := G.1) (ci := 14) (v := .int (0)) (ty := .boolean) (C := RX12) (T := TX12) (N := 49) hx hb hT inX12 tyX12 tyX12_ok nmX12 hown hK hP hD hS 0 (ix_at (by decide) (cR_0 G ad S_15)) rfl 26 (by decide) (hT _ m5_127) (fun _ h9 => h9) rfl (by decide +kernel) rfl rfl (Nat.le_of_ble_eq_true rfl) (fk_get fk_cX12_readWord_1 20 rfl) (fun H locs hP hD hS => ?_)
      rw [pR_isBad G ad S_15 (0)] at hP hD
      refine lv_aload_n hx hb (fk_get fk_cX12_readWord_1 21 rfl) rfl (lv_at hl 2 rfl) ?_
      refine lv_dup hx hb (fk_get fk_cX12_readWord_1 22 rfl) rfl ?_
      refine va_get (D := G.1) (ci := 14) (v := .int ((fF S_15 0 25))) (C := RX12) (T := TX12) (N := 49) hx hb hT inX12 hown hK hP 0 (ix_at (by decide) (cR_0 G ad (setF S_15 0 26 (0)))) rfl 25 (by decide) (hT _ m5_126) (fun _ h9 => h9) rfl (fk_get fk_cX12_readWord_1 23 rfl) ?_
      refine lv_aload_n hx hb (fk_get fk_cX12_readWord_1 24 rfl) rfl (lv_at hl 2 rfl) ?_
      refine va_get (D := G.1) (ci := 14) (v := .int (0)) (C := RX12) (T := TX12) (N := 49) hx hb hT inX12 hown hK hP 0 (ix_at (by decide) (cR_0 G ad (setF S_15 0 26 (0)))) rfl 26 (by decide) (hT _ m5_127) (fun _ h9 => h9) rfl (fk_get fk_cX12_readWord_1 25 rfl) ?_
      refine lv_if_eq (tgt := 119) hx hb (fk_get fk_cX12_readWord_1 26 rfl) (by decide) (fun _ => ?_) (fun c_30 => absurd ((by decide)) c_30)
      refine lv_iconst (v := 1) hx hb (fk_get fk_cX12_readWord_1 29 rfl) (by decide) ?_
      refine lv_iadd hx hb (fk_get fk_cX12_readWord_1 30 rfl) ?_
      rw [show ((fF S_15 0 25) + 1) = (nI (u2 + 1)) from (by rw [hq2]; exact nI_1 u2)]
      refine va_put (D := G.1) (ci := 14) (v := .int ((nI (u2 + 1)))) (ty := .int) (C := RX12) (T := TX12) (N := 49) hx hb hT inX12 tyX12 tyX12_ok nmX12 hown hK hP hD hS 0 (ix_at (by decide) (cR_0 G ad (setF S_15 0 26 (0)))) rfl 25 (by decide) (hT _ m5_126) (fun _ h9 => h9) rfl (by decide +kernel) rfl rfl (Nat.le_of_ble_eq_true rfl) (fk_get fk_cX12_readWord_1 31 rfl) (fun H locs hP hD hS => ?_)
      rw [pR_at G ad (setF S_15 0 26 (0)) ((nI (u2 + 1)))] at hP hD
      refine lv_aload_n hx hb (fk_get fk_cX12_readWord_2 0 rfl) rfl (lv_at hl 2 rfl) ?_
      refine lv_iload_n hx hb (fk_get fk_cX12_readWord_2 1 rfl) rfl (lv_at hl 0 rfl) ?_
      refine lv_bipush (v := 115) hx hb (fk_get fk_cX12_readWord_2 2 rfl) (by decide) ?_
      refine lv_icmp_ne (tgt := 137) hx hb (fk_get fk_cX12_readWord_2 3 rfl) (by decide) (fun c_31 => absurd (by first | assumption | exact Int32.not_lt.mp (by assumption) | exact Int32.not_le.mp (by assumption) | exact Int32.not_lt.mpr (by assumption) | exact Int32.not_le.mpr (by assumption) ) c_31) (fun _ => ?_)
      refine lv_ldc2 (v := 8307) hx hb hown (hT _ m6_61) (fk_get fk_cX12_readWord_2 4 rfl) ?_
      refine lv_goto (tgt := 140) hx hb (fk_get fk_cX12_readWord_2 5 rfl) (by decide) ?_
      have hFc := va_self hD hS hA
      refine va_callv (va_runV (As := [.long (8307)]) (rest := []) ⟨hx, hb, hml, hown, hT⟩ (c_takeAll l G ad (setF (setF S_15 0 26 (0)) 0 25 ((nI (u2 + 1)))) H.size (z) (u2 + 1) (8307) (hQ2.f17 hz) (hz1) (rfl) (by omega) (by first | exact Or.inl rfl | exact Or.inr rfl) (by decide)) (tV 1 hT m6_52 m6_54 mp_23 m1_17 m6_55 rfl rfl (by decide +kernel) ⟨Nat.le_of_ble_eq_true rfl, Nat.le_of_ble_eq_true rfl⟩) ⟨PcW_blind, va_recv hK hP (ci := 14) (q0 := 0) rfl (ix_at (by decide) (cR_0 G ad (setF (setF S_15 0 26 (0)) 0 25 ((nI (u2 + 1)))))), PcW_of hP hK hD _⟩ rfl rfl hl.1 rfl (lv_room (Nat.le_of_ble_eq_true rfl)) (fk_get fk_cX12_readWord_2 7 rfl) ⟨Nat.zero_le _, Nat.zero_le _⟩) hS (fun q _ h => hFc q h) hFc (fun S_34 t_ H locs ht_ hvm_ hw_33 hB_ hz_ hk_ hS => ?_)
      obtain ⟨hP, -, hD1_⟩ := hB_
      rw [ht_] at hP
      have hD : va_D A (wR G ad S_34) := hD1_.weaken (fun k q _ h => hFc q.1 h)
      try dsimp only at hw_33
      have hA3 := (TA_go hA2 (by assumption) hlt2).trans hw_33
      refine lv_iload_n hx hb (fk_get fk_cX12_readWord_2 8 rfl) rfl (lv_at hl 0 rfl) ?_
      refine lv_bipush (v := 115) hx hb (fk_get fk_cX12_readWord_2 9 rfl) (by decide) ?_
      refine lv_icmp_ne (tgt := 153) hx hb (fk_get fk_cX12_readWord_2 10 rfl) (by decide) (fun c_35 => absurd (by first | assumption | exact Int32.not_lt.mp (by assumption) | exact Int32.not_le.mp (by assumption) | exact Int32.not_lt.mpr (by assumption) | exact Int32.not_le.mpr (by assumption) ) c_35) (fun _ => ?_)
      refine lv_iconst (v := 1) hx hb (fk_get fk_cX12_readWord_2 11 rfl) (by decide) ?_
      refine lv_goto (tgt := 154) hx hb (fk_get fk_cX12_readWord_2 12 rfl) (by decide) ?_
      subst hQ
      have hpost : TA S S_34 z ∧ ((1 : Int32) = 0 ∨ (1 : Int32) = 1 ∨ (1 : Int32) = 2 ∨ (1 : Int32) = 3) := by
        exact ⟨hA3, by decide⟩
      exact W.iret (v := 1) hx hb hr (fun t_ ht_ hW_ => ⟨⟨1, S_34, rfl, hpost, by rw [ht_]; exact hP, va_K.moved hW_.alike hK, hD⟩, hS.F ht_⟩) hS.2.2 (fk_get fk_cX12_readWord_2 14 rfl)
    refine lv_iload_n hx hb (fk_get fk_cX12_readWord_1 14 rfl) rfl (lv_at hl 0 rfl) ?_
    refine lv_bipush (v := 97) hx hb (fk_get fk_cX12_readWord_1 15 rfl) (by decide) ?_
    refine lv_icmp_eq (tgt := 99) hx hb (fk_get fk_cX12_readWord_1 16 rfl) (by decide) (fun c_36 => ?_) (fun c_36 => ?_)
    · have hlt2 := hr_lt (t := fA S 6) (z := z) (u := u2) (by rw [show hrS (fA S 6) z u2 = 97 from c_36]; decide)
      refine lv_iconst (v := 0) hx hb (fk_get fk_cX12_readWord_1 19 rfl) (by decide) ?_
      refine va_put (D := G.1) (ci := 14) (v := .int (0)) (ty := .boolean) (C := RX12) (T := TX12) (N := 49) hx hb hT inX12 tyX12 tyX12_ok nmX12 hown hK hP hD hS 0 (ix_at (by decide) (cR_0 G ad S_15)) rfl 26 (by decide) (hT _ m5_127) (fun _ h9 => h9) rfl (by decide +kernel) rfl rfl (Nat.le_of_ble_eq_true rfl) (fk_get fk_cX12_readWord_1 20 rfl) (fun H locs hP hD hS => ?_)
      rw [pR_isBad G ad S_15 (0)] at hP hD
      refine lv_aload_n hx hb (fk_get fk_cX12_readWord_1 21 rfl) rfl (lv_at hl 2 rfl) ?_
      refine lv_dup hx hb (fk_get fk_cX12_readWord_1 22 rfl) rfl ?_
      refine va_get (D := G.1) (ci := 14) (v := .int ((fF S_15 0 25))) (C := RX12) (T := TX12) (N := 49) hx hb hT inX12 hown hK hP 0 (ix_at (by decide) (cR_0 G ad (setF S_15 0 26 (0)))) rfl 25 (by decide) (hT _ m5_126) (fun _ h9 => h9) rfl (fk_get fk_cX12_readWord_1 23 rfl) ?_
      refine lv_aload_n hx hb (fk_get fk_cX12_readWord_1 24 rfl) rfl (lv_at hl 2 rfl) ?_
      refine va_get (D := G.1) (ci := 14) (v := .int (0)) (C := RX12) (T := TX12) (N := 49) hx hb hT inX12 hown hK hP 0 (ix_at (by decide) (cR_0 G ad (setF S_15 0 26 (0)))) rfl 26 (by decide) (hT _ m5_127) (fun _ h9 => h9) rfl (fk_get fk_cX12_readWord_1 25 rfl) ?_
      refine lv_if_eq (tgt := 119) hx hb (fk_get fk_cX12_readWord_1 26 rfl) (by decide) (fun _ => ?_) (fun c_37 => absurd ((by decide)) c_37)
      refine lv_iconst (v := 1) hx hb (fk_get fk_cX12_readWord_1 29 rfl) (by decide) ?_
      refine lv_iadd hx hb (fk_get fk_cX12_readWord_1 30 rfl) ?_
      rw [show ((fF S_15 0 25) + 1) = (nI (u2 + 1)) from (by rw [hq2]; exact nI_1 u2)]
      refine va_put (D := G.1) (ci := 14) (v := .int ((nI (u2 + 1)))) (ty := .int) (C := RX12) (T := TX12) (N := 49) hx hb hT inX12 tyX12 tyX12_ok nmX12 hown hK hP hD hS 0 (ix_at (by decide) (cR_0 G ad (setF S_15 0 26 (0)))) rfl 25 (by decide) (hT _ m5_126) (fun _ h9 => h9) rfl (by decide +kernel) rfl rfl (Nat.le_of_ble_eq_true rfl) (fk_get fk_cX12_readWord_1 31 rfl) (fun H locs hP hD hS => ?_)
      rw [pR_at G ad (setF S_15 0 26 (0)) ((nI (u2 + 1)))] at hP hD
      refine lv_aload_n hx hb (fk_get fk_cX12_readWord_2 0 rfl) rfl (lv_at hl 2 rfl) ?_
      refine lv_iload_n hx hb (fk_get fk_cX12_readWord_2 1 rfl) rfl (lv_at hl 0 rfl) ?_
      refine lv_bipush (v := 115) hx hb (fk_get fk_cX12_readWord_2 2 rfl) (by decide) ?_
      refine lv_icmp_ne (tgt := 137) hx hb (fk_get fk_cX12_readWord_2 3 rfl) (by decide) (fun _ => ?_) (fun c_38 => absurd c_38 (by first | assumption | exact Int32.not_lt.mp (by assumption) | exact Int32.not_le.mp (by assumption) | exact Int32.not_lt.mpr (by assumption) | exact Int32.not_le.mpr (by assumption) ))
      refine lv_ldc2 (v := 2125426) hx hb hown (hT _ m6_62) (fk_get fk_cX12_readWord_2 6 rfl) ?_
      have hFc := va_self hD hS hA
      refine va_callv (va_runV (As := [.long (2125426)]) (rest := []) ⟨hx, hb, hml, hown, hT⟩ (c_takeAll l G ad (setF (setF S_15 0 26 (0)) 0 25 ((nI (u2 + 1)))) H.size (z) (u2 + 1) (2125426) (hQ2.f17 hz) (hz1) (rfl) (by omega) (by first | exact Or.inl rfl | exact Or.inr rfl) (by decide)) (tV 1 hT m6_52 m6_54 mp_23 m1_17 m6_55 rfl rfl (by decide +kernel) ⟨Nat.le_of_ble_eq_true rfl, Nat.le_of_ble_eq_true rfl⟩) ⟨PcW_blind, va_recv hK hP (ci := 14) (q0 := 0) rfl (ix_at (by decide) (cR_0 G ad (setF (setF S_15 0 26 (0)) 0 25 ((nI (u2 + 1)))))), PcW_of hP hK hD _⟩ rfl rfl hl.1 rfl (lv_room (Nat.le_of_ble_eq_true rfl)) (fk_get fk_cX12_readWord_2 7 rfl) ⟨Nat.zero_le _, Nat.zero_le _⟩) hS (fun q _ h => hFc q h) hFc (fun S_41 t_ H locs ht_ hvm_ hw_40 hB_ hz_ hk_ hS => ?_)
      obtain ⟨hP, -, hD1_⟩ := hB_
      rw [ht_] at hP
      have hD : va_D A (wR G ad S_41) := hD1_.weaken (fun k q _ h => hFc q.1 h)
      try dsimp only at hw_40
      have hA3 := (TA_go hA2 (by assumption) hlt2).trans hw_40
      refine lv_iload_n hx hb (fk_get fk_cX12_readWord_2 8 rfl) rfl (lv_at hl 0 rfl) ?_
      refine lv_bipush (v := 115) hx hb (fk_get fk_cX12_readWord_2 9 rfl) (by decide) ?_
      refine lv_icmp_ne (tgt := 153) hx hb (fk_get fk_cX12_readWord_2 10 rfl) (by decide) (fun _ => ?_) (fun c_42 => absurd c_42 (by first | assumption | exact Int32.not_lt.mp (by assumption) | exact Int32.not_le.mp (by assumption) | exact Int32.not_lt.mpr (by assumption) | exact Int32.not_le.mpr (by assumption) ))
      refine lv_iconst (v := 3) hx hb (fk_get fk_cX12_readWord_2 13 rfl) (by decide) ?_
      subst hQ
      have hpost : TA S S_41 z ∧ ((3 : Int32) = 0 ∨ (3 : Int32) = 1 ∨ (3 : Int32) = 2 ∨ (3 : Int32) = 3) := by
        exact ⟨hA3, by decide⟩
      exact W.iret (v := 3) hx hb hr (fun t_ ht_ hW_ => ⟨⟨3, S_41, rfl, hpost, by rw [ht_]; exact hP, va_K.moved hW_.alike hK, hD⟩, hS.F ht_⟩) hS.2.2 (fk_get fk_cX12_readWord_2 14 rfl)
    refine lv_iconst (v := 1) hx hb (fk_get fk_cX12_readWord_1 17 rfl) (by decide) ?_
    refine lv_goto (tgt := 100) hx hb (fk_get fk_cX12_readWord_1 18 rfl) (by decide) ?_
    refine va_put (D := G.1) (ci := 14) (v := .int (1)) (ty := .boolean) (C := RX12) (T := TX12) (N := 49) hx hb hT inX12 tyX12 tyX12_ok nmX12 hown hK hP hD hS 0 (ix_at (by decide) (cR_0 G ad S_15)) rfl 26 (by decide) (hT _ m5_127) (fun _ h9 => h9) rfl (by decide +kernel) rfl rfl (Nat.le_of_ble_eq_true rfl) (fk_get fk_cX12_readWord_1 20 rfl) (fun H locs hP hD hS => ?_)
    rw [pR_isBad G ad S_15 (1)] at hP hD
    refine lv_aload_n hx hb (fk_get fk_cX12_readWord_1 21 rfl) rfl (lv_at hl 2 rfl) ?_
    refine lv_dup hx hb (fk_get fk_cX12_readWord_1 22 rfl) rfl ?_
    refine va_get (D := G.1) (ci := 14) (v := .int ((fF S_15 0 25))) (C := RX12) (T := TX12) (N := 49) hx hb hT inX12 hown hK hP 0 (ix_at (by decide) (cR_0 G ad (setF S_15 0 26 (1)))) rfl 25 (by decide) (hT _ m5_126) (fun _ h9 => h9) rfl (fk_get fk_cX12_readWord_1 23 rfl) ?_
    refine lv_aload_n hx hb (fk_get fk_cX12_readWord_1 24 rfl) rfl (lv_at hl 2 rfl) ?_
    refine va_get (D := G.1) (ci := 14) (v := .int (1)) (C := RX12) (T := TX12) (N := 49) hx hb hT inX12 hown hK hP 0 (ix_at (by decide) (cR_0 G ad (setF S_15 0 26 (1)))) rfl 26 (by decide) (hT _ m5_127) (fun _ h9 => h9) rfl (fk_get fk_cX12_readWord_1 25 rfl) ?_
    refine lv_if_eq (tgt := 119) hx hb (fk_get fk_cX12_readWord_1 26 rfl) (by decide) (fun c_43 => absurd c_43 ((by decide))) (fun _ => ?_)
    refine lv_iconst (v := 0) hx hb (fk_get fk_cX12_readWord_1 27 rfl) (by decide) ?_
    refine lv_goto (tgt := 120) hx hb (fk_get fk_cX12_readWord_1 28 rfl) (by decide) ?_
    refine lv_iadd hx hb (fk_get fk_cX12_readWord_1 30 rfl) ?_
    rw [show ((fF S_15 0 25) + 0) = (nI u2) from (by rw [hq2]; exact Int32.add_zero _)]
    refine va_put (D := G.1) (ci := 14) (v := .int ((nI u2))) (ty := .int) (C := RX12) (T := TX12) (N := 49) hx hb hT inX12 tyX12 tyX12_ok nmX12 hown hK hP hD hS 0 (ix_at (by decide) (cR_0 G ad (setF S_15 0 26 (1)))) rfl 25 (by decide) (hT _ m5_126) (fun _ h9 => h9) rfl (by decide +kernel) rfl rfl (Nat.le_of_ble_eq_true rfl) (fk_get fk_cX12_readWord_1 31 rfl) (fun H locs hP hD hS => ?_)
    rw [pR_at G ad (setF S_15 0 26 (1)) ((nI u2))] at hP hD
    refine lv_aload_n hx hb (fk_get fk_cX12_readWord_2 0 rfl) rfl (lv_at hl 2 rfl) ?_
    refine lv_iload_n hx hb (fk_get fk_cX12_readWord_2 1 rfl) rfl (lv_at hl 0 rfl) ?_
    refine lv_bipush (v := 115) hx hb (fk_get fk_cX12_readWord_2 2 rfl) (by decide) ?_
    refine lv_icmp_ne (tgt := 137) hx hb (fk_get fk_cX12_readWord_2 3 rfl) (by decide) (fun _ => ?_) (fun c_44 => absurd c_44 (by first | assumption | exact Int32.not_lt.mp (by assumption) | exact Int32.not_le.mp (by assumption) | exact Int32.not_lt.mpr (by assumption) | exact Int32.not_le.mpr (by assumption) ))
    refine lv_ldc2 (v := 2125426) hx hb hown (hT _ m6_62) (fk_get fk_cX12_readWord_2 6 rfl) ?_
    have hFc := va_self hD hS hA
    refine va_callv (va_runV (As := [.long (2125426)]) (rest := []) ⟨hx, hb, hml, hown, hT⟩ (c_takeAll l G ad (setF (setF S_15 0 26 (1)) 0 25 ((nI u2))) H.size (z) (u2) (2125426) (hQ2.f17 hz) (hz1) (rfl) (by omega) (by first | exact Or.inl rfl | exact Or.inr rfl) (by decide)) (tV 1 hT m6_52 m6_54 mp_23 m1_17 m6_55 rfl rfl (by decide +kernel) ⟨Nat.le_of_ble_eq_true rfl, Nat.le_of_ble_eq_true rfl⟩) ⟨PcW_blind, va_recv hK hP (ci := 14) (q0 := 0) rfl (ix_at (by decide) (cR_0 G ad (setF (setF S_15 0 26 (1)) 0 25 ((nI u2))))), PcW_of hP hK hD _⟩ rfl rfl hl.1 rfl (lv_room (Nat.le_of_ble_eq_true rfl)) (fk_get fk_cX12_readWord_2 7 rfl) ⟨Nat.zero_le _, Nat.zero_le _⟩) hS (fun q _ h => hFc q h) hFc (fun S_47 t_ H locs ht_ hvm_ hw_46 hB_ hz_ hk_ hS => ?_)
    obtain ⟨hP, -, hD1_⟩ := hB_
    rw [ht_] at hP
    have hD : va_D A (wR G ad S_47) := hD1_.weaken (fun k q _ h => hFc q.1 h)
    try dsimp only at hw_46
    have hA3 := (TA_fail hA2 hu2).trans hw_46
    refine lv_iload_n hx hb (fk_get fk_cX12_readWord_2 8 rfl) rfl (lv_at hl 0 rfl) ?_
    refine lv_bipush (v := 115) hx hb (fk_get fk_cX12_readWord_2 9 rfl) (by decide) ?_
    refine lv_icmp_ne (tgt := 153) hx hb (fk_get fk_cX12_readWord_2 10 rfl) (by decide) (fun _ => ?_) (fun c_48 => absurd c_48 (by first | assumption | exact Int32.not_lt.mp (by assumption) | exact Int32.not_le.mp (by assumption) | exact Int32.not_lt.mpr (by assumption) | exact Int32.not_le.mpr (by assumption) ))
    refine lv_iconst (v := 3) hx hb (fk_get fk_cX12_readWord_2 13 rfl) (by decide) ?_
    subst hQ
    have hpost : TA S S_47 z ∧ ((3 : Int32) = 0 ∨ (3 : Int32) = 1 ∨ (3 : Int32) = 2 ∨ (3 : Int32) = 3) := by
      exact ⟨hA3, by decide⟩
    exact W.iret (v := 3) hx hb hr (fun t_ ht_ hW_ => ⟨⟨3, S_47, rfl, hpost, by rw [ht_]; exact hP, va_K.moved hW_.alike hK, hD⟩, hS.F ht_⟩) hS.2.2 (fk_get fk_cX12_readWord_2 14 rfl)
  have hlt := hr_lt (t := fA S 6) (z := z) (u := u) (by rw [show hrS (fA S 6) z u = 112 from c_9]; decide)
  refine lv_aload_n hx hb (fk_get fk_cX12_readWord_0 9 rfl) rfl (lv_at hl 1 rfl) ?_
  refine lv_dup hx hb (fk_get fk_cX12_readWord_0 10 rfl) rfl ?_
  refine va_get (D := G.1) (ci := 14) (v := .int ((fF S 0 25))) (C := RX12) (T := TX12) (N := 49) hx hb hT inX12 hown hK hP 0 (ix_at (by decide) (cR_0 G ad S)) rfl 25 (by decide) (hT _ m5_126) (fun _ h9 => h9) rfl (fk_get fk_cX12_readWord_0 11 rfl) ?_
  refine lv_iconst (v := 1) hx hb (fk_get fk_cX12_readWord_0 12 rfl) (by decide) ?_
  refine lv_iadd hx hb (fk_get fk_cX12_readWord_0 13 rfl) ?_
  rw [show ((fF S 0 25) + 1) = (nI (u + 1)) from (by rw [hp]; exact nI_1 u)]
  refine va_put (D := G.1) (ci := 14) (v := .int ((nI (u + 1)))) (ty := .int) (C := RX12) (T := TX12) (N := 49) hx hb hT inX12 tyX12 tyX12_ok nmX12 hown hK hP hD hS 0 (ix_at (by decide) (cR_0 G ad S)) rfl 25 (by decide) (hT _ m5_126) (fun _ h9 => h9) rfl (by decide +kernel) rfl rfl (Nat.le_of_ble_eq_true rfl) (fk_get fk_cX12_readWord_0 14 rfl) (fun H locs hP hD hS => ?_)
  rw [pR_at G ad S ((nI (u + 1)))] at hP hD
  refine lv_aload_n hx hb (fk_get fk_cX12_readWord_0 15 rfl) rfl (lv_at hl 1 rfl) ?_
  refine lv_iload_n hx hb (fk_get fk_cX12_readWord_0 16 rfl) rfl (lv_at hl 0 rfl) ?_
  refine lv_bipush (v := 109) hx hb (fk_get fk_cX12_readWord_0 17 rfl) (by decide) ?_
  refine lv_icmp_ne (tgt := 40) hx hb (fk_get fk_cX12_readWord_0 18 rfl) (by decide) (fun _ => ?_) (fun c_49 => absurd c_49 (by first | assumption | exact Int32.not_lt.mp (by assumption) | exact Int32.not_le.mp (by assumption) | exact Int32.not_lt.mpr (by assumption) | exact Int32.not_le.mpr (by assumption) ))
  refine lv_ldc2 (v := 139139967346) hx hb hown (hT _ m6_51) (fk_get fk_cX12_readWord_0 21 rfl) ?_
  have hFc := va_self hD hS hA
  refine va_callv (va_runV (As := [.long (139139967346)]) (rest := []) ⟨hx, hb, hml, hown, hT⟩ (c_takeAll l G ad (setF S 0 25 ((nI (u + 1)))) H.size (z) (u + 1) (139139967346) (hz) (hz1) (rfl) (hlt) (hb26) (by decide)) (tV 1 hT m6_52 m6_54 mp_23 m1_17 m6_55 rfl rfl (by decide +kernel) ⟨Nat.le_of_ble_eq_true rfl, Nat.le_of_ble_eq_true rfl⟩) ⟨PcW_blind, va_recv hK hP (ci := 14) (q0 := 0) rfl (ix_at (by decide) (cR_0 G ad (setF S 0 25 ((nI (u + 1)))))), PcW_of hP hK hD _⟩ rfl rfl hl.1 rfl (lv_room (Nat.le_of_ble_eq_true rfl)) (fk_get fk_cX12_readWord_0 22 rfl) ⟨Nat.zero_le _, Nat.zero_le _⟩) hS (fun q _ h => hFc q h) hFc (fun S_52 t_ H locs ht_ hvm_ hw_51 hB_ hz_ hk_ hS => ?_)
  obtain ⟨hP, -, hD1_⟩ := hB_
  rw [ht_] at hP
  have hD : va_D A (wR G ad S_52) := hD1_.weaken (fun k q _ h => hFc q.1 h)
  try dsimp only at hw_51
  have hA3 := (TA_at hb26 hlt).trans hw_51
  refine lv_iload_n hx hb (fk_get fk_cX12_readWord_0 23 rfl) rfl (lv_at hl 0 rfl) ?_
  refine lv_bipush (v := 109) hx hb (fk_get fk_cX12_readWord_0 24 rfl) (by decide) ?_
  refine lv_icmp_ne (tgt := 56) hx hb (fk_get fk_cX12_readWord_0 25 rfl) (by decide) (fun _ => ?_) (fun c_53 => absurd c_53 (by first | assumption | exact Int32.not_lt.mp (by assumption) | exact Int32.not_le.mp (by assumption) | exact Int32.not_lt.mpr (by assumption) | exact Int32.not_le.mpr (by assumption) ))
  refine lv_iconst (v := 2) hx hb (fk_get fk_cX12_readWord_0 28 rfl) (by decide) ?_
  subst hQ
  have hpost : TA S S_52 z ∧ ((2 : Int32) = 0 ∨ (2 : Int32) = 1 ∨ (2 : Int32) = 2 ∨ (2 : Int32) = 3) := by
    exact ⟨hA3, by decide⟩
  exact W.iret (v := 2) hx hb hr (fun t_ ht_ hW_ => ⟨⟨2, S_52, rfl, hpost, by rw [ht_]; exact hP, va_K.moved hW_.alike hK, hD⟩, hS.F ht_⟩) hS.2.2 (fk_get fk_cX12_readWord_0 29 rfl)
set_option maxHeartbeats 800000 in
set_option maxRecDepth 100000 in
theorem c_readClause (l : Launch) (G : GG) (ad : Nat → Nat) (S : FS) (sz : Nat) (z u k : Nat) (i : Int32) (hz : fF S 0 17 = nI z) (hz1 : z ≤ 100) (hp : fF S 0 25 = nI u) (hp1 : u ≤ z) (hb26 : fF S 0 26 = 1 ∨ fF S 0 26 = 0) (ei : i = nI k) (hk : k < 60) : Met l yX12_readClause (Cond.code yX12_readClause cX12_readClause 3 none :: TBL) ({ frames := 7, cells := 0, slots := 0, locals := 193 } : Room) (PcW G (wR G ad S) sz [.ref (ad 0), .int (i)]) (va_Qv (fun (S' : FS) => RCl z k S S') (fun S' t => BW G (va_A (wR G ad S) sz) (wR G ad S') t) (va_A (wR G ad S) sz)) 0 0 (va_A (wR G ad S) sz) := by
  refine Met.ofW (cc := cX12_readClause) (maxL := 3) (ret := none) (by decide) rfl ?_
  intro p e s m args below meth c₀ s₁ B hml hv
  obtain ⟨rfl, hsz, hP, hK, hD0⟩ := hv
  have hx := B.exec
  have hb := B.bytes
  have hr := B.returns
  have hT : ∀ w ∈ TBL, w.before ([.ref (ad 0), .int (i)] : List Value).toArray s = true := fun w h => atoms_spec (ws := Cond.code yX12_readClause cX12_readClause 3 none :: TBL) B.pre w (List.mem_cons_of_mem _ h)
  have hown : s.vm.findClass "LittleMoreModel" = some m.cls := findClass_of_methodNamed B.named
  have hlocks := B.notSynchronized
  subst hsz
  have hD := hD0.self (sz := s.heap.size)
  generalize hAe : va_A (wR G ad S) s.heap.size = A at hD ⊢
  have hA : ∀ q : Nat, s.heap.size ≤ q → A q := fun q h => by rw [← hAe]; exact Or.inr h
  have hS : va_S A s.heap s.heap [] := va_S.rf
  have hP : va_P G.1 vwCl (wR G ad S) s.heap := hP
  have hl := lv_entry ([.ref (ad 0), .int (i)]) (n := 3) (Nat.le_of_ble_eq_true rfl)
  rw [lg_entry_eq]
  generalize (lg_sl ([.ref (ad 0), .int (i)]) ++ List.replicate (3 - (lg_sl ([.ref (ad 0), .int (i)])).length) Slot.unset).toArray = ls at hl ⊢
  have hl : lv_has ls 3 [(0, .ref (ad 0)), (1, .int (i))] := hl
  refine W_abs (fun Q hQ => ?_)
  generalize ([.ref (ad 0), .int (i)] : List Value).toArray = args at hT hQ ⊢
  refine lv_aload_n hx hb (fk_get fk_cX12_readClause_0 0 rfl) rfl (lv_at hl 0 rfl) ?_
  have hFc := va_self hD hS hA
  refine va_calli (va_runV (As := []) (rest := []) ⟨hx, hb, hml, hown, hT⟩ (c_readWord l G ad S s.heap.size (z) (u) (hz) (hz1) (hp) (hp1) (hb26)) (tV 0 hT m6_42 m6_44 mp_21 m1_17 m6_45 rfl rfl (by decide +kernel) ⟨Nat.le_of_ble_eq_true rfl, Nat.le_of_ble_eq_true rfl⟩) ⟨PcW_blind, va_recv hK hP (ci := 14) (q0 := 0) rfl (ix_at (by decide) (cR_0 G ad S)), PcW_of hP hK hD _⟩ rfl rfl hl.1 rfl (lv_room (Nat.le_of_ble_eq_true rfl)) (fk_get fk_cX12_readClause_0 1 rfl) ⟨Nat.zero_le _, Nat.zero_le _⟩) hS (fun q _ h => hFc q h) hFc (fun r_1 S_3 t_ H locs ht_ hvm_ hw_2 hB_ hz_ hk_ hS => ?_)
  obtain ⟨hP, -, hD1_⟩ := hB_
  rw [ht_] at hP
  have hD : va_D A (wR G ad S_3) := hD1_.weaken (fun k q _ h => hFc q.1 h)
  try dsimp only at hw_2
  obtain ⟨hA1, hr4⟩ := hw_2
  obtain ⟨hQ1, u1, hu1, hq1, hb1⟩ := id hA1
  refine lv_istore_n (lv' := [(2, .int (r_1)), (0, .ref (ad 0)), (1, .int (i))]) hx hb (fk_get fk_cX12_readClause_0 2 rfl) rfl hl (by decide) rfl (fun ls hl => ?_)
  refine lv_aload_n hx hb (fk_get fk_cX12_readClause_0 3 rfl) rfl (lv_at hl 1 rfl) ?_
  refine va_get (D := G.1) (ci := 14) (v := .ref (ad 9)) (C := RX12) (T := TX12) (N := 49) hx hb hT inX12 hown hK hP 0 (ix_at (by decide) (cR_0 G ad S_3)) rfl 21 (by decide) (hT _ m5_122) (fun _ h9 => h9) rfl (fk_get fk_cX12_readClause_0 4 rfl) ?_
  refine lv_iload_n hx hb (fk_get fk_cX12_readClause_0 5 rfl) rfl (lv_at hl 2 rfl) ?_
  refine lv_iload_n hx hb (fk_get fk_cX12_readClause_0 6 rfl) rfl (lv_at hl 0 rfl) ?_
  refine r_iast hx hb hK hP hD hS 9 0 (ix_at (by decide) (cR_clauseWhat G ad S_3)) rfl (k) (ei) (by omega) (by decide) (fk_get fk_cX12_readClause_0 7 rfl) (fun H locs hP hD hS => ?_)
  rw [pR_A G ad S_3 (by decide) (by decide) (by decide) (cR_clauseWhat G ad S_3) (upd (fA S_3 9) (k) (r_1))] at hP hD
  refine lv_aload_n hx hb (fk_get fk_cX12_readClause_0 8 rfl) rfl (lv_at hl 1 rfl) ?_
  refine va_get (D := G.1) (ci := 14) (v := .ref (ad 10)) (C := RX12) (T := TX12) (N := 49) hx hb hT inX12 hown hK hP 0 (ix_at (by decide) (cR_0 G ad (setA S_3 9 (upd (fA S_3 9) (k) (r_1))))) rfl 22 (by decide) (hT _ m5_123) (fun _ h9 => h9) rfl (fk_get fk_cX12_readClause_0 9 rfl) ?_
  refine lv_iload_n hx hb (fk_get fk_cX12_readClause_0 10 rfl) rfl (lv_at hl 2 rfl) ?_
  refine lv_aload_n hx hb (fk_get fk_cX12_readClause_0 11 rfl) rfl (lv_at hl 1 rfl) ?_
  have hFc := va_self hD hS hA
  refine va_calli (va_runV (As := []) (rest := [.int (i), .ref (ad 10)]) ⟨hx, hb, hml, hown, hT⟩ (c_readNumber l G ad (setA S_3 9 (upd (fA S_3 9) (k) (r_1))) H.size (z) (u1) (hQ1.f17 hz) (hz1) (hq1) (by omega)) (tV 0 hT m6_63 m6_65 mp_25 m1_17 m6_66 rfl rfl (by decide +kernel) ⟨Nat.le_of_ble_eq_true rfl, Nat.le_of_ble_eq_true rfl⟩) ⟨PcW_blind, va_recv hK hP (ci := 14) (q0 := 0) rfl (ix_at (by decide) (cR_0 G ad (setA S_3 9 (upd (fA S_3 9) (k) (r_1))))), PcW_of hP hK hD _⟩ rfl rfl hl.1 rfl (lv_room (Nat.le_of_ble_eq_true rfl)) (fk_get fk_cX12_readClause_0 12 rfl) ⟨Nat.zero_le _, Nat.zero_le _⟩) hS (fun q _ h => hFc q h) hFc (fun r_4 S_6 t_ H locs ht_ hvm_ hw_5 hB_ hz_ hk_ hS => ?_)
  obtain ⟨hP, -, hD1_⟩ := hB_
  rw [ht_] at hP
  have hD : va_D A (wR G ad S_6) := hD1_.weaken (fun k q _ h => hFc q.1 h)
  try dsimp only at hw_5
  have hA2 := TA_num hw_5 hu1
  have hC2 := (((hA1.1.P.C k (k + 1)).setA (i := 9) (by decide) (k := k) (by omega) (r_1))).trans (hA2.1.P.C k (k + 1))
  obtain ⟨hQ2, u2, hu2, hq2, hb2⟩ := id hA2
  have h92 : fA S_6 9 k = (r_1) := (congrFun (hQ2.2.2.2 9) k).trans pk_us
  refine r_iast hx hb hK hP hD hS 10 0 (ix_at (by decide) (cR_clauseN G ad S_6)) rfl (k) (ei) (by omega) (by decide) (fk_get fk_cX12_readClause_0 13 rfl) (fun H locs hP hD hS => ?_)
  rw [pR_A G ad S_6 (by decide) (by decide) (by decide) (cR_clauseN G ad S_6) (upd (fA S_6 10) (k) (r_4))] at hP hD
  have hC3 : CF k (k + 1) S (setA S_6 10 (upd (fA S_6 10) (k) (r_4))) := hC2.setA (i := 10) (by decide) (k := k) (by omega) _
  refine lv_iload_n hx hb (fk_get fk_cX12_readClause_0 14 rfl) rfl (lv_at hl 0 rfl) ?_
  refine lv_iconst (v := 2) hx hb (fk_get fk_cX12_readClause_0 15 rfl) (by decide) ?_
  refine lv_icmp_ge (tgt := 61) hx hb (fk_get fk_cX12_readClause_0 16 rfl) (by decide) (fun c_7 => ?_) (fun c_7 => ?_)
  · subst hQ
    have hpost : RCl z k S (setA S_6 10 (upd (fA S_6 10) (k) (r_4))) := by
      first
      | exact RCl_exp hC5 hu3 (by rw [fA_setA, if_pos rfl, pk_us]; exact hq3) (bad0 hb1 (bad0 hb2 (bad0 hb3 h0_))) hE
      | exact RCl_of hC5 hu3 hq3 (Or.inl (bad1 (S0 := S) (z := z) (u := u) hb3 (by assumption)))
      | exact RCl_of hC3 hu2 hq2 (Or.inl (bad1 (S0 := S) (z := z) (u := u) hb2 (by assumption)))
      | exact RCl_of hC3 hu2 hq2 (hb2.elim Or.inl (fun q => Or.inr ⟨q.1, bad0 hb1 q.2, ge2 h92 (by assumption)⟩))
    exact W.vret hx hb hr (fun t_ ht_ hW_ => ⟨⟨(setA S_6 10 (upd (fA S_6 10) (k) (r_4))), rfl, hpost, by rw [ht_]; exact hP, va_K.moved hW_.alike hK, hD⟩, hS.F ht_⟩) hS.2.2 (fk_get fk_cX12_readClause_1 2 rfl)
  refine lv_aload_n hx hb (fk_get fk_cX12_readClause_0 17 rfl) rfl (lv_at hl 1 rfl) ?_
  refine va_get (D := G.1) (ci := 14) (v := .int ((fF S_6 0 26))) (C := RX12) (T := TX12) (N := 49) hx hb hT inX12 hown hK hP 0 (ix_at (by decide) (cR_0 G ad (setA S_6 10 (upd (fA S_6 10) (k) (r_4))))) rfl 26 (by decide) (hT _ m5_127) (fun _ h9 => h9) rfl (fk_get fk_cX12_readClause_0 18 rfl) ?_
  refine lv_if_ne (tgt := 61) hx hb (fk_get fk_cX12_readClause_0 19 rfl) (by decide) (fun c_8 => ?_) (fun c_8 => ?_)
  · subst hQ
    have hpost : RCl z k S (setA S_6 10 (upd (fA S_6 10) (k) (r_4))) := by
      first
      | exact RCl_exp hC5 hu3 (by rw [fA_setA, if_pos rfl, pk_us]; exact hq3) (bad0 hb1 (bad0 hb2 (bad0 hb3 h0_))) hE
      | exact RCl_of hC5 hu3 hq3 (Or.inl (bad1 (S0 := S) (z := z) (u := u) hb3 (by assumption)))
      | exact RCl_of hC3 hu2 hq2 (Or.inl (bad1 (S0 := S) (z := z) (u := u) hb2 (by assumption)))
      | exact RCl_of hC3 hu2 hq2 (hb2.elim Or.inl (fun q => Or.inr ⟨q.1, bad0 hb1 q.2, ge2 h92 (by assumption)⟩))
    exact W.vret hx hb hr (fun t_ ht_ hW_ => ⟨⟨(setA S_6 10 (upd (fA S_6 10) (k) (r_4))), rfl, hpost, by rw [ht_]; exact hP, va_K.moved hW_.alike hK, hD⟩, hS.F ht_⟩) hS.2.2 (fk_get fk_cX12_readClause_1 2 rfl)
  refine lv_aload_n hx hb (fk_get fk_cX12_readClause_0 20 rfl) rfl (lv_at hl 1 rfl) ?_
  refine lv_bipush (v := 32) hx hb (fk_get fk_cX12_readClause_0 21 rfl) (by decide) ?_
  have hFc := va_self hD hS hA
  refine va_callv (va_runV (As := [.int (32)]) (rest := []) ⟨hx, hb, hml, hown, hT⟩ (c_take l G ad (setA S_6 10 (upd (fA S_6 10) (k) (r_4))) H.size (z) (u2) (32) (hC3.f17 hz) (hz1) (hq2) (by omega)) (tV 1 hT m6_57 m6_59 mp_24 m1_17 m6_60 rfl rfl (by decide +kernel) ⟨Nat.le_of_ble_eq_true rfl, Nat.le_of_ble_eq_true rfl⟩) ⟨PcW_blind, va_recv hK hP (ci := 14) (q0 := 0) rfl (ix_at (by decide) (cR_0 G ad (setA S_6 10 (upd (fA S_6 10) (k) (r_4))))), PcW_of hP hK hD _⟩ rfl rfl hl.1 rfl (lv_room (Nat.le_of_ble_eq_true rfl)) (fk_get fk_cX12_readClause_0 22 rfl) ⟨Nat.zero_le _, Nat.zero_le _⟩) hS (fun q _ h => hFc q h) hFc (fun S_11 t_ H locs ht_ hvm_ hw_10 hB_ hz_ hk_ hS => ?_)
  obtain ⟨hP, -, hD1_⟩ := hB_
  rw [ht_] at hP
  have hD : va_D A (wR G ad S_11) := hD1_.weaken (fun k q _ h => hFc q.1 h)
  try dsimp only at hw_10
  have hA3 := TA_take hw_10 hu2 (by decide)
  have hC4 := hC3.trans (hA3.1.P.C k (k + 1))
  obtain ⟨hQ3, u3, hu3, hq3, hb3⟩ := id hA3
  have h93 : fA S_11 9 k = (r_1) := (congrFun (hQ3.2.2.2 9) k).trans h92
  refine lv_aload_n hx hb (fk_get fk_cX12_readClause_0 23 rfl) rfl (lv_at hl 1 rfl) ?_
  refine va_get (D := G.1) (ci := 14) (v := .ref (ad 11)) (C := RX12) (T := TX12) (N := 49) hx hb hT inX12 hown hK hP 0 (ix_at (by decide) (cR_0 G ad S_11)) rfl 23 (by decide) (hT _ m5_124) (fun _ h9 => h9) rfl (fk_get fk_cX12_readClause_0 24 rfl) ?_
  refine lv_iload_n hx hb (fk_get fk_cX12_readClause_0 25 rfl) rfl (lv_at hl 2 rfl) ?_
  refine lv_aload_n hx hb (fk_get fk_cX12_readClause_0 26 rfl) rfl (lv_at hl 1 rfl) ?_
  refine va_get (D := G.1) (ci := 14) (v := .int ((fF S_11 0 25))) (C := RX12) (T := TX12) (N := 49) hx hb hT inX12 hown hK hP 0 (ix_at (by decide) (cR_0 G ad S_11)) rfl 25 (by decide) (hT _ m5_126) (fun _ h9 => h9) rfl (fk_get fk_cX12_readClause_0 27 rfl) ?_
  refine r_iast hx hb hK hP hD hS 11 0 (ix_at (by decide) (cR_clauseAt G ad S_11)) rfl (k) (ei) (by omega) (by decide) (fk_get fk_cX12_readClause_0 28 rfl) (fun H locs hP hD hS => ?_)
  rw [pR_A G ad S_11 (by decide) (by decide) (by decide) (cR_clauseAt G ad S_11) (upd (fA S_11 11) (k) ((fF S_11 0 25)))] at hP hD
  have hC5 : CF k (k + 1) S (setA S_11 11 (upd (fA S_11 11) (k) ((fF S_11 0 25)))) := hC4.setA (i := 11) (by decide) (k := k) (by omega) _
  refine lv_aload_n hx hb (fk_get fk_cX12_readClause_0 29 rfl) rfl (lv_at hl 1 rfl) ?_
  refine va_get (D := G.1) (ci := 14) (v := .int ((fF S_11 0 26))) (C := RX12) (T := TX12) (N := 49) hx hb hT inX12 hown hK hP 0 (ix_at (by decide) (cR_0 G ad (setA S_11 11 (upd (fA S_11 11) (k) ((fF S_11 0 25)))))) rfl 26 (by decide) (hT _ m5_127) (fun _ h9 => h9) rfl (fk_get fk_cX12_readClause_0 30 rfl) ?_
  refine lv_if_ne (tgt := 61) hx hb (fk_get fk_cX12_readClause_0 31 rfl) (by decide) (fun c_12 => ?_) (fun c_12 => ?_)
  · subst hQ
    have hpost : RCl z k S (setA S_11 11 (upd (fA S_11 11) (k) ((fF S_11 0 25)))) := by
      first
      | exact RCl_exp hC5 hu3 (by rw [fA_setA, if_pos rfl, pk_us]; exact hq3) (bad0 hb1 (bad0 hb2 (bad0 hb3 h0_))) hE
      | exact RCl_of hC5 hu3 hq3 (Or.inl (bad1 (S0 := S) (z := z) (u := u) hb3 (by assumption)))
      | exact RCl_of hC3 hu2 hq2 (Or.inl (bad1 (S0 := S) (z := z) (u := u) hb2 (by assumption)))
      | exact RCl_of hC3 hu2 hq2 (hb2.elim Or.inl (fun q => Or.inr ⟨q.1, bad0 hb1 q.2, ge2 h92 (by assumption)⟩))
    exact W.vret hx hb hr (fun t_ ht_ hW_ => ⟨⟨(setA S_11 11 (upd (fA S_11 11) (k) ((fF S_11 0 25)))), rfl, hpost, by rw [ht_]; exact hP, va_K.moved hW_.alike hK, hD⟩, hS.F ht_⟩) hS.2.2 (fk_get fk_cX12_readClause_1 2 rfl)
  have h0_ := c_12
  refine lv_aload_n hx hb (fk_get fk_cX12_readClause_1 0 rfl) rfl (lv_at hl 1 rfl) ?_
  have hFc := va_self hD hS hA
  refine va_callv (va_runV (As := []) (rest := []) ⟨hx, hb, hml, hown, hT⟩ (c_readExpression l G ad (setA S_11 11 (upd (fA S_11 11) (k) ((fF S_11 0 25)))) H.size (z) (u3) (hC5.f17 hz) (hz1) (hq3) (hu3) (h0_)) (tV 0 hT m6_73 m6_75 mp_27 m1_17 m6_76 rfl rfl (by decide +kernel) ⟨Nat.le_of_ble_eq_true rfl, Nat.le_of_ble_eq_true rfl⟩) ⟨PcW_blind, va_recv hK hP (ci := 14) (q0 := 0) rfl (ix_at (by decide) (cR_0 G ad (setA S_11 11 (upd (fA S_11 11) (k) ((fF S_11 0 25)))))), PcW_of hP hK hD _⟩ rfl rfl hl.1 rfl (lv_room (Nat.le_of_ble_eq_true rfl)) (fk_get fk_cX12_readClause_1 1 rfl) ⟨Nat.zero_le _, Nat.zero_le _⟩) hS (fun q _ h => hFc q h) hFc (fun S_15 t_ H locs ht_ hvm_ hw_14 hB_ hz_ hk_ hS => ?_)
  obtain ⟨hP, -, hD1_⟩ := hB_
  rw [ht_] at hP
  have hD : va_D A (wR G ad S_15) := hD1_.weaken (fun k q _ h => hFc q.1 h)
  try dsimp only at hw_14
  have hE := hw_14
  subst hQ
  have hpost : RCl z k S S_15 := by
    first
    | exact RCl_exp hC5 hu3 (by rw [fA_setA, if_pos rfl, pk_us]; exact hq3) (bad0 hb1 (bad0 hb2 (bad0 hb3 h0_))) hE
    | exact RCl_of hC5 hu3 hq3 (Or.inl (bad1 (S0 := S) (z := z) (u := u) hb3 (by assumption)))
    | exact RCl_of hC3 hu2 hq2 (Or.inl (bad1 (S0 := S) (z := z) (u := u) hb2 (by assumption)))
    | exact RCl_of hC3 hu2 hq2 (hb2.elim Or.inl (fun q => Or.inr ⟨q.1, bad0 hb1 q.2, ge2 h92 (by assumption)⟩))
  exact W.vret hx hb hr (fun t_ ht_ hW_ => ⟨⟨S_15, rfl, hpost, by rw [ht_]; exact hP, va_K.moved hW_.alike hK, hD⟩, hS.F ht_⟩) hS.2.2 (fk_get fk_cX12_readClause_1 2 rfl)
