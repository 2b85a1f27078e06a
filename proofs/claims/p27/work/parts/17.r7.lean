set_option maxHeartbeats 800000 in
set_option maxRecDepth 100000 in
theorem c_readTest (l : Launch) (G : GG) (ad : Nat → Nat) (S : FS) (sz : Nat) (z u d o : Nat) (N : Nat → Nat) (hX : XL S d o N) (hz : fF S 0 17 = nI z) (hz1 : z ≤ 100) (hp : fF S 0 25 = nI u) (hp1 : u ≤ 200) : Met l yX12_readTest (Cond.code yX12_readTest cX12_readTest 1 none :: TBL) ({ frames := 5, cells := 0, slots := 0, locals := 142 } : Room) (PcW G (wR G ad S) sz [.ref (ad 0)]) (va_Qv (fun (S' : FS) => RTe z u S S' ∧ XL S' d (o - N d) (va_up N d 0)) (fun S' t => BW G (va_A (wR G ad S) sz) (wR G ad S') t) (va_A (wR G ad S) sz)) 0 0 (va_A (wR G ad S) sz) := by
  refine Met.ofW (cc := cX12_readTest) (maxL := 1) (ret := none) (by decide) rfl ?_
  intro p e s m args below meth c₀ s₁ B hml hv
  obtain ⟨rfl, hsz, hP, hK, hD0⟩ := hv
  have hx := B.exec
  have hb := B.bytes
  have hr := B.returns
  have hT : ∀ w ∈ TBL, w.before ([.ref (ad 0)] : List Value).toArray s = true := fun w h => atoms_spec (ws := Cond.code yX12_readTest cX12_readTest 1 none :: TBL) B.pre w (List.mem_cons_of_mem _ h)
  have hown : s.vm.findClass "LittleMoreModel" = some m.cls := findClass_of_methodNamed B.named
  have hlocks := B.notSynchronized
  subst hsz
  have hD := hD0.self (sz := s.heap.size)
  generalize hAe : va_A (wR G ad S) s.heap.size = A at hD ⊢
  have hA : ∀ q : Nat, s.heap.size ≤ q → A q := fun q h => by rw [← hAe]; exact Or.inr h
  have hS : va_S A s.heap s.heap [] := va_S.rf
  have hP : va_P G.1 vwCl (wR G ad S) s.heap := hP
  have hl := lv_entry ([.ref (ad 0)]) (n := 1) (Nat.le_of_ble_eq_true rfl)
  rw [lg_entry_eq]
  generalize (lg_sl ([.ref (ad 0)]) ++ List.replicate (1 - (lg_sl ([.ref (ad 0)])).length) Slot.unset).toArray = ls at hl ⊢
  have hl : lv_has ls 1 [(0, .ref (ad 0))] := hl
  refine W_abs (fun Q hQ => ?_)
  generalize ([.ref (ad 0)] : List Value).toArray = args at hT hQ ⊢
  refine lv_aload_n hx hb (fk_get fk_cX12_readTest_0 0 rfl) rfl (lv_at hl 0 rfl) ?_
  refine lv_aload_n hx hb (fk_get fk_cX12_readTest_0 1 rfl) rfl (lv_at hl 0 rfl) ?_
  refine va_get (D := G.1) (ci := 14) (v := .int ((fF S 0 26))) (C := RX12) (T := TX12) (N := 49) hx hb hT inX12 hown hK hP 0 (ix_at (by decide) (cR_0 G ad S)) rfl 26 (by decide) (hT _ m5_127) (fun _ h9 => h9) rfl (fk_get fk_cX12_readTest_0 2 rfl) ?_
  refine lv_if_ne (tgt := 18) hx hb (fk_get fk_cX12_readTest_0 3 rfl) (by decide) (fun c_1 => ?_) (fun c_1 => ?_)
  · refine lv_iconst (v := 1) hx hb (fk_get fk_cX12_readTest_0 8 rfl) (by decide) ?_
    refine lv_goto (tgt := 23) hx hb (fk_get fk_cX12_readTest_0 9 rfl) (by decide) ?_
    refine va_put (D := G.1) (ci := 14) (v := .int (1)) (ty := .boolean) (C := RX12) (T := TX12) (N := 49) hx hb hT inX12 tyX12 tyX12_ok nmX12 hown hK hP hD hS 0 (ix_at (by decide) (cR_0 G ad S)) rfl 26 (by decide) (hT _ m5_127) (fun _ h9 => h9) rfl (by decide +kernel) rfl rfl (Nat.le_of_ble_eq_true rfl) (fk_get fk_cX12_readTest_0 11 rfl) (fun H locs hP hD hS => ?_)
    rw [pR_isBad G ad S (1)] at hP hD
    refine lv_aload_n hx hb (fk_get fk_cX12_readTest_0 12 rfl) rfl (lv_at hl 0 rfl) ?_
    refine lv_dup hx hb (fk_get fk_cX12_readTest_0 13 rfl) rfl ?_
    refine va_get (D := G.1) (ci := 14) (v := .int ((fF S 0 25))) (C := RX12) (T := TX12) (N := 49) hx hb hT inX12 hown hK hP 0 (ix_at (by decide) (cR_0 G ad (setF S 0 26 (1)))) rfl 25 (by decide) (hT _ m5_126) (fun _ h9 => h9) rfl (fk_get fk_cX12_readTest_0 14 rfl) ?_
    refine lv_aload_n hx hb (fk_get fk_cX12_readTest_0 15 rfl) rfl (lv_at hl 0 rfl) ?_
    refine va_get (D := G.1) (ci := 14) (v := .int (1)) (C := RX12) (T := TX12) (N := 49) hx hb hT inX12 hown hK hP 0 (ix_at (by decide) (cR_0 G ad (setF S 0 26 (1)))) rfl 26 (by decide) (hT _ m5_127) (fun _ h9 => h9) rfl (fk_get fk_cX12_readTest_0 16 rfl) ?_
    refine lv_if_eq (tgt := 42) hx hb (fk_get fk_cX12_readTest_0 17 rfl) (by decide) (fun c_2 => absurd c_2 ((by decide))) (fun _ => ?_)
    refine lv_iconst (v := 0) hx hb (fk_get fk_cX12_readTest_0 18 rfl) (by decide) ?_
    refine lv_goto (tgt := 43) hx hb (fk_get fk_cX12_readTest_0 19 rfl) (by decide) ?_
    refine lv_iadd hx hb (fk_get fk_cX12_readTest_0 21 rfl) ?_
    rw [show ((fF S 0 25) + 0) = (nI u) from (by rw [hp]; exact Int32.add_zero _)]
    refine va_put (D := G.1) (ci := 14) (v := .int ((nI u))) (ty := .int) (C := RX12) (T := TX12) (N := 49) hx hb hT inX12 tyX12 tyX12_ok nmX12 hown hK hP hD hS 0 (ix_at (by decide) (cR_0 G ad (setF S 0 26 (1)))) rfl 25 (by decide) (hT _ m5_126) (fun _ h9 => h9) rfl (by decide +kernel) rfl rfl (Nat.le_of_ble_eq_true rfl) (fk_get fk_cX12_readTest_0 22 rfl) (fun H locs hP hD hS => ?_)
    rw [pR_at G ad (setF S 0 26 (1)) ((nI u))] at hP hD
    refine lv_aload_n hx hb (fk_get fk_cX12_readTest_0 23 rfl) rfl (lv_at hl 0 rfl) ?_
    refine lv_aload_n hx hb (fk_get fk_cX12_readTest_0 24 rfl) rfl (lv_at hl 0 rfl) ?_
    refine va_get (D := G.1) (ci := 14) (v := .int (1)) (C := RX12) (T := TX12) (N := 49) hx hb hT inX12 hown hK hP 0 (ix_at (by decide) (cR_0 G ad (setF (setF S 0 26 (1)) 0 25 ((nI u))))) rfl 26 (by decide) (hT _ m5_127) (fun _ h9 => h9) rfl (fk_get fk_cX12_readTest_0 25 rfl) ?_
    refine lv_if_ne (tgt := 72) hx hb (fk_get fk_cX12_readTest_0 26 rfl) (by decide) (fun _ => ?_) (fun c_3 => absurd c_3 ((by decide)))
    refine lv_iconst (v := 1) hx hb (fk_get fk_cX12_readTest_1 2 rfl) (by decide) ?_
    refine lv_goto (tgt := 77) hx hb (fk_get fk_cX12_readTest_1 3 rfl) (by decide) ?_
    refine va_put (D := G.1) (ci := 14) (v := .int (1)) (ty := .boolean) (C := RX12) (T := TX12) (N := 49) hx hb hT inX12 tyX12 tyX12_ok nmX12 hown hK hP hD hS 0 (ix_at (by decide) (cR_0 G ad (setF (setF S 0 26 (1)) 0 25 ((nI u))))) rfl 26 (by decide) (hT _ m5_127) (fun _ h9 => h9) rfl (by decide +kernel) rfl rfl (Nat.le_of_ble_eq_true rfl) (fk_get fk_cX12_readTest_1 5 rfl) (fun H locs hP hD hS => ?_)
    rw [pR_isBad G ad (setF (setF S 0 26 (1)) 0 25 ((nI u))) (1)] at hP hD
    refine lv_aload_n hx hb (fk_get fk_cX12_readTest_1 6 rfl) rfl (lv_at hl 0 rfl) ?_
    refine lv_dup hx hb (fk_get fk_cX12_readTest_1 7 rfl) rfl ?_
    refine va_get (D := G.1) (ci := 14) (v := .int ((nI u))) (C := RX12) (T := TX12) (N := 49) hx hb hT inX12 hown hK hP 0 (ix_at (by decide) (cR_0 G ad (setF (setF (setF S 0 26 (1)) 0 25 ((nI u))) 0 26 (1)))) rfl 25 (by decide) (hT _ m5_126) (fun _ h9 => h9) rfl (fk_get fk_cX12_readTest_1 8 rfl) ?_
    refine lv_aload_n hx hb (fk_get fk_cX12_readTest_1 9 rfl) rfl (lv_at hl 0 rfl) ?_
    refine va_get (D := G.1) (ci := 14) (v := .int (1)) (C := RX12) (T := TX12) (N := 49) hx hb hT inX12 hown hK hP 0 (ix_at (by decide) (cR_0 G ad (setF (setF (setF S 0 26 (1)) 0 25 ((nI u))) 0 26 (1)))) rfl 26 (by decide) (hT _ m5_127) (fun _ h9 => h9) rfl (fk_get fk_cX12_readTest_1 10 rfl) ?_
    refine lv_if_eq (tgt := 96) hx hb (fk_get fk_cX12_readTest_1 11 rfl) (by decide) (fun c_4 => absurd c_4 ((by decide))) (fun _ => ?_)
    refine lv_iconst (v := 0) hx hb (fk_get fk_cX12_readTest_1 12 rfl) (by decide) ?_
    refine lv_goto (tgt := 97) hx hb (fk_get fk_cX12_readTest_1 13 rfl) (by decide) ?_
    refine lv_iadd hx hb (fk_get fk_cX12_readTest_1 15 rfl) ?_
    rw [show ((nI u) + 0) = (nI (u)) from (Int32.add_zero _)]
    refine va_put (D := G.1) (ci := 14) (v := .int ((nI (u)))) (ty := .int) (C := RX12) (T := TX12) (N := 49) hx hb hT inX12 tyX12 tyX12_ok nmX12 hown hK hP hD hS 0 (ix_at (by decide) (cR_0 G ad (setF (setF (setF S 0 26 (1)) 0 25 ((nI u))) 0 26 (1)))) rfl 25 (by decide) (hT _ m5_126) (fun _ h9 => h9) rfl (by decide +kernel) rfl rfl (Nat.le_of_ble_eq_true rfl) (fk_get fk_cX12_readTest_1 16 rfl) (fun H locs hP hD hS => ?_)
    rw [pR_at G ad (setF (setF (setF S 0 26 (1)) 0 25 ((nI u))) 0 26 (1)) ((nI (u)))] at hP hD
    refine lv_aload_n hx hb (fk_get fk_cX12_readTest_1 17 rfl) rfl (lv_at hl 0 rfl) ?_
    have hFc := va_self hD hS hA
    refine va_calli (va_runV (As := []) (rest := []) ⟨hx, hb, hml, hown, hT⟩ (c_readNumber l G ad (setF (setF (setF (setF S 0 26 (1)) 0 25 ((nI u))) 0 26 (1)) 0 25 ((nI (u)))) H.size (z) (u) (hz) (hz1) (rfl) (by omega)) (tV 0 hT m6_63 m6_65 mp_25 m1_17 m6_66 rfl rfl (by decide +kernel) ⟨Nat.le_of_ble_eq_true rfl, Nat.le_of_ble_eq_true rfl⟩) ⟨PcW_blind, va_recv hK hP (ci := 14) (q0 := 0) rfl (ix_at (by decide) (cR_0 G ad (setF (setF (setF (setF S 0 26 (1)) 0 25 ((nI u))) 0 26 (1)) 0 25 ((nI (u)))))), PcW_of hP hK hD _⟩ rfl rfl hl.1 rfl (lv_room (Nat.le_of_ble_eq_true rfl)) (fk_get fk_cX12_readTest_1 18 rfl) ⟨Nat.zero_le _, Nat.zero_le _⟩) hS (fun q _ h => hFc q h) hFc (fun r_5 S_7 t_ H locs ht_ hvm_ hw_6 hB_ hz_ hk_ hS => ?_)
    obtain ⟨hP, -, hD1_⟩ := hB_
    rw [ht_] at hP
    have hD : va_D A (wR G ad S_7) := hD1_.weaken (fun k q _ h => hFc q.1 h)
    try dsimp only at hw_6
    have hN1 := hw_6
    have hX1 := hN1.1.XL (XL_25 (XL_25 (XL_25 (XL_25 hX 26 (by decide) _) 25 (by decide) _) 26 (by decide) _) 25 (by decide) _)
    refine lv_pop hx hb (fk_get fk_cX12_readTest_1 19 rfl) rfl ?_
    refine lv_aload_n hx hb (fk_get fk_cX12_readTest_1 20 rfl) rfl (lv_at hl 0 rfl) ?_
    have hFc := va_self hD hS hA
    refine va_callv (va_runV (As := []) (rest := []) ⟨hx, hb, hml, hown, hT⟩ (c_factorEnds l G ad S_7 H.size (d) (o) (N) (hX1)) (tV 0 hT m6_90 m6_92 mp_30 m1_17 m6_93 rfl rfl (by decide +kernel) ⟨Nat.le_of_ble_eq_true rfl, Nat.le_of_ble_eq_true rfl⟩) ⟨PcW_blind, va_recv hK hP (ci := 14) (q0 := 0) rfl (ix_at (by decide) (cR_0 G ad S_7)), PcW_of hP hK hD _⟩ rfl rfl hl.1 rfl (lv_room (Nat.le_of_ble_eq_true rfl)) (fk_get fk_cX12_readTest_1 21 rfl) ⟨Nat.zero_le _, Nat.zero_le _⟩) hS (fun q _ h => hFc q h) hFc (fun S_10 t_ H locs ht_ hvm_ hw_9 hB_ hz_ hk_ hS => ?_)
    obtain ⟨hP, -, hD1_⟩ := hB_
    rw [ht_] at hP
    have hD : va_D A (wR G ad S_10) := hD1_.weaken (fun k q _ h => hFc q.1 h)
    try dsimp only at hw_9
    subst hw_9
    subst hQ
    have hpost : RTe z u S (setA (setF S_7 0 29 (nI (o - N (d)))) 13 (upd (fA S_7 13) (d) 0)) ∧ XL (setA (setF S_7 0 29 (nI (o - N (d)))) 13 (upd (fA S_7 13) (d) 0)) d (o - N d) (va_up N d 0) := by
      refine RTe_of hX (((((PFr.rf S).setF (by decide) _).setF (by decide) _).setF (by decide) _).setF (by decide) _) rfl (XL_25 (XL_25 (XL_25 (XL_25 hX 26 (by decide) _) 25 (by decide) _) 26 (by decide) _) 25 (by decide) _) hN1 rfl ?_
      first | exact Or.inl ⟨rfl, Or.inl ⟨fun q => by first | exact absurd q.1 (by assumption) | exact absurd q.2 (by assumption), rfl⟩⟩ | exact Or.inl ⟨rfl, Or.inr ⟨⟨by assumption, hL⟩, hC, rfl⟩⟩ | exact Or.inr ⟨rfl, ⟨by assumption, hL⟩, hC, rfl⟩
    exact W.vret hx hb hr (fun t_ ht_ hW_ => ⟨⟨(setA (setF S_7 0 29 (nI (o - N (d)))) 13 (upd (fA S_7 13) (d) 0)), rfl, hpost, by rw [ht_]; exact hP, va_K.moved hW_.alike hK, hD⟩, hS.F ht_⟩) hS.2.2 (fk_get fk_cX12_readTest_1 22 rfl)
  refine lv_aload_n hx hb (fk_get fk_cX12_readTest_0 4 rfl) rfl (lv_at hl 0 rfl) ?_
  refine vp_callSi (W.runV (As := []) (rest := [.ref (ad 0)]) ⟨hx, hb, hml, hown, hT⟩ (c_here l G ad S s.heap.size (z) (u) (hz) (hz1) (hp) (by omega)) (tV 0 hT m6_46 m6_48 mp_22 m1_17 m6_49 rfl rfl (by decide +kernel) ⟨Nat.le_of_ble_eq_true rfl, Nat.le_of_ble_eq_true rfl⟩) ⟨PcW_blind, va_recv hK hP (ci := 14) (q0 := 0) rfl (ix_at (by decide) (cR_0 G ad S)), PcW_of hP hK hD _⟩ rfl rfl hl.1 rfl (lv_room (Nat.le_of_ble_eq_true rfl)) (fk_get fk_cX12_readTest_0 5 rfl) ⟨Nat.zero_le _, Nat.zero_le _⟩) (fun r_11 hw_12 => ?_)
  try dsimp only at hw_12
  have hw_12 : r_11 = hrS (fA S 6) z (u) := hw_12
  subst hw_12
  refine vp_callSi (W.runS (As := [.int ((hrS (fA S 6) z (u)))]) (rest := [.ref (ad 0)]) ⟨hx, hb, hml, hown, hT⟩ (c_isLetter l ((hrS (fA S 6) z (u))) ) (tS 1 hT m6_85 m6_86 m1_17 m6_87 rfl rfl (by decide +kernel) ⟨Nat.le_of_ble_eq_true rfl, Nat.le_of_ble_eq_true rfl⟩) ⟨PcN_blind, PcN_of _ _ _⟩ rfl rfl hl.1 rfl (lv_room (Nat.le_of_ble_eq_true rfl)) (fk_get fk_cX12_readTest_0 6 rfl) ⟨Nat.zero_le _, Nat.zero_le _⟩) (fun r_13 hw_14 => ?_)
  try dsimp only at hw_14
  refine lv_if_ne (tgt := 22) hx hb (fk_get fk_cX12_readTest_0 7 rfl) (by decide) (fun c_15 => ?_) (fun c_15 => ?_)
  · have hL := isL_t (by assumption) c_15
    have hlt := hr_lt (isLet_ne hL).1
    refine lv_iconst (v := 0) hx hb (fk_get fk_cX12_readTest_0 10 rfl) (by decide) ?_
    refine va_put (D := G.1) (ci := 14) (v := .int (0)) (ty := .boolean) (C := RX12) (T := TX12) (N := 49) hx hb hT inX12 tyX12 tyX12_ok nmX12 hown hK hP hD hS 0 (ix_at (by decide) (cR_0 G ad S)) rfl 26 (by decide) (hT _ m5_127) (fun _ h9 => h9) rfl (by decide +kernel) rfl rfl (Nat.le_of_ble_eq_true rfl) (fk_get fk_cX12_readTest_0 11 rfl) (fun H locs hP hD hS => ?_)
    rw [pR_isBad G ad S (0)] at hP hD
    refine lv_aload_n hx hb (fk_get fk_cX12_readTest_0 12 rfl) rfl (lv_at hl 0 rfl) ?_
    refine lv_dup hx hb (fk_get fk_cX12_readTest_0 13 rfl) rfl ?_
    refine va_get (D := G.1) (ci := 14) (v := .int ((fF S 0 25))) (C := RX12) (T := TX12) (N := 49) hx hb hT inX12 hown hK hP 0 (ix_at (by decide) (cR_0 G ad (setF S 0 26 (0)))) rfl 25 (by decide) (hT _ m5_126) (fun _ h9 => h9) rfl (fk_get fk_cX12_readTest_0 14 rfl) ?_
    refine lv_aload_n hx hb (fk_get fk_cX12_readTest_0 15 rfl) rfl (lv_at hl 0 rfl) ?_
    refine va_get (D := G.1) (ci := 14) (v := .int (0)) (C := RX12) (T := TX12) (N := 49) hx hb hT inX12 hown hK hP 0 (ix_at (by decide) (cR_0 G ad (setF S 0 26 (0)))) rfl 26 (by decide) (hT _ m5_127) (fun _ h9 => h9) rfl (fk_get fk_cX12_readTest_0 16 rfl) ?_
    refine lv_if_eq (tgt := 42) hx hb (fk_get fk_cX12_readTest_0 17 rfl) (by decide) (fun _ => ?_) (fun c_16 => absurd ((by decide)) c_16)
    refine lv_iconst (v := 1) hx hb (fk_get fk_cX12_readTest_0 20 rfl) (by decide) ?_
    refine lv_iadd hx hb (fk_get fk_cX12_readTest_0 21 rfl) ?_
    rw [show ((fF S 0 25) + 1) = (nI (u + 1)) from (by rw [hp]; exact nI_1 u)]
    refine va_put (D := G.1) (ci := 14) (v := .int ((nI (u + 1)))) (ty := .int) (C := RX12) (T := TX12) (N := 49) hx hb hT inX12 tyX12 tyX12_ok nmX12 hown hK hP hD hS 0 (ix_at (by decide) (cR_0 G ad (setF S 0 26 (0)))) rfl 25 (by decide) (hT _ m5_126) (fun _ h9 => h9) rfl (by decide +kernel) rfl rfl (Nat.le_of_ble_eq_true rfl) (fk_get fk_cX12_readTest_0 22 rfl) (fun H locs hP hD hS => ?_)
    rw [pR_at G ad (setF S 0 26 (0)) ((nI (u + 1)))] at hP hD
    refine lv_aload_n hx hb (fk_get fk_cX12_readTest_0 23 rfl) rfl (lv_at hl 0 rfl) ?_
    refine lv_aload_n hx hb (fk_get fk_cX12_readTest_0 24 rfl) rfl (lv_at hl 0 rfl) ?_
    refine va_get (D := G.1) (ci := 14) (v := .int (0)) (C := RX12) (T := TX12) (N := 49) hx hb hT inX12 hown hK hP 0 (ix_at (by decide) (cR_0 G ad (setF (setF S 0 26 (0)) 0 25 ((nI (u + 1)))))) rfl 26 (by decide) (hT _ m5_127) (fun _ h9 => h9) rfl (fk_get fk_cX12_readTest_0 25 rfl) ?_
    refine lv_if_ne (tgt := 72) hx hb (fk_get fk_cX12_readTest_0 26 rfl) (by decide) (fun c_17 => absurd ((by decide)) c_17) (fun _ => ?_)
    refine lv_aload_n hx hb (fk_get fk_cX12_readTest_0 27 rfl) rfl (lv_at hl 0 rfl) ?_
    refine vp_callSi (W.runV (As := []) (rest := [.ref (ad 0)]) ⟨hx, hb, hml, hown, hT⟩ (c_here l G ad (setF (setF S 0 26 (0)) 0 25 ((nI (u + 1)))) H.size (z) (u + 1) (hz) (hz1) (rfl) (by omega)) (tV 0 hT m6_46 m6_48 mp_22 m1_17 m6_49 rfl rfl (by decide +kernel) ⟨Nat.le_of_ble_eq_true rfl, Nat.le_of_ble_eq_true rfl⟩) ⟨PcW_blind, va_recv hK hP (ci := 14) (q0 := 0) rfl (ix_at (by decide) (cR_0 G ad (setF (setF S 0 26 (0)) 0 25 ((nI (u + 1)))))), PcW_of hP hK hD _⟩ rfl rfl hl.1 rfl (lv_room (Nat.le_of_ble_eq_true rfl)) (fk_get fk_cX12_readTest_0 28 rfl) ⟨Nat.zero_le _, Nat.zero_le _⟩) (fun r_18 hw_19 => ?_)
    try dsimp only at hw_19
    have hw_19 : r_18 = hrS (fA S 6) z (u + 1) := hw_19
    subst hw_19
    refine lv_i2l hx hb (fk_get fk_cX12_readTest_0 29 rfl) rfl ?_
    refine lv_ldc2 (v := 60) hx hb hown (hT _ m6_88) (fk_get fk_cX12_readTest_0 30 rfl) ?_
    refine lv_ldc2 (v := 62) hx hb hown (hT _ m6_89) (fk_get fk_cX12_readTest_0 31 rfl) ?_
    refine vp_callSi (W.runS (As := [.long (((hrS (fA S 6) z (u + 1))).toInt64), .long (60), .long (62)]) (rest := [.ref (ad 0)]) ⟨hx, hb, hml, hown, hT⟩ (c_in l (((hrS (fA S 6) z (u + 1))).toInt64) (60) (62) ) (tS 3 hT m6_31 m6_32 m1_17 m6_33 rfl rfl (by decide +kernel) ⟨Nat.le_of_ble_eq_true rfl, Nat.le_of_ble_eq_true rfl⟩) ⟨PcN_blind, PcN_of _ _ _⟩ rfl rfl hl.1 rfl (lv_room (Nat.le_of_ble_eq_true rfl)) (fk_get fk_cX12_readTest_1 0 rfl) ⟨Nat.zero_le _, Nat.zero_le _⟩) (fun r_20 hw_21 => ?_)
    try dsimp only at hw_21
    have hw_21 := in_eq hw_21 ((hrS (fA S 6) z (u + 1))) 60 62 (rfl) (by decide) (by decide)
    refine lv_if_ne (tgt := 76) hx hb (fk_get fk_cX12_readTest_1 1 rfl) (by decide) (fun c_22 => ?_) (fun c_22 => ?_)
    · have p_c_22 := if1_t hw_21 c_22
      have hC := p_c_22
      refine lv_iconst (v := 0) hx hb (fk_get fk_cX12_readTest_1 4 rfl) (by decide) ?_
      refine va_put (D := G.1) (ci := 14) (v := .int (0)) (ty := .boolean) (C := RX12) (T := TX12) (N := 49) hx hb hT inX12 tyX12 tyX12_ok nmX12 hown hK hP hD hS 0 (ix_at (by decide) (cR_0 G ad (setF (setF S 0 26 (0)) 0 25 ((nI (u + 1)))))) rfl 26 (by decide) (hT _ m5_127) (fun _ h9 => h9) rfl (by decide +kernel) rfl rfl (Nat.le_of_ble_eq_true rfl) (fk_get fk_cX12_readTest_1 5 rfl) (fun H locs hP hD hS => ?_)
      rw [pR_isBad G ad (setF (setF S 0 26 (0)) 0 25 ((nI (u + 1)))) (0)] at hP hD
      refine lv_aload_n hx hb (fk_get fk_cX12_readTest_1 6 rfl) rfl (lv_at hl 0 rfl) ?_
      refine lv_dup hx hb (fk_get fk_cX12_readTest_1 7 rfl) rfl ?_
      refine va_get (D := G.1) (ci := 14) (v := .int ((nI (u + 1)))) (C := RX12) (T := TX12) (N := 49) hx hb hT inX12 hown hK hP 0 (ix_at (by decide) (cR_0 G ad (setF (setF (setF S 0 26 (0)) 0 25 ((nI (u + 1)))) 0 26 (0)))) rfl 25 (by decide) (hT _ m5_126) (fun _ h9 => h9) rfl (fk_get fk_cX12_readTest_1 8 rfl) ?_
      refine lv_aload_n hx hb (fk_get fk_cX12_readTest_1 9 rfl) rfl (lv_at hl 0 rfl) ?_
      refine va_get (D := G.1) (ci := 14) (v := .int (0)) (C := RX12) (T := TX12) (N := 49) hx hb hT inX12 hown hK hP 0 (ix_at (by decide) (cR_0 G ad (setF (setF (setF S 0 26 (0)) 0 25 ((nI (u + 1)))) 0 26 (0)))) rfl 26 (by decide) (hT _ m5_127) (fun _ h9 => h9) rfl (fk_get fk_cX12_readTest_1 10 rfl) ?_
      refine lv_if_eq (tgt := 96) hx hb (fk_get fk_cX12_readTest_1 11 rfl) (by decide) (fun _ => ?_) (fun c_23 => absurd ((by decide)) c_23)
      refine lv_iconst (v := 1) hx hb (fk_get fk_cX12_readTest_1 14 rfl) (by decide) ?_
      refine lv_iadd hx hb (fk_get fk_cX12_readTest_1 15 rfl) ?_
      rw [show ((nI (u + 1)) + 1) = (nI (u + 1 + 1)) from (nI_1 (u + 1))]
      refine va_put (D := G.1) (ci := 14) (v := .int ((nI (u + 1 + 1)))) (ty := .int) (C := RX12) (T := TX12) (N := 49) hx hb hT inX12 tyX12 tyX12_ok nmX12 hown hK hP hD hS 0 (ix_at (by decide) (cR_0 G ad (setF (setF (setF S 0 26 (0)) 0 25 ((nI (u + 1)))) 0 26 (0)))) rfl 25 (by decide) (hT _ m5_126) (fun _ h9 => h9) rfl (by decide +kernel) rfl rfl (Nat.le_of_ble_eq_true rfl) (fk_get fk_cX12_readTest_1 16 rfl) (fun H locs hP hD hS => ?_)
      rw [pR_at G ad (setF (setF (setF S 0 26 (0)) 0 25 ((nI (u + 1)))) 0 26 (0)) ((nI (u + 1 + 1)))] at hP hD
      refine lv_aload_n hx hb (fk_get fk_cX12_readTest_1 17 rfl) rfl (lv_at hl 0 rfl) ?_
      have hFc := va_self hD hS hA
      refine va_calli (va_runV (As := []) (rest := []) ⟨hx, hb, hml, hown, hT⟩ (c_readNumber l G ad (setF (setF (setF (setF S 0 26 (0)) 0 25 ((nI (u + 1)))) 0 26 (0)) 0 25 ((nI (u + 1 + 1)))) H.size (z) (u + 1 + 1) (hz) (hz1) (rfl) (by omega)) (tV 0 hT m6_63 m6_65 mp_25 m1_17 m6_66 rfl rfl (by decide +kernel) ⟨Nat.le_of_ble_eq_true rfl, Nat.le_of_ble_eq_true rfl⟩) ⟨PcW_blind, va_recv hK hP (ci := 14) (q0 := 0) rfl (ix_at (by decide) (cR_0 G ad (setF (setF (setF (setF S 0 26 (0)) 0 25 ((nI (u + 1)))) 0 26 (0)) 0 25 ((nI (u + 1 + 1)))))), PcW_of hP hK hD _⟩ rfl rfl hl.1 rfl (lv_room (Nat.le_of_ble_eq_true rfl)) (fk_get fk_cX12_readTest_1 18 rfl) ⟨Nat.zero_le _, Nat.zero_le _⟩) hS (fun q _ h => hFc q h) hFc (fun r_24 S_26 t_ H locs ht_ hvm_ hw_25 hB_ hz_ hk_ hS => ?_)
      obtain ⟨hP, -, hD1_⟩ := hB_
      rw [ht_] at hP
      have hD : va_D A (wR G ad S_26) := hD1_.weaken (fun k q _ h => hFc q.1 h)
      try dsimp only at hw_25
      have hN1 := hw_25
      have hX1 := hN1.1.XL (XL_25 (XL_25 (XL_25 (XL_25 hX 26 (by decide) _) 25 (by decide) _) 26 (by decide) _) 25 (by decide) _)
      refine lv_pop hx hb (fk_get fk_cX12_readTest_1 19 rfl) rfl ?_
      refine lv_aload_n hx hb (fk_get fk_cX12_readTest_1 20 rfl) rfl (lv_at hl 0 rfl) ?_
      have hFc := va_self hD hS hA
      refine va_callv (va_runV (As := []) (rest := []) ⟨hx, hb, hml, hown, hT⟩ (c_factorEnds l G ad S_26 H.size (d) (o) (N) (hX1)) (tV 0 hT m6_90 m6_92 mp_30 m1_17 m6_93 rfl rfl (by decide +kernel) ⟨Nat.le_of_ble_eq_true rfl, Nat.le_of_ble_eq_true rfl⟩) ⟨PcW_blind, va_recv hK hP (ci := 14) (q0 := 0) rfl (ix_at (by decide) (cR_0 G ad S_26)), PcW_of hP hK hD _⟩ rfl rfl hl.1 rfl (lv_room (Nat.le_of_ble_eq_true rfl)) (fk_get fk_cX12_readTest_1 21 rfl) ⟨Nat.zero_le _, Nat.zero_le _⟩) hS (fun q _ h => hFc q h) hFc (fun S_29 t_ H locs ht_ hvm_ hw_28 hB_ hz_ hk_ hS => ?_)
      obtain ⟨hP, -, hD1_⟩ := hB_
      rw [ht_] at hP
      have hD : va_D A (wR G ad S_29) := hD1_.weaken (fun k q _ h => hFc q.1 h)
      try dsimp only at hw_28
      subst hw_28
      subst hQ
      have hpost : RTe z u S (setA (setF S_26 0 29 (nI (o - N (d)))) 13 (upd (fA S_26 13) (d) 0)) ∧ XL (setA (setF S_26 0 29 (nI (o - N (d)))) 13 (upd (fA S_26 13) (d) 0)) d (o - N d) (va_up N d 0) := by
        refine RTe_of hX (((((PFr.rf S).setF (by decide) _).setF (by decide) _).setF (by decide) _).setF (by decide) _) rfl (XL_25 (XL_25 (XL_25 (XL_25 hX 26 (by decide) _) 25 (by decide) _) 26 (by decide) _) 25 (by decide) _) hN1 rfl ?_
        first | exact Or.inl ⟨rfl, Or.inl ⟨fun q => by first | exact absurd q.1 (by assumption) | exact absurd q.2 (by assumption), rfl⟩⟩ | exact Or.inl ⟨rfl, Or.inr ⟨⟨by assumption, hL⟩, hC, rfl⟩⟩ | exact Or.inr ⟨rfl, ⟨by assumption, hL⟩, hC, rfl⟩
      exact W.vret hx hb hr (fun t_ ht_ hW_ => ⟨⟨(setA (setF S_26 0 29 (nI (o - N (d)))) 13 (upd (fA S_26 13) (d) 0)), rfl, hpost, by rw [ht_]; exact hP, va_K.moved hW_.alike hK, hD⟩, hS.F ht_⟩) hS.2.2 (fk_get fk_cX12_readTest_1 22 rfl)
    have p_c_22 := if1_f hw_21 c_22
    have hC := p_c_22
    refine lv_iconst (v := 1) hx hb (fk_get fk_cX12_readTest_1 2 rfl) (by decide) ?_
    refine lv_goto (tgt := 77) hx hb (fk_get fk_cX12_readTest_1 3 rfl) (by decide) ?_
    refine va_put (D := G.1) (ci := 14) (v := .int (1)) (ty := .boolean) (C := RX12) (T := TX12) (N := 49) hx hb hT inX12 tyX12 tyX12_ok nmX12 hown hK hP hD hS 0 (ix_at (by decide) (cR_0 G ad (setF (setF S 0 26 (0)) 0 25 ((nI (u + 1)))))) rfl 26 (by decide) (hT _ m5_127) (fun _ h9 => h9) rfl (by decide +kernel) rfl rfl (Nat.le_of_ble_eq_true rfl) (fk_get fk_cX12_readTest_1 5 rfl) (fun H locs hP hD hS => ?_)
    rw [pR_isBad G ad (setF (setF S 0 26 (0)) 0 25 ((nI (u + 1)))) (1)] at hP hD
    refine lv_aload_n hx hb (fk_get fk_cX12_readTest_1 6 rfl) rfl (lv_at hl 0 rfl) ?_
    refine lv_dup hx hb (fk_get fk_cX12_readTest_1 7 rfl) rfl ?_
    refine va_get (D := G.1) (ci := 14) (v := .int ((nI (u + 1)))) (C := RX12) (T := TX12) (N := 49) hx hb hT inX12 hown hK hP 0 (ix_at (by decide) (cR_0 G ad (setF (setF (setF S 0 26 (0)) 0 25 ((nI (u + 1)))) 0 26 (1)))) rfl 25 (by decide) (hT _ m5_126) (fun _ h9 => h9) rfl (fk_get fk_cX12_readTest_1 8 rfl) ?_
    refine lv_aload_n hx hb (fk_get fk_cX12_readTest_1 9 rfl) rfl (lv_at hl 0 rfl) ?_
    refine va_get (D := G.1) (ci := 14) (v := .int (1)) (C := RX12) (T := TX12) (N := 49) hx hb hT inX12 hown hK hP 0 (ix_at (by decide) (cR_0 G ad (setF (setF (setF S 0 26 (0)) 0 25 ((nI (u + 1)))) 0 26 (1)))) rfl 26 (by decide) (hT _ m5_127) (fun _ h9 => h9) rfl (fk_get fk_cX12_readTest_1 10 rfl) ?_
    refine lv_if_eq (tgt := 96) hx hb (fk_get fk_cX12_readTest_1 11 rfl) (by decide) (fun c_30 => absurd c_30 ((by decide))) (fun _ => ?_)
    refine lv_iconst (v := 0) hx hb (fk_get fk_cX12_readTest_1 12 rfl) (by decide) ?_
    refine lv_goto (tgt := 97) hx hb (fk_get fk_cX12_readTest_1 13 rfl) (by decide) ?_
    refine lv_iadd hx hb (fk_get fk_cX12_readTest_1 15 rfl) ?_
    rw [show ((nI (u + 1)) + 0) = (nI (u + 1)) from (Int32.add_zero _)]
    refine va_put (D := G.1) (ci := 14) (v := .int ((nI (u + 1)))) (ty := .int) (C := RX12) (T := TX12) (N := 49) hx hb hT inX12 tyX12 tyX12_ok nmX12 hown hK hP hD hS 0 (ix_at (by decide) (cR_0 G ad (setF (setF (setF S 0 26 (0)) 0 25 ((nI (u + 1)))) 0 26 (1)))) rfl 25 (by decide) (hT _ m5_126) (fun _ h9 => h9) rfl (by decide +kernel) rfl rfl (Nat.le_of_ble_eq_true rfl) (fk_get fk_cX12_readTest_1 16 rfl) (fun H locs hP hD hS => ?_)
    rw [pR_at G ad (setF (setF (setF S 0 26 (0)) 0 25 ((nI (u + 1)))) 0 26 (1)) ((nI (u + 1)))] at hP hD
    refine lv_aload_n hx hb (fk_get fk_cX12_readTest_1 17 rfl) rfl (lv_at hl 0 rfl) ?_
    have hFc := va_self hD hS hA
    refine va_calli (va_runV (As := []) (rest := []) ⟨hx, hb, hml, hown, hT⟩ (c_readNumber l G ad (setF (setF (setF (setF S 0 26 (0)) 0 25 ((nI (u + 1)))) 0 26 (1)) 0 25 ((nI (u + 1)))) H.size (z) (u + 1) (hz) (hz1) (rfl) (by omega)) (tV 0 hT m6_63 m6_65 mp_25 m1_17 m6_66 rfl rfl (by decide +kernel) ⟨Nat.le_of_ble_eq_true rfl, Nat.le_of_ble_eq_true rfl⟩) ⟨PcW_blind, va_recv hK hP (ci := 14) (q0 := 0) rfl (ix_at (by decide) (cR_0 G ad (setF (setF (setF (setF S 0 26 (0)) 0 25 ((nI (u + 1)))) 0 26 (1)) 0 25 ((nI (u + 1)))))), PcW_of hP hK hD _⟩ rfl rfl hl.1 rfl (lv_room (Nat.le_of_ble_eq_true rfl)) (fk_get fk_cX12_readTest_1 18 rfl) ⟨Nat.zero_le _, Nat.zero_le _⟩) hS (fun q _ h => hFc q h) hFc (fun r_31 S_33 t_ H locs ht_ hvm_ hw_32 hB_ hz_ hk_ hS => ?_)
    obtain ⟨hP, -, hD1_⟩ := hB_
    rw [ht_] at hP
    have hD : va_D A (wR G ad S_33) := hD1_.weaken (fun k q _ h => hFc q.1 h)
    try dsimp only at hw_32
    have hN1 := hw_32
    have hX1 := hN1.1.XL (XL_25 (XL_25 (XL_25 (XL_25 hX 26 (by decide) _) 25 (by decide) _) 26 (by decide) _) 25 (by decide) _)
    refine lv_pop hx hb (fk_get fk_cX12_readTest_1 19 rfl) rfl ?_
    refine lv_aload_n hx hb (fk_get fk_cX12_readTest_1 20 rfl) rfl (lv_at hl 0 rfl) ?_
    have hFc := va_self hD hS hA
    refine va_callv (va_runV (As := []) (rest := []) ⟨hx, hb, hml, hown, hT⟩ (c_factorEnds l G ad S_33 H.size (d) (o) (N) (hX1)) (tV 0 hT m6_90 m6_92 mp_30 m1_17 m6_93 rfl rfl (by decide +kernel) ⟨Nat.le_of_ble_eq_true rfl, Nat.le_of_ble_eq_true rfl⟩) ⟨PcW_blind, va_recv hK hP (ci := 14) (q0 := 0) rfl (ix_at (by decide) (cR_0 G ad S_33)), PcW_of hP hK hD _⟩ rfl rfl hl.1 rfl (lv_room (Nat.le_of_ble_eq_true rfl)) (fk_get fk_cX12_readTest_1 21 rfl) ⟨Nat.zero_le _, Nat.zero_le _⟩) hS (fun q _ h => hFc q h) hFc (fun S_36 t_ H locs ht_ hvm_ hw_35 hB_ hz_ hk_ hS => ?_)
    obtain ⟨hP, -, hD1_⟩ := hB_
    rw [ht_] at hP
    have hD : va_D A (wR G ad S_36) := hD1_.weaken (fun k q _ h => hFc q.1 h)
    try dsimp only at hw_35
    subst hw_35
    subst hQ
    have hpost : RTe z u S (setA (setF S_33 0 29 (nI (o - N (d)))) 13 (upd (fA S_33 13) (d) 0)) ∧ XL (setA (setF S_33 0 29 (nI (o - N (d)))) 13 (upd (fA S_33 13) (d) 0)) d (o - N d) (va_up N d 0) := by
      refine RTe_of hX (((((PFr.rf S).setF (by decide) _).setF (by decide) _).setF (by decide) _).setF (by decide) _) rfl (XL_25 (XL_25 (XL_25 (XL_25 hX 26 (by decide) _) 25 (by decide) _) 26 (by decide) _) 25 (by decide) _) hN1 rfl ?_
      first | exact Or.inl ⟨rfl, Or.inl ⟨fun q => by first | exact absurd q.1 (by assumption) | exact absurd q.2 (by assumption), rfl⟩⟩ | exact Or.inl ⟨rfl, Or.inr ⟨⟨by assumption, hL⟩, hC, rfl⟩⟩ | exact Or.inr ⟨rfl, ⟨by assumption, hL⟩, hC, rfl⟩
    exact W.vret hx hb hr (fun t_ ht_ hW_ => ⟨⟨(setA (setF S_33 0 29 (nI (o - N (d)))) 13 (upd (fA S_33 13) (d) 0)), rfl, hpost, by rw [ht_]; exact hP, va_K.moved hW_.alike hK, hD⟩, hS.F ht_⟩) hS.2.2 (fk_get fk_cX12_readTest_1 22 rfl)
  have hL := isL_f (by assumption) c_15
  refine lv_iconst (v := 1) hx hb (fk_get fk_cX12_readTest_0 8 rfl) (by decide) ?_
  refine lv_goto (tgt := 23) hx hb (fk_get fk_cX12_readTest_0 9 rfl) (by decide) ?_
  refine va_put (D := G.1) (ci := 14) (v := .int (1)) (ty := .boolean) (C := RX12) (T := TX12) (N := 49) hx hb hT inX12 tyX12 tyX12_ok nmX12 hown hK hP hD hS 0 (ix_at (by decide) (cR_0 G ad S)) rfl 26 (by decide) (hT _ m5_127) (fun _ h9 => h9) rfl (by decide +kernel) rfl rfl (Nat.le_of_ble_eq_true rfl) (fk_get fk_cX12_readTest_0 11 rfl) (fun H locs hP hD hS => ?_)
  rw [pR_isBad G ad S (1)] at hP hD
  refine lv_aload_n hx hb (fk_get fk_cX12_readTest_0 12 rfl) rfl (lv_at hl 0 rfl) ?_
  refine lv_dup hx hb (fk_get fk_cX12_readTest_0 13 rfl) rfl ?_
  refine va_get (D := G.1) (ci := 14) (v := .int ((fF S 0 25))) (C := RX12) (T := TX12) (N := 49) hx hb hT inX12 hown hK hP 0 (ix_at (by decide) (cR_0 G ad (setF S 0 26 (1)))) rfl 25 (by decide) (hT _ m5_126) (fun _ h9 => h9) rfl (fk_get fk_cX12_readTest_0 14 rfl) ?_
  refine lv_aload_n hx hb (fk_get fk_cX12_readTest_0 15 rfl) rfl (lv_at hl 0 rfl) ?_
  refine va_get (D := G.1) (ci := 14) (v := .int (1)) (C := RX12) (T := TX12) (N := 49) hx hb hT inX12 hown hK hP 0 (ix_at (by decide) (cR_0 G ad (setF S 0 26 (1)))) rfl 26 (by decide) (hT _ m5_127) (fun _ h9 => h9) rfl (fk_get fk_cX12_readTest_0 16 rfl) ?_
  refine lv_if_eq (tgt := 42) hx hb (fk_get fk_cX12_readTest_0 17 rfl) (by decide) (fun c_37 => absurd c_37 ((by decide))) (fun _ => ?_)
  refine lv_iconst (v := 0) hx hb (fk_get fk_cX12_readTest_0 18 rfl) (by decide) ?_
  refine lv_goto (tgt := 43) hx hb (fk_get fk_cX12_readTest_0 19 rfl) (by decide) ?_
  refine lv_iadd hx hb (fk_get fk_cX12_readTest_0 21 rfl) ?_
  rw [show ((fF S 0 25) + 0) = (nI u) from (by rw [hp]; exact Int32.add_zero _)]
  refine va_put (D := G.1) (ci := 14) (v := .int ((nI u))) (ty := .int) (C := RX12) (T := TX12) (N := 49) hx hb hT inX12 tyX12 tyX12_ok nmX12 hown hK hP hD hS 0 (ix_at (by decide) (cR_0 G ad (setF S 0 26 (1)))) rfl 25 (by decide) (hT _ m5_126) (fun _ h9 => h9) rfl (by decide +kernel) rfl rfl (Nat.le_of_ble_eq_true rfl) (fk_get fk_cX12_readTest_0 22 rfl) (fun H locs hP hD hS => ?_)
  rw [pR_at G ad (setF S 0 26 (1)) ((nI u))] at hP hD
  refine lv_aload_n hx hb (fk_get fk_cX12_readTest_0 23 rfl) rfl (lv_at hl 0 rfl) ?_
  refine lv_aload_n hx hb (fk_get fk_cX12_readTest_0 24 rfl) rfl (lv_at hl 0 rfl) ?_
  refine va_get (D := G.1) (ci := 14) (v := .int (1)) (C := RX12) (T := TX12) (N := 49) hx hb hT inX12 hown hK hP 0 (ix_at (by decide) (cR_0 G ad (setF (setF S 0 26 (1)) 0 25 ((nI u))))) rfl 26 (by decide) (hT _ m5_127) (fun _ h9 => h9) rfl (fk_get fk_cX12_readTest_0 25 rfl) ?_
  refine lv_if_ne (tgt := 72) hx hb (fk_get fk_cX12_readTest_0 26 rfl) (by decide) (fun _ => ?_) (fun c_38 => absurd c_38 ((by decide)))
  refine lv_iconst (v := 1) hx hb (fk_get fk_cX12_readTest_1 2 rfl) (by decide) ?_
  refine lv_goto (tgt := 77) hx hb (fk_get fk_cX12_readTest_1 3 rfl) (by decide) ?_
  refine va_put (D := G.1) (ci := 14) (v := .int (1)) (ty := .boolean) (C := RX12) (T := TX12) (N := 49) hx hb hT inX12 tyX12 tyX12_ok nmX12 hown hK hP hD hS 0 (ix_at (by decide) (cR_0 G ad (setF (setF S 0 26 (1)) 0 25 ((nI u))))) rfl 26 (by decide) (hT _ m5_127) (fun _ h9 => h9) rfl (by decide +kernel) rfl rfl (Nat.le_of_ble_eq_true rfl) (fk_get fk_cX12_readTest_1 5 rfl) (fun H locs hP hD hS => ?_)
  rw [pR_isBad G ad (setF (setF S 0 26 (1)) 0 25 ((nI u))) (1)] at hP hD
  refine lv_aload_n hx hb (fk_get fk_cX12_readTest_1 6 rfl) rfl (lv_at hl 0 rfl) ?_
  refine lv_dup hx hb (fk_get fk_cX12_readTest_1 7 rfl) rfl ?_
  refine va_get (D := G.1) (ci := 14) (v := .int ((nI u))) (C := RX12) (T := TX12) (N := 49) hx hb hT inX12 hown hK hP 0 (ix_at (by decide) (cR_0 G ad (setF (setF (setF S 0 26 (1)) 0 25 ((nI u))) 0 26 (1)))) rfl 25 (by decide) (hT _ m5_126) (fun _ h9 => h9) rfl (fk_get fk_cX12_readTest_1 8 rfl) ?_
  refine lv_aload_n hx hb (fk_get fk_cX12_readTest_1 9 rfl) rfl (lv_at hl 0 rfl) ?_
  refine va_get (D := G.1) (ci := 14) (v := .int (1)) (C := RX12) (T := TX12) (N := 49) hx hb hT inX12 hown hK hP 0 (ix_at (by decide) (cR_0 G ad (setF (setF (setF S 0 26 (1)) 0 25 ((nI u))) 0 26 (1)))) rfl 26 (by decide) (hT _ m5_127) (fun _ h9 => h9) rfl (fk_get fk_cX12_readTest_1 10 rfl) ?_
  refine lv_if_eq (tgt := 96) hx hb (fk_get fk_cX12_readTest_1 11 rfl) (by decide) (fun c_39 => absurd c_39 ((by decide))) (fun _ => ?_)
  refine lv_iconst (v := 0) hx hb (fk_get fk_cX12_readTest_1 12 rfl) (by decide) ?_
  refine lv_goto (tgt := 97) hx hb (fk_get fk_cX12_readTest_1 13 rfl) (by decide) ?_
  refine lv_iadd hx hb (fk_get fk_cX12_readTest_1 15 rfl) ?_
  rw [show ((nI u) + 0) = (nI (u)) from (Int32.add_zero _)]
  refine va_put (D := G.1) (ci := 14) (v := .int ((nI (u)))) (ty := .int) (C := RX12) (T := TX12) (N := 49) hx hb hT inX12 tyX12 tyX12_ok nmX12 hown hK hP hD hS 0 (ix_at (by decide) (cR_0 G ad (setF (setF (setF S 0 26 (1)) 0 25 ((nI u))) 0 26 (1)))) rfl 25 (by decide) (hT _ m5_126) (fun _ h9 => h9) rfl (by decide +kernel) rfl rfl (Nat.le_of_ble_eq_true rfl) (fk_get fk_cX12_readTest_1 16 rfl) (fun H locs hP hD hS => ?_)
  rw [pR_at G ad (setF (setF (setF S 0 26 (1)) 0 25 ((nI u))) 0 26 (1)) ((nI (u)))] at hP hD
  refine lv_aload_n hx hb (fk_get fk_cX12_readTest_1 17 rfl) rfl (lv_at hl 0 rfl) ?_
  have hFc := va_self hD hS hA
  refine va_calli (va_runV (As := []) (rest := []) ⟨hx, hb, hml, hown, hT⟩ (c_readNumber l G ad (setF (setF (setF (setF S 0 26 (1)) 0 25 ((nI u))) 0 26 (1)) 0 25 ((nI (u)))) H.size (z) (u) (hz) (hz1) (rfl) (by omega)) (tV 0 hT m6_63 m6_65 mp_25 m1_17 m6_66 rfl rfl (by decide +kernel) ⟨Nat.le_of_ble_eq_true rfl, Nat.le_of_ble_eq_true rfl⟩) ⟨PcW_blind, va_recv hK hP (ci := 14) (q0 := 0) rfl (ix_at (by decide) (cR_0 G ad (setF (setF (setF (setF S 0 26 (1)) 0 25 ((nI u))) 0 26 (1)) 0 25 ((nI (u)))))), PcW_of hP hK hD _⟩ rfl rfl hl.1 rfl (lv_room (Nat.le_of_ble_eq_true rfl)) (fk_get fk_cX12_readTest_1 18 rfl) ⟨Nat.zero_le _, Nat.zero_le _⟩) hS (fun q _ h => hFc q h) hFc (fun r_40 S_42 t_ H locs ht_ hvm_ hw_41 hB_ hz_ hk_ hS => ?_)
  obtain ⟨hP, -, hD1_⟩ := hB_
  rw [ht_] at hP
  have hD : va_D A (wR G ad S_42) := hD1_.weaken (fun k q _ h => hFc q.1 h)
  try dsimp only at hw_41
  have hN1 := hw_41
  have hX1 := hN1.1.XL (XL_25 (XL_25 (XL_25 (XL_25 hX 26 (by decide) _) 25 (by decide) _) 26 (by decide) _) 25 (by decide) _)
  refine lv_pop hx hb (fk_get fk_cX12_readTest_1 19 rfl) rfl ?_
  refine lv_aload_n hx hb (fk_get fk_cX12_readTest_1 20 rfl) rfl (lv_at hl 0 rfl) ?_
  have hFc := va_self hD hS hA
  refine va_callv (va_runV (As := []) (rest := []) ⟨hx, hb, hml, hown, hT⟩ (c_factorEnds l G ad S_42 H.size (d) (o) (N) (hX1)) (tV 0 hT m6_90 m6_92 mp_30 m1_17 m6_93 rfl rfl (by decide +kernel) ⟨Nat.le_of_ble_eq_true rfl, Nat.le_of_ble_eq_true rfl⟩) ⟨PcW_blind, va_recv hK hP (ci := 14) (q0 := 0) rfl (ix_at (by decide) (cR_0 G ad S_42)), PcW_of hP hK hD _⟩ rfl rfl hl.1 rfl (lv_room (Nat.le_of_ble_eq_true rfl)) (fk_get fk_cX12_readTest_1 21 rfl) ⟨Nat.zero_le _, Nat.zero_le _⟩) hS (fun q _ h => hFc q h) hFc (fun S_45 t_ H locs ht_ hvm_ hw_44 hB_ hz_ hk_ hS => ?_)
  obtain ⟨hP, -, hD1_⟩ := hB_
  rw [ht_] at hP
  have hD : va_D A (wR G ad S_45) := hD1_.weaken (fun k q _ h => hFc q.1 h)
  try dsimp only at hw_44
  subst hw_44
  subst hQ
  have hpost : RTe z u S (setA (setF S_42 0 29 (nI (o - N (d)))) 13 (upd (fA S_42 13) (d) 0)) ∧ XL (setA (setF S_42 0 29 (nI (o - N (d)))) 13 (upd (fA S_42 13) (d) 0)) d (o - N d) (va_up N d 0) := by
    refine RTe_of hX (((((PFr.rf S).setF (by decide) _).setF (by decide) _).setF (by decide) _).setF (by decide) _) rfl (XL_25 (XL_25 (XL_25 (XL_25 hX 26 (by decide) _) 25 (by decide) _) 26 (by decide) _) 25 (by decide) _) hN1 rfl ?_
    first | exact Or.inl ⟨rfl, Or.inl ⟨fun q => by first | exact absurd q.1 (by assumption) | exact absurd q.2 (by assumption), rfl⟩⟩ | exact Or.inl ⟨rfl, Or.inr ⟨⟨by assumption, hL⟩, hC, rfl⟩⟩ | exact Or.inr ⟨rfl, ⟨by assumption, hL⟩, hC, rfl⟩
  exact W.vret hx hb hr (fun t_ ht_ hW_ => ⟨⟨(setA (setF S_42 0 29 (nI (o - N (d)))) 13 (upd (fA S_42 13) (d) 0)), rfl, hpost, by rw [ht_]; exact hP, va_K.moved hW_.alike hK, hD⟩, hS.F ht_⟩) hS.2.2 (fk_get fk_cX12_readTest_1 22 rfl)
