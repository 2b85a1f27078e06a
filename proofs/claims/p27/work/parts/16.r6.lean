set_option maxHeartbeats 800000 in
set_option maxRecDepth 100000 in
theorem c_readNumber (l : Launch) (G : GG) (ad : Nat → Nat) (S : FS) (sz : Nat) (z u : Nat) (hz : fF S 0 17 = nI z) (hz1 : z ≤ 100) (hp : fF S 0 25 = nI u) (hp1 : u ≤ 200) : Met l yX12_readNumber (Cond.code yX12_readNumber cX12_readNumber 2 (some .int) :: TBL) ({ frames := 4, cells := 0, slots := 0, locals := 117 } : Room) (PcW G (wR G ad S) sz [.ref (ad 0)]) (va_Qi (fun (r : Int32) (S' : FS) => RNP z u S r S') (fun S' t => BW G (va_A (wR G ad S) sz) (wR G ad S') t) (va_A (wR G ad S) sz)) 0 0 (va_A (wR G ad S) sz) := by
  refine Met.ofW (cc := cX12_readNumber) (maxL := 2) (ret := (some .int)) (by decide) rfl ?_
  intro p e s m args below meth c₀ s₁ B hml hv
  obtain ⟨rfl, hsz, hP, hK, hD0⟩ := hv
  have hx := B.exec
  have hb := B.bytes
  have hr := B.returns
  have hT : ∀ w ∈ TBL, w.before ([.ref (ad 0)] : List Value).toArray s = true := fun w h => atoms_spec (ws := Cond.code yX12_readNumber cX12_readNumber 2 (some .int) :: TBL) B.pre w (List.mem_cons_of_mem _ h)
  have hown : s.vm.findClass "LittleMoreModel" = some m.cls := findClass_of_methodNamed B.named
  have hlocks := B.notSynchronized
  subst hsz
  have hD := hD0.self (sz := s.heap.size)
  generalize hAe : va_A (wR G ad S) s.heap.size = A at hD ⊢
  have hA : ∀ q : Nat, s.heap.size ≤ q → A q := fun q h => by rw [← hAe]; exact Or.inr h
  have hS : va_S A s.heap s.heap [] := va_S.rf
  have hP : va_P G.1 vwCl (wR G ad S) s.heap := hP
  have hl := lv_entry ([.ref (ad 0)]) (n := 2) (Nat.le_of_ble_eq_true rfl)
  rw [lg_entry_eq]
  generalize (lg_sl ([.ref (ad 0)]) ++ List.replicate (2 - (lg_sl ([.ref (ad 0)])).length) Slot.unset).toArray = ls at hl ⊢
  have hl : lv_has ls 2 [(0, .ref (ad 0))] := hl
  refine W_abs (fun Q hQ => ?_)
  generalize ([.ref (ad 0)] : List Value).toArray = args at hT hQ ⊢
  refine lv_aload_n hx hb (fk_get fk_cX12_readNumber_0 0 rfl) rfl (lv_at hl 0 rfl) ?_
  have hFc := va_self hD hS hA
  refine va_calli (va_runV (As := []) (rest := []) ⟨hx, hb, hml, hown, hT⟩ (c_readDigit l G ad S s.heap.size (z) (u) (hz) (hz1) (hp) (hp1)) (tV 0 hT m6_67 m6_69 mp_26 m1_17 m6_70 rfl rfl (by decide +kernel) ⟨Nat.le_of_ble_eq_true rfl, Nat.le_of_ble_eq_true rfl⟩) ⟨PcW_blind, va_recv hK hP (ci := 14) (q0 := 0) rfl (ix_at (by decide) (cR_0 G ad S)), PcW_of hP hK hD _⟩ rfl rfl hl.1 rfl (lv_room (Nat.le_of_ble_eq_true rfl)) (fk_get fk_cX12_readNumber_0 1 rfl) ⟨Nat.zero_le _, Nat.zero_le _⟩) hS (fun q _ h => hFc q h) hFc (fun r_1 S_3 t_ H locs ht_ hvm_ hw_2 hB_ hz_ hk_ hS => ?_)
  obtain ⟨hP, -, hD1_⟩ := hB_
  rw [ht_] at hP
  have hD : va_D A (wR G ad S_3) := hD1_.weaken (fun k q _ h => hFc q.1 h)
  try dsimp only at hw_2
  have hD1 := hw_2
  have hQ1 := hD1.1
  have hz2 := hQ1.f17 hz
  refine lv_istore_n (lv' := [(1, .int (r_1)), (0, .ref (ad 0))]) hx hb (fk_get fk_cX12_readNumber_0 2 rfl) rfl hl (by decide) rfl (fun ls hl => ?_)
  refine lv_aload_n hx hb (fk_get fk_cX12_readNumber_0 3 rfl) rfl (lv_at hl 1 rfl) ?_
  refine va_get (D := G.1) (ci := 14) (v := .int ((fF S_3 0 26))) (C := RX12) (T := TX12) (N := 49) hx hb hT inX12 hown hK hP 0 (ix_at (by decide) (cR_0 G ad S_3)) rfl 26 (by decide) (hT _ m5_127) (fun _ h9 => h9) rfl (fk_get fk_cX12_readNumber_0 4 rfl) ?_
  refine lv_if_ne (tgt := 41) hx hb (fk_get fk_cX12_readNumber_0 5 rfl) (by decide) (fun c_4 => ?_) (fun c_4 => ?_)
  · obtain ⟨hn0, hq1, hb1, er1⟩ := RD_bad hD1 c_4
    refine lv_iload_n hx hb (fk_get fk_cX12_readNumber_0 20 rfl) rfl (lv_at hl 0 rfl) ?_
    subst hQ
    have hpost : RNP z u S (r_1 : Int32) S_3 := by
      first | exact ⟨hQ1, Or.inl ⟨hn0, hb1, hq1, er1⟩⟩ | exact ⟨hQ1, Or.inr (Or.inl ⟨⟨hb0, hd0⟩, hd1, by assumption, hq1, er1⟩)⟩ | exact ⟨hQ1.trans hD2.1, Or.inr (Or.inr ⟨⟨hb0, hd0⟩, hd1, hb2, hq2, by rw [er1, er2]⟩)⟩
    exact W.iret (v := r_1) hx hb hr (fun t_ ht_ hW_ => ⟨⟨r_1, S_3, rfl, hpost, by rw [ht_]; exact hP, va_K.moved hW_.alike hK, hD⟩, hS.F ht_⟩) hS.2.2 (fk_get fk_cX12_readNumber_0 21 rfl)
  obtain ⟨hb0, hd0, hq1, er1⟩ := RD_ok hD1 c_4
  have hu0 := (hrS_dig hd0).1
  refine lv_aload_n hx hb (fk_get fk_cX12_readNumber_0 6 rfl) rfl (lv_at hl 1 rfl) ?_
  refine vp_callSi (W.runV (As := []) (rest := []) ⟨hx, hb, hml, hown, hT⟩ (c_here l G ad S_3 H.size (z) (u + 1) (hz2) (hz1) (hq1) (by omega)) (tV 0 hT m6_46 m6_48 mp_22 m1_17 m6_49 rfl rfl (by decide +kernel) ⟨Nat.le_of_ble_eq_true rfl, Nat.le_of_ble_eq_true rfl⟩) ⟨PcW_blind, va_recv hK hP (ci := 14) (q0 := 0) rfl (ix_at (by decide) (cR_0 G ad S_3)), PcW_of hP hK hD _⟩ rfl rfl hl.1 rfl (lv_room (Nat.le_of_ble_eq_true rfl)) (fk_get fk_cX12_readNumber_0 7 rfl) ⟨Nat.zero_le _, Nat.zero_le _⟩) (fun r_5 hw_6 => ?_)
  try dsimp only at hw_6
  rw [hQ1.a6] at hw_6
  subst hw_6
  refine lv_i2l hx hb (fk_get fk_cX12_readNumber_0 8 rfl) rfl ?_
  refine lv_ldc2 (v := 48) hx hb hown (hT _ m6_71) (fk_get fk_cX12_readNumber_0 9 rfl) ?_
  refine lv_ldc2 (v := 57) hx hb hown (hT _ m6_72) (fk_get fk_cX12_readNumber_0 10 rfl) ?_
  refine vp_callSi (W.runS (As := [.long (((hrS (fA S 6) z (u + 1))).toInt64), .long (48), .long (57)]) (rest := []) ⟨hx, hb, hml, hown, hT⟩ (c_in l (((hrS (fA S 6) z (u + 1))).toInt64) (48) (57) ) (tS 3 hT m6_31 m6_32 m1_17 m6_33 rfl rfl (by decide +kernel) ⟨Nat.le_of_ble_eq_true rfl, Nat.le_of_ble_eq_true rfl⟩) ⟨PcN_blind, PcN_of _ _ _⟩ rfl rfl hl.1 rfl (lv_room (Nat.le_of_ble_eq_true rfl)) (fk_get fk_cX12_readNumber_0 11 rfl) ⟨Nat.zero_le _, Nat.zero_le _⟩) (fun r_7 hw_8 => ?_)
  try dsimp only at hw_8
  have hw_8 := in_eq hw_8 ((hrS (fA S 6) z (u + 1))) 48 57 (rfl) (by decide) (by decide)
  refine lv_if_eq (tgt := 41) hx hb (fk_get fk_cX12_readNumber_0 12 rfl) (by decide) (fun c_9 => ?_) (fun c_9 => ?_)
  · have p_c_9 := if1_f hw_8 c_9
    have hd1 : ¬ dgS (fA S 6) z (u + 1) := p_c_9
    refine lv_iload_n hx hb (fk_get fk_cX12_readNumber_0 20 rfl) rfl (lv_at hl 0 rfl) ?_
    subst hQ
    have hpost : RNP z u S (r_1 : Int32) S_3 := by
      first | exact ⟨hQ1, Or.inl ⟨hn0, hb1, hq1, er1⟩⟩ | exact ⟨hQ1, Or.inr (Or.inl ⟨⟨hb0, hd0⟩, hd1, by assumption, hq1, er1⟩)⟩ | exact ⟨hQ1.trans hD2.1, Or.inr (Or.inr ⟨⟨hb0, hd0⟩, hd1, hb2, hq2, by rw [er1, er2]⟩)⟩
    exact W.iret (v := r_1) hx hb hr (fun t_ ht_ hW_ => ⟨⟨r_1, S_3, rfl, hpost, by rw [ht_]; exact hP, va_K.moved hW_.alike hK, hD⟩, hS.F ht_⟩) hS.2.2 (fk_get fk_cX12_readNumber_0 21 rfl)
  have p_c_9 := if1_t hw_8 c_9
  have hd1 : dgS (fA S 6) z (u + 1) := p_c_9
  refine lv_bipush (v := 10) hx hb (fk_get fk_cX12_readNumber_0 13 rfl) (by decide) ?_
  refine lv_iload_n hx hb (fk_get fk_cX12_readNumber_0 14 rfl) rfl (lv_at hl 0 rfl) ?_
  refine lv_imul hx hb (fk_get fk_cX12_readNumber_0 15 rfl) ?_
  refine lv_aload_n hx hb (fk_get fk_cX12_readNumber_0 16 rfl) rfl (lv_at hl 1 rfl) ?_
  have hFc := va_self hD hS hA
  refine va_calli (va_runV (As := []) (rest := [.int ((10 * r_1))]) ⟨hx, hb, hml, hown, hT⟩ (c_readDigit l G ad S_3 H.size (z) (u + 1) (hz2) (hz1) (hq1) (by omega)) (tV 0 hT m6_67 m6_69 mp_26 m1_17 m6_70 rfl rfl (by decide +kernel) ⟨Nat.le_of_ble_eq_true rfl, Nat.le_of_ble_eq_true rfl⟩) ⟨PcW_blind, va_recv hK hP (ci := 14) (q0 := 0) rfl (ix_at (by decide) (cR_0 G ad S_3)), PcW_of hP hK hD _⟩ rfl rfl hl.1 rfl (lv_room (Nat.le_of_ble_eq_true rfl)) (fk_get fk_cX12_readNumber_0 17 rfl) ⟨Nat.zero_le _, Nat.zero_le _⟩) hS (fun q _ h => hFc q h) hFc (fun r_10 S_12 t_ H locs ht_ hvm_ hw_11 hB_ hz_ hk_ hS => ?_)
  obtain ⟨hP, -, hD1_⟩ := hB_
  rw [ht_] at hP
  have hD : va_D A (wR G ad S_12) := hD1_.weaken (fun k q _ h => hFc q.1 h)
  try dsimp only at hw_11
  have hD2 := hw_11
  obtain ⟨hq2, hb2, er2⟩ := RD_yes hD2 (by assumption) (by rw [hQ1.a6]; assumption)
  rw [hQ1.a6] at er2
  refine lv_iadd hx hb (fk_get fk_cX12_readNumber_0 18 rfl) ?_
  refine lv_goto (tgt := 42) hx hb (fk_get fk_cX12_readNumber_0 19 rfl) (by decide) ?_
  subst hQ
  have hpost : RNP z u S (((10 * r_1) + r_10) : Int32) S_12 := by
    first | exact ⟨hQ1, Or.inl ⟨hn0, hb1, hq1, er1⟩⟩ | exact ⟨hQ1, Or.inr (Or.inl ⟨⟨hb0, hd0⟩, hd1, by assumption, hq1, er1⟩)⟩ | exact ⟨hQ1.trans hD2.1, Or.inr (Or.inr ⟨⟨hb0, hd0⟩, hd1, hb2, hq2, by rw [er1, er2]⟩)⟩
  exact W.iret (v := ((10 * r_1) + r_10)) hx hb hr (fun t_ ht_ hW_ => ⟨⟨((10 * r_1) + r_10), S_12, rfl, hpost, by rw [ht_]; exact hP, va_K.moved hW_.alike hK, hD⟩, hS.F ht_⟩) hS.2.2 (fk_get fk_cX12_readNumber_0 21 rfl)
set_option maxHeartbeats 800000 in
set_option maxRecDepth 100000 in
theorem c_factorEnds (l : Launch) (G : GG) (ad : Nat → Nat) (S : FS) (sz : Nat) (d o : Nat) (N : Nat → Nat) (hX : XL S d o N) : Met l yX12_factorEnds (Cond.code yX12_factorEnds cX12_factorEnds 1 none :: TBL) ({ frames := 2, cells := 0, slots := 0, locals := 64 } : Room) (PcW G (wR G ad S) sz [.ref (ad 0)]) (va_Qv (fun (S' : FS) => S' = setA (setF S 0 29 (nI (o - N d))) 13 (upd (fA S 13) d 0)) (fun S' t => BW G (va_A (wR G ad S) sz) (wR G ad S') t) (va_A (wR G ad S) sz)) 0 0 (va_A (wR G ad S) sz) := by
  refine Met.ofW (cc := cX12_factorEnds) (maxL := 1) (ret := none) (by decide) rfl ?_
  intro p e s m args below meth c₀ s₁ B hml hv
  obtain ⟨rfl, hsz, hP, hK, hD0⟩ := hv
  have hx := B.exec
  have hb := B.bytes
  have hr := B.returns
  have hT : ∀ w ∈ TBL, w.before ([.ref (ad 0)] : List Value).toArray s = true := fun w h => atoms_spec (ws := Cond.code yX12_factorEnds cX12_factorEnds 1 none :: TBL) B.pre w (List.mem_cons_of_mem _ h)
  have hown : s.vm.findClass "LittleMoreModel" = some m.cls := findClass_of_methodNamed B.named
  have hlocks := B.notSynchronized
  subst hsz
  have hD := hD0.self (sz := s.heap.size)
  generalize hAe : va_A (wR G ad S) s.heap.size = A at hD ⊢
  have hA : ∀ q : Nat, s.heap.size ≤ q → A q := fun q h => by rw [← hAe]; exact Or.inr h
  have hS : va_S A s.heap s.heap [] := va_S.rf
  have hP : va_P G.1 vwCl (wR G ad S) s.heap := hP
  have hl := lv_entry ([.ref (ad 0)]) (n := 1) (Nat.le_of_ble_eq_true rfl)
  rw [lg_entry_eq]
  generalize (lg_sl ([.ref (ad 0)]) ++ List.replicate (1 - (lg_sl ([.ref (ad 0)])).length) Slot.unset).toArray = ls at hl ⊢
  have hl : lv_has ls 1 [(0, .ref (ad 0))] := hl
  refine W_abs (fun Q hQ => ?_)
  generalize ([.ref (ad 0)] : List Value).toArray = args at hT hQ ⊢
  refine lv_aload_n hx hb (fk_get fk_cX12_factorEnds_0 0 rfl) rfl (lv_at hl 0 rfl) ?_
  refine lv_dup hx hb (fk_get fk_cX12_factorEnds_0 1 rfl) rfl ?_
  refine va_get (D := G.1) (ci := 14) (v := .int ((fF S 0 29))) (C := RX12) (T := TX12) (N := 49) hx hb hT inX12 hown hK hP 0 (ix_at (by decide) (cR_0 G ad S)) rfl 29 (by decide) (hT _ m5_130) (fun _ h9 => h9) rfl (fk_get fk_cX12_factorEnds_0 2 rfl) ?_
  refine lv_aload_n hx hb (fk_get fk_cX12_factorEnds_0 3 rfl) rfl (lv_at hl 0 rfl) ?_
  refine va_get (D := G.1) (ci := 14) (v := .ref (ad 13)) (C := RX12) (T := TX12) (N := 49) hx hb hT inX12 hown hK hP 0 (ix_at (by decide) (cR_0 G ad S)) rfl 27 (by decide) (hT _ m5_128) (fun _ h9 => h9) rfl (fk_get fk_cX12_factorEnds_0 4 rfl) ?_
  refine lv_aload_n hx hb (fk_get fk_cX12_factorEnds_0 5 rfl) rfl (lv_at hl 0 rfl) ?_
  refine va_get (D := G.1) (ci := 14) (v := .int ((fF S 0 28))) (C := RX12) (T := TX12) (N := 49) hx hb hT inX12 hown hK hP 0 (ix_at (by decide) (cR_0 G ad S)) rfl 28 (by decide) (hT _ m5_129) (fun _ h9 => h9) rfl (fk_get fk_cX12_factorEnds_0 6 rfl) ?_
  refine r_iald (f := fA S 13) hx hb hK hP 13 0 (ix_at (by decide) (cR_nots G ad S)) rfl (d) (hX.1) ((by have := XL_le hX; omega)) (by decide) (fk_get fk_cX12_factorEnds_0 7 rfl) ?_
  refine lv_isub hx hb (fk_get fk_cX12_factorEnds_0 8 rfl) ?_
  rw [show ((fF S 0 29) - (fA S 13 (d))) = (nI (o - N d)) from (by rw [hX.2.1, hX.2.2.1 d (Nat.le_refl d)]; exact pk_sub (XL_le hX).1)]
  refine va_put (D := G.1) (ci := 14) (v := .int ((nI (o - N d)))) (ty := .int) (C := RX12) (T := TX12) (N := 49) hx hb hT inX12 tyX12 tyX12_ok nmX12 hown hK hP hD hS 0 (ix_at (by decide) (cR_0 G ad S)) rfl 29 (by decide) (hT _ m5_130) (fun _ h9 => h9) rfl (by decide +kernel) rfl rfl (Nat.le_of_ble_eq_true rfl) (fk_get fk_cX12_factorEnds_0 9 rfl) (fun H locs hP hD hS => ?_)
  rw [pR_opened G ad S ((nI (o - N d)))] at hP hD
  refine lv_aload_n hx hb (fk_get fk_cX12_factorEnds_0 10 rfl) rfl (lv_at hl 0 rfl) ?_
  refine va_get (D := G.1) (ci := 14) (v := .ref (ad 13)) (C := RX12) (T := TX12) (N := 49) hx hb hT inX12 hown hK hP 0 (ix_at (by decide) (cR_0 G ad (setF S 0 29 ((nI (o - N d)))))) rfl 27 (by decide) (hT _ m5_128) (fun _ h9 => h9) rfl (fk_get fk_cX12_factorEnds_0 11 rfl) ?_
  refine lv_aload_n hx hb (fk_get fk_cX12_factorEnds_0 12 rfl) rfl (lv_at hl 0 rfl) ?_
  refine va_get (D := G.1) (ci := 14) (v := .int ((fF S 0 28))) (C := RX12) (T := TX12) (N := 49) hx hb hT inX12 hown hK hP 0 (ix_at (by decide) (cR_0 G ad (setF S 0 29 ((nI (o - N d)))))) rfl 28 (by decide) (hT _ m5_129) (fun _ h9 => h9) rfl (fk_get fk_cX12_factorEnds_0 13 rfl) ?_
  refine lv_iconst (v := 0) hx hb (fk_get fk_cX12_factorEnds_0 14 rfl) (by decide) ?_
  refine r_iast hx hb hK hP hD hS 13 0 (ix_at (by decide) (cR_nots G ad (setF S 0 29 ((nI (o - N d)))))) rfl (d) (hX.1) ((by have := XL_le hX; omega)) (by decide) (fk_get fk_cX12_factorEnds_0 15 rfl) (fun H locs hP hD hS => ?_)
  rw [pR_A G ad (setF S 0 29 ((nI (o - N d)))) (by decide) (by decide) (by decide) (cR_nots G ad (setF S 0 29 ((nI (o - N d))))) (upd (fA (setF S 0 29 ((nI (o - N d)))) 13) (d) (0))] at hP hD
  subst hQ
  have hpost : (setA (setF S 0 29 ((nI (o - N d)))) 13 (upd (fA (setF S 0 29 ((nI (o - N d)))) 13) (d) (0))) = setA (setF S 0 29 (nI (o - N d))) 13 (upd (fA S 13) d 0) := by
    rfl
  exact W.vret hx hb hr (fun t_ ht_ hW_ => ⟨⟨(setA (setF S 0 29 ((nI (o - N d)))) 13 (upd (fA (setF S 0 29 ((nI (o - N d)))) 13) (d) (0))), rfl, hpost, by rw [ht_]; exact hP, va_K.moved hW_.alike hK, hD⟩, hS.F ht_⟩) hS.2.2 (fk_get fk_cX12_factorEnds_0 16 rfl)
set_option maxHeartbeats 800000 in
set_option maxRecDepth 100000 in
theorem c_readOpening (l : Launch) (G : GG) (ad : Nat → Nat) (S : FS) (sz : Nat) (z u d o : Nat) (N : Nat → Nat) (c : Int32) (hX : XL S d o N) (hp : fF S 0 25 = nI u) : Met l yX12_readOpening (Cond.code yX12_readOpening cX12_readOpening 2 none :: TBL) ({ frames := 2, cells := 0, slots := 0, locals := 64 } : Room) (PcW G (wR G ad S) sz [.ref (ad 0), .int (c)]) (va_Qv (fun (S' : FS) => ROp u d o N c S S') (fun S' t => BW G (va_A (wR G ad S) sz) (wR G ad S') t) (va_A (wR G ad S) sz)) 0 0 (va_A (wR G ad S) sz) := by
  refine Met.ofW (cc := cX12_readOpening) (maxL := 2) (ret := none) (by decide) rfl ?_
  intro p e s m args below meth c₀ s₁ B hml hv
  obtain ⟨rfl, hsz, hP, hK, hD0⟩ := hv
  have hx := B.exec
  have hb := B.bytes
  have hr := B.returns
  have hT : ∀ w ∈ TBL, w.before ([.ref (ad 0), .int (c)] : List Value).toArray s = true := fun w h => atoms_spec (ws := Cond.code yX12_readOpening cX12_readOpening 2 none :: TBL) B.pre w (List.mem_cons_of_mem _ h)
  have hown : s.vm.findClass "LittleMoreModel" = some m.cls := findClass_of_methodNamed B.named
  have hlocks := B.notSynchronized
  subst hsz
  have hD := hD0.self (sz := s.heap.size)
  generalize hAe : va_A (wR G ad S) s.heap.size = A at hD ⊢
  have hA : ∀ q : Nat, s.heap.size ≤ q → A q := fun q h => by rw [← hAe]; exact Or.inr h
  have hS : va_S A s.heap s.heap [] := va_S.rf
  have hP : va_P G.1 vwCl (wR G ad S) s.heap := hP
  have hl := lv_entry ([.ref (ad 0), .int (c)]) (n := 2) (Nat.le_of_ble_eq_true rfl)
  rw [lg_entry_eq]
  generalize (lg_sl ([.ref (ad 0), .int (c)]) ++ List.replicate (2 - (lg_sl ([.ref (ad 0), .int (c)])).length) Slot.unset).toArray = ls at hl ⊢
  have hl : lv_has ls 2 [(0, .ref (ad 0)), (1, .int (c))] := hl
  refine W_abs (fun Q hQ => ?_)
  generalize ([.ref (ad 0), .int (c)] : List Value).toArray = args at hT hQ ⊢
  refine lv_aload_n hx hb (fk_get fk_cX12_readOpening_0 0 rfl) rfl (lv_at hl 0 rfl) ?_
  refine lv_aload_n hx hb (fk_get fk_cX12_readOpening_0 1 rfl) rfl (lv_at hl 0 rfl) ?_
  refine va_get (D := G.1) (ci := 14) (v := .int ((fF S 0 29))) (C := RX12) (T := TX12) (N := 49) hx hb hT inX12 hown hK hP 0 (ix_at (by decide) (cR_0 G ad S)) rfl 29 (by decide) (hT _ m5_130) (fun _ h9 => h9) rfl (fk_get fk_cX12_readOpening_0 2 rfl) ?_
  refine lv_iconst (v := 4) hx hb (fk_get fk_cX12_readOpening_0 3 rfl) (by decide) ?_
  refine lv_icmp_ne (tgt := 13) hx hb (fk_get fk_cX12_readOpening_0 4 rfl) (by decide) (fun c_1 => ?_) (fun c_1 => ?_)
  · have ho4 : o < 4 := by
      have h1 := XL_le hX
      have h2 : o ≠ 4 := nI_ne (by rw [← hX.2.1]; exact c_1)
      omega
    refine lv_iconst (v := 0) hx hb (fk_get fk_cX12_readOpening_0 7 rfl) (by decide) ?_
    refine va_put (D := G.1) (ci := 14) (v := .int (0)) (ty := .boolean) (C := RX12) (T := TX12) (N := 49) hx hb hT inX12 tyX12 tyX12_ok nmX12 hown hK hP hD hS 0 (ix_at (by decide) (cR_0 G ad S)) rfl 26 (by decide) (hT _ m5_127) (fun _ h9 => h9) rfl (by decide +kernel) rfl rfl (Nat.le_of_ble_eq_true rfl) (fk_get fk_cX12_readOpening_0 8 rfl) (fun H locs hP hD hS => ?_)
    rw [pR_isBad G ad S (0)] at hP hD
    refine lv_aload_n hx hb (fk_get fk_cX12_readOpening_0 9 rfl) rfl (lv_at hl 0 rfl) ?_
    refine va_get (D := G.1) (ci := 14) (v := .int (0)) (C := RX12) (T := TX12) (N := 49) hx hb hT inX12 hown hK hP 0 (ix_at (by decide) (cR_0 G ad (setF S 0 26 (0)))) rfl 26 (by decide) (hT _ m5_127) (fun _ h9 => h9) rfl (fk_get fk_cX12_readOpening_0 10 rfl) ?_
    refine lv_if_ne (tgt := 86) hx hb (fk_get fk_cX12_readOpening_0 11 rfl) (by decide) (fun c_2 => absurd ((by decide)) c_2) (fun _ => ?_)
    refine lv_aload_n hx hb (fk_get fk_cX12_readOpening_0 12 rfl) rfl (lv_at hl 0 rfl) ?_
    refine lv_dup hx hb (fk_get fk_cX12_readOpening_0 13 rfl) rfl ?_
    refine va_get (D := G.1) (ci := 14) (v := .int ((fF S 0 29))) (C := RX12) (T := TX12) (N := 49) hx hb hT inX12 hown hK hP 0 (ix_at (by decide) (cR_0 G ad (setF S 0 26 (0)))) rfl 29 (by decide) (hT _ m5_130) (fun _ h9 => h9) rfl (fk_get fk_cX12_readOpening_0 14 rfl) ?_
    refine lv_iconst (v := 1) hx hb (fk_get fk_cX12_readOpening_0 15 rfl) (by decide) ?_
    refine lv_iadd hx hb (fk_get fk_cX12_readOpening_0 16 rfl) ?_
    rw [show ((fF S 0 29) + 1) = (nI (o + 1)) from (by rw [hX.2.1]; exact nI_1 o)]
    refine va_put (D := G.1) (ci := 14) (v := .int ((nI (o + 1)))) (ty := .int) (C := RX12) (T := TX12) (N := 49) hx hb hT inX12 tyX12 tyX12_ok nmX12 hown hK hP hD hS 0 (ix_at (by decide) (cR_0 G ad (setF S 0 26 (0)))) rfl 29 (by decide) (hT _ m5_130) (fun _ h9 => h9) rfl (by decide +kernel) rfl rfl (Nat.le_of_ble_eq_true rfl) (fk_get fk_cX12_readOpening_0 17 rfl) (fun H locs hP hD hS => ?_)
    rw [pR_opened G ad (setF S 0 26 (0)) ((nI (o + 1)))] at hP hD
    refine lv_aload_n hx hb (fk_get fk_cX12_readOpening_0 18 rfl) rfl (lv_at hl 0 rfl) ?_
    refine lv_dup hx hb (fk_get fk_cX12_readOpening_0 19 rfl) rfl ?_
    refine va_get (D := G.1) (ci := 14) (v := .int ((fF S 0 25))) (C := RX12) (T := TX12) (N := 49) hx hb hT inX12 hown hK hP 0 (ix_at (by decide) (cR_0 G ad (setF (setF S 0 26 (0)) 0 29 ((nI (o + 1)))))) rfl 25 (by decide) (hT _ m5_126) (fun _ h9 => h9) rfl (fk_get fk_cX12_readOpening_0 20 rfl) ?_
    refine lv_iconst (v := 1) hx hb (fk_get fk_cX12_readOpening_0 21 rfl) (by decide) ?_
    refine lv_iadd hx hb (fk_get fk_cX12_readOpening_0 22 rfl) ?_
    rw [show ((fF S 0 25) + 1) = (nI (u + 1)) from (by rw [hp]; exact nI_1 u)]
    refine va_put (D := G.1) (ci := 14) (v := .int ((nI (u + 1)))) (ty := .int) (C := RX12) (T := TX12) (N := 49) hx hb hT inX12 tyX12 tyX12_ok nmX12 hown hK hP hD hS 0 (ix_at (by decide) (cR_0 G ad (setF (setF S 0 26 (0)) 0 29 ((nI (o + 1)))))) rfl 25 (by decide) (hT _ m5_126) (fun _ h9 => h9) rfl (by decide +kernel) rfl rfl (Nat.le_of_ble_eq_true rfl) (fk_get fk_cX12_readOpening_0 23 rfl) (fun H locs hP hD hS => ?_)
    rw [pR_at G ad (setF (setF S 0 26 (0)) 0 29 ((nI (o + 1)))) ((nI (u + 1)))] at hP hD
    refine lv_iload_n hx hb (fk_get fk_cX12_readOpening_0 24 rfl) rfl (lv_at hl 1 rfl) ?_
    refine lv_bipush (v := 40) hx hb (fk_get fk_cX12_readOpening_0 25 rfl) (by decide) ?_
    refine lv_icmp_ne (tgt := 73) hx hb (fk_get fk_cX12_readOpening_0 26 rfl) (by decide) (fun c_3 => ?_) (fun c_3 => ?_)
    · refine lv_aload_n hx hb (fk_get fk_cX12_readOpening_1 8 rfl) rfl (lv_at hl 0 rfl) ?_
      refine va_get (D := G.1) (ci := 14) (v := .ref (ad 13)) (C := RX12) (T := TX12) (N := 49) hx hb hT inX12 hown hK hP 0 (ix_at (by decide) (cR_0 G ad (setF (setF (setF S 0 26 (0)) 0 29 ((nI (o + 1)))) 0 25 ((nI (u + 1)))))) rfl 27 (by decide) (hT _ m5_128) (fun _ h9 => h9) rfl (fk_get fk_cX12_readOpening_1 9 rfl) ?_
      refine lv_aload_n hx hb (fk_get fk_cX12_readOpening_1 10 rfl) rfl (lv_at hl 0 rfl) ?_
      refine va_get (D := G.1) (ci := 14) (v := .int ((fF S 0 28))) (C := RX12) (T := TX12) (N := 49) hx hb hT inX12 hown hK hP 0 (ix_at (by decide) (cR_0 G ad (setF (setF (setF S 0 26 (0)) 0 29 ((nI (o + 1)))) 0 25 ((nI (u + 1)))))) rfl 28 (by decide) (hT _ m5_129) (fun _ h9 => h9) rfl (fk_get fk_cX12_readOpening_1 11 rfl) ?_
      refine lv_dup2_11 hx hb (fk_get fk_cX12_readOpening_1 12 rfl) rfl rfl ?_
      refine r_iald (f := fA S 13) hx hb hK hP 13 0 (ix_at (by decide) (cR_nots G ad (setF (setF (setF S 0 26 (0)) 0 29 ((nI (o + 1)))) 0 25 ((nI (u + 1)))))) rfl (d) (hX.1) ((by have := XL_le hX; omega)) (by decide) (fk_get fk_cX12_readOpening_1 13 rfl) ?_
      refine lv_iconst (v := 1) hx hb (fk_get fk_cX12_readOpening_1 14 rfl) (by decide) ?_
      refine lv_iadd hx hb (fk_get fk_cX12_readOpening_1 15 rfl) ?_
      rw [show ((fA S 13 (d)) + 1) = (nI (N d + 1)) from (by rw [hX.2.2.1 d (Nat.le_refl d)]; exact nI_1 (N d))]
      refine r_iast hx hb hK hP hD hS 13 0 (ix_at (by decide) (cR_nots G ad (setF (setF (setF S 0 26 (0)) 0 29 ((nI (o + 1)))) 0 25 ((nI (u + 1)))))) rfl (d) (hX.1) ((by have := XL_le hX; omega)) (by decide) (fk_get fk_cX12_readOpening_1 16 rfl) (fun H locs hP hD hS => ?_)
      rw [pR_A G ad (setF (setF (setF S 0 26 (0)) 0 29 ((nI (o + 1)))) 0 25 ((nI (u + 1)))) (by decide) (by decide) (by decide) (cR_nots G ad (setF (setF (setF S 0 26 (0)) 0 29 ((nI (o + 1)))) 0 25 ((nI (u + 1))))) (upd (fA (setF (setF (setF S 0 26 (0)) 0 29 ((nI (o + 1)))) 0 25 ((nI (u + 1)))) 13) (d) ((nI (N d + 1))))] at hP hD
      subst hQ
      have hpost : ROp u d o N c S (setA (setF (setF (setF S 0 26 (0)) 0 29 ((nI (o + 1)))) 0 25 ((nI (u + 1)))) 13 (upd (fA (setF (setF (setF S 0 26 (0)) 0 29 ((nI (o + 1)))) 0 25 ((nI (u + 1)))) 13) (d) ((nI (N d + 1))))) := by
        first | exact Or.inl ⟨ho4, rfl⟩ | exact Or.inr (Or.inl ⟨ho4, by assumption, rfl⟩) | exact Or.inr (Or.inr ⟨ho4, by assumption, rfl⟩)
      exact W.vret hx hb hr (fun t_ ht_ hW_ => ⟨⟨(setA (setF (setF (setF S 0 26 (0)) 0 29 ((nI (o + 1)))) 0 25 ((nI (u + 1)))) 13 (upd (fA (setF (setF (setF S 0 26 (0)) 0 29 ((nI (o + 1)))) 0 25 ((nI (u + 1)))) 13) (d) ((nI (N d + 1))))), rfl, hpost, by rw [ht_]; exact hP, va_K.moved hW_.alike hK, hD⟩, hS.F ht_⟩) hS.2.2 (fk_get fk_cX12_readOpening_1 17 rfl)
    refine lv_aload_n hx hb (fk_get fk_cX12_readOpening_0 27 rfl) rfl (lv_at hl 0 rfl) ?_
    refine lv_dup hx hb (fk_get fk_cX12_readOpening_0 28 rfl) rfl ?_
    refine va_get (D := G.1) (ci := 14) (v := .int ((fF S 0 28))) (C := RX12) (T := TX12) (N := 49) hx hb hT inX12 hown hK hP 0 (ix_at (by decide) (cR_0 G ad (setF (setF (setF S 0 26 (0)) 0 29 ((nI (o + 1)))) 0 25 ((nI (u + 1)))))) rfl 28 (by decide) (hT _ m5_129) (fun _ h9 => h9) rfl (fk_get fk_cX12_readOpening_0 29 rfl) ?_
    refine lv_iconst (v := 1) hx hb (fk_get fk_cX12_readOpening_0 30 rfl) (by decide) ?_
    refine lv_iadd hx hb (fk_get fk_cX12_readOpening_0 31 rfl) ?_
    rw [show ((fF S 0 28) + 1) = (nI (d + 1)) from (by rw [hX.1]; exact nI_1 d)]
    refine va_put (D := G.1) (ci := 14) (v := .int ((nI (d + 1)))) (ty := .int) (C := RX12) (T := TX12) (N := 49) hx hb hT inX12 tyX12 tyX12_ok nmX12 hown hK hP hD hS 0 (ix_at (by decide) (cR_0 G ad (setF (setF (setF S 0 26 (0)) 0 29 ((nI (o + 1)))) 0 25 ((nI (u + 1)))))) rfl 28 (by decide) (hT _ m5_129) (fun _ h9 => h9) rfl (by decide +kernel) rfl rfl (Nat.le_of_ble_eq_true rfl) (fk_get fk_cX12_readOpening_1 0 rfl) (fun H locs hP hD hS => ?_)
    rw [pR_depth G ad (setF (setF (setF S 0 26 (0)) 0 29 ((nI (o + 1)))) 0 25 ((nI (u + 1)))) ((nI (d + 1)))] at hP hD
    refine lv_aload_n hx hb (fk_get fk_cX12_readOpening_1 1 rfl) rfl (lv_at hl 0 rfl) ?_
    refine va_get (D := G.1) (ci := 14) (v := .ref (ad 13)) (C := RX12) (T := TX12) (N := 49) hx hb hT inX12 hown hK hP 0 (ix_at (by decide) (cR_0 G ad (setF (setF (setF (setF S 0 26 (0)) 0 29 ((nI (o + 1)))) 0 25 ((nI (u + 1)))) 0 28 ((nI (d + 1)))))) rfl 27 (by decide) (hT _ m5_128) (fun _ h9 => h9) rfl (fk_get fk_cX12_readOpening_1 2 rfl) ?_
    refine lv_aload_n hx hb (fk_get fk_cX12_readOpening_1 3 rfl) rfl (lv_at hl 0 rfl) ?_
    refine va_get (D := G.1) (ci := 14) (v := .int ((nI (d + 1)))) (C := RX12) (T := TX12) (N := 49) hx hb hT inX12 hown hK hP 0 (ix_at (by decide) (cR_0 G ad (setF (setF (setF (setF S 0 26 (0)) 0 29 ((nI (o + 1)))) 0 25 ((nI (u + 1)))) 0 28 ((nI (d + 1)))))) rfl 28 (by decide) (hT _ m5_129) (fun _ h9 => h9) rfl (fk_get fk_cX12_readOpening_1 4 rfl) ?_
    refine lv_iconst (v := 0) hx hb (fk_get fk_cX12_readOpening_1 5 rfl) (by decide) ?_
    refine r_iast hx hb hK hP hD hS 13 0 (ix_at (by decide) (cR_nots G ad (setF (setF (setF (setF S 0 26 (0)) 0 29 ((nI (o + 1)))) 0 25 ((nI (u + 1)))) 0 28 ((nI (d + 1)))))) rfl (d + 1) (rfl) ((by have := XL_le hX; omega)) (by decide) (fk_get fk_cX12_readOpening_1 6 rfl) (fun H locs hP hD hS => ?_)
    rw [pR_A G ad (setF (setF (setF (setF S 0 26 (0)) 0 29 ((nI (o + 1)))) 0 25 ((nI (u + 1)))) 0 28 ((nI (d + 1)))) (by decide) (by decide) (by decide) (cR_nots G ad (setF (setF (setF (setF S 0 26 (0)) 0 29 ((nI (o + 1)))) 0 25 ((nI (u + 1)))) 0 28 ((nI (d + 1))))) (upd (fA (setF (setF (setF (setF S 0 26 (0)) 0 29 ((nI (o + 1)))) 0 25 ((nI (u + 1)))) 0 28 ((nI (d + 1)))) 13) (d + 1) (0))] at hP hD
    refine lv_goto (tgt := 86) hx hb (fk_get fk_cX12_readOpening_1 7 rfl) (by decide) ?_
    subst hQ
    have hpost : ROp u d o N c S (setA (setF (setF (setF (setF S 0 26 (0)) 0 29 ((nI (o + 1)))) 0 25 ((nI (u + 1)))) 0 28 ((nI (d + 1)))) 13 (upd (fA (setF (setF (setF (setF S 0 26 (0)) 0 29 ((nI (o + 1)))) 0 25 ((nI (u + 1)))) 0 28 ((nI (d + 1)))) 13) (d + 1) (0))) := by
      first | exact Or.inl ⟨ho4, rfl⟩ | exact Or.inr (Or.inl ⟨ho4, by assumption, rfl⟩) | exact Or.inr (Or.inr ⟨ho4, by assumption, rfl⟩)
    exact W.vret hx hb hr (fun t_ ht_ hW_ => ⟨⟨(setA (setF (setF (setF (setF S 0 26 (0)) 0 29 ((nI (o + 1)))) 0 25 ((nI (u + 1)))) 0 28 ((nI (d + 1)))) 13 (upd (fA (setF (setF (setF (setF S 0 26 (0)) 0 29 ((nI (o + 1)))) 0 25 ((nI (u + 1)))) 0 28 ((nI (d + 1)))) 13) (d + 1) (0))), rfl, hpost, by rw [ht_]; exact hP, va_K.moved hW_.alike hK, hD⟩, hS.F ht_⟩) hS.2.2 (fk_get fk_cX12_readOpening_1 17 rfl)
  have ho4 : o = 4 := by
    have h1 := XL_le hX
    exact (nI_eq (by omega) (by decide)).mp (hX.2.1.symm.trans c_1)
  refine lv_iconst (v := 1) hx hb (fk_get fk_cX12_readOpening_0 5 rfl) (by decide) ?_
  refine lv_goto (tgt := 14) hx hb (fk_get fk_cX12_readOpening_0 6 rfl) (by decide) ?_
  refine va_put (D := G.1) (ci := 14) (v := .int (1)) (ty := .boolean) (C := RX12) (T := TX12) (N := 49) hx hb hT inX12 tyX12 tyX12_ok nmX12 hown hK hP hD hS 0 (ix_at (by decide) (cR_0 G ad S)) rfl 26 (by decide) (hT _ m5_127) (fun _ h9 => h9) rfl (by decide +kernel) rfl rfl (Nat.le_of_ble_eq_true rfl) (fk_get fk_cX12_readOpening_0 8 rfl) (fun H locs hP hD hS => ?_)
  rw [pR_isBad G ad S (1)] at hP hD
  refine lv_aload_n hx hb (fk_get fk_cX12_readOpening_0 9 rfl) rfl (lv_at hl 0 rfl) ?_
  refine va_get (D := G.1) (ci := 14) (v := .int (1)) (C := RX12) (T := TX12) (N := 49) hx hb hT inX12 hown hK hP 0 (ix_at (by decide) (cR_0 G ad (setF S 0 26 (1)))) rfl 26 (by decide) (hT _ m5_127) (fun _ h9 => h9) rfl (fk_get fk_cX12_readOpening_0 10 rfl) ?_
  refine lv_if_ne (tgt := 86) hx hb (fk_get fk_cX12_readOpening_0 11 rfl) (by decide) (fun _ => ?_) (fun c_4 => absurd c_4 ((by decide)))
  subst hQ
  have hpost : ROp u d o N c S (setF S 0 26 (1)) := by
    first | exact Or.inl ⟨ho4, rfl⟩ | exact Or.inr (Or.inl ⟨ho4, by assumption, rfl⟩) | exact Or.inr (Or.inr ⟨ho4, by assumption, rfl⟩)
  exact W.vret hx hb hr (fun t_ ht_ hW_ => ⟨⟨(setF S 0 26 (1)), rfl, hpost, by rw [ht_]; exact hP, va_K.moved hW_.alike hK, hD⟩, hS.F ht_⟩) hS.2.2 (fk_get fk_cX12_readOpening_1 17 rfl)
