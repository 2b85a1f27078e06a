set_option maxHeartbeats 800000 in
set_option maxRecDepth 100000 in
theorem c_x9_RO_4 (l : Launch) (G : GG) (ad : Nat → Nat) (S : FS) (sz : Nat)  (hX : XI S) : Met l yX9_readOne (Cond.code yX9_readOne cX9_readOne 4 (some .boolean) :: TBL) ({ frames := 7, cells := 0, slots := 0, locals := 198 } : Room) (PcE G (wX G ad S) sz [.ref (ad 57), .int (4)]) (va_Qi (fun (r : Int32) (S' : FS) => XI S' ∧ Fr (fun j k => (j = 57 ∧ (k = 2 ∨ k = 3 ∨ k = 4 ∨ k = 7 ∨ k = 8)) ∨ ((j = 59 ∨ j = 60) ∧ k = 99)) S S' ∧ (r = 0 ∨ r = 1)) (fun S' t => BW G (va_A (wX G ad S) sz) (wX G ad S') t) (va_A (wX G ad S) sz)) 0 0 (va_A (wX G ad S) sz) := by
  refine Met.ofW (cc := cX9_readOne) (maxL := 4) (ret := (some .boolean)) (by decide) rfl ?_
  intro p e s m args below meth c₀ s₁ B hml hv
  obtain ⟨rfl, hsz, hP, hK, hD0, hE⟩ := hv
  have hx := B.exec
  have hb := B.bytes
  have hr := B.returns
  have hT : ∀ w ∈ TBL, w.before ([.ref (ad 57), .int (4)] : List Value).toArray s = true := fun w h => atoms_spec (ws := Cond.code yX9_readOne cX9_readOne 4 (some .boolean) :: TBL) B.pre w (List.mem_cons_of_mem _ h)
  have hown : s.vm.findClass "LittleMore$Text" = some m.cls := findClass_of_methodNamed B.named
  have hlocks := B.notSynchronized
  subst hsz
  have hD := hD0.self (sz := s.heap.size)
  generalize hAe : va_A (wX G ad S) s.heap.size = A at hD hE ⊢
  have hA : ∀ q : Nat, s.heap.size ≤ q → A q := fun q h => by rw [← hAe]; exact Or.inr h
  have hS : va_S A s.heap s.heap [] := va_S.rf
  have hP : va_P G.1 vwCl (wX G ad S) s.heap := hP
  have hl := lv_entry ([.ref (ad 57), .int (4)]) (n := 4) (Nat.le_of_ble_eq_true rfl)
  rw [lg_entry_eq]
  generalize (lg_sl ([.ref (ad 57), .int (4)]) ++ List.replicate (4 - (lg_sl ([.ref (ad 57), .int (4)])).length) Slot.unset).toArray = ls at hl ⊢
  have hl : lv_has ls 4 [(0, .ref (ad 57)), (1, .int (4))] := hl
  refine W_abs (fun Q hQ => ?_)
  generalize ([.ref (ad 57), .int (4)] : List Value).toArray = args at hT hQ ⊢
  refine lv_iload_n hx hb (fk_get fk_cX9_readOne_0 0 rfl) rfl (lv_at hl 1 rfl) ?_
  refine lv_iconst (v := 4) hx hb (fk_get fk_cX9_readOne_0 1 rfl) (by decide) ?_
  refine lv_icmp_ge (tgt := 40) hx hb (fk_get fk_cX9_readOne_0 2 rfl) (by decide) (fun _ => ?_) (fun c_1 => absurd ((by decide)) c_1)
  refine lv_iload_n hx hb (fk_get fk_cX9_readOne_0 22 rfl) rfl (lv_at hl 1 rfl) ?_
  refine lv_iconst (v := 4) hx hb (fk_get fk_cX9_readOne_0 23 rfl) (by decide) ?_
  refine lv_icmp_ge (tgt := 79) hx hb (fk_get fk_cX9_readOne_0 24 rfl) (by decide) (fun _ => ?_) (fun c_2 => absurd ((by decide)) c_2)
  refine lv_aload_n hx hb (fk_get fk_cX9_readOne_1 11 rfl) rfl (lv_at hl 0 rfl) ?_
  refine va_ldcS (q := G.2.2.2 (310 + 4)) (tx := txS 4) hx hb hown (hE.2.2.2.2.1.2 4 (by omega)) (fk_get fk_cX9_readOne_1 12 rfl) ?_
  have hFc := va_self hD hS hA
  refine va_calli (va_runV (As := [.ref (G.2.2.2 (310 + 4))]) (rest := []) ⟨hx, hb, hml, hown, hT⟩ (c_x9_takesOneOf l G ad S s.heap.size (4) ((by omega : 4 < 6)) (hX)) (tV 1 hT m3_73 m3_75 mp_10 m1_12 m3_76 rfl rfl (by decide +kernel) ⟨Nat.le_of_ble_eq_true rfl, Nat.le_of_ble_eq_true rfl⟩) ⟨PcE_blind, va_recv hK hP (ci := 11) (q0 := 57) rfl (ix_at (lt71 (by omega)) (cX_text G ad S)), PcE_of hP hK hD hE hS (fun q h => hFc q h) _⟩ rfl rfl hl.1 rfl (lv_room (Nat.le_of_ble_eq_true rfl)) (fk_get fk_cX9_readOne_1 13 rfl) ⟨Nat.zero_le _, Nat.zero_le _⟩) hS (fun q _ h => hFc q h) hFc (fun r_3 S_5 t_ H locs ht_ hvm_ hw_4 hB_ hz_ hk_ hS => ?_)
  obtain ⟨hP, -, hD1_⟩ := hB_
  rw [ht_] at hP
  have hD : va_D A (wX G ad S_5) := hD1_.weaken (fun k q _ h => hFc q.1 h)
  try dsimp only at hw_4
  obtain ⟨hX_6, hF_7_, hw_4⟩ := hw_4
  have hF_7 : Fr (fun j k => (j = 57 ∧ (k = 2 ∨ k = 3 ∨ k = 4 ∨ k = 7 ∨ k = 8)) ∨ ((j = 59 ∨ j = 60) ∧ k = 99)) S S_5 := Fr.trans (Fr.rf : Fr (fun j k => (j = 57 ∧ (k = 2 ∨ k = 3 ∨ k = 4 ∨ k = 7 ∨ k = 8)) ∨ ((j = 59 ∨ j = 60) ∧ k = 99)) S S) (Fr.mono hF_7_ (fun j k h => by omega))
  refine lv_istore_n (lv' := [(2, .int (r_3)), (0, .ref (ad 57)), (1, .int (4))]) hx hb (fk_get fk_cX9_readOne_1 14 rfl) rfl hl (by decide) rfl (fun ls hl => ?_)
  refine lv_iload_n hx hb (fk_get fk_cX9_readOne_1 15 rfl) rfl (lv_at hl 0 rfl) ?_
  refine lv_if_ge (tgt := 94) hx hb (fk_get fk_cX9_readOne_1 16 rfl) (by decide) (fun c_8 => ?_) (fun c_8 => ?_)
  · refine lv_aload_n hx hb (fk_get fk_cX9_readOne_1 19 rfl) rfl (lv_at hl 1 rfl) ?_
    refine va_ldcS (q := G.2.2.2 (310 + 5)) (tx := txS 5) hx hb hown (hE.2.2.2.2.1.2 5 (by omega)) (fk_get fk_cX9_readOne_1 20 rfl) ?_
    have hFc := va_self hD hS hA
    refine va_calli (va_runV (As := [.ref (G.2.2.2 (310 + 5))]) (rest := []) ⟨hx, hb, hml, hown, hT⟩ (c_x9_takesOneOf l G ad S_5 H.size (5) ((by omega : 5 < 6)) (hX_6)) (tV 1 hT m3_73 m3_75 mp_10 m1_12 m3_76 rfl rfl (by decide +kernel) ⟨Nat.le_of_ble_eq_true rfl, Nat.le_of_ble_eq_true rfl⟩) ⟨PcE_blind, va_recv hK hP (ci := 11) (q0 := 57) rfl (ix_at (lt71 (by omega)) (cX_text G ad S_5)), PcE_of hP hK hD hE hS (fun q h => hFc q h) _⟩ rfl rfl hl.1 rfl (lv_room (Nat.le_of_ble_eq_true rfl)) (fk_get fk_cX9_readOne_1 21 rfl) ⟨Nat.zero_le _, Nat.zero_le _⟩) hS (fun q _ h => hFc q h) hFc (fun r_9 S_11 t_ H locs ht_ hvm_ hw_10 hB_ hz_ hk_ hS => ?_)
    obtain ⟨hP, -, hD1_⟩ := hB_
    rw [ht_] at hP
    have hD : va_D A (wX G ad S_11) := hD1_.weaken (fun k q _ h => hFc q.1 h)
    try dsimp only at hw_10
    obtain ⟨hX_12, hF_13_, hw_10⟩ := hw_10
    have hF_13 : Fr (fun j k => (j = 57 ∧ (k = 2 ∨ k = 3 ∨ k = 4 ∨ k = 7 ∨ k = 8)) ∨ ((j = 59 ∨ j = 60) ∧ k = 99)) S S_11 := Fr.trans hF_7 (Fr.mono hF_13_ (fun j k h => by omega))
    refine lv_istore_n (lv' := [(3, .int (r_9)), (2, .int (r_3)), (0, .ref (ad 57)), (1, .int (4))]) hx hb (fk_get fk_cX9_readOne_1 22 rfl) rfl hl (by decide) rfl (fun ls hl => ?_)
    refine lv_iload_n hx hb (fk_get fk_cX9_readOne_1 23 rfl) rfl (lv_at hl 0 rfl) ?_
    refine lv_if_lt (tgt := 132) hx hb (fk_get fk_cX9_readOne_1 24 rfl) (by decide) (fun c_14 => ?_) (fun c_14 => ?_)
    · refine lv_iconst (v := 0) hx hb (fk_get fk_cX9_readOne_2 8 rfl) (by decide) ?_
      subst hQ
      have hpost : XI S_11 ∧ Fr (fun j k => (j = 57 ∧ (k = 2 ∨ k = 3 ∨ k = 4 ∨ k = 7 ∨ k = 8)) ∨ ((j = 59 ∨ j = 60) ∧ k = 99)) S S_11 ∧ ((0 : Int32) = 0 ∨ (0 : Int32) = 1) := by
        exact ⟨hX_12, hF_13, (by first | exact Or.inl rfl | exact Or.inr rfl)⟩
      exact W.zret (v := 0) hx hb hr rfl (fun t_ ht_ hW_ => ⟨⟨0, S_11, rfl, hpost, by rw [ht_]; exact hP, va_K.moved hW_.alike hK, hD⟩, hS.F ht_⟩) hS.2.2 (fk_get fk_cX9_readOne_2 9 rfl)
    refine lv_aload_n hx hb (fk_get fk_cX9_readOne_1 25 rfl) rfl (lv_at hl 2 rfl) ?_
    have hFc := va_self hD hS hA
    refine va_calli (va_runV (As := []) (rest := []) ⟨hx, hb, hml, hown, hT⟩ (c_x9_readNumber l G ad S_11 H.size  (hX_12)) (tV 0 hT m3_49 m3_51 mp_5 m1_12 m3_52 rfl rfl (by decide +kernel) ⟨Nat.le_of_ble_eq_true rfl, Nat.le_of_ble_eq_true rfl⟩) ⟨PcW_blind, va_recv hK hP (ci := 11) (q0 := 57) rfl (ix_at (lt71 (by omega)) (cX_text G ad S_11)), PcW_of hP hK hD _⟩ rfl rfl hl.1 rfl (lv_room (Nat.le_of_ble_eq_true rfl)) (fk_get fk_cX9_readOne_1 26 rfl) ⟨Nat.zero_le _, Nat.zero_le _⟩) hS (fun q _ h => hFc q h) hFc (fun r_15 S_17 t_ H locs ht_ hvm_ hw_16 hB_ hz_ hk_ hS => ?_)
    obtain ⟨hP, -, hD1_⟩ := hB_
    rw [ht_] at hP
    have hD : va_D A (wX G ad S_17) := hD1_.weaken (fun k q _ h => hFc q.1 h)
    try dsimp only at hw_16
    obtain ⟨hX_18, hF_19_, hw_16⟩ := hw_16
    have hF_19 : Fr (fun j k => (j = 57 ∧ (k = 2 ∨ k = 3 ∨ k = 4 ∨ k = 7 ∨ k = 8)) ∨ ((j = 59 ∨ j = 60) ∧ k = 99)) S S_17 := Fr.trans hF_13 (Fr.mono hF_19_ (fun j k h => by omega))
    refine lv_if_eq (tgt := 132) hx hb (fk_get fk_cX9_readOne_1 27 rfl) (by decide) (fun c_20 => ?_) (fun c_20 => ?_)
    · refine lv_iconst (v := 0) hx hb (fk_get fk_cX9_readOne_2 8 rfl) (by decide) ?_
      subst hQ
      have hpost : XI S_17 ∧ Fr (fun j k => (j = 57 ∧ (k = 2 ∨ k = 3 ∨ k = 4 ∨ k = 7 ∨ k = 8)) ∨ ((j = 59 ∨ j = 60) ∧ k = 99)) S S_17 ∧ ((0 : Int32) = 0 ∨ (0 : Int32) = 1) := by
        exact ⟨hX_18, hF_19, (by first | exact Or.inl rfl | exact Or.inr rfl)⟩
      exact W.zret (v := 0) hx hb hr rfl (fun t_ ht_ hW_ => ⟨⟨0, S_17, rfl, hpost, by rw [ht_]; exact hP, va_K.moved hW_.alike hK, hD⟩, hS.F ht_⟩) hS.2.2 (fk_get fk_cX9_readOne_2 9 rfl)
    refine lv_aload_n hx hb (fk_get fk_cX9_readOne_1 28 rfl) rfl (lv_at hl 2 rfl) ?_
    refine lv_iload_n hx hb (fk_get fk_cX9_readOne_1 29 rfl) rfl (lv_at hl 1 rfl) ?_
    refine lv_iconst (v := 3) hx hb (fk_get fk_cX9_readOne_1 30 rfl) (by decide) ?_
    refine lv_imul hx hb (fk_get fk_cX9_readOne_1 31 rfl) ?_
    refine lv_iload_n hx hb (fk_get fk_cX9_readOne_2 0 rfl) rfl (lv_at hl 0 rfl) ?_
    refine lv_iadd hx hb (fk_get fk_cX9_readOne_2 1 rfl) ?_
    refine lv_aload_n hx hb (fk_get fk_cX9_readOne_2 2 rfl) rfl (lv_at hl 2 rfl) ?_
    refine va_get (D := G.1) (ci := 11) (v := .int (fF S_17 57 8)) (C := RX9) (T := TX9) (N := 9) hx hb hT inX9 hown hK hP 57 (ix_at (lt71 (by omega)) (cX_text G ad S_17)) rfl 8 (by decide) (hT _ m2_17) (fun _ h9 => h9) rfl (fk_get fk_cX9_readOne_2 3 rfl) ?_
    have hFc := va_self hD hS hA
    refine va_calli (va_runV (As := [.int (((r_3 * 3) + r_9)), .int ((fF S_17 57 8))]) (rest := []) ⟨hx, hb, hml, hown, hT⟩ (c_x9_putCode l G ad S_17 H.size (((r_3 * 3) + r_9)) ((fF S_17 57 8)) (hX_18)) (tV 2 hT m3_68 m3_70 mp_9 m1_12 m3_71 rfl rfl (by decide +kernel) ⟨Nat.le_of_ble_eq_true rfl, Nat.le_of_ble_eq_true rfl⟩) ⟨PcW_blind, va_recv hK hP (ci := 11) (q0 := 57) rfl (ix_at (lt71 (by omega)) (cX_text G ad S_17)), PcW_of hP hK hD _⟩ rfl rfl hl.1 rfl (lv_room (Nat.le_of_ble_eq_true rfl)) (fk_get fk_cX9_readOne_2 4 rfl) ⟨Nat.zero_le _, Nat.zero_le _⟩) hS (fun q _ h => hFc q h) hFc (fun r_21 S_23 t_ H locs ht_ hvm_ hw_22 hB_ hz_ hk_ hS => ?_)
    obtain ⟨hP, -, hD1_⟩ := hB_
    rw [ht_] at hP
    have hD : va_D A (wX G ad S_23) := hD1_.weaken (fun k q _ h => hFc q.1 h)
    try dsimp only at hw_22
    obtain ⟨hX_24, hF_25_, hw_22⟩ := hw_22
    have hF_25 : Fr (fun j k => (j = 57 ∧ (k = 2 ∨ k = 3 ∨ k = 4 ∨ k = 7 ∨ k = 8)) ∨ ((j = 59 ∨ j = 60) ∧ k = 99)) S S_23 := Fr.trans hF_19 (Fr.mono hF_25_ (fun j k h => by omega))
    refine lv_if_eq (tgt := 132) hx hb (fk_get fk_cX9_readOne_2 5 rfl) (by decide) (fun c_26 => ?_) (fun c_26 => ?_)
    · refine lv_iconst (v := 0) hx hb (fk_get fk_cX9_readOne_2 8 rfl) (by decide) ?_
      subst hQ
      have hpost : XI S_23 ∧ Fr (fun j k => (j = 57 ∧ (k = 2 ∨ k = 3 ∨ k = 4 ∨ k = 7 ∨ k = 8)) ∨ ((j = 59 ∨ j = 60) ∧ k = 99)) S S_23 ∧ ((0 : Int32) = 0 ∨ (0 : Int32) = 1) := by
        exact ⟨hX_24, hF_25, (by first | exact Or.inl rfl | exact Or.inr rfl)⟩
      exact W.zret (v := 0) hx hb hr rfl (fun t_ ht_ hW_ => ⟨⟨0, S_23, rfl, hpost, by rw [ht_]; exact hP, va_K.moved hW_.alike hK, hD⟩, hS.F ht_⟩) hS.2.2 (fk_get fk_cX9_readOne_2 9 rfl)
    refine lv_iconst (v := 1) hx hb (fk_get fk_cX9_readOne_2 6 rfl) (by decide) ?_
    refine lv_goto (tgt := 133) hx hb (fk_get fk_cX9_readOne_2 7 rfl) (by decide) ?_
    subst hQ
    have hpost : XI S_23 ∧ Fr (fun j k => (j = 57 ∧ (k = 2 ∨ k = 3 ∨ k = 4 ∨ k = 7 ∨ k = 8)) ∨ ((j = 59 ∨ j = 60) ∧ k = 99)) S S_23 ∧ ((1 : Int32) = 0 ∨ (1 : Int32) = 1) := by
      exact ⟨hX_24, hF_25, (by first | exact Or.inl rfl | exact Or.inr rfl)⟩
    exact W.zret (v := 1) hx hb hr rfl (fun t_ ht_ hW_ => ⟨⟨1, S_23, rfl, hpost, by rw [ht_]; exact hP, va_K.moved hW_.alike hK, hD⟩, hS.F ht_⟩) hS.2.2 (fk_get fk_cX9_readOne_2 9 rfl)
  refine lv_iload_n hx hb (fk_get fk_cX9_readOne_1 17 rfl) rfl (lv_at hl 0 rfl) ?_
  refine lv_goto (tgt := 100) hx hb (fk_get fk_cX9_readOne_1 18 rfl) (by decide) ?_
  refine lv_istore_n (lv' := [(3, .int (r_3)), (2, .int (r_3)), (0, .ref (ad 57)), (1, .int (4))]) hx hb (fk_get fk_cX9_readOne_1 22 rfl) rfl hl (by decide) rfl (fun ls hl => ?_)
  refine lv_iload_n hx hb (fk_get fk_cX9_readOne_1 23 rfl) rfl (lv_at hl 0 rfl) ?_
  refine lv_if_lt (tgt := 132) hx hb (fk_get fk_cX9_readOne_1 24 rfl) (by decide) (fun _ => ?_) (fun c_27 => absurd (by first | assumption | exact Int32.not_lt.mp (by assumption) | exact Int32.not_le.mp (by assumption) | exact Int32.not_lt.mpr (by assumption) | exact Int32.not_le.mpr (by assumption) ) c_27)
  refine lv_iconst (v := 0) hx hb (fk_get fk_cX9_readOne_2 8 rfl) (by decide) ?_
  subst hQ
  have hpost : XI S_5 ∧ Fr (fun j k => (j = 57 ∧ (k = 2 ∨ k = 3 ∨ k = 4 ∨ k = 7 ∨ k = 8)) ∨ ((j = 59 ∨ j = 60) ∧ k = 99)) S S_5 ∧ ((0 : Int32) = 0 ∨ (0 : Int32) = 1) := by
    exact ⟨hX_6, hF_7, (by first | exact Or.inl rfl | exact Or.inr rfl)⟩
  exact W.zret (v := 0) hx hb hr rfl (fun t_ ht_ hW_ => ⟨⟨0, S_5, rfl, hpost, by rw [ht_]; exact hP, va_K.moved hW_.alike hK, hD⟩, hS.F ht_⟩) hS.2.2 (fk_get fk_cX9_readOne_2 9 rfl)
set_option maxHeartbeats 800000 in
set_option maxRecDepth 100000 in
theorem c_x9_RA_4 (l : Launch) (G : GG) (ad : Nat → Nat) (S : FS) (sz : Nat)  (hX : XI S) : Met l yX9_readAll (Cond.code yX9_readAll cX9_readAll 3 (some .boolean) :: TBL) ({ frames := 8, cells := 0, slots := 0, locals := 225 } : Room) (PcE G (wX G ad S) sz [.ref (ad 57), .int (4)]) (va_Qi (fun (r : Int32) (S' : FS) => XI S' ∧ Fr (fun j k => (j = 57 ∧ (k = 2 ∨ k = 3 ∨ k = 4 ∨ k = 7 ∨ k = 8)) ∨ ((j = 59 ∨ j = 60) ∧ k = 99)) S S' ∧ (r = 0 ∨ r = 1)) (fun S' t => BW G (va_A (wX G ad S) sz) (wX G ad S') t) (va_A (wX G ad S) sz)) 0 0 (va_A (wX G ad S) sz) := by
  refine Met.ofW (cc := cX9_readAll) (maxL := 3) (ret := (some .boolean)) (by decide) rfl ?_
  intro p e s m args below meth c₀ s₁ B hml hv
  obtain ⟨rfl, hsz, hP, hK, hD0, hE⟩ := hv
  have hx := B.exec
  have hb := B.bytes
  have hr := B.returns
  have hT : ∀ w ∈ TBL, w.before ([.ref (ad 57), .int (4)] : List Value).toArray s = true := fun w h => atoms_spec (ws := Cond.code yX9_readAll cX9_readAll 3 (some .boolean) :: TBL) B.pre w (List.mem_cons_of_mem _ h)
  have hown : s.vm.findClass "LittleMore$Text" = some m.cls := findClass_of_methodNamed B.named
  have hlocks := B.notSynchronized
  subst hsz
  have hD := hD0.self (sz := s.heap.size)
  generalize hAe : va_A (wX G ad S) s.heap.size = A at hD hE ⊢
  have hA : ∀ q : Nat, s.heap.size ≤ q → A q := fun q h => by rw [← hAe]; exact Or.inr h
  have hS : va_S A s.heap s.heap [] := va_S.rf
  have hP : va_P G.1 vwCl (wX G ad S) s.heap := hP
  have hl := lv_entry ([.ref (ad 57), .int (4)]) (n := 3) (Nat.le_of_ble_eq_true rfl)
  rw [lg_entry_eq]
  generalize (lg_sl ([.ref (ad 57), .int (4)]) ++ List.replicate (3 - (lg_sl ([.ref (ad 57), .int (4)])).length) Slot.unset).toArray = ls at hl ⊢
  have hl : lv_has ls 3 [(0, .ref (ad 57)), (1, .int (4))] := hl
  refine W_abs (fun Q hQ => ?_)
  generalize ([.ref (ad 57), .int (4)] : List Value).toArray = args at hT hQ ⊢
  refine lv_aload_n hx hb (fk_get fk_cX9_readAll_0 0 rfl) rfl (lv_at hl 0 rfl) ?_
  refine lv_iload_n hx hb (fk_get fk_cX9_readAll_0 1 rfl) rfl (lv_at hl 1 rfl) ?_
  have hFc := va_self hD hS hA
  refine va_calli (va_runV (As := [.int (4)]) (rest := []) ⟨hx, hb, hml, hown, hT⟩ (c_x9_RO_4 l G ad S s.heap.size  (hX)) (tV 1 hT m3_64 m3_66 mp_8 m1_12 m3_67 rfl rfl (by decide +kernel) ⟨Nat.le_of_ble_eq_true rfl, Nat.le_of_ble_eq_true rfl⟩) ⟨PcE_blind, va_recv hK hP (ci := 11) (q0 := 57) rfl (ix_at (lt71 (by omega)) (cX_text G ad S)), PcE_of hP hK hD hE hS (fun q h => hFc q h) _⟩ rfl rfl hl.1 rfl (lv_room (Nat.le_of_ble_eq_true rfl)) (fk_get fk_cX9_readAll_0 2 rfl) ⟨Nat.zero_le _, Nat.zero_le _⟩) hS (fun q _ h => hFc q h) hFc (fun r_1 S_3 t_ H locs ht_ hvm_ hw_2 hB_ hz_ hk_ hS => ?_)
  obtain ⟨hP, -, hD1_⟩ := hB_
  rw [ht_] at hP
  have hD : va_D A (wX G ad S_3) := hD1_.weaken (fun k q _ h => hFc q.1 h)
  try dsimp only at hw_2
  obtain ⟨hX_4, hF_5_, hw_2⟩ := hw_2
  have hF_5 : Fr (fun j k => (j = 57 ∧ (k = 2 ∨ k = 3 ∨ k = 4 ∨ k = 7 ∨ k = 8)) ∨ ((j = 59 ∨ j = 60) ∧ k = 99)) S S_3 := Fr.trans (Fr.rf : Fr (fun j k => (j = 57 ∧ (k = 2 ∨ k = 3 ∨ k = 4 ∨ k = 7 ∨ k = 8)) ∨ ((j = 59 ∨ j = 60) ∧ k = 99)) S S) (Fr.mono hF_5_ (fun j k h => by omega))
  refine lv_if_ne (tgt := 10) hx hb (fk_get fk_cX9_readAll_0 3 rfl) (by decide) (fun c_6 => ?_) (fun c_6 => ?_)
  · refine lv_iconst (v := 0) hx hb (fk_get fk_cX9_readAll_0 6 rfl) (by decide) ?_
    refine lv_istore_n (lv' := [(2, .int (0)), (0, .ref (ad 57)), (1, .int (4))]) hx hb (fk_get fk_cX9_readAll_0 7 rfl) rfl hl (by decide) rfl (fun ls hl => ?_)
    have lp_7 : ∀ (fu : Nat) (c : Nat) (SL12 : FS) (H_9 : Heap) (locs_10 : List Loc) (ls : Array Slot),  (XI SL12) → (Fr (fun j k => (j = 57 ∧ (k = 2 ∨ k = 3 ∨ k = 4 ∨ k = 7 ∨ k = 8)) ∨ ((j = 59 ∨ j = 60) ∧ k = 99)) S SL12) → (c ≤ 100) → (100 < c + fu) → va_P G.1 vwCl (wX G ad SL12) H_9 → va_D A (wX G ad SL12) → va_S A s.heap H_9 locs_10 → lv_has ls 3 [(2, .int ((nI c))), (0, .ref (ad 57)), (1, .int (4))] → W p l e ({ frames := 8, cells := 0, slots := 0, locals := 225 } : Room) s m args below meth c₀ H_9 locs_10 0 0 Q (F0 m 12 ls []) := by
      intro fu
      induction fu with
      | zero =>
        intro c SL12 H_9 locs_10 ls hXl12 hFl12 hk hf hP hD hS hl
        exact absurd hf (by omega)
      | succ fu ih =>
        intro c SL12 H_9 locs_10 ls hXl12 hFl12 hk hf hP hD hS hl
        refine lv_iload_n hx hb (fk_get fk_cX9_readAll_0 8 rfl) rfl (lv_at hl 0 rfl) ?_
        refine lv_bipush (v := 100) hx hb (fk_get fk_cX9_readAll_0 9 rfl) (by decide) ?_
        refine lv_icmp_ge (tgt := 53) hx hb (fk_get fk_cX9_readAll_0 10 rfl) (by decide) (fun c_11 => ?_) (fun c_11 => ?_)
        · have q_c_11 : 100 ≤ c := ci_le (a := 100) (b := c) (by omega) (by omega) c_11
          refine lv_iconst (v := 1) hx hb (fk_get fk_cX9_readAll_0 28 rfl) (by decide) ?_
          subst hQ
          have hpost : XI SL12 ∧ Fr (fun j k => (j = 57 ∧ (k = 2 ∨ k = 3 ∨ k = 4 ∨ k = 7 ∨ k = 8)) ∨ ((j = 59 ∨ j = 60) ∧ k = 99)) S SL12 ∧ ((1 : Int32) = 0 ∨ (1 : Int32) = 1) := by
            exact ⟨hXl12, hFl12, (by first | exact Or.inl rfl | exact Or.inr rfl)⟩
          exact W.zret (v := 1) hx hb hr rfl (fun t_ ht_ hW_ => ⟨⟨1, SL12, rfl, hpost, by rw [ht_]; exact hP, va_K.moved hW_.alike hK, hD⟩, hS.F ht_⟩) hS.2.2 (fk_get fk_cX9_readAll_0 29 rfl)
        have q_c_11 : c < 100 := ci_nle (a := 100) (b := c) (by omega) (by omega) c_11
        refine lv_aload_n hx hb (fk_get fk_cX9_readAll_0 11 rfl) rfl (lv_at hl 1 rfl) ?_
        refine lv_bipush (v := 38) hx hb (fk_get fk_cX9_readAll_0 12 rfl) (by decide) ?_
        have hFc := va_self hD hS hA
        refine va_calli (va_runV (As := [.int (38)]) (rest := []) ⟨hx, hb, hml, hown, hT⟩ (c_x9_takes l G ad SL12 H_9.size (38) (hXl12)) (tV 1 hT m2_213 m2_215 mp_0 m1_12 m2_216 rfl rfl (by decide +kernel) ⟨Nat.le_of_ble_eq_true rfl, Nat.le_of_ble_eq_true rfl⟩) ⟨PcW_blind, va_recv hK hP (ci := 11) (q0 := 57) rfl (ix_at (lt71 (by omega)) (cX_text G ad SL12)), PcW_of hP hK hD _⟩ rfl rfl hl.1 rfl (lv_room (Nat.le_of_ble_eq_true rfl)) (fk_get fk_cX9_readAll_0 13 rfl) ⟨Nat.zero_le _, Nat.zero_le _⟩) hS (fun q _ h => hFc q h) hFc (fun r_12 S_14 t_ H locs ht_ hvm_ hw_13 hB_ hz_ hk_ hS => ?_)
        obtain ⟨hP, -, hD1_⟩ := hB_
        rw [ht_] at hP
        have hD : va_D A (wX G ad S_14) := hD1_.weaken (fun k q _ h => hFc q.1 h)
        try dsimp only at hw_13
        obtain ⟨hX_15, hF_16_, hw_13⟩ := hw_13
        have hF_16 : Fr (fun j k => (j = 57 ∧ (k = 2 ∨ k = 3 ∨ k = 4 ∨ k = 7 ∨ k = 8)) ∨ ((j = 59 ∨ j = 60) ∧ k = 99)) S S_14 := Fr.trans hFl12 (Fr.mono hF_16_ (fun j k h => by omega))
        refine lv_if_eq (tgt := 53) hx hb (fk_get fk_cX9_readAll_0 14 rfl) (by decide) (fun c_17 => ?_) (fun c_17 => ?_)
        · refine lv_iconst (v := 1) hx hb (fk_get fk_cX9_readAll_0 28 rfl) (by decide) ?_
          subst hQ
          have hpost : XI S_14 ∧ Fr (fun j k => (j = 57 ∧ (k = 2 ∨ k = 3 ∨ k = 4 ∨ k = 7 ∨ k = 8)) ∨ ((j = 59 ∨ j = 60) ∧ k = 99)) S S_14 ∧ ((1 : Int32) = 0 ∨ (1 : Int32) = 1) := by
            exact ⟨hX_15, hF_16, (by first | exact Or.inl rfl | exact Or.inr rfl)⟩
          exact W.zret (v := 1) hx hb hr rfl (fun t_ ht_ hW_ => ⟨⟨1, S_14, rfl, hpost, by rw [ht_]; exact hP, va_K.moved hW_.alike hK, hD⟩, hS.F ht_⟩) hS.2.2 (fk_get fk_cX9_readAll_0 29 rfl)
        refine lv_aload_n hx hb (fk_get fk_cX9_readAll_0 15 rfl) rfl (lv_at hl 1 rfl) ?_
        refine lv_iload_n hx hb (fk_get fk_cX9_readAll_0 16 rfl) rfl (lv_at hl 2 rfl) ?_
        have hFc := va_self hD hS hA
        refine va_calli (va_runV (As := [.int (4)]) (rest := []) ⟨hx, hb, hml, hown, hT⟩ (c_x9_RO_4 l G ad S_14 H.size  (hX_15)) (tV 1 hT m3_64 m3_66 mp_8 m1_12 m3_67 rfl rfl (by decide +kernel) ⟨Nat.le_of_ble_eq_true rfl, Nat.le_of_ble_eq_true rfl⟩) ⟨PcE_blind, va_recv hK hP (ci := 11) (q0 := 57) rfl (ix_at (lt71 (by omega)) (cX_text G ad S_14)), PcE_of hP hK hD hE hS (fun q h => hFc q h) _⟩ rfl rfl hl.1 rfl (lv_room (Nat.le_of_ble_eq_true rfl)) (fk_get fk_cX9_readAll_0 17 rfl) ⟨Nat.zero_le _, Nat.zero_le _⟩) hS (fun q _ h => hFc q h) hFc (fun r_18 S_20 t_ H locs ht_ hvm_ hw_19 hB_ hz_ hk_ hS => ?_)
        obtain ⟨hP, -, hD1_⟩ := hB_
        rw [ht_] at hP
        have hD : va_D A (wX G ad S_20) := hD1_.weaken (fun k q _ h => hFc q.1 h)
        try dsimp only at hw_19
        obtain ⟨hX_21, hF_22_, hw_19⟩ := hw_19
        have hF_22 : Fr (fun j k => (j = 57 ∧ (k = 2 ∨ k = 3 ∨ k = 4 ∨ k = 7 ∨ k = 8)) ∨ ((j = 59 ∨ j = 60) ∧ k = 99)) S S_20 := Fr.trans hF_16 (Fr.mono hF_22_ (fun j k h => by omega))
        refine lv_if_eq (tgt := 45) hx hb (fk_get fk_cX9_readAll_0 18 rfl) (by decide) (fun c_23 => ?_) (fun c_23 => ?_)
        · refine lv_iconst (v := 0) hx hb (fk_get fk_cX9_readAll_0 24 rfl) (by decide) ?_
          subst hQ
          have hpost : XI S_20 ∧ Fr (fun j k => (j = 57 ∧ (k = 2 ∨ k = 3 ∨ k = 4 ∨ k = 7 ∨ k = 8)) ∨ ((j = 59 ∨ j = 60) ∧ k = 99)) S S_20 ∧ ((0 : Int32) = 0 ∨ (0 : Int32) = 1) := by
            exact ⟨hX_21, hF_22, (by first | exact Or.inl rfl | exact Or.inr rfl)⟩
          exact W.zret (v := 0) hx hb hr rfl (fun t_ ht_ hW_ => ⟨⟨0, S_20, rfl, hpost, by rw [ht_]; exact hP, va_K.moved hW_.alike hK, hD⟩, hS.F ht_⟩) hS.2.2 (fk_get fk_cX9_readAll_0 25 rfl)
        refine lv_aload_n hx hb (fk_get fk_cX9_readAll_0 19 rfl) rfl (lv_at hl 1 rfl) ?_
        refine lv_bipush (v := 19) hx hb (fk_get fk_cX9_readAll_0 20 rfl) (by decide) ?_
        refine lv_iconst (v := 0) hx hb (fk_get fk_cX9_readAll_0 21 rfl) (by decide) ?_
        have hFc := va_self hD hS hA
        refine va_calli (va_runV (As := [.int (19), .int (0)]) (rest := []) ⟨hx, hb, hml, hown, hT⟩ (c_x9_putCode l G ad S_20 H.size (19) (0) (hX_21)) (tV 2 hT m3_68 m3_70 mp_9 m1_12 m3_71 rfl rfl (by decide +kernel) ⟨Nat.le_of_ble_eq_true rfl, Nat.le_of_ble_eq_true rfl⟩) ⟨PcW_blind, va_recv hK hP (ci := 11) (q0 := 57) rfl (ix_at (lt71 (by omega)) (cX_text G ad S_20)), PcW_of hP hK hD _⟩ rfl rfl hl.1 rfl (lv_room (Nat.le_of_ble_eq_true rfl)) (fk_get fk_cX9_readAll_0 22 rfl) ⟨Nat.zero_le _, Nat.zero_le _⟩) hS (fun q _ h => hFc q h) hFc (fun r_24 S_26 t_ H locs ht_ hvm_ hw_25 hB_ hz_ hk_ hS => ?_)
        obtain ⟨hP, -, hD1_⟩ := hB_
        rw [ht_] at hP
        have hD : va_D A (wX G ad S_26) := hD1_.weaken (fun k q _ h => hFc q.1 h)
        try dsimp only at hw_25
        obtain ⟨hX_27, hF_28_, hw_25⟩ := hw_25
        have hF_28 : Fr (fun j k => (j = 57 ∧ (k = 2 ∨ k = 3 ∨ k = 4 ∨ k = 7 ∨ k = 8)) ∨ ((j = 59 ∨ j = 60) ∧ k = 99)) S S_26 := Fr.trans hF_22 (Fr.mono hF_28_ (fun j k h => by omega))
        refine lv_if_ne (tgt := 47) hx hb (fk_get fk_cX9_readAll_0 23 rfl) (by decide) (fun c_29 => ?_) (fun c_29 => ?_)
        · refine lv_iinc (v := (nI (c + 1))) (lv' := [(2, .int ((nI (c + 1)))), (0, .ref (ad 57)), (1, .int (4))]) hx hb (fk_get fk_cX9_readAll_0 26 rfl) hl (k := 0) rfl ((nI_1 c)) (by decide) rfl (fun ls hl => ?_)
          refine lv_goto (tgt := 12) hx hb (fk_get fk_cX9_readAll_0 27 rfl) (by decide) ?_
          exact ih (c + 1) (S_26) _ _ ls (hX_27) (hF_28) (by omega) (by omega) hP hD hS (lv_sub hl [0, 1, 2] rfl)
        refine lv_iconst (v := 0) hx hb (fk_get fk_cX9_readAll_0 24 rfl) (by decide) ?_
        subst hQ
        have hpost : XI S_26 ∧ Fr (fun j k => (j = 57 ∧ (k = 2 ∨ k = 3 ∨ k = 4 ∨ k = 7 ∨ k = 8)) ∨ ((j = 59 ∨ j = 60) ∧ k = 99)) S S_26 ∧ ((0 : Int32) = 0 ∨ (0 : Int32) = 1) := by
          exact ⟨hX_27, hF_28, (by first | exact Or.inl rfl | exact Or.inr rfl)⟩
        exact W.zret (v := 0) hx hb hr rfl (fun t_ ht_ hW_ => ⟨⟨0, S_26, rfl, hpost, by rw [ht_]; exact hP, va_K.moved hW_.alike hK, hD⟩, hS.F ht_⟩) hS.2.2 (fk_get fk_cX9_readAll_0 25 rfl)
    exact lp_7 (100 + 1) (0) (S_3) _ _ ls (hX_4) (hF_5) (by omega) (by omega) hP hD hS (lv_sub hl [0, 1, 2] rfl)
  refine lv_iconst (v := 0) hx hb (fk_get fk_cX9_readAll_0 4 rfl) (by decide) ?_
  subst hQ
  have hpost : XI S_3 ∧ Fr (fun j k => (j = 57 ∧ (k = 2 ∨ k = 3 ∨ k = 4 ∨ k = 7 ∨ k = 8)) ∨ ((j = 59 ∨ j = 60) ∧ k = 99)) S S_3 ∧ ((0 : Int32) = 0 ∨ (0 : Int32) = 1) := by
    exact ⟨hX_4, hF_5, (by first | exact Or.inl rfl | exact Or.inr rfl)⟩
  exact W.zret (v := 0) hx hb hr rfl (fun t_ ht_ hW_ => ⟨⟨0, S_3, rfl, hpost, by rw [ht_]; exact hP, va_K.moved hW_.alike hK, hD⟩, hS.F ht_⟩) hS.2.2 (fk_get fk_cX9_readAll_0 5 rfl)
set_option maxHeartbeats 800000 in
set_option maxRecDepth 100000 in
theorem c_x9_RY_4 (l : Launch) (G : GG) (ad : Nat → Nat) (S : FS) (sz : Nat)  (hX : XI S) : Met l yX9_readAny (Cond.code yX9_readAny cX9_readAny 3 (some .boolean) :: TBL) ({ frames := 9, cells := 0, slots := 0, locals := 251 } : Room) (PcE G (wX G ad S) sz [.ref (ad 57), .int (4)]) (va_Qi (fun (r : Int32) (S' : FS) => XI S' ∧ Fr (fun j k => (j = 57 ∧ (k = 2 ∨ k = 3 ∨ k = 4 ∨ k = 7 ∨ k = 8)) ∨ ((j = 59 ∨ j = 60) ∧ k = 99)) S S' ∧ (r = 0 ∨ r = 1)) (fun S' t => BW G (va_A (wX G ad S) sz) (wX G ad S') t) (va_A (wX G ad S) sz)) 0 0 (va_A (wX G ad S) sz) := by
  refine Met.ofW (cc := cX9_readAny) (maxL := 3) (ret := (some .boolean)) (by decide) rfl ?_
  intro p e s m args below meth c₀ s₁ B hml hv
  obtain ⟨rfl, hsz, hP, hK, hD0, hE⟩ := hv
  have hx := B.exec
  have hb := B.bytes
  have hr := B.returns
  have hT : ∀ w ∈ TBL, w.before ([.ref (ad 57), .int (4)] : List Value).toArray s = true := fun w h => atoms_spec (ws := Cond.code yX9_readAny cX9_readAny 3 (some .boolean) :: TBL) B.pre w (List.mem_cons_of_mem _ h)
  have hown : s.vm.findClass "LittleMore$Text" = some m.cls := findClass_of_methodNamed B.named
  have hlocks := B.notSynchronized
  subst hsz
  have hD := hD0.self (sz := s.heap.size)
  generalize hAe : va_A (wX G ad S) s.heap.size = A at hD hE ⊢
  have hA : ∀ q : Nat, s.heap.size ≤ q → A q := fun q h => by rw [← hAe]; exact Or.inr h
  have hS : va_S A s.heap s.heap [] := va_S.rf
  have hP : va_P G.1 vwCl (wX G ad S) s.heap := hP
  have hl := lv_entry ([.ref (ad 57), .int (4)]) (n := 3) (Nat.le_of_ble_eq_true rfl)
  rw [lg_entry_eq]
  generalize (lg_sl ([.ref (ad 57), .int (4)]) ++ List.replicate (3 - (lg_sl ([.ref (ad 57), .int (4)])).length) Slot.unset).toArray = ls at hl ⊢
  have hl : lv_has ls 3 [(0, .ref (ad 57)), (1, .int (4))] := hl
  refine W_abs (fun Q hQ => ?_)
  generalize ([.ref (ad 57), .int (4)] : List Value).toArray = args at hT hQ ⊢
  refine lv_aload_n hx hb (fk_get fk_cX9_readAny_0 0 rfl) rfl (lv_at hl 0 rfl) ?_
  refine lv_iload_n hx hb (fk_get fk_cX9_readAny_0 1 rfl) rfl (lv_at hl 1 rfl) ?_
  have hFc := va_self hD hS hA
  refine va_calli (va_runV (As := [.int (4)]) (rest := []) ⟨hx, hb, hml, hown, hT⟩ (c_x9_RA_4 l G ad S s.heap.size  (hX)) (tV 1 hT m3_60 m3_62 mp_7 m1_12 m3_63 rfl rfl (by decide +kernel) ⟨Nat.le_of_ble_eq_true rfl, Nat.le_of_ble_eq_true rfl⟩) ⟨PcE_blind, va_recv hK hP (ci := 11) (q0 := 57) rfl (ix_at (lt71 (by omega)) (cX_text G ad S)), PcE_of hP hK hD hE hS (fun q h => hFc q h) _⟩ rfl rfl hl.1 rfl (lv_room (Nat.le_of_ble_eq_true rfl)) (fk_get fk_cX9_readAny_0 2 rfl) ⟨Nat.zero_le _, Nat.zero_le _⟩) hS (fun q _ h => hFc q h) hFc (fun r_1 S_3 t_ H locs ht_ hvm_ hw_2 hB_ hz_ hk_ hS => ?_)
  obtain ⟨hP, -, hD1_⟩ := hB_
  rw [ht_] at hP
  have hD : va_D A (wX G ad S_3) := hD1_.weaken (fun k q _ h => hFc q.1 h)
  try dsimp only at hw_2
  obtain ⟨hX_4, hF_5_, hw_2⟩ := hw_2
  have hF_5 : Fr (fun j k => (j = 57 ∧ (k = 2 ∨ k = 3 ∨ k = 4 ∨ k = 7 ∨ k = 8)) ∨ ((j = 59 ∨ j = 60) ∧ k = 99)) S S_3 := Fr.trans (Fr.rf : Fr (fun j k => (j = 57 ∧ (k = 2 ∨ k = 3 ∨ k = 4 ∨ k = 7 ∨ k = 8)) ∨ ((j = 59 ∨ j = 60) ∧ k = 99)) S S) (Fr.mono hF_5_ (fun j k h => by omega))
  refine lv_if_ne (tgt := 10) hx hb (fk_get fk_cX9_readAny_0 3 rfl) (by decide) (fun c_6 => ?_) (fun c_6 => ?_)
  · refine lv_iconst (v := 0) hx hb (fk_get fk_cX9_readAny_0 6 rfl) (by decide) ?_
    refine lv_istore_n (lv' := [(2, .int (0)), (0, .ref (ad 57)), (1, .int (4))]) hx hb (fk_get fk_cX9_readAny_0 7 rfl) rfl hl (by decide) rfl (fun ls hl => ?_)
    have lp_7 : ∀ (fu : Nat) (c : Nat) (SL12 : FS) (H_9 : Heap) (locs_10 : List Loc) (ls : Array Slot),  (XI SL12) → (Fr (fun j k => (j = 57 ∧ (k = 2 ∨ k = 3 ∨ k = 4 ∨ k = 7 ∨ k = 8)) ∨ ((j = 59 ∨ j = 60) ∧ k = 99)) S SL12) → (c ≤ 100) → (100 < c + fu) → va_P G.1 vwCl (wX G ad SL12) H_9 → va_D A (wX G ad SL12) → va_S A s.heap H_9 locs_10 → lv_has ls 3 [(2, .int ((nI c))), (0, .ref (ad 57)), (1, .int (4))] → W p l e ({ frames := 9, cells := 0, slots := 0, locals := 251 } : Room) s m args below meth c₀ H_9 locs_10 0 0 Q (F0 m 12 ls []) := by
      intro fu
      induction fu with
      | zero =>
        intro c SL12 H_9 locs_10 ls hXl12 hFl12 hk hf hP hD hS hl
        exact absurd hf (by omega)
      | succ fu ih =>
        intro c SL12 H_9 locs_10 ls hXl12 hFl12 hk hf hP hD hS hl
        refine lv_iload_n hx hb (fk_get fk_cX9_readAny_0 8 rfl) rfl (lv_at hl 0 rfl) ?_
        refine lv_bipush (v := 100) hx hb (fk_get fk_cX9_readAny_0 9 rfl) (by decide) ?_
        refine lv_icmp_ge (tgt := 53) hx hb (fk_get fk_cX9_readAny_0 10 rfl) (by decide) (fun c_11 => ?_) (fun c_11 => ?_)
        · have q_c_11 : 100 ≤ c := ci_le (a := 100) (b := c) (by omega) (by omega) c_11
          refine lv_iconst (v := 1) hx hb (fk_get fk_cX9_readAny_0 28 rfl) (by decide) ?_
          subst hQ
          have hpost : XI SL12 ∧ Fr (fun j k => (j = 57 ∧ (k = 2 ∨ k = 3 ∨ k = 4 ∨ k = 7 ∨ k = 8)) ∨ ((j = 59 ∨ j = 60) ∧ k = 99)) S SL12 ∧ ((1 : Int32) = 0 ∨ (1 : Int32) = 1) := by
            exact ⟨hXl12, hFl12, (by first | exact Or.inl rfl | exact Or.inr rfl)⟩
          exact W.zret (v := 1) hx hb hr rfl (fun t_ ht_ hW_ => ⟨⟨1, SL12, rfl, hpost, by rw [ht_]; exact hP, va_K.moved hW_.alike hK, hD⟩, hS.F ht_⟩) hS.2.2 (fk_get fk_cX9_readAny_0 29 rfl)
        have q_c_11 : c < 100 := ci_nle (a := 100) (b := c) (by omega) (by omega) c_11
        refine lv_aload_n hx hb (fk_get fk_cX9_readAny_0 11 rfl) rfl (lv_at hl 1 rfl) ?_
        refine lv_bipush (v := 124) hx hb (fk_get fk_cX9_readAny_0 12 rfl) (by decide) ?_
        have hFc := va_self hD hS hA
        refine va_calli (va_runV (As := [.int (124)]) (rest := []) ⟨hx, hb, hml, hown, hT⟩ (c_x9_takes l G ad SL12 H_9.size (124) (hXl12)) (tV 1 hT m2_213 m2_215 mp_0 m1_12 m2_216 rfl rfl (by decide +kernel) ⟨Nat.le_of_ble_eq_true rfl, Nat.le_of_ble_eq_true rfl⟩) ⟨PcW_blind, va_recv hK hP (ci := 11) (q0 := 57) rfl (ix_at (lt71 (by omega)) (cX_text G ad SL12)), PcW_of hP hK hD _⟩ rfl rfl hl.1 rfl (lv_room (Nat.le_of_ble_eq_true rfl)) (fk_get fk_cX9_readAny_0 13 rfl) ⟨Nat.zero_le _, Nat.zero_le _⟩) hS (fun q _ h => hFc q h) hFc (fun r_12 S_14 t_ H locs ht_ hvm_ hw_13 hB_ hz_ hk_ hS => ?_)
        obtain ⟨hP, -, hD1_⟩ := hB_
        rw [ht_] at hP
        have hD : va_D A (wX G ad S_14) := hD1_.weaken (fun k q _ h => hFc q.1 h)
        try dsimp only at hw_13
        obtain ⟨hX_15, hF_16_, hw_13⟩ := hw_13
        have hF_16 : Fr (fun j k => (j = 57 ∧ (k = 2 ∨ k = 3 ∨ k = 4 ∨ k = 7 ∨ k = 8)) ∨ ((j = 59 ∨ j = 60) ∧ k = 99)) S S_14 := Fr.trans hFl12 (Fr.mono hF_16_ (fun j k h => by omega))
        refine lv_if_eq (tgt := 53) hx hb (fk_get fk_cX9_readAny_0 14 rfl) (by decide) (fun c_17 => ?_) (fun c_17 => ?_)
        · refine lv_iconst (v := 1) hx hb (fk_get fk_cX9_readAny_0 28 rfl) (by decide) ?_
          subst hQ
          have hpost : XI S_14 ∧ Fr (fun j k => (j = 57 ∧ (k = 2 ∨ k = 3 ∨ k = 4 ∨ k = 7 ∨ k = 8)) ∨ ((j = 59 ∨ j = 60) ∧ k = 99)) S S_14 ∧ ((1 : Int32) = 0 ∨ (1 : Int32) = 1) := by
            exact ⟨hX_15, hF_16, (by first | exact Or.inl rfl | exact Or.inr rfl)⟩
          exact W.zret (v := 1) hx hb hr rfl (fun t_ ht_ hW_ => ⟨⟨1, S_14, rfl, hpost, by rw [ht_]; exact hP, va_K.moved hW_.alike hK, hD⟩, hS.F ht_⟩) hS.2.2 (fk_get fk_cX9_readAny_0 29 rfl)
        refine lv_aload_n hx hb (fk_get fk_cX9_readAny_0 15 rfl) rfl (lv_at hl 1 rfl) ?_
        refine lv_iload_n hx hb (fk_get fk_cX9_readAny_0 16 rfl) rfl (lv_at hl 2 rfl) ?_
        have hFc := va_self hD hS hA
        refine va_calli (va_runV (As := [.int (4)]) (rest := []) ⟨hx, hb, hml, hown, hT⟩ (c_x9_RA_4 l G ad S_14 H.size  (hX_15)) (tV 1 hT m3_60 m3_62 mp_7 m1_12 m3_63 rfl rfl (by decide +kernel) ⟨Nat.le_of_ble_eq_true rfl, Nat.le_of_ble_eq_true rfl⟩) ⟨PcE_blind, va_recv hK hP (ci := 11) (q0 := 57) rfl (ix_at (lt71 (by omega)) (cX_text G ad S_14)), PcE_of hP hK hD hE hS (fun q h => hFc q h) _⟩ rfl rfl hl.1 rfl (lv_room (Nat.le_of_ble_eq_true rfl)) (fk_get fk_cX9_readAny_0 17 rfl) ⟨Nat.zero_le _, Nat.zero_le _⟩) hS (fun q _ h => hFc q h) hFc (fun r_18 S_20 t_ H locs ht_ hvm_ hw_19 hB_ hz_ hk_ hS => ?_)
        obtain ⟨hP, -, hD1_⟩ := hB_
        rw [ht_] at hP
        have hD : va_D A (wX G ad S_20) := hD1_.weaken (fun k q _ h => hFc q.1 h)
        try dsimp only at hw_19
        obtain ⟨hX_21, hF_22_, hw_19⟩ := hw_19
        have hF_22 : Fr (fun j k => (j = 57 ∧ (k = 2 ∨ k = 3 ∨ k = 4 ∨ k = 7 ∨ k = 8)) ∨ ((j = 59 ∨ j = 60) ∧ k = 99)) S S_20 := Fr.trans hF_16 (Fr.mono hF_22_ (fun j k h => by omega))
        refine lv_if_eq (tgt := 45) hx hb (fk_get fk_cX9_readAny_0 18 rfl) (by decide) (fun c_23 => ?_) (fun c_23 => ?_)
        · refine lv_iconst (v := 0) hx hb (fk_get fk_cX9_readAny_0 24 rfl) (by decide) ?_
          subst hQ
          have hpost : XI S_20 ∧ Fr (fun j k => (j = 57 ∧ (k = 2 ∨ k = 3 ∨ k = 4 ∨ k = 7 ∨ k = 8)) ∨ ((j = 59 ∨ j = 60) ∧ k = 99)) S S_20 ∧ ((0 : Int32) = 0 ∨ (0 : Int32) = 1) := by
            exact ⟨hX_21, hF_22, (by first | exact Or.inl rfl | exact Or.inr rfl)⟩
          exact W.zret (v := 0) hx hb hr rfl (fun t_ ht_ hW_ => ⟨⟨0, S_20, rfl, hpost, by rw [ht_]; exact hP, va_K.moved hW_.alike hK, hD⟩, hS.F ht_⟩) hS.2.2 (fk_get fk_cX9_readAny_0 25 rfl)
        refine lv_aload_n hx hb (fk_get fk_cX9_readAny_0 19 rfl) rfl (lv_at hl 1 rfl) ?_
        refine lv_bipush (v := 20) hx hb (fk_get fk_cX9_readAny_0 20 rfl) (by decide) ?_
        refine lv_iconst (v := 0) hx hb (fk_get fk_cX9_readAny_0 21 rfl) (by decide) ?_
        have hFc := va_self hD hS hA
        refine va_calli (va_runV (As := [.int (20), .int (0)]) (rest := []) ⟨hx, hb, hml, hown, hT⟩ (c_x9_putCode l G ad S_20 H.size (20) (0) (hX_21)) (tV 2 hT m3_68 m3_70 mp_9 m1_12 m3_71 rfl rfl (by decide +kernel) ⟨Nat.le_of_ble_eq_true rfl, Nat.le_of_ble_eq_true rfl⟩) ⟨PcW_blind, va_recv hK hP (ci := 11) (q0 := 57) rfl (ix_at (lt71 (by omega)) (cX_text G ad S_20)), PcW_of hP hK hD _⟩ rfl rfl hl.1 rfl (lv_room (Nat.le_of_ble_eq_true rfl)) (fk_get fk_cX9_readAny_0 22 rfl) ⟨Nat.zero_le _, Nat.zero_le _⟩) hS (fun q _ h => hFc q h) hFc (fun r_24 S_26 t_ H locs ht_ hvm_ hw_25 hB_ hz_ hk_ hS => ?_)
        obtain ⟨hP, -, hD1_⟩ := hB_
        rw [ht_] at hP
        have hD : va_D A (wX G ad S_26) := hD1_.weaken (fun k q _ h => hFc q.1 h)
        try dsimp only at hw_25
        obtain ⟨hX_27, hF_28_, hw_25⟩ := hw_25
        have hF_28 : Fr (fun j k => (j = 57 ∧ (k = 2 ∨ k = 3 ∨ k = 4 ∨ k = 7 ∨ k = 8)) ∨ ((j = 59 ∨ j = 60) ∧ k = 99)) S S_26 := Fr.trans hF_22 (Fr.mono hF_28_ (fun j k h => by omega))
        refine lv_if_ne (tgt := 47) hx hb (fk_get fk_cX9_readAny_0 23 rfl) (by decide) (fun c_29 => ?_) (fun c_29 => ?_)
        · refine lv_iinc (v := (nI (c + 1))) (lv' := [(2, .int ((nI (c + 1)))), (0, .ref (ad 57)), (1, .int (4))]) hx hb (fk_get fk_cX9_readAny_0 26 rfl) hl (k := 0) rfl ((nI_1 c)) (by decide) rfl (fun ls hl => ?_)
          refine lv_goto (tgt := 12) hx hb (fk_get fk_cX9_readAny_0 27 rfl) (by decide) ?_
          exact ih (c + 1) (S_26) _ _ ls (hX_27) (hF_28) (by omega) (by omega) hP hD hS (lv_sub hl [0, 1, 2] rfl)
        refine lv_iconst (v := 0) hx hb (fk_get fk_cX9_readAny_0 24 rfl) (by decide) ?_
        subst hQ
        have hpost : XI S_26 ∧ Fr (fun j k => (j = 57 ∧ (k = 2 ∨ k = 3 ∨ k = 4 ∨ k = 7 ∨ k = 8)) ∨ ((j = 59 ∨ j = 60) ∧ k = 99)) S S_26 ∧ ((0 : Int32) = 0 ∨ (0 : Int32) = 1) := by
          exact ⟨hX_27, hF_28, (by first | exact Or.inl rfl | exact Or.inr rfl)⟩
        exact W.zret (v := 0) hx hb hr rfl (fun t_ ht_ hW_ => ⟨⟨0, S_26, rfl, hpost, by rw [ht_]; exact hP, va_K.moved hW_.alike hK, hD⟩, hS.F ht_⟩) hS.2.2 (fk_get fk_cX9_readAny_0 25 rfl)
    exact lp_7 (100 + 1) (0) (S_3) _ _ ls (hX_4) (hF_5) (by omega) (by omega) hP hD hS (lv_sub hl [0, 1, 2] rfl)
  refine lv_iconst (v := 0) hx hb (fk_get fk_cX9_readAny_0 4 rfl) (by decide) ?_
  subst hQ
  have hpost : XI S_3 ∧ Fr (fun j k => (j = 57 ∧ (k = 2 ∨ k = 3 ∨ k = 4 ∨ k = 7 ∨ k = 8)) ∨ ((j = 59 ∨ j = 60) ∧ k = 99)) S S_3 ∧ ((0 : Int32) = 0 ∨ (0 : Int32) = 1) := by
    exact ⟨hX_4, hF_5, (by first | exact Or.inl rfl | exact Or.inr rfl)⟩
  exact W.zret (v := 0) hx hb hr rfl (fun t_ ht_ hW_ => ⟨⟨0, S_3, rfl, hpost, by rw [ht_]; exact hP, va_K.moved hW_.alike hK, hD⟩, hS.F ht_⟩) hS.2.2 (fk_get fk_cX9_readAny_0 5 rfl)
set_option maxHeartbeats 800000 in
set_option maxRecDepth 100000 in
theorem c_x9_RO_3 (l : Launch) (G : GG) (ad : Nat → Nat) (S : FS) (sz : Nat)  (hX : XI S) : Met l yX9_readOne (Cond.code yX9_readOne cX9_readOne 4 (some .boolean) :: TBL) ({ frames := 10, cells := 0, slots := 0, locals := 277 } : Room) (PcE G (wX G ad S) sz [.ref (ad 57), .int (3)]) (va_Qi (fun (r : Int32) (S' : FS) => XI S' ∧ Fr (fun j k => (j = 57 ∧ (k = 2 ∨ k = 3 ∨ k = 4 ∨ k = 7 ∨ k = 8)) ∨ ((j = 59 ∨ j = 60) ∧ k = 99)) S S' ∧ (r = 0 ∨ r = 1)) (fun S' t => BW G (va_A (wX G ad S) sz) (wX G ad S') t) (va_A (wX G ad S) sz)) 0 0 (va_A (wX G ad S) sz) := by
  refine Met.ofW (cc := cX9_readOne) (maxL := 4) (ret := (some .boolean)) (by decide) rfl ?_
  intro p e s m args below meth c₀ s₁ B hml hv
  obtain ⟨rfl, hsz, hP, hK, hD0, hE⟩ := hv
  have hx := B.exec
  have hb := B.bytes
  have hr := B.returns
  have hT : ∀ w ∈ TBL, w.before ([.ref (ad 57), .int (3)] : List Value).toArray s = true := fun w h => atoms_spec (ws := Cond.code yX9_readOne cX9_readOne 4 (some .boolean) :: TBL) B.pre w (List.mem_cons_of_mem _ h)
  have hown : s.vm.findClass "LittleMore$Text" = some m.cls := findClass_of_methodNamed B.named
  have hlocks := B.notSynchronized
  subst hsz
  have hD := hD0.self (sz := s.heap.size)
  generalize hAe : va_A (wX G ad S) s.heap.size = A at hD hE ⊢
  have hA : ∀ q : Nat, s.heap.size ≤ q → A q := fun q h => by rw [← hAe]; exact Or.inr h
  have hS : va_S A s.heap s.heap [] := va_S.rf
  have hP : va_P G.1 vwCl (wX G ad S) s.heap := hP
  have hl := lv_entry ([.ref (ad 57), .int (3)]) (n := 4) (Nat.le_of_ble_eq_true rfl)
  rw [lg_entry_eq]
  generalize (lg_sl ([.ref (ad 57), .int (3)]) ++ List.replicate (4 - (lg_sl ([.ref (ad 57), .int (3)])).length) Slot.unset).toArray = ls at hl ⊢
  have hl : lv_has ls 4 [(0, .ref (ad 57)), (1, .int (3))] := hl
  refine W_abs (fun Q hQ => ?_)
  generalize ([.ref (ad 57), .int (3)] : List Value).toArray = args at hT hQ ⊢
  refine lv_iload_n hx hb (fk_get fk_cX9_readOne_0 0 rfl) rfl (lv_at hl 1 rfl) ?_
  refine lv_iconst (v := 4) hx hb (fk_get fk_cX9_readOne_0 1 rfl) (by decide) ?_
  refine lv_icmp_ge (tgt := 40) hx hb (fk_get fk_cX9_readOne_0 2 rfl) (by decide) (fun c_1 => absurd c_1 ((by decide))) (fun _ => ?_)
  refine lv_aload_n hx hb (fk_get fk_cX9_readOne_0 3 rfl) rfl (lv_at hl 0 rfl) ?_
  refine lv_bipush (v := 33) hx hb (fk_get fk_cX9_readOne_0 4 rfl) (by decide) ?_
  have hFc := va_self hD hS hA
  refine va_calli (va_runV (As := [.int (33)]) (rest := []) ⟨hx, hb, hml, hown, hT⟩ (c_x9_takes l G ad S s.heap.size (33) (hX)) (tV 1 hT m2_213 m2_215 mp_0 m1_12 m2_216 rfl rfl (by decide +kernel) ⟨Nat.le_of_ble_eq_true rfl, Nat.le_of_ble_eq_true rfl⟩) ⟨PcW_blind, va_recv hK hP (ci := 11) (q0 := 57) rfl (ix_at (lt71 (by omega)) (cX_text G ad S)), PcW_of hP hK hD _⟩ rfl rfl hl.1 rfl (lv_room (Nat.le_of_ble_eq_true rfl)) (fk_get fk_cX9_readOne_0 5 rfl) ⟨Nat.zero_le _, Nat.zero_le _⟩) hS (fun q _ h => hFc q h) hFc (fun r_2 S_4 t_ H locs ht_ hvm_ hw_3 hB_ hz_ hk_ hS => ?_)
  obtain ⟨hP, -, hD1_⟩ := hB_
  rw [ht_] at hP
  have hD : va_D A (wX G ad S_4) := hD1_.weaken (fun k q _ h => hFc q.1 h)
  try dsimp only at hw_3
  obtain ⟨hX_5, hF_6_, hw_3⟩ := hw_3
  have hF_6 : Fr (fun j k => (j = 57 ∧ (k = 2 ∨ k = 3 ∨ k = 4 ∨ k = 7 ∨ k = 8)) ∨ ((j = 59 ∨ j = 60) ∧ k = 99)) S S_4 := Fr.trans (Fr.rf : Fr (fun j k => (j = 57 ∧ (k = 2 ∨ k = 3 ∨ k = 4 ∨ k = 7 ∨ k = 8)) ∨ ((j = 59 ∨ j = 60) ∧ k = 99)) S S) (Fr.mono hF_6_ (fun j k h => by omega))
  refine lv_if_eq (tgt := 40) hx hb (fk_get fk_cX9_readOne_0 6 rfl) (by decide) (fun c_7 => ?_) (fun c_7 => ?_)
  · refine lv_iload_n hx hb (fk_get fk_cX9_readOne_0 22 rfl) rfl (lv_at hl 1 rfl) ?_
    refine lv_iconst (v := 4) hx hb (fk_get fk_cX9_readOne_0 23 rfl) (by decide) ?_
    refine lv_icmp_ge (tgt := 79) hx hb (fk_get fk_cX9_readOne_0 24 rfl) (by decide) (fun c_8 => absurd c_8 ((by decide))) (fun _ => ?_)
    refine lv_aload_n hx hb (fk_get fk_cX9_readOne_0 25 rfl) rfl (lv_at hl 0 rfl) ?_
    refine lv_bipush (v := 40) hx hb (fk_get fk_cX9_readOne_0 26 rfl) (by decide) ?_
    have hFc := va_self hD hS hA
    refine va_calli (va_runV (As := [.int (40)]) (rest := []) ⟨hx, hb, hml, hown, hT⟩ (c_x9_takes l G ad S_4 H.size (40) (hX_5)) (tV 1 hT m2_213 m2_215 mp_0 m1_12 m2_216 rfl rfl (by decide +kernel) ⟨Nat.le_of_ble_eq_true rfl, Nat.le_of_ble_eq_true rfl⟩) ⟨PcW_blind, va_recv hK hP (ci := 11) (q0 := 57) rfl (ix_at (lt71 (by omega)) (cX_text G ad S_4)), PcW_of hP hK hD _⟩ rfl rfl hl.1 rfl (lv_room (Nat.le_of_ble_eq_true rfl)) (fk_get fk_cX9_readOne_0 27 rfl) ⟨Nat.zero_le _, Nat.zero_le _⟩) hS (fun q _ h => hFc q h) hFc (fun r_9 S_11 t_ H locs ht_ hvm_ hw_10 hB_ hz_ hk_ hS => ?_)
    obtain ⟨hP, -, hD1_⟩ := hB_
    rw [ht_] at hP
    have hD : va_D A (wX G ad S_11) := hD1_.weaken (fun k q _ h => hFc q.1 h)
    try dsimp only at hw_10
    obtain ⟨hX_12, hF_13_, hw_10⟩ := hw_10
    have hF_13 : Fr (fun j k => (j = 57 ∧ (k = 2 ∨ k = 3 ∨ k = 4 ∨ k = 7 ∨ k = 8)) ∨ ((j = 59 ∨ j = 60) ∧ k = 99)) S S_11 := Fr.trans hF_6 (Fr.mono hF_13_ (fun j k h => by omega))
    refine lv_if_eq (tgt := 79) hx hb (fk_get fk_cX9_readOne_0 28 rfl) (by decide) (fun c_14 => ?_) (fun c_14 => ?_)
    · refine lv_aload_n hx hb (fk_get fk_cX9_readOne_1 11 rfl) rfl (lv_at hl 0 rfl) ?_
      refine va_ldcS (q := G.2.2.2 (310 + 4)) (tx := txS 4) hx hb hown (hE.2.2.2.2.1.2 4 (by omega)) (fk_get fk_cX9_readOne_1 12 rfl) ?_
      have hFc := va_self hD hS hA
      refine va_calli (va_runV (As := [.ref (G.2.2.2 (310 + 4))]) (rest := []) ⟨hx, hb, hml, hown, hT⟩ (c_x9_takesOneOf l G ad S_11 H.size (4) ((by omega : 4 < 6)) (hX_12)) (tV 1 hT m3_73 m3_75 mp_10 m1_12 m3_76 rfl rfl (by decide +kernel) ⟨Nat.le_of_ble_eq_true rfl, Nat.le_of_ble_eq_true rfl⟩) ⟨PcE_blind, va_recv hK hP (ci := 11) (q0 := 57) rfl (ix_at (lt71 (by omega)) (cX_text G ad S_11)), PcE_of hP hK hD hE hS (fun q h => hFc q h) _⟩ rfl rfl hl.1 rfl (lv_room (Nat.le_of_ble_eq_true rfl)) (fk_get fk_cX9_readOne_1 13 rfl) ⟨Nat.zero_le _, Nat.zero_le _⟩) hS (fun q _ h => hFc q h) hFc (fun r_15 S_17 t_ H locs ht_ hvm_ hw_16 hB_ hz_ hk_ hS => ?_)
      obtain ⟨hP, -, hD1_⟩ := hB_
      rw [ht_] at hP
      have hD : va_D A (wX G ad S_17) := hD1_.weaken (fun k q _ h => hFc q.1 h)
      try dsimp only at hw_16
      obtain ⟨hX_18, hF_19_, hw_16⟩ := hw_16
      have hF_19 : Fr (fun j k => (j = 57 ∧ (k = 2 ∨ k = 3 ∨ k = 4 ∨ k = 7 ∨ k = 8)) ∨ ((j = 59 ∨ j = 60) ∧ k = 99)) S S_17 := Fr.trans hF_13 (Fr.mono hF_19_ (fun j k h => by omega))
      refine lv_istore_n (lv' := [(2, .int (r_15)), (0, .ref (ad 57)), (1, .int (3))]) hx hb (fk_get fk_cX9_readOne_1 14 rfl) rfl hl (by decide) rfl (fun ls hl => ?_)
      refine lv_iload_n hx hb (fk_get fk_cX9_readOne_1 15 rfl) rfl (lv_at hl 0 rfl) ?_
      refine lv_if_ge (tgt := 94) hx hb (fk_get fk_cX9_readOne_1 16 rfl) (by decide) (fun c_20 => ?_) (fun c_20 => ?_)
      · refine lv_aload_n hx hb (fk_get fk_cX9_readOne_1 19 rfl) rfl (lv_at hl 1 rfl) ?_
        refine va_ldcS (q := G.2.2.2 (310 + 5)) (tx := txS 5) hx hb hown (hE.2.2.2.2.1.2 5 (by omega)) (fk_get fk_cX9_readOne_1 20 rfl) ?_
        have hFc := va_self hD hS hA
        refine va_calli (va_runV (As := [.ref (G.2.2.2 (310 + 5))]) (rest := []) ⟨hx, hb, hml, hown, hT⟩ (c_x9_takesOneOf l G ad S_17 H.size (5) ((by omega : 5 < 6)) (hX_18)) (tV 1 hT m3_73 m3_75 mp_10 m1_12 m3_76 rfl rfl (by decide +kernel) ⟨Nat.le_of_ble_eq_true rfl, Nat.le_of_ble_eq_true rfl⟩) ⟨PcE_blind, va_recv hK hP (ci := 11) (q0 := 57) rfl (ix_at (lt71 (by omega)) (cX_text G ad S_17)), PcE_of hP hK hD hE hS (fun q h => hFc q h) _⟩ rfl rfl hl.1 rfl (lv_room (Nat.le_of_ble_eq_true rfl)) (fk_get fk_cX9_readOne_1 21 rfl) ⟨Nat.zero_le _, Nat.zero_le _⟩) hS (fun q _ h => hFc q h) hFc (fun r_21 S_23 t_ H locs ht_ hvm_ hw_22 hB_ hz_ hk_ hS => ?_)
        obtain ⟨hP, -, hD1_⟩ := hB_
        rw [ht_] at hP
        have hD : va_D A (wX G ad S_23) := hD1_.weaken (fun k q _ h => hFc q.1 h)
        try dsimp only at hw_22
        obtain ⟨hX_24, hF_25_, hw_22⟩ := hw_22
        have hF_25 : Fr (fun j k => (j = 57 ∧ (k = 2 ∨ k = 3 ∨ k = 4 ∨ k = 7 ∨ k = 8)) ∨ ((j = 59 ∨ j = 60) ∧ k = 99)) S S_23 := Fr.trans hF_19 (Fr.mono hF_25_ (fun j k h => by omega))
        refine lv_istore_n (lv' := [(3, .int (r_21)), (2, .int (r_15)), (0, .ref (ad 57)), (1, .int (3))]) hx hb (fk_get fk_cX9_readOne_1 22 rfl) rfl hl (by decide) rfl (fun ls hl => ?_)
        refine lv_iload_n hx hb (fk_get fk_cX9_readOne_1 23 rfl) rfl (lv_at hl 0 rfl) ?_
        refine lv_if_lt (tgt := 132) hx hb (fk_get fk_cX9_readOne_1 24 rfl) (by decide) (fun c_26 => ?_) (fun c_26 => ?_)
        · refine lv_iconst (v := 0) hx hb (fk_get fk_cX9_readOne_2 8 rfl) (by decide) ?_
          subst hQ
          have hpost : XI S_23 ∧ Fr (fun j k => (j = 57 ∧ (k = 2 ∨ k = 3 ∨ k = 4 ∨ k = 7 ∨ k = 8)) ∨ ((j = 59 ∨ j = 60) ∧ k = 99)) S S_23 ∧ ((0 : Int32) = 0 ∨ (0 : Int32) = 1) := by
            exact ⟨hX_24, hF_25, (by first | exact Or.inl rfl | exact Or.inr rfl)⟩
          exact W.zret (v := 0) hx hb hr rfl (fun t_ ht_ hW_ => ⟨⟨0, S_23, rfl, hpost, by rw [ht_]; exact hP, va_K.moved hW_.alike hK, hD⟩, hS.F ht_⟩) hS.2.2 (fk_get fk_cX9_readOne_2 9 rfl)
        refine lv_aload_n hx hb (fk_get fk_cX9_readOne_1 25 rfl) rfl (lv_at hl 2 rfl) ?_
        have hFc := va_self hD hS hA
        refine va_calli (va_runV (As := []) (rest := []) ⟨hx, hb, hml, hown, hT⟩ (c_x9_readNumber l G ad S_23 H.size  (hX_24)) (tV 0 hT m3_49 m3_51 mp_5 m1_12 m3_52 rfl rfl (by decide +kernel) ⟨Nat.le_of_ble_eq_true rfl, Nat.le_of_ble_eq_true rfl⟩) ⟨PcW_blind, va_recv hK hP (ci := 11) (q0 := 57) rfl (ix_at (lt71 (by omega)) (cX_text G ad S_23)), PcW_of hP hK hD _⟩ rfl rfl hl.1 rfl (lv_room (Nat.le_of_ble_eq_true rfl)) (fk_get fk_cX9_readOne_1 26 rfl) ⟨Nat.zero_le _, Nat.zero_le _⟩) hS (fun q _ h => hFc q h) hFc (fun r_27 S_29 t_ H locs ht_ hvm_ hw_28 hB_ hz_ hk_ hS => ?_)
        obtain ⟨hP, -, hD1_⟩ := hB_
        rw [ht_] at hP
        have hD : va_D A (wX G ad S_29) := hD1_.weaken (fun k q _ h => hFc q.1 h)
        try dsimp only at hw_28
        obtain ⟨hX_30, hF_31_, hw_28⟩ := hw_28
        have hF_31 : Fr (fun j k => (j = 57 ∧ (k = 2 ∨ k = 3 ∨ k = 4 ∨ k = 7 ∨ k = 8)) ∨ ((j = 59 ∨ j = 60) ∧ k = 99)) S S_29 := Fr.trans hF_25 (Fr.mono hF_31_ (fun j k h => by omega))
        refine lv_if_eq (tgt := 132) hx hb (fk_get fk_cX9_readOne_1 27 rfl) (by decide) (fun c_32 => ?_) (fun c_32 => ?_)
        · refine lv_iconst (v := 0) hx hb (fk_get fk_cX9_readOne_2 8 rfl) (by decide) ?_
          subst hQ
          have hpost : XI S_29 ∧ Fr (fun j k => (j = 57 ∧ (k = 2 ∨ k = 3 ∨ k = 4 ∨ k = 7 ∨ k = 8)) ∨ ((j = 59 ∨ j = 60) ∧ k = 99)) S S_29 ∧ ((0 : Int32) = 0 ∨ (0 : Int32) = 1) := by
            exact ⟨hX_30, hF_31, (by first | exact Or.inl rfl | exact Or.inr rfl)⟩
          exact W.zret (v := 0) hx hb hr rfl (fun t_ ht_ hW_ => ⟨⟨0, S_29, rfl, hpost, by rw [ht_]; exact hP, va_K.moved hW_.alike hK, hD⟩, hS.F ht_⟩) hS.2.2 (fk_get fk_cX9_readOne_2 9 rfl)
        refine lv_aload_n hx hb (fk_get fk_cX9_readOne_1 28 rfl) rfl (lv_at hl 2 rfl) ?_
        refine lv_iload_n hx hb (fk_get fk_cX9_readOne_1 29 rfl) rfl (lv_at hl 1 rfl) ?_
        refine lv_iconst (v := 3) hx hb (fk_get fk_cX9_readOne_1 30 rfl) (by decide) ?_
        refine lv_imul hx hb (fk_get fk_cX9_readOne_1 31 rfl) ?_
        refine lv_iload_n hx hb (fk_get fk_cX9_readOne_2 0 rfl) rfl (lv_at hl 0 rfl) ?_
        refine lv_iadd hx hb (fk_get fk_cX9_readOne_2 1 rfl) ?_
        refine lv_aload_n hx hb (fk_get fk_cX9_readOne_2 2 rfl) rfl (lv_at hl 2 rfl) ?_
        refine va_get (D := G.1) (ci := 11) (v := .int (fF S_29 57 8)) (C := RX9) (T := TX9) (N := 9) hx hb hT inX9 hown hK hP 57 (ix_at (lt71 (by omega)) (cX_text G ad S_29)) rfl 8 (by decide) (hT _ m2_17) (fun _ h9 => h9) rfl (fk_get fk_cX9_readOne_2 3 rfl) ?_
        have hFc := va_self hD hS hA
        refine va_calli (va_runV (As := [.int (((r_15 * 3) + r_21)), .int ((fF S_29 57 8))]) (rest := []) ⟨hx, hb, hml, hown, hT⟩ (c_x9_putCode l G ad S_29 H.size (((r_15 * 3) + r_21)) ((fF S_29 57 8)) (hX_30)) (tV 2 hT m3_68 m3_70 mp_9 m1_12 m3_71 rfl rfl (by decide +kernel) ⟨Nat.le_of_ble_eq_true rfl, Nat.le_of_ble_eq_true rfl⟩) ⟨PcW_blind, va_recv hK hP (ci := 11) (q0 := 57) rfl (ix_at (lt71 (by omega)) (cX_text G ad S_29)), PcW_of hP hK hD _⟩ rfl rfl hl.1 rfl (lv_room (Nat.le_of_ble_eq_true rfl)) (fk_get fk_cX9_readOne_2 4 rfl) ⟨Nat.zero_le _, Nat.zero_le _⟩) hS (fun q _ h => hFc q h) hFc (fun r_33 S_35 t_ H locs ht_ hvm_ hw_34 hB_ hz_ hk_ hS => ?_)
        obtain ⟨hP, -, hD1_⟩ := hB_
        rw [ht_] at hP
        have hD : va_D A (wX G ad S_35) := hD1_.weaken (fun k q _ h => hFc q.1 h)
        try dsimp only at hw_34
        obtain ⟨hX_36, hF_37_, hw_34⟩ := hw_34
        have hF_37 : Fr (fun j k => (j = 57 ∧ (k = 2 ∨ k = 3 ∨ k = 4 ∨ k = 7 ∨ k = 8)) ∨ ((j = 59 ∨ j = 60) ∧ k = 99)) S S_35 := Fr.trans hF_31 (Fr.mono hF_37_ (fun j k h => by omega))
        refine lv_if_eq (tgt := 132) hx hb (fk_get fk_cX9_readOne_2 5 rfl) (by decide) (fun c_38 => ?_) (fun c_38 => ?_)
        · refine lv_iconst (v := 0) hx hb (fk_get fk_cX9_readOne_2 8 rfl) (by decide) ?_
          subst hQ
          have hpost : XI S_35 ∧ Fr (fun j k => (j = 57 ∧ (k = 2 ∨ k = 3 ∨ k = 4 ∨ k = 7 ∨ k = 8)) ∨ ((j = 59 ∨ j = 60) ∧ k = 99)) S S_35 ∧ ((0 : Int32) = 0 ∨ (0 : Int32) = 1) := by
            exact ⟨hX_36, hF_37, (by first | exact Or.inl rfl | exact Or.inr rfl)⟩
          exact W.zret (v := 0) hx hb hr rfl (fun t_ ht_ hW_ => ⟨⟨0, S_35, rfl, hpost, by rw [ht_]; exact hP, va_K.moved hW_.alike hK, hD⟩, hS.F ht_⟩) hS.2.2 (fk_get fk_cX9_readOne_2 9 rfl)
        refine lv_iconst (v := 1) hx hb (fk_get fk_cX9_readOne_2 6 rfl) (by decide) ?_
        refine lv_goto (tgt := 133) hx hb (fk_get fk_cX9_readOne_2 7 rfl) (by decide) ?_
        subst hQ
        have hpost : XI S_35 ∧ Fr (fun j k => (j = 57 ∧ (k = 2 ∨ k = 3 ∨ k = 4 ∨ k = 7 ∨ k = 8)) ∨ ((j = 59 ∨ j = 60) ∧ k = 99)) S S_35 ∧ ((1 : Int32) = 0 ∨ (1 : Int32) = 1) := by
          exact ⟨hX_36, hF_37, (by first | exact Or.inl rfl | exact Or.inr rfl)⟩
        exact W.zret (v := 1) hx hb hr rfl (fun t_ ht_ hW_ => ⟨⟨1, S_35, rfl, hpost, by rw [ht_]; exact hP, va_K.moved hW_.alike hK, hD⟩, hS.F ht_⟩) hS.2.2 (fk_get fk_cX9_readOne_2 9 rfl)
      refine lv_iload_n hx hb (fk_get fk_cX9_readOne_1 17 rfl) rfl (lv_at hl 0 rfl) ?_
      refine lv_goto (tgt := 100) hx hb (fk_get fk_cX9_readOne_1 18 rfl) (by decide) ?_
      refine lv_istore_n (lv' := [(3, .int (r_15)), (2, .int (r_15)), (0, .ref (ad 57)), (1, .int (3))]) hx hb (fk_get fk_cX9_readOne_1 22 rfl) rfl hl (by decide) rfl (fun ls hl => ?_)
      refine lv_iload_n hx hb (fk_get fk_cX9_readOne_1 23 rfl) rfl (lv_at hl 0 rfl) ?_
      refine lv_if_lt (tgt := 132) hx hb (fk_get fk_cX9_readOne_1 24 rfl) (by decide) (fun _ => ?_) (fun c_39 => absurd (by first | assumption | exact Int32.not_lt.mp (by assumption) | exact Int32.not_le.mp (by assumption) | exact Int32.not_lt.mpr (by assumption) | exact Int32.not_le.mpr (by assumption) ) c_39)
      refine lv_iconst (v := 0) hx hb (fk_get fk_cX9_readOne_2 8 rfl) (by decide) ?_
      subst hQ
      have hpost : XI S_17 ∧ Fr (fun j k => (j = 57 ∧ (k = 2 ∨ k = 3 ∨ k = 4 ∨ k = 7 ∨ k = 8)) ∨ ((j = 59 ∨ j = 60) ∧ k = 99)) S S_17 ∧ ((0 : Int32) = 0 ∨ (0 : Int32) = 1) := by
        exact ⟨hX_18, hF_19, (by first | exact Or.inl rfl | exact Or.inr rfl)⟩
      exact W.zret (v := 0) hx hb hr rfl (fun t_ ht_ hW_ => ⟨⟨0, S_17, rfl, hpost, by rw [ht_]; exact hP, va_K.moved hW_.alike hK, hD⟩, hS.F ht_⟩) hS.2.2 (fk_get fk_cX9_readOne_2 9 rfl)
    refine lv_aload_n hx hb (fk_get fk_cX9_readOne_0 29 rfl) rfl (lv_at hl 0 rfl) ?_
    refine lv_iload_n hx hb (fk_get fk_cX9_readOne_0 30 rfl) rfl (lv_at hl 1 rfl) ?_
    refine lv_iconst (v := 1) hx hb (fk_get fk_cX9_readOne_0 31 rfl) (by decide) ?_
    refine lv_iadd hx hb (fk_get fk_cX9_readOne_1 0 rfl) ?_
    rw [show ((3 + 1) : Int32) = 4 from by decide]
    have hFc := va_self hD hS hA
    refine va_calli (va_runV (As := [.int (4)]) (rest := []) ⟨hx, hb, hml, hown, hT⟩ (c_x9_RY_4 l G ad S_11 H.size  (hX_12)) (tV 1 hT m3_56 m3_58 mp_6 m1_12 m3_59 rfl rfl (by decide +kernel) ⟨Nat.le_of_ble_eq_true rfl, Nat.le_of_ble_eq_true rfl⟩) ⟨PcE_blind, va_recv hK hP (ci := 11) (q0 := 57) rfl (ix_at (lt71 (by omega)) (cX_text G ad S_11)), PcE_of hP hK hD hE hS (fun q h => hFc q h) _⟩ rfl rfl hl.1 rfl (lv_room (Nat.le_of_ble_eq_true rfl)) (fk_get fk_cX9_readOne_1 1 rfl) ⟨Nat.zero_le _, Nat.zero_le _⟩) hS (fun q _ h => hFc q h) hFc (fun r_40 S_42 t_ H locs ht_ hvm_ hw_41 hB_ hz_ hk_ hS => ?_)
    obtain ⟨hP, -, hD1_⟩ := hB_
    rw [ht_] at hP
    have hD : va_D A (wX G ad S_42) := hD1_.weaken (fun k q _ h => hFc q.1 h)
    try dsimp only at hw_41
    obtain ⟨hX_43, hF_44_, hw_41⟩ := hw_41
    have hF_44 : Fr (fun j k => (j = 57 ∧ (k = 2 ∨ k = 3 ∨ k = 4 ∨ k = 7 ∨ k = 8)) ∨ ((j = 59 ∨ j = 60) ∧ k = 99)) S S_42 := Fr.trans hF_13 (Fr.mono hF_44_ (fun j k h => by omega))
    refine lv_if_eq (tgt := 77) hx hb (fk_get fk_cX9_readOne_1 2 rfl) (by decide) (fun c_45 => ?_) (fun c_45 => ?_)
    · refine lv_iconst (v := 0) hx hb (fk_get fk_cX9_readOne_1 9 rfl) (by decide) ?_
      subst hQ
      have hpost : XI S_42 ∧ Fr (fun j k => (j = 57 ∧ (k = 2 ∨ k = 3 ∨ k = 4 ∨ k = 7 ∨ k = 8)) ∨ ((j = 59 ∨ j = 60) ∧ k = 99)) S S_42 ∧ ((0 : Int32) = 0 ∨ (0 : Int32) = 1) := by
        exact ⟨hX_43, hF_44, (by first | exact Or.inl rfl | exact Or.inr rfl)⟩
      exact W.zret (v := 0) hx hb hr rfl (fun t_ ht_ hW_ => ⟨⟨0, S_42, rfl, hpost, by rw [ht_]; exact hP, va_K.moved hW_.alike hK, hD⟩, hS.F ht_⟩) hS.2.2 (fk_get fk_cX9_readOne_1 10 rfl)
    refine lv_aload_n hx hb (fk_get fk_cX9_readOne_1 3 rfl) rfl (lv_at hl 0 rfl) ?_
    refine lv_bipush (v := 41) hx hb (fk_get fk_cX9_readOne_1 4 rfl) (by decide) ?_
    have hFc := va_self hD hS hA
    refine va_calli (va_runV (As := [.int (41)]) (rest := []) ⟨hx, hb, hml, hown, hT⟩ (c_x9_takes l G ad S_42 H.size (41) (hX_43)) (tV 1 hT m2_213 m2_215 mp_0 m1_12 m2_216 rfl rfl (by decide +kernel) ⟨Nat.le_of_ble_eq_true rfl, Nat.le_of_ble_eq_true rfl⟩) ⟨PcW_blind, va_recv hK hP (ci := 11) (q0 := 57) rfl (ix_at (lt71 (by omega)) (cX_text G ad S_42)), PcW_of hP hK hD _⟩ rfl rfl hl.1 rfl (lv_room (Nat.le_of_ble_eq_true rfl)) (fk_get fk_cX9_readOne_1 5 rfl) ⟨Nat.zero_le _, Nat.zero_le _⟩) hS (fun q _ h => hFc q h) hFc (fun r_46 S_48 t_ H locs ht_ hvm_ hw_47 hB_ hz_ hk_ hS => ?_)
    obtain ⟨hP, -, hD1_⟩ := hB_
    rw [ht_] at hP
    have hD : va_D A (wX G ad S_48) := hD1_.weaken (fun k q _ h => hFc q.1 h)
    try dsimp only at hw_47
    obtain ⟨hX_49, hF_50_, hw_47⟩ := hw_47
    have hF_50 : Fr (fun j k => (j = 57 ∧ (k = 2 ∨ k = 3 ∨ k = 4 ∨ k = 7 ∨ k = 8)) ∨ ((j = 59 ∨ j = 60) ∧ k = 99)) S S_48 := Fr.trans hF_44 (Fr.mono hF_50_ (fun j k h => by omega))
    refine lv_if_eq (tgt := 77) hx hb (fk_get fk_cX9_readOne_1 6 rfl) (by decide) (fun c_51 => ?_) (fun c_51 => ?_)
    · refine lv_iconst (v := 0) hx hb (fk_get fk_cX9_readOne_1 9 rfl) (by decide) ?_
      subst hQ
      have hpost : XI S_48 ∧ Fr (fun j k => (j = 57 ∧ (k = 2 ∨ k = 3 ∨ k = 4 ∨ k = 7 ∨ k = 8)) ∨ ((j = 59 ∨ j = 60) ∧ k = 99)) S S_48 ∧ ((0 : Int32) = 0 ∨ (0 : Int32) = 1) := by
        exact ⟨hX_49, hF_50, (by first | exact Or.inl rfl | exact Or.inr rfl)⟩
      exact W.zret (v := 0) hx hb hr rfl (fun t_ ht_ hW_ => ⟨⟨0, S_48, rfl, hpost, by rw [ht_]; exact hP, va_K.moved hW_.alike hK, hD⟩, hS.F ht_⟩) hS.2.2 (fk_get fk_cX9_readOne_1 10 rfl)
    refine lv_iconst (v := 1) hx hb (fk_get fk_cX9_readOne_1 7 rfl) (by decide) ?_
    refine lv_goto (tgt := 78) hx hb (fk_get fk_cX9_readOne_1 8 rfl) (by decide) ?_
    subst hQ
    have hpost : XI S_48 ∧ Fr (fun j k => (j = 57 ∧ (k = 2 ∨ k = 3 ∨ k = 4 ∨ k = 7 ∨ k = 8)) ∨ ((j = 59 ∨ j = 60) ∧ k = 99)) S S_48 ∧ ((1 : Int32) = 0 ∨ (1 : Int32) = 1) := by
      exact ⟨hX_49, hF_50, (by first | exact Or.inl rfl | exact Or.inr rfl)⟩
    exact W.zret (v := 1) hx hb hr rfl (fun t_ ht_ hW_ => ⟨⟨1, S_48, rfl, hpost, by rw [ht_]; exact hP, va_K.moved hW_.alike hK, hD⟩, hS.F ht_⟩) hS.2.2 (fk_get fk_cX9_readOne_1 10 rfl)
  refine lv_aload_n hx hb (fk_get fk_cX9_readOne_0 7 rfl) rfl (lv_at hl 0 rfl) ?_
  refine lv_iload_n hx hb (fk_get fk_cX9_readOne_0 8 rfl) rfl (lv_at hl 1 rfl) ?_
  refine lv_iconst (v := 1) hx hb (fk_get fk_cX9_readOne_0 9 rfl) (by decide) ?_
  refine lv_iadd hx hb (fk_get fk_cX9_readOne_0 10 rfl) ?_
  rw [show ((3 + 1) : Int32) = 4 from by decide]
  have hFc := va_self hD hS hA
  refine va_calli (va_runV (As := [.int (4)]) (rest := []) ⟨hx, hb, hml, hown, hT⟩ (c_x9_RO_4 l G ad S_4 H.size  (hX_5)) (tV 1 hT m3_64 m3_66 mp_8 m1_12 m3_67 rfl rfl (by decide +kernel) ⟨Nat.le_of_ble_eq_true rfl, Nat.le_of_ble_eq_true rfl⟩) ⟨PcE_blind, va_recv hK hP (ci := 11) (q0 := 57) rfl (ix_at (lt71 (by omega)) (cX_text G ad S_4)), PcE_of hP hK hD hE hS (fun q h => hFc q h) _⟩ rfl rfl hl.1 rfl (lv_room (Nat.le_of_ble_eq_true rfl)) (fk_get fk_cX9_readOne_0 11 rfl) ⟨Nat.zero_le _, Nat.zero_le _⟩) hS (fun q _ h => hFc q h) hFc (fun r_52 S_54 t_ H locs ht_ hvm_ hw_53 hB_ hz_ hk_ hS => ?_)
  obtain ⟨hP, -, hD1_⟩ := hB_
  rw [ht_] at hP
  have hD : va_D A (wX G ad S_54) := hD1_.weaken (fun k q _ h => hFc q.1 h)
  try dsimp only at hw_53
  obtain ⟨hX_55, hF_56_, hw_53⟩ := hw_53
  have hF_56 : Fr (fun j k => (j = 57 ∧ (k = 2 ∨ k = 3 ∨ k = 4 ∨ k = 7 ∨ k = 8)) ∨ ((j = 59 ∨ j = 60) ∧ k = 99)) S S_54 := Fr.trans hF_6 (Fr.mono hF_56_ (fun j k h => by omega))
  refine lv_if_eq (tgt := 38) hx hb (fk_get fk_cX9_readOne_0 12 rfl) (by decide) (fun c_57 => ?_) (fun c_57 => ?_)
  · refine lv_iconst (v := 0) hx hb (fk_get fk_cX9_readOne_0 20 rfl) (by decide) ?_
    subst hQ
    have hpost : XI S_54 ∧ Fr (fun j k => (j = 57 ∧ (k = 2 ∨ k = 3 ∨ k = 4 ∨ k = 7 ∨ k = 8)) ∨ ((j = 59 ∨ j = 60) ∧ k = 99)) S S_54 ∧ ((0 : Int32) = 0 ∨ (0 : Int32) = 1) := by
      exact ⟨hX_55, hF_56, (by first | exact Or.inl rfl | exact Or.inr rfl)⟩
    exact W.zret (v := 0) hx hb hr rfl (fun t_ ht_ hW_ => ⟨⟨0, S_54, rfl, hpost, by rw [ht_]; exact hP, va_K.moved hW_.alike hK, hD⟩, hS.F ht_⟩) hS.2.2 (fk_get fk_cX9_readOne_0 21 rfl)
  refine lv_aload_n hx hb (fk_get fk_cX9_readOne_0 13 rfl) rfl (lv_at hl 0 rfl) ?_
  refine lv_bipush (v := 18) hx hb (fk_get fk_cX9_readOne_0 14 rfl) (by decide) ?_
  refine lv_iconst (v := 0) hx hb (fk_get fk_cX9_readOne_0 15 rfl) (by decide) ?_
  have hFc := va_self hD hS hA
  refine va_calli (va_runV (As := [.int (18), .int (0)]) (rest := []) ⟨hx, hb, hml, hown, hT⟩ (c_x9_putCode l G ad S_54 H.size (18) (0) (hX_55)) (tV 2 hT m3_68 m3_70 mp_9 m1_12 m3_71 rfl rfl (by decide +kernel) ⟨Nat.le_of_ble_eq_true rfl, Nat.le_of_ble_eq_true rfl⟩) ⟨PcW_blind, va_recv hK hP (ci := 11) (q0 := 57) rfl (ix_at (lt71 (by omega)) (cX_text G ad S_54)), PcW_of hP hK hD _⟩ rfl rfl hl.1 rfl (lv_room (Nat.le_of_ble_eq_true rfl)) (fk_get fk_cX9_readOne_0 16 rfl) ⟨Nat.zero_le _, Nat.zero_le _⟩) hS (fun q _ h => hFc q h) hFc (fun r_58 S_60 t_ H locs ht_ hvm_ hw_59 hB_ hz_ hk_ hS => ?_)
  obtain ⟨hP, -, hD1_⟩ := hB_
  rw [ht_] at hP
  have hD : va_D A (wX G ad S_60) := hD1_.weaken (fun k q _ h => hFc q.1 h)
  try dsimp only at hw_59
  obtain ⟨hX_61, hF_62_, hw_59⟩ := hw_59
  have hF_62 : Fr (fun j k => (j = 57 ∧ (k = 2 ∨ k = 3 ∨ k = 4 ∨ k = 7 ∨ k = 8)) ∨ ((j = 59 ∨ j = 60) ∧ k = 99)) S S_60 := Fr.trans hF_56 (Fr.mono hF_62_ (fun j k h => by omega))
  refine lv_if_eq (tgt := 38) hx hb (fk_get fk_cX9_readOne_0 17 rfl) (by decide) (fun c_63 => ?_) (fun c_63 => ?_)
  · refine lv_iconst (v := 0) hx hb (fk_get fk_cX9_readOne_0 20 rfl) (by decide) ?_
    subst hQ
    have hpost : XI S_60 ∧ Fr (fun j k => (j = 57 ∧ (k = 2 ∨ k = 3 ∨ k = 4 ∨ k = 7 ∨ k = 8)) ∨ ((j = 59 ∨ j = 60) ∧ k = 99)) S S_60 ∧ ((0 : Int32) = 0 ∨ (0 : Int32) = 1) := by
      exact ⟨hX_61, hF_62, (by first | exact Or.inl rfl | exact Or.inr rfl)⟩
    exact W.zret (v := 0) hx hb hr rfl (fun t_ ht_ hW_ => ⟨⟨0, S_60, rfl, hpost, by rw [ht_]; exact hP, va_K.moved hW_.alike hK, hD⟩, hS.F ht_⟩) hS.2.2 (fk_get fk_cX9_readOne_0 21 rfl)
  refine lv_iconst (v := 1) hx hb (fk_get fk_cX9_readOne_0 18 rfl) (by decide) ?_
  refine lv_goto (tgt := 39) hx hb (fk_get fk_cX9_readOne_0 19 rfl) (by decide) ?_
  subst hQ
  have hpost : XI S_60 ∧ Fr (fun j k => (j = 57 ∧ (k = 2 ∨ k = 3 ∨ k = 4 ∨ k = 7 ∨ k = 8)) ∨ ((j = 59 ∨ j = 60) ∧ k = 99)) S S_60 ∧ ((1 : Int32) = 0 ∨ (1 : Int32) = 1) := by
    exact ⟨hX_61, hF_62, (by first | exact Or.inl rfl | exact Or.inr rfl)⟩
  exact W.zret (v := 1) hx hb hr rfl (fun t_ ht_ hW_ => ⟨⟨1, S_60, rfl, hpost, by rw [ht_]; exact hP, va_K.moved hW_.alike hK, hD⟩, hS.F ht_⟩) hS.2.2 (fk_get fk_cX9_readOne_0 21 rfl)
set_option maxHeartbeats 800000 in
set_option maxRecDepth 100000 in
theorem c_x9_RA_3 (l : Launch) (G : GG) (ad : Nat → Nat) (S : FS) (sz : Nat)  (hX : XI S) : Met l yX9_readAll (Cond.code yX9_readAll cX9_readAll 3 (some .boolean) :: TBL) ({ frames := 11, cells := 0, slots := 0, locals := 304 } : Room) (PcE G (wX G ad S) sz [.ref (ad 57), .int (3)]) (va_Qi (fun (r : Int32) (S' : FS) => XI S' ∧ Fr (fun j k => (j = 57 ∧ (k = 2 ∨ k = 3 ∨ k = 4 ∨ k = 7 ∨ k = 8)) ∨ ((j = 59 ∨ j = 60) ∧ k = 99)) S S' ∧ (r = 0 ∨ r = 1)) (fun S' t => BW G (va_A (wX G ad S) sz) (wX G ad S') t) (va_A (wX G ad S) sz)) 0 0 (va_A (wX G ad S) sz) := by
  refine Met.ofW (cc := cX9_readAll) (maxL := 3) (ret := (some .boolean)) (by decide) rfl ?_
  intro p e s m args below meth c₀ s₁ B hml hv
  obtain ⟨rfl, hsz, hP, hK, hD0, hE⟩ := hv
  have hx := B.exec
  have hb := B.bytes
  have hr := B.returns
  have hT : ∀ w ∈ TBL, w.before ([.ref (ad 57), .int (3)] : List Value).toArray s = true := fun w h => atoms_spec (ws := Cond.code yX9_readAll cX9_readAll 3 (some .boolean) :: TBL) B.pre w (List.mem_cons_of_mem _ h)
  have hown : s.vm.findClass "LittleMore$Text" = some m.cls := findClass_of_methodNamed B.named
  have hlocks := B.notSynchronized
  subst hsz
  have hD := hD0.self (sz := s.heap.size)
  generalize hAe : va_A (wX G ad S) s.heap.size = A at hD hE ⊢
  have hA : ∀ q : Nat, s.heap.size ≤ q → A q := fun q h => by rw [← hAe]; exact Or.inr h
  have hS : va_S A s.heap s.heap [] := va_S.rf
  have hP : va_P G.1 vwCl (wX G ad S) s.heap := hP
  have hl := lv_entry ([.ref (ad 57), .int (3)]) (n := 3) (Nat.le_of_ble_eq_true rfl)
  rw [lg_entry_eq]
  generalize (lg_sl ([.ref (ad 57), .int (3)]) ++ List.replicate (3 - (lg_sl ([.ref (ad 57), .int (3)])).length) Slot.unset).toArray = ls at hl ⊢
  have hl : lv_has ls 3 [(0, .ref (ad 57)), (1, .int (3))] := hl
  refine W_abs (fun Q hQ => ?_)
  generalize ([.ref (ad 57), .int (3)] : List Value).toArray = args at hT hQ ⊢
  refine lv_aload_n hx hb (fk_get fk_cX9_readAll_0 0 rfl) rfl (lv_at hl 0 rfl) ?_
  refine lv_iload_n hx hb (fk_get fk_cX9_readAll_0 1 rfl) rfl (lv_at hl 1 rfl) ?_
  have hFc := va_self hD hS hA
  refine va_calli (va_runV (As := [.int (3)]) (rest := []) ⟨hx, hb, hml, hown, hT⟩ (c_x9_RO_3 l G ad S s.heap.size  (hX)) (tV 1 hT m3_64 m3_66 mp_8 m1_12 m3_67 rfl rfl (by decide +kernel) ⟨Nat.le_of_ble_eq_true rfl, Nat.le_of_ble_eq_true rfl⟩) ⟨PcE_blind, va_recv hK hP (ci := 11) (q0 := 57) rfl (ix_at (lt71 (by omega)) (cX_text G ad S)), PcE_of hP hK hD hE hS (fun q h => hFc q h) _⟩ rfl rfl hl.1 rfl (lv_room (Nat.le_of_ble_eq_true rfl)) (fk_get fk_cX9_readAll_0 2 rfl) ⟨Nat.zero_le _, Nat.zero_le _⟩) hS (fun q _ h => hFc q h) hFc (fun r_1 S_3 t_ H locs ht_ hvm_ hw_2 hB_ hz_ hk_ hS => ?_)
  obtain ⟨hP, -, hD1_⟩ := hB_
  rw [ht_] at hP
  have hD : va_D A (wX G ad S_3) := hD1_.weaken (fun k q _ h => hFc q.1 h)
  try dsimp only at hw_2
  obtain ⟨hX_4, hF_5_, hw_2⟩ := hw_2
  have hF_5 : Fr (fun j k => (j = 57 ∧ (k = 2 ∨ k = 3 ∨ k = 4 ∨ k = 7 ∨ k = 8)) ∨ ((j = 59 ∨ j = 60) ∧ k = 99)) S S_3 := Fr.trans (Fr.rf : Fr (fun j k => (j = 57 ∧ (k = 2 ∨ k = 3 ∨ k = 4 ∨ k = 7 ∨ k = 8)) ∨ ((j = 59 ∨ j = 60) ∧ k = 99)) S S) (Fr.mono hF_5_ (fun j k h => by omega))
  refine lv_if_ne (tgt := 10) hx hb (fk_get fk_cX9_readAll_0 3 rfl) (by decide) (fun c_6 => ?_) (fun c_6 => ?_)
  · refine lv_iconst (v := 0) hx hb (fk_get fk_cX9_readAll_0 6 rfl) (by decide) ?_
    refine lv_istore_n (lv' := [(2, .int (0)), (0, .ref (ad 57)), (1, .int (3))]) hx hb (fk_get fk_cX9_readAll_0 7 rfl) rfl hl (by decide) rfl (fun ls hl => ?_)
    have lp_7 : ∀ (fu : Nat) (c : Nat) (SL12 : FS) (H_9 : Heap) (locs_10 : List Loc) (ls : Array Slot),  (XI SL12) → (Fr (fun j k => (j = 57 ∧ (k = 2 ∨ k = 3 ∨ k = 4 ∨ k = 7 ∨ k = 8)) ∨ ((j = 59 ∨ j = 60) ∧ k = 99)) S SL12) → (c ≤ 100) → (100 < c + fu) → va_P G.1 vwCl (wX G ad SL12) H_9 → va_D A (wX G ad SL12) → va_S A s.heap H_9 locs_10 → lv_has ls 3 [(2, .int ((nI c))), (0, .ref (ad 57)), (1, .int (3))] → W p l e ({ frames := 11, cells := 0, slots := 0, locals := 304 } : Room) s m args below meth c₀ H_9 locs_10 0 0 Q (F0 m 12 ls []) := by
      intro fu
      induction fu with
      | zero =>
        intro c SL12 H_9 locs_10 ls hXl12 hFl12 hk hf hP hD hS hl
        exact absurd hf (by omega)
      | succ fu ih =>
        intro c SL12 H_9 locs_10 ls hXl12 hFl12 hk hf hP hD hS hl
        refine lv_iload_n hx hb (fk_get fk_cX9_readAll_0 8 rfl) rfl (lv_at hl 0 rfl) ?_
        refine lv_bipush (v := 100) hx hb (fk_get fk_cX9_readAll_0 9 rfl) (by decide) ?_
        refine lv_icmp_ge (tgt := 53) hx hb (fk_get fk_cX9_readAll_0 10 rfl) (by decide) (fun c_11 => ?_) (fun c_11 => ?_)
        · have q_c_11 : 100 ≤ c := ci_le (a := 100) (b := c) (by omega) (by omega) c_11
          refine lv_iconst (v := 1) hx hb (fk_get fk_cX9_readAll_0 28 rfl) (by decide) ?_
          subst hQ
          have hpost : XI SL12 ∧ Fr (fun j k => (j = 57 ∧ (k = 2 ∨ k = 3 ∨ k = 4 ∨ k = 7 ∨ k = 8)) ∨ ((j = 59 ∨ j = 60) ∧ k = 99)) S SL12 ∧ ((1 : Int32) = 0 ∨ (1 : Int32) = 1) := by
            exact ⟨hXl12, hFl12, (by first | exact Or.inl rfl | exact Or.inr rfl)⟩
          exact W.zret (v := 1) hx hb hr rfl (fun t_ ht_ hW_ => ⟨⟨1, SL12, rfl, hpost, by rw [ht_]; exact hP, va_K.moved hW_.alike hK, hD⟩, hS.F ht_⟩) hS.2.2 (fk_get fk_cX9_readAll_0 29 rfl)
        have q_c_11 : c < 100 := ci_nle (a := 100) (b := c) (by omega) (by omega) c_11
        refine lv_aload_n hx hb (fk_get fk_cX9_readAll_0 11 rfl) rfl (lv_at hl 1 rfl) ?_
        refine lv_bipush (v := 38) hx hb (fk_get fk_cX9_readAll_0 12 rfl) (by decide) ?_
        have hFc := va_self hD hS hA
        refine va_calli (va_runV (As := [.int (38)]) (rest := []) ⟨hx, hb, hml, hown, hT⟩ (c_x9_takes l G ad SL12 H_9.size (38) (hXl12)) (tV 1 hT m2_213 m2_215 mp_0 m1_12 m2_216 rfl rfl (by decide +kernel) ⟨Nat.le_of_ble_eq_true rfl, Nat.le_of_ble_eq_true rfl⟩) ⟨PcW_blind, va_recv hK hP (ci := 11) (q0 := 57) rfl (ix_at (lt71 (by omega)) (cX_text G ad SL12)), PcW_of hP hK hD _⟩ rfl rfl hl.1 rfl (lv_room (Nat.le_of_ble_eq_true rfl)) (fk_get fk_cX9_readAll_0 13 rfl) ⟨Nat.zero_le _, Nat.zero_le _⟩) hS (fun q _ h => hFc q h) hFc (fun r_12 S_14 t_ H locs ht_ hvm_ hw_13 hB_ hz_ hk_ hS => ?_)
        obtain ⟨hP, -, hD1_⟩ := hB_
        rw [ht_] at hP
        have hD : va_D A (wX G ad S_14) := hD1_.weaken (fun k q _ h => hFc q.1 h)
        try dsimp only at hw_13
        obtain ⟨hX_15, hF_16_, hw_13⟩ := hw_13
        have hF_16 : Fr (fun j k => (j = 57 ∧ (k = 2 ∨ k = 3 ∨ k = 4 ∨ k = 7 ∨ k = 8)) ∨ ((j = 59 ∨ j = 60) ∧ k = 99)) S S_14 := Fr.trans hFl12 (Fr.mono hF_16_ (fun j k h => by omega))
        refine lv_if_eq (tgt := 53) hx hb (fk_get fk_cX9_readAll_0 14 rfl) (by decide) (fun c_17 => ?_) (fun c_17 => ?_)
        · refine lv_iconst (v := 1) hx hb (fk_get fk_cX9_readAll_0 28 rfl) (by decide) ?_
          subst hQ
          have hpost : XI S_14 ∧ Fr (fun j k => (j = 57 ∧ (k = 2 ∨ k = 3 ∨ k = 4 ∨ k = 7 ∨ k = 8)) ∨ ((j = 59 ∨ j = 60) ∧ k = 99)) S S_14 ∧ ((1 : Int32) = 0 ∨ (1 : Int32) = 1) := by
            exact ⟨hX_15, hF_16, (by first | exact Or.inl rfl | exact Or.inr rfl)⟩
          exact W.zret (v := 1) hx hb hr rfl (fun t_ ht_ hW_ => ⟨⟨1, S_14, rfl, hpost, by rw [ht_]; exact hP, va_K.moved hW_.alike hK, hD⟩, hS.F ht_⟩) hS.2.2 (fk_get fk_cX9_readAll_0 29 rfl)
        refine lv_aload_n hx hb (fk_get fk_cX9_readAll_0 15 rfl) rfl (lv_at hl 1 rfl) ?_
        refine lv_iload_n hx hb (fk_get fk_cX9_readAll_0 16 rfl) rfl (lv_at hl 2 rfl) ?_
        have hFc := va_self hD hS hA
        refine va_calli (va_runV (As := [.int (3)]) (rest := []) ⟨hx, hb, hml, hown, hT⟩ (c_x9_RO_3 l G ad S_14 H.size  (hX_15)) (tV 1 hT m3_64 m3_66 mp_8 m1_12 m3_67 rfl rfl (by decide +kernel) ⟨Nat.le_of_ble_eq_true rfl, Nat.le_of_ble_eq_true rfl⟩) ⟨PcE_blind, va_recv hK hP (ci := 11) (q0 := 57) rfl (ix_at (lt71 (by omega)) (cX_text G ad S_14)), PcE_of hP hK hD hE hS (fun q h => hFc q h) _⟩ rfl rfl hl.1 rfl (lv_room (Nat.le_of_ble_eq_true rfl)) (fk_get fk_cX9_readAll_0 17 rfl) ⟨Nat.zero_le _, Nat.zero_le _⟩) hS (fun q _ h => hFc q h) hFc (fun r_18 S_20 t_ H locs ht_ hvm_ hw_19 hB_ hz_ hk_ hS => ?_)
        obtain ⟨hP, -, hD1_⟩ := hB_
        rw [ht_] at hP
        have hD : va_D A (wX G ad S_20) := hD1_.weaken (fun k q _ h => hFc q.1 h)
        try dsimp only at hw_19
        obtain ⟨hX_21, hF_22_, hw_19⟩ := hw_19
        have hF_22 : Fr (fun j k => (j = 57 ∧ (k = 2 ∨ k = 3 ∨ k = 4 ∨ k = 7 ∨ k = 8)) ∨ ((j = 59 ∨ j = 60) ∧ k = 99)) S S_20 := Fr.trans hF_16 (Fr.mono hF_22_ (fun j k h => by omega))
        refine lv_if_eq (tgt := 45) hx hb (fk_get fk_cX9_readAll_0 18 rfl) (by decide) (fun c_23 => ?_) (fun c_23 => ?_)
        · refine lv_iconst (v := 0) hx hb (fk_get fk_cX9_readAll_0 24 rfl) (by decide) ?_
          subst hQ
          have hpost : XI S_20 ∧ Fr (fun j k => (j = 57 ∧ (k = 2 ∨ k = 3 ∨ k = 4 ∨ k = 7 ∨ k = 8)) ∨ ((j = 59 ∨ j = 60) ∧ k = 99)) S S_20 ∧ ((0 : Int32) = 0 ∨ (0 : Int32) = 1) := by
            exact ⟨hX_21, hF_22, (by first | exact Or.inl rfl | exact Or.inr rfl)⟩
          exact W.zret (v := 0) hx hb hr rfl (fun t_ ht_ hW_ => ⟨⟨0, S_20, rfl, hpost, by rw [ht_]; exact hP, va_K.moved hW_.alike hK, hD⟩, hS.F ht_⟩) hS.2.2 (fk_get fk_cX9_readAll_0 25 rfl)
        refine lv_aload_n hx hb (fk_get fk_cX9_readAll_0 19 rfl) rfl (lv_at hl 1 rfl) ?_
        refine lv_bipush (v := 19) hx hb (fk_get fk_cX9_readAll_0 20 rfl) (by decide) ?_
        refine lv_iconst (v := 0) hx hb (fk_get fk_cX9_readAll_0 21 rfl) (by decide) ?_
        have hFc := va_self hD hS hA
        refine va_calli (va_runV (As := [.int (19), .int (0)]) (rest := []) ⟨hx, hb, hml, hown, hT⟩ (c_x9_putCode l G ad S_20 H.size (19) (0) (hX_21)) (tV 2 hT m3_68 m3_70 mp_9 m1_12 m3_71 rfl rfl (by decide +kernel) ⟨Nat.le_of_ble_eq_true rfl, Nat.le_of_ble_eq_true rfl⟩) ⟨PcW_blind, va_recv hK hP (ci := 11) (q0 := 57) rfl (ix_at (lt71 (by omega)) (cX_text G ad S_20)), PcW_of hP hK hD _⟩ rfl rfl hl.1 rfl (lv_room (Nat.le_of_ble_eq_true rfl)) (fk_get fk_cX9_readAll_0 22 rfl) ⟨Nat.zero_le _, Nat.zero_le _⟩) hS (fun q _ h => hFc q h) hFc (fun r_24 S_26 t_ H locs ht_ hvm_ hw_25 hB_ hz_ hk_ hS => ?_)
        obtain ⟨hP, -, hD1_⟩ := hB_
        rw [ht_] at hP
        have hD : va_D A (wX G ad S_26) := hD1_.weaken (fun k q _ h => hFc q.1 h)
        try dsimp only at hw_25
        obtain ⟨hX_27, hF_28_, hw_25⟩ := hw_25
        have hF_28 : Fr (fun j k => (j = 57 ∧ (k = 2 ∨ k = 3 ∨ k = 4 ∨ k = 7 ∨ k = 8)) ∨ ((j = 59 ∨ j = 60) ∧ k = 99)) S S_26 := Fr.trans hF_22 (Fr.mono hF_28_ (fun j k h => by omega))
        refine lv_if_ne (tgt := 47) hx hb (fk_get fk_cX9_readAll_0 23 rfl) (by decide) (fun c_29 => ?_) (fun c_29 => ?_)
        · refine lv_iinc (v := (nI (c + 1))) (lv' := [(2, .int ((nI (c + 1)))), (0, .ref (ad 57)), (1, .int (3))]) hx hb (fk_get fk_cX9_readAll_0 26 rfl) hl (k := 0) rfl ((nI_1 c)) (by decide) rfl (fun ls hl => ?_)
          refine lv_goto (tgt := 12) hx hb (fk_get fk_cX9_readAll_0 27 rfl) (by decide) ?_
          exact ih (c + 1) (S_26) _ _ ls (hX_27) (hF_28) (by omega) (by omega) hP hD hS (lv_sub hl [0, 1, 2] rfl)
        refine lv_iconst (v := 0) hx hb (fk_get fk_cX9_readAll_0 24 rfl) (by decide) ?_
        subst hQ
        have hpost : XI S_26 ∧ Fr (fun j k => (j = 57 ∧ (k = 2 ∨ k = 3 ∨ k = 4 ∨ k = 7 ∨ k = 8)) ∨ ((j = 59 ∨ j = 60) ∧ k = 99)) S S_26 ∧ ((0 : Int32) = 0 ∨ (0 : Int32) = 1) := by
          exact ⟨hX_27, hF_28, (by first | exact Or.inl rfl | exact Or.inr rfl)⟩
        exact W.zret (v := 0) hx hb hr rfl (fun t_ ht_ hW_ => ⟨⟨0, S_26, rfl, hpost, by rw [ht_]; exact hP, va_K.moved hW_.alike hK, hD⟩, hS.F ht_⟩) hS.2.2 (fk_get fk_cX9_readAll_0 25 rfl)
    exact lp_7 (100 + 1) (0) (S_3) _ _ ls (hX_4) (hF_5) (by omega) (by omega) hP hD hS (lv_sub hl [0, 1, 2] rfl)
  refine lv_iconst (v := 0) hx hb (fk_get fk_cX9_readAll_0 4 rfl) (by decide) ?_
  subst hQ
  have hpost : XI S_3 ∧ Fr (fun j k => (j = 57 ∧ (k = 2 ∨ k = 3 ∨ k = 4 ∨ k = 7 ∨ k = 8)) ∨ ((j = 59 ∨ j = 60) ∧ k = 99)) S S_3 ∧ ((0 : Int32) = 0 ∨ (0 : Int32) = 1) := by
    exact ⟨hX_4, hF_5, (by first | exact Or.inl rfl | exact Or.inr rfl)⟩
  exact W.zret (v := 0) hx hb hr rfl (fun t_ ht_ hW_ => ⟨⟨0, S_3, rfl, hpost, by rw [ht_]; exact hP, va_K.moved hW_.alike hK, hD⟩, hS.F ht_⟩) hS.2.2 (fk_get fk_cX9_readAll_0 5 rfl)
set_option maxHeartbeats 800000 in
set_option maxRecDepth 100000 in
theorem c_x9_RY_3 (l : Launch) (G : GG) (ad : Nat → Nat) (S : FS) (sz : Nat)  (hX : XI S) : Met l yX9_readAny (Cond.code yX9_readAny cX9_readAny 3 (some .boolean) :: TBL) ({ frames := 12, cells := 0, slots := 0, locals := 330 } : Room) (PcE G (wX G ad S) sz [.ref (ad 57), .int (3)]) (va_Qi (fun (r : Int32) (S' : FS) => XI S' ∧ Fr (fun j k => (j = 57 ∧ (k = 2 ∨ k = 3 ∨ k = 4 ∨ k = 7 ∨ k = 8)) ∨ ((j = 59 ∨ j = 60) ∧ k = 99)) S S' ∧ (r = 0 ∨ r = 1)) (fun S' t => BW G (va_A (wX G ad S) sz) (wX G ad S') t) (va_A (wX G ad S) sz)) 0 0 (va_A (wX G ad S) sz) := by
  refine Met.ofW (cc := cX9_readAny) (maxL := 3) (ret := (some .boolean)) (by decide) rfl ?_
  intro p e s m args below meth c₀ s₁ B hml hv
  obtain ⟨rfl, hsz, hP, hK, hD0, hE⟩ := hv
  have hx := B.exec
  have hb := B.bytes
  have hr := B.returns
  have hT : ∀ w ∈ TBL, w.before ([.ref (ad 57), .int (3)] : List Value).toArray s = true := fun w h => atoms_spec (ws := Cond.code yX9_readAny cX9_readAny 3 (some .boolean) :: TBL) B.pre w (List.mem_cons_of_mem _ h)
  have hown : s.vm.findClass "LittleMore$Text" = some m.cls := findClass_of_methodNamed B.named
  have hlocks := B.notSynchronized
  subst hsz
  have hD := hD0.self (sz := s.heap.size)
  generalize hAe : va_A (wX G ad S) s.heap.size = A at hD hE ⊢
  have hA : ∀ q : Nat, s.heap.size ≤ q → A q := fun q h => by rw [← hAe]; exact Or.inr h
  have hS : va_S A s.heap s.heap [] := va_S.rf
  have hP : va_P G.1 vwCl (wX G ad S) s.heap := hP
  have hl := lv_entry ([.ref (ad 57), .int (3)]) (n := 3) (Nat.le_of_ble_eq_true rfl)
  rw [lg_entry_eq]
  generalize (lg_sl ([.ref (ad 57), .int (3)]) ++ List.replicate (3 - (lg_sl ([.ref (ad 57), .int (3)])).length) Slot.unset).toArray = ls at hl ⊢
  have hl : lv_has ls 3 [(0, .ref (ad 57)), (1, .int (3))] := hl
  refine W_abs (fun Q hQ => ?_)
  generalize ([.ref (ad 57), .int (3)] : List Value).toArray = args at hT hQ ⊢
  refine lv_aload_n hx hb (fk_get fk_cX9_readAny_0 0 rfl) rfl (lv_at hl 0 rfl) ?_
  refine lv_iload_n hx hb (fk_get fk_cX9_readAny_0 1 rfl) rfl (lv_at hl 1 rfl) ?_
  have hFc := va_self hD hS hA
  refine va_calli (va_runV (As := [.int (3)]) (rest := []) ⟨hx, hb, hml, hown, hT⟩ (c_x9_RA_3 l G ad S s.heap.size  (hX)) (tV 1 hT m3_60 m3_62 mp_7 m1_12 m3_63 rfl rfl (by decide +kernel) ⟨Nat.le_of_ble_eq_true rfl, Nat.le_of_ble_eq_true rfl⟩) ⟨PcE_blind, va_recv hK hP (ci := 11) (q0 := 57) rfl (ix_at (lt71 (by omega)) (cX_text G ad S)), PcE_of hP hK hD hE hS (fun q h => hFc q h) _⟩ rfl rfl hl.1 rfl (lv_room (Nat.le_of_ble_eq_true rfl)) (fk_get fk_cX9_readAny_0 2 rfl) ⟨Nat.zero_le _, Nat.zero_le _⟩) hS (fun q _ h => hFc q h) hFc (fun r_1 S_3 t_ H locs ht_ hvm_ hw_2 hB_ hz_ hk_ hS => ?_)
  obtain ⟨hP, -, hD1_⟩ := hB_
  rw [ht_] at hP
  have hD : va_D A (wX G ad S_3) := hD1_.weaken (fun k q _ h => hFc q.1 h)
  try dsimp only at hw_2
  obtain ⟨hX_4, hF_5_, hw_2⟩ := hw_2
  have hF_5 : Fr (fun j k => (j = 57 ∧ (k = 2 ∨ k = 3 ∨ k = 4 ∨ k = 7 ∨ k = 8)) ∨ ((j = 59 ∨ j = 60) ∧ k = 99)) S S_3 := Fr.trans (Fr.rf : Fr (fun j k => (j = 57 ∧ (k = 2 ∨ k = 3 ∨ k = 4 ∨ k = 7 ∨ k = 8)) ∨ ((j = 59 ∨ j = 60) ∧ k = 99)) S S) (Fr.mono hF_5_ (fun j k h => by omega))
  refine lv_if_ne (tgt := 10) hx hb (fk_get fk_cX9_readAny_0 3 rfl) (by decide) (fun c_6 => ?_) (fun c_6 => ?_)
  · refine lv_iconst (v := 0) hx hb (fk_get fk_cX9_readAny_0 6 rfl) (by decide) ?_
    refine lv_istore_n (lv' := [(2, .int (0)), (0, .ref (ad 57)), (1, .int (3))]) hx hb (fk_get fk_cX9_readAny_0 7 rfl) rfl hl (by decide) rfl (fun ls hl => ?_)
    have lp_7 : ∀ (fu : Nat) (c : Nat) (SL12 : FS) (H_9 : Heap) (locs_10 : List Loc) (ls : Array Slot),  (XI SL12) → (Fr (fun j k => (j = 57 ∧ (k = 2 ∨ k = 3 ∨ k = 4 ∨ k = 7 ∨ k = 8)) ∨ ((j = 59 ∨ j = 60) ∧ k = 99)) S SL12) → (c ≤ 100) → (100 < c + fu) → va_P G.1 vwCl (wX G ad SL12) H_9 → va_D A (wX G ad SL12) → va_S A s.heap H_9 locs_10 → lv_has ls 3 [(2, .int ((nI c))), (0, .ref (ad 57)), (1, .int (3))] → W p l e ({ frames := 12, cells := 0, slots := 0, locals := 330 } : Room) s m args below meth c₀ H_9 locs_10 0 0 Q (F0 m 12 ls []) := by
      intro fu
      induction fu with
      | zero =>
        intro c SL12 H_9 locs_10 ls hXl12 hFl12 hk hf hP hD hS hl
        exact absurd hf (by omega)
      | succ fu ih =>
        intro c SL12 H_9 locs_10 ls hXl12 hFl12 hk hf hP hD hS hl
        refine lv_iload_n hx hb (fk_get fk_cX9_readAny_0 8 rfl) rfl (lv_at hl 0 rfl) ?_
        refine lv_bipush (v := 100) hx hb (fk_get fk_cX9_readAny_0 9 rfl) (by decide) ?_
        refine lv_icmp_ge (tgt := 53) hx hb (fk_get fk_cX9_readAny_0 10 rfl) (by decide) (fun c_11 => ?_) (fun c_11 => ?_)
        · have q_c_11 : 100 ≤ c := ci_le (a := 100) (b := c) (by omega) (by omega) c_11
          refine lv_iconst (v := 1) hx hb (fk_get fk_cX9_readAny_0 28 rfl) (by decide) ?_
          subst hQ
          have hpost : XI SL12 ∧ Fr (fun j k => (j = 57 ∧ (k = 2 ∨ k = 3 ∨ k = 4 ∨ k = 7 ∨ k = 8)) ∨ ((j = 59 ∨ j = 60) ∧ k = 99)) S SL12 ∧ ((1 : Int32) = 0 ∨ (1 : Int32) = 1) := by
            exact ⟨hXl12, hFl12, (by first | exact Or.inl rfl | exact Or.inr rfl)⟩
          exact W.zret (v := 1) hx hb hr rfl (fun t_ ht_ hW_ => ⟨⟨1, SL12, rfl, hpost, by rw [ht_]; exact hP, va_K.moved hW_.alike hK, hD⟩, hS.F ht_⟩) hS.2.2 (fk_get fk_cX9_readAny_0 29 rfl)
        have q_c_11 : c < 100 := ci_nle (a := 100) (b := c) (by omega) (by omega) c_11
        refine lv_aload_n hx hb (fk_get fk_cX9_readAny_0 11 rfl) rfl (lv_at hl 1 rfl) ?_
        refine lv_bipush (v := 124) hx hb (fk_get fk_cX9_readAny_0 12 rfl) (by decide) ?_
        have hFc := va_self hD hS hA
        refine va_calli (va_runV (As := [.int (124)]) (rest := []) ⟨hx, hb, hml, hown, hT⟩ (c_x9_takes l G ad SL12 H_9.size (124) (hXl12)) (tV 1 hT m2_213 m2_215 mp_0 m1_12 m2_216 rfl rfl (by decide +kernel) ⟨Nat.le_of_ble_eq_true rfl, Nat.le_of_ble_eq_true rfl⟩) ⟨PcW_blind, va_recv hK hP (ci := 11) (q0 := 57) rfl (ix_at (lt71 (by omega)) (cX_text G ad SL12)), PcW_of hP hK hD _⟩ rfl rfl hl.1 rfl (lv_room (Nat.le_of_ble_eq_true rfl)) (fk_get fk_cX9_readAny_0 13 rfl) ⟨Nat.zero_le _, Nat.zero_le _⟩) hS (fun q _ h => hFc q h) hFc (fun r_12 S_14 t_ H locs ht_ hvm_ hw_13 hB_ hz_ hk_ hS => ?_)
        obtain ⟨hP, -, hD1_⟩ := hB_
        rw [ht_] at hP
        have hD : va_D A (wX G ad S_14) := hD1_.weaken (fun k q _ h => hFc q.1 h)
        try dsimp only at hw_13
        obtain ⟨hX_15, hF_16_, hw_13⟩ := hw_13
        have hF_16 : Fr (fun j k => (j = 57 ∧ (k = 2 ∨ k = 3 ∨ k = 4 ∨ k = 7 ∨ k = 8)) ∨ ((j = 59 ∨ j = 60) ∧ k = 99)) S S_14 := Fr.trans hFl12 (Fr.mono hF_16_ (fun j k h => by omega))
        refine lv_if_eq (tgt := 53) hx hb (fk_get fk_cX9_readAny_0 14 rfl) (by decide) (fun c_17 => ?_) (fun c_17 => ?_)
        · refine lv_iconst (v := 1) hx hb (fk_get fk_cX9_readAny_0 28 rfl) (by decide) ?_
          subst hQ
          have hpost : XI S_14 ∧ Fr (fun j k => (j = 57 ∧ (k = 2 ∨ k = 3 ∨ k = 4 ∨ k = 7 ∨ k = 8)) ∨ ((j = 59 ∨ j = 60) ∧ k = 99)) S S_14 ∧ ((1 : Int32) = 0 ∨ (1 : Int32) = 1) := by
            exact ⟨hX_15, hF_16, (by first | exact Or.inl rfl | exact Or.inr rfl)⟩
          exact W.zret (v := 1) hx hb hr rfl (fun t_ ht_ hW_ => ⟨⟨1, S_14, rfl, hpost, by rw [ht_]; exact hP, va_K.moved hW_.alike hK, hD⟩, hS.F ht_⟩) hS.2.2 (fk_get fk_cX9_readAny_0 29 rfl)
        refine lv_aload_n hx hb (fk_get fk_cX9_readAny_0 15 rfl) rfl (lv_at hl 1 rfl) ?_
        refine lv_iload_n hx hb (fk_get fk_cX9_readAny_0 16 rfl) rfl (lv_at hl 2 rfl) ?_
        have hFc := va_self hD hS hA
        refine va_calli (va_runV (As := [.int (3)]) (rest := []) ⟨hx, hb, hml, hown, hT⟩ (c_x9_RA_3 l G ad S_14 H.size  (hX_15)) (tV 1 hT m3_60 m3_62 mp_7 m1_12 m3_63 rfl rfl (by decide +kernel) ⟨Nat.le_of_ble_eq_true rfl, Nat.le_of_ble_eq_true rfl⟩) ⟨PcE_blind, va_recv hK hP (ci := 11) (q0 := 57) rfl (ix_at (lt71 (by omega)) (cX_text G ad S_14)), PcE_of hP hK hD hE hS (fun q h => hFc q h) _⟩ rfl rfl hl.1 rfl (lv_room (Nat.le_of_ble_eq_true rfl)) (fk_get fk_cX9_readAny_0 17 rfl) ⟨Nat.zero_le _, Nat.zero_le _⟩) hS (fun q _ h => hFc q h) hFc (fun r_18 S_20 t_ H locs ht_ hvm_ hw_19 hB_ hz_ hk_ hS => ?_)
        obtain ⟨hP, -, hD1_⟩ := hB_
        rw [ht_] at hP
        have hD : va_D A (wX G ad S_20) := hD1_.weaken (fun k q _ h => hFc q.1 h)
        try dsimp only at hw_19
        obtain ⟨hX_21, hF_22_, hw_19⟩ := hw_19
        have hF_22 : Fr (fun j k => (j = 57 ∧ (k = 2 ∨ k = 3 ∨ k = 4 ∨ k = 7 ∨ k = 8)) ∨ ((j = 59 ∨ j = 60) ∧ k = 99)) S S_20 := Fr.trans hF_16 (Fr.mono hF_22_ (fun j k h => by omega))
        refine lv_if_eq (tgt := 45) hx hb (fk_get fk_cX9_readAny_0 18 rfl) (by decide) (fun c_23 => ?_) (fun c_23 => ?_)
        · refine lv_iconst (v := 0) hx hb (fk_get fk_cX9_readAny_0 24 rfl) (by decide) ?_
          subst hQ
          have hpost : XI S_20 ∧ Fr (fun j k => (j = 57 ∧ (k = 2 ∨ k = 3 ∨ k = 4 ∨ k = 7 ∨ k = 8)) ∨ ((j = 59 ∨ j = 60) ∧ k = 99)) S S_20 ∧ ((0 : Int32) = 0 ∨ (0 : Int32) = 1) := by
            exact ⟨hX_21, hF_22, (by first | exact Or.inl rfl | exact Or.inr rfl)⟩
          exact W.zret (v := 0) hx hb hr rfl (fun t_ ht_ hW_ => ⟨⟨0, S_20, rfl, hpost, by rw [ht_]; exact hP, va_K.moved hW_.alike hK, hD⟩, hS.F ht_⟩) hS.2.2 (fk_get fk_cX9_readAny_0 25 rfl)
        refine lv_aload_n hx hb (fk_get fk_cX9_readAny_0 19 rfl) rfl (lv_at hl 1 rfl) ?_
        refine lv_bipush (v := 20) hx hb (fk_get fk_cX9_readAny_0 20 rfl) (by decide) ?_
        refine lv_iconst (v := 0) hx hb (fk_get fk_cX9_readAny_0 21 rfl) (by decide) ?_
        have hFc := va_self hD hS hA
        refine va_calli (va_runV (As := [.int (20), .int (0)]) (rest := []) ⟨hx, hb, hml, hown, hT⟩ (c_x9_putCode l G ad S_20 H.size (20) (0) (hX_21)) (tV 2 hT m3_68 m3_70 mp_9 m1_12 m3_71 rfl rfl (by decide +kernel) ⟨Nat.le_of_ble_eq_true rfl, Nat.le_of_ble_eq_true rfl⟩) ⟨PcW_blind, va_recv hK hP (ci := 11) (q0 := 57) rfl (ix_at (lt71 (by omega)) (cX_text G ad S_20)), PcW_of hP hK hD _⟩ rfl rfl hl.1 rfl (lv_room (Nat.le_of_ble_eq_true rfl)) (fk_get fk_cX9_readAny_0 22 rfl) ⟨Nat.zero_le _, Nat.zero_le _⟩) hS (fun q _ h => hFc q h) hFc (fun r_24 S_26 t_ H locs ht_ hvm_ hw_25 hB_ hz_ hk_ hS => ?_)
        obtain ⟨hP, -, hD1_⟩ := hB_
        rw [ht_] at hP
        have hD : va_D A (wX G ad S_26) := hD1_.weaken (fun k q _ h => hFc q.1 h)
        try dsimp only at hw_25
        obtain ⟨hX_27, hF_28_, hw_25⟩ := hw_25
        have hF_28 : Fr (fun j k => (j = 57 ∧ (k = 2 ∨ k = 3 ∨ k = 4 ∨ k = 7 ∨ k = 8)) ∨ ((j = 59 ∨ j = 60) ∧ k = 99)) S S_26 := Fr.trans hF_22 (Fr.mono hF_28_ (fun j k h => by omega))
        refine lv_if_ne (tgt := 47) hx hb (fk_get fk_cX9_readAny_0 23 rfl) (by decide) (fun c_29 => ?_) (fun c_29 => ?_)
        · refine lv_iinc (v := (nI (c + 1))) (lv' := [(2, .int ((nI (c + 1)))), (0, .ref (ad 57)), (1, .int (3))]) hx hb (fk_get fk_cX9_readAny_0 26 rfl) hl (k := 0) rfl ((nI_1 c)) (by decide) rfl (fun ls hl => ?_)
          refine lv_goto (tgt := 12) hx hb (fk_get fk_cX9_readAny_0 27 rfl) (by decide) ?_
          exact ih (c + 1) (S_26) _ _ ls (hX_27) (hF_28) (by omega) (by omega) hP hD hS (lv_sub hl [0, 1, 2] rfl)
        refine lv_iconst (v := 0) hx hb (fk_get fk_cX9_readAny_0 24 rfl) (by decide) ?_
        subst hQ
        have hpost : XI S_26 ∧ Fr (fun j k => (j = 57 ∧ (k = 2 ∨ k = 3 ∨ k = 4 ∨ k = 7 ∨ k = 8)) ∨ ((j = 59 ∨ j = 60) ∧ k = 99)) S S_26 ∧ ((0 : Int32) = 0 ∨ (0 : Int32) = 1) := by
          exact ⟨hX_27, hF_28, (by first | exact Or.inl rfl | exact Or.inr rfl)⟩
        exact W.zret (v := 0) hx hb hr rfl (fun t_ ht_ hW_ => ⟨⟨0, S_26, rfl, hpost, by rw [ht_]; exact hP, va_K.moved hW_.alike hK, hD⟩, hS.F ht_⟩) hS.2.2 (fk_get fk_cX9_readAny_0 25 rfl)
    exact lp_7 (100 + 1) (0) (S_3) _ _ ls (hX_4) (hF_5) (by omega) (by omega) hP hD hS (lv_sub hl [0, 1, 2] rfl)
  refine lv_iconst (v := 0) hx hb (fk_get fk_cX9_readAny_0 4 rfl) (by decide) ?_
  subst hQ
  have hpost : XI S_3 ∧ Fr (fun j k => (j = 57 ∧ (k = 2 ∨ k = 3 ∨ k = 4 ∨ k = 7 ∨ k = 8)) ∨ ((j = 59 ∨ j = 60) ∧ k = 99)) S S_3 ∧ ((0 : Int32) = 0 ∨ (0 : Int32) = 1) := by
    exact ⟨hX_4, hF_5, (by first | exact Or.inl rfl | exact Or.inr rfl)⟩
  exact W.zret (v := 0) hx hb hr rfl (fun t_ ht_ hW_ => ⟨⟨0, S_3, rfl, hpost, by rw [ht_]; exact hP, va_K.moved hW_.alike hK, hD⟩, hS.F ht_⟩) hS.2.2 (fk_get fk_cX9_readAny_0 5 rfl)
set_option maxHeartbeats 800000 in
set_option maxRecDepth 100000 in
theorem c_x9_RO_2 (l : Launch) (G : GG) (ad : Nat → Nat) (S : FS) (sz : Nat)  (hX : XI S) : Met l yX9_readOne (Cond.code yX9_readOne cX9_readOne 4 (some .boolean) :: TBL) ({ frames := 13, cells := 0, slots := 0, locals := 356 } : Room) (PcE G (wX G ad S) sz [.ref (ad 57), .int (2)]) (va_Qi (fun (r : Int32) (S' : FS) => XI S' ∧ Fr (fun j k => (j = 57 ∧ (k = 2 ∨ k = 3 ∨ k = 4 ∨ k = 7 ∨ k = 8)) ∨ ((j = 59 ∨ j = 60) ∧ k = 99)) S S' ∧ (r = 0 ∨ r = 1)) (fun S' t => BW G (va_A (wX G ad S) sz) (wX G ad S') t) (va_A (wX G ad S) sz)) 0 0 (va_A (wX G ad S) sz) := by
  refine Met.ofW (cc := cX9_readOne) (maxL := 4) (ret := (some .boolean)) (by decide) rfl ?_
  intro p e s m args below meth c₀ s₁ B hml hv
  obtain ⟨rfl, hsz, hP, hK, hD0, hE⟩ := hv
  have hx := B.exec
  have hb := B.bytes
  have hr := B.returns
  have hT : ∀ w ∈ TBL, w.before ([.ref (ad 57), .int (2)] : List Value).toArray s = true := fun w h => atoms_spec (ws := Cond.code yX9_readOne cX9_readOne 4 (some .boolean) :: TBL) B.pre w (List.mem_cons_of_mem _ h)
  have hown : s.vm.findClass "LittleMore$Text" = some m.cls := findClass_of_methodNamed B.named
  have hlocks := B.notSynchronized
  subst hsz
  have hD := hD0.self (sz := s.heap.size)
  generalize hAe : va_A (wX G ad S) s.heap.size = A at hD hE ⊢
  have hA : ∀ q : Nat, s.heap.size ≤ q → A q := fun q h => by rw [← hAe]; exact Or.inr h
  have hS : va_S A s.heap s.heap [] := va_S.rf
  have hP : va_P G.1 vwCl (wX G ad S) s.heap := hP
  have hl := lv_entry ([.ref (ad 57), .int (2)]) (n := 4) (Nat.le_of_ble_eq_true rfl)
  rw [lg_entry_eq]
  generalize (lg_sl ([.ref (ad 57), .int (2)]) ++ List.replicate (4 - (lg_sl ([.ref (ad 57), .int (2)])).length) Slot.unset).toArray = ls at hl ⊢
  have hl : lv_has ls 4 [(0, .ref (ad 57)), (1, .int (2))] := hl
  refine W_abs (fun Q hQ => ?_)
  generalize ([.ref (ad 57), .int (2)] : List Value).toArray = args at hT hQ ⊢
  refine lv_iload_n hx hb (fk_get fk_cX9_readOne_0 0 rfl) rfl (lv_at hl 1 rfl) ?_
  refine lv_iconst (v := 4) hx hb (fk_get fk_cX9_readOne_0 1 rfl) (by decide) ?_
  refine lv_icmp_ge (tgt := 40) hx hb (fk_get fk_cX9_readOne_0 2 rfl) (by decide) (fun c_1 => absurd c_1 ((by decide))) (fun _ => ?_)
  refine lv_aload_n hx hb (fk_get fk_cX9_readOne_0 3 rfl) rfl (lv_at hl 0 rfl) ?_
  refine lv_bipush (v := 33) hx hb (fk_get fk_cX9_readOne_0 4 rfl) (by decide) ?_
  have hFc := va_self hD hS hA
  refine va_calli (va_runV (As := [.int (33)]) (rest := []) ⟨hx, hb, hml, hown, hT⟩ (c_x9_takes l G ad S s.heap.size (33) (hX)) (tV 1 hT m2_213 m2_215 mp_0 m1_12 m2_216 rfl rfl (by decide +kernel) ⟨Nat.le_of_ble_eq_true rfl, Nat.le_of_ble_eq_true rfl⟩) ⟨PcW_blind, va_recv hK hP (ci := 11) (q0 := 57) rfl (ix_at (lt71 (by omega)) (cX_text G ad S)), PcW_of hP hK hD _⟩ rfl rfl hl.1 rfl (lv_room (Nat.le_of_ble_eq_true rfl)) (fk_get fk_cX9_readOne_0 5 rfl) ⟨Nat.zero_le _, Nat.zero_le _⟩) hS (fun q _ h => hFc q h) hFc (fun r_2 S_4 t_ H locs ht_ hvm_ hw_3 hB_ hz_ hk_ hS => ?_)
  obtain ⟨hP, -, hD1_⟩ := hB_
  rw [ht_] at hP
  have hD : va_D A (wX G ad S_4) := hD1_.weaken (fun k q _ h => hFc q.1 h)
  try dsimp only at hw_3
  obtain ⟨hX_5, hF_6_, hw_3⟩ := hw_3
  have hF_6 : Fr (fun j k => (j = 57 ∧ (k = 2 ∨ k = 3 ∨ k = 4 ∨ k = 7 ∨ k = 8)) ∨ ((j = 59 ∨ j = 60) ∧ k = 99)) S S_4 := Fr.trans (Fr.rf : Fr (fun j k => (j = 57 ∧ (k = 2 ∨ k = 3 ∨ k = 4 ∨ k = 7 ∨ k = 8)) ∨ ((j = 59 ∨ j = 60) ∧ k = 99)) S S) (Fr.mono hF_6_ (fun j k h => by omega))
  refine lv_if_eq (tgt := 40) hx hb (fk_get fk_cX9_readOne_0 6 rfl) (by decide) (fun c_7 => ?_) (fun c_7 => ?_)
  · refine lv_iload_n hx hb (fk_get fk_cX9_readOne_0 22 rfl) rfl (lv_at hl 1 rfl) ?_
    refine lv_iconst (v := 4) hx hb (fk_get fk_cX9_readOne_0 23 rfl) (by decide) ?_
    refine lv_icmp_ge (tgt := 79) hx hb (fk_get fk_cX9_readOne_0 24 rfl) (by decide) (fun c_8 => absurd c_8 ((by decide))) (fun _ => ?_)
    refine lv_aload_n hx hb (fk_get fk_cX9_readOne_0 25 rfl) rfl (lv_at hl 0 rfl) ?_
    refine lv_bipush (v := 40) hx hb (fk_get fk_cX9_readOne_0 26 rfl) (by decide) ?_
    have hFc := va_self hD hS hA
    refine va_calli (va_runV (As := [.int (40)]) (rest := []) ⟨hx, hb, hml, hown, hT⟩ (c_x9_takes l G ad S_4 H.size (40) (hX_5)) (tV 1 hT m2_213 m2_215 mp_0 m1_12 m2_216 rfl rfl (by decide +kernel) ⟨Nat.le_of_ble_eq_true rfl, Nat.le_of_ble_eq_true rfl⟩) ⟨PcW_blind, va_recv hK hP (ci := 11) (q0 := 57) rfl (ix_at (lt71 (by omega)) (cX_text G ad S_4)), PcW_of hP hK hD _⟩ rfl rfl hl.1 rfl (lv_room (Nat.le_of_ble_eq_true rfl)) (fk_get fk_cX9_readOne_0 27 rfl) ⟨Nat.zero_le _, Nat.zero_le _⟩) hS (fun q _ h => hFc q h) hFc (fun r_9 S_11 t_ H locs ht_ hvm_ hw_10 hB_ hz_ hk_ hS => ?_)
    obtain ⟨hP, -, hD1_⟩ := hB_
    rw [ht_] at hP
    have hD : va_D A (wX G ad S_11) := hD1_.weaken (fun k q _ h => hFc q.1 h)
    try dsimp only at hw_10
    obtain ⟨hX_12, hF_13_, hw_10⟩ := hw_10
    have hF_13 : Fr (fun j k => (j = 57 ∧ (k = 2 ∨ k = 3 ∨ k = 4 ∨ k = 7 ∨ k = 8)) ∨ ((j = 59 ∨ j = 60) ∧ k = 99)) S S_11 := Fr.trans hF_6 (Fr.mono hF_13_ (fun j k h => by omega))
    refine lv_if_eq (tgt := 79) hx hb (fk_get fk_cX9_readOne_0 28 rfl) (by decide) (fun c_14 => ?_) (fun c_14 => ?_)
    · refine lv_aload_n hx hb (fk_get fk_cX9_readOne_1 11 rfl) rfl (lv_at hl 0 rfl) ?_
      refine va_ldcS (q := G.2.2.2 (310 + 4)) (tx := txS 4) hx hb hown (hE.2.2.2.2.1.2 4 (by omega)) (fk_get fk_cX9_readOne_1 12 rfl) ?_
      have hFc := va_self hD hS hA
      refine va_calli (va_runV (As := [.ref (G.2.2.2 (310 + 4))]) (rest := []) ⟨hx, hb, hml, hown, hT⟩ (c_x9_takesOneOf l G ad S_11 H.size (4) ((by omega : 4 < 6)) (hX_12)) (tV 1 hT m3_73 m3_75 mp_10 m1_12 m3_76 rfl rfl (by decide +kernel) ⟨Nat.le_of_ble_eq_true rfl, Nat.le_of_ble_eq_true rfl⟩) ⟨PcE_blind, va_recv hK hP (ci := 11) (q0 := 57) rfl (ix_at (lt71 (by omega)) (cX_text G ad S_11)), PcE_of hP hK hD hE hS (fun q h => hFc q h) _⟩ rfl rfl hl.1 rfl (lv_room (Nat.le_of_ble_eq_true rfl)) (fk_get fk_cX9_readOne_1 13 rfl) ⟨Nat.zero_le _, Nat.zero_le _⟩) hS (fun q _ h => hFc q h) hFc (fun r_15 S_17 t_ H locs ht_ hvm_ hw_16 hB_ hz_ hk_ hS => ?_)
      obtain ⟨hP, -, hD1_⟩ := hB_
      rw [ht_] at hP
      have hD : va_D A (wX G ad S_17) := hD1_.weaken (fun k q _ h => hFc q.1 h)
      try dsimp only at hw_16
      obtain ⟨hX_18, hF_19_, hw_16⟩ := hw_16
      have hF_19 : Fr (fun j k => (j = 57 ∧ (k = 2 ∨ k = 3 ∨ k = 4 ∨ k = 7 ∨ k = 8)) ∨ ((j = 59 ∨ j = 60) ∧ k = 99)) S S_17 := Fr.trans hF_13 (Fr.mono hF_19_ (fun j k h => by omega))
      refine lv_istore_n (lv' := [(2, .int (r_15)), (0, .ref (ad 57)), (1, .int (2))]) hx hb (fk_get fk_cX9_readOne_1 14 rfl) rfl hl (by decide) rfl (fun ls hl => ?_)
      refine lv_iload_n hx hb (fk_get fk_cX9_readOne_1 15 rfl) rfl (lv_at hl 0 rfl) ?_
      refine lv_if_ge (tgt := 94) hx hb (fk_get fk_cX9_readOne_1 16 rfl) (by decide) (fun c_20 => ?_) (fun c_20 => ?_)
      · refine lv_aload_n hx hb (fk_get fk_cX9_readOne_1 19 rfl) rfl (lv_at hl 1 rfl) ?_
        refine va_ldcS (q := G.2.2.2 (310 + 5)) (tx := txS 5) hx hb hown (hE.2.2.2.2.1.2 5 (by omega)) (fk_get fk_cX9_readOne_1 20 rfl) ?_
        have hFc := va_self hD hS hA
        refine va_calli (va_runV (As := [.ref (G.2.2.2 (310 + 5))]) (rest := []) ⟨hx, hb, hml, hown, hT⟩ (c_x9_takesOneOf l G ad S_17 H.size (5) ((by omega : 5 < 6)) (hX_18)) (tV 1 hT m3_73 m3_75 mp_10 m1_12 m3_76 rfl rfl (by decide +kernel) ⟨Nat.le_of_ble_eq_true rfl, Nat.le_of_ble_eq_true rfl⟩) ⟨PcE_blind, va_recv hK hP (ci := 11) (q0 := 57) rfl (ix_at (lt71 (by omega)) (cX_text G ad S_17)), PcE_of hP hK hD hE hS (fun q h => hFc q h) _⟩ rfl rfl hl.1 rfl (lv_room (Nat.le_of_ble_eq_true rfl)) (fk_get fk_cX9_readOne_1 21 rfl) ⟨Nat.zero_le _, Nat.zero_le _⟩) hS (fun q _ h => hFc q h) hFc (fun r_21 S_23 t_ H locs ht_ hvm_ hw_22 hB_ hz_ hk_ hS => ?_)
        obtain ⟨hP, -, hD1_⟩ := hB_
        rw [ht_] at hP
        have hD : va_D A (wX G ad S_23) := hD1_.weaken (fun k q _ h => hFc q.1 h)
        try dsimp only at hw_22
        obtain ⟨hX_24, hF_25_, hw_22⟩ := hw_22
        have hF_25 : Fr (fun j k => (j = 57 ∧ (k = 2 ∨ k = 3 ∨ k = 4 ∨ k = 7 ∨ k = 8)) ∨ ((j = 59 ∨ j = 60) ∧ k = 99)) S S_23 := Fr.trans hF_19 (Fr.mono hF_25_ (fun j k h => by omega))
        refine lv_istore_n (lv' := [(3, .int (r_21)), (2, .int (r_15)), (0, .ref (ad 57)), (1, .int (2))]) hx hb (fk_get fk_cX9_readOne_1 22 rfl) rfl hl (by decide) rfl (fun ls hl => ?_)
        refine lv_iload_n hx hb (fk_get fk_cX9_readOne_1 23 rfl) rfl (lv_at hl 0 rfl) ?_
        refine lv_if_lt (tgt := 132) hx hb (fk_get fk_cX9_readOne_1 24 rfl) (by decide) (fun c_26 => ?_) (fun c_26 => ?_)
        · refine lv_iconst (v := 0) hx hb (fk_get fk_cX9_readOne_2 8 rfl) (by decide) ?_
          subst hQ
          have hpost : XI S_23 ∧ Fr (fun j k => (j = 57 ∧ (k = 2 ∨ k = 3 ∨ k = 4 ∨ k = 7 ∨ k = 8)) ∨ ((j = 59 ∨ j = 60) ∧ k = 99)) S S_23 ∧ ((0 : Int32) = 0 ∨ (0 : Int32) = 1) := by
            exact ⟨hX_24, hF_25, (by first | exact Or.inl rfl | exact Or.inr rfl)⟩
          exact W.zret (v := 0) hx hb hr rfl (fun t_ ht_ hW_ => ⟨⟨0, S_23, rfl, hpost, by rw [ht_]; exact hP, va_K.moved hW_.alike hK, hD⟩, hS.F ht_⟩) hS.2.2 (fk_get fk_cX9_readOne_2 9 rfl)
        refine lv_aload_n hx hb (fk_get fk_cX9_readOne_1 25 rfl) rfl (lv_at hl 2 rfl) ?_
        have hFc := va_self hD hS hA
        refine va_calli (va_runV (As := []) (rest := []) ⟨hx, hb, hml, hown, hT⟩ (c_x9_readNumber l G ad S_23 H.size  (hX_24)) (tV 0 hT m3_49 m3_51 mp_5 m1_12 m3_52 rfl rfl (by decide +kernel) ⟨Nat.le_of_ble_eq_true rfl, Nat.le_of_ble_eq_true rfl⟩) ⟨PcW_blind, va_recv hK hP (ci := 11) (q0 := 57) rfl (ix_at (lt71 (by omega)) (cX_text G ad S_23)), PcW_of hP hK hD _⟩ rfl rfl hl.1 rfl (lv_room (Nat.le_of_ble_eq_true rfl)) (fk_get fk_cX9_readOne_1 26 rfl) ⟨Nat.zero_le _, Nat.zero_le _⟩) hS (fun q _ h => hFc q h) hFc (fun r_27 S_29 t_ H locs ht_ hvm_ hw_28 hB_ hz_ hk_ hS => ?_)
        obtain ⟨hP, -, hD1_⟩ := hB_
        rw [ht_] at hP
        have hD : va_D A (wX G ad S_29) := hD1_.weaken (fun k q _ h => hFc q.1 h)
        try dsimp only at hw_28
        obtain ⟨hX_30, hF_31_, hw_28⟩ := hw_28
        have hF_31 : Fr (fun j k => (j = 57 ∧ (k = 2 ∨ k = 3 ∨ k = 4 ∨ k = 7 ∨ k = 8)) ∨ ((j = 59 ∨ j = 60) ∧ k = 99)) S S_29 := Fr.trans hF_25 (Fr.mono hF_31_ (fun j k h => by omega))
        refine lv_if_eq (tgt := 132) hx hb (fk_get fk_cX9_readOne_1 27 rfl) (by decide) (fun c_32 => ?_) (fun c_32 => ?_)
        · refine lv_iconst (v := 0) hx hb (fk_get fk_cX9_readOne_2 8 rfl) (by decide) ?_
          subst hQ
          have hpost : XI S_29 ∧ Fr (fun j k => (j = 57 ∧ (k = 2 ∨ k = 3 ∨ k = 4 ∨ k = 7 ∨ k = 8)) ∨ ((j = 59 ∨ j = 60) ∧ k = 99)) S S_29 ∧ ((0 : Int32) = 0 ∨ (0 : Int32) = 1) := by
            exact ⟨hX_30, hF_31, (by first | exact Or.inl rfl | exact Or.inr rfl)⟩
          exact W.zret (v := 0) hx hb hr rfl (fun t_ ht_ hW_ => ⟨⟨0, S_29, rfl, hpost, by rw [ht_]; exact hP, va_K.moved hW_.alike hK, hD⟩, hS.F ht_⟩) hS.2.2 (fk_get fk_cX9_readOne_2 9 rfl)
        refine lv_aload_n hx hb (fk_get fk_cX9_readOne_1 28 rfl) rfl (lv_at hl 2 rfl) ?_
        refine lv_iload_n hx hb (fk_get fk_cX9_readOne_1 29 rfl) rfl (lv_at hl 1 rfl) ?_
        refine lv_iconst (v := 3) hx hb (fk_get fk_cX9_readOne_1 30 rfl) (by decide) ?_
        refine lv_imul hx hb (fk_get fk_cX9_readOne_1 31 rfl) ?_
        refine lv_iload_n hx hb (fk_get fk_cX9_readOne_2 0 rfl) rfl (lv_at hl 0 rfl) ?_
        refine lv_iadd hx hb (fk_get fk_cX9_readOne_2 1 rfl) ?_
        refine lv_aload_n hx hb (fk_get fk_cX9_readOne_2 2 rfl) rfl (lv_at hl 2 rfl) ?_
        refine va_get (D := G.1) (ci := 11) (v := .int (fF S_29 57 8)) (C := RX9) (T := TX9) (N := 9) hx hb hT inX9 hown hK hP 57 (ix_at (lt71 (by omega)) (cX_text G ad S_29)) rfl 8 (by decide) (hT _ m2_17) (fun _ h9 => h9) rfl (fk_get fk_cX9_readOne_2 3 rfl) ?_
        have hFc := va_self hD hS hA
        refine va_calli (va_runV (As := [.int (((r_15 * 3) + r_21)), .int ((fF S_29 57 8))]) (rest := []) ⟨hx, hb, hml, hown, hT⟩ (c_x9_putCode l G ad S_29 H.size (((r_15 * 3) + r_21)) ((fF S_29 57 8)) (hX_30)) (tV 2 hT m3_68 m3_70 mp_9 m1_12 m3_71 rfl rfl (by decide +kernel) ⟨Nat.le_of_ble_eq_true rfl, Nat.le_of_ble_eq_true rfl⟩) ⟨PcW_blind, va_recv hK hP (ci := 11) (q0 := 57) rfl (ix_at (lt71 (by omega)) (cX_text G ad S_29)), PcW_of hP hK hD _⟩ rfl rfl hl.1 rfl (lv_room (Nat.le_of_ble_eq_true rfl)) (fk_get fk_cX9_readOne_2 4 rfl) ⟨Nat.zero_le _, Nat.zero_le _⟩) hS (fun q _ h => hFc q h) hFc (fun r_33 S_35 t_ H locs ht_ hvm_ hw_34 hB_ hz_ hk_ hS => ?_)
        obtain ⟨hP, -, hD1_⟩ := hB_
        rw [ht_] at hP
        have hD : va_D A (wX G ad S_35) := hD1_.weaken (fun k q _ h => hFc q.1 h)
        try dsimp only at hw_34
        obtain ⟨hX_36, hF_37_, hw_34⟩ := hw_34
        have hF_37 : Fr (fun j k => (j = 57 ∧ (k = 2 ∨ k = 3 ∨ k = 4 ∨ k = 7 ∨ k = 8)) ∨ ((j = 59 ∨ j = 60) ∧ k = 99)) S S_35 := Fr.trans hF_31 (Fr.mono hF_37_ (fun j k h => by omega))
        refine lv_if_eq (tgt := 132) hx hb (fk_get fk_cX9_readOne_2 5 rfl) (by decide) (fun c_38 => ?_) (fun c_38 => ?_)
        · refine lv_iconst (v := 0) hx hb (fk_get fk_cX9_readOne_2 8 rfl) (by decide) ?_
          subst hQ
          have hpost : XI S_35 ∧ Fr (fun j k => (j = 57 ∧ (k = 2 ∨ k = 3 ∨ k = 4 ∨ k = 7 ∨ k = 8)) ∨ ((j = 59 ∨ j = 60) ∧ k = 99)) S S_35 ∧ ((0 : Int32) = 0 ∨ (0 : Int32) = 1) := by
            exact ⟨hX_36, hF_37, (by first | exact Or.inl rfl | exact Or.inr rfl)⟩
          exact W.zret (v := 0) hx hb hr rfl (fun t_ ht_ hW_ => ⟨⟨0, S_35, rfl, hpost, by rw [ht_]; exact hP, va_K.moved hW_.alike hK, hD⟩, hS.F ht_⟩) hS.2.2 (fk_get fk_cX9_readOne_2 9 rfl)
        refine lv_iconst (v := 1) hx hb (fk_get fk_cX9_readOne_2 6 rfl) (by decide) ?_
        refine lv_goto (tgt := 133) hx hb (fk_get fk_cX9_readOne_2 7 rfl) (by decide) ?_
        subst hQ
        have hpost : XI S_35 ∧ Fr (fun j k => (j = 57 ∧ (k = 2 ∨ k = 3 ∨ k = 4 ∨ k = 7 ∨ k = 8)) ∨ ((j = 59 ∨ j = 60) ∧ k = 99)) S S_35 ∧ ((1 : Int32) = 0 ∨ (1 : Int32) = 1) := by
          exact ⟨hX_36, hF_37, (by first | exact Or.inl rfl | exact Or.inr rfl)⟩
        exact W.zret (v := 1) hx hb hr rfl (fun t_ ht_ hW_ => ⟨⟨1, S_35, rfl, hpost, by rw [ht_]; exact hP, va_K.moved hW_.alike hK, hD⟩, hS.F ht_⟩) hS.2.2 (fk_get fk_cX9_readOne_2 9 rfl)
      refine lv_iload_n hx hb (fk_get fk_cX9_readOne_1 17 rfl) rfl (lv_at hl 0 rfl) ?_
      refine lv_goto (tgt := 100) hx hb (fk_get fk_cX9_readOne_1 18 rfl) (by decide) ?_
      refine lv_istore_n (lv' := [(3, .int (r_15)), (2, .int (r_15)), (0, .ref (ad 57)), (1, .int (2))]) hx hb (fk_get fk_cX9_readOne_1 22 rfl) rfl hl (by decide) rfl (fun ls hl => ?_)
      refine lv_iload_n hx hb (fk_get fk_cX9_readOne_1 23 rfl) rfl (lv_at hl 0 rfl) ?_
      refine lv_if_lt (tgt := 132) hx hb (fk_get fk_cX9_readOne_1 24 rfl) (by decide) (fun _ => ?_) (fun c_39 => absurd (by first | assumption | exact Int32.not_lt.mp (by assumption) | exact Int32.not_le.mp (by assumption) | exact Int32.not_lt.mpr (by assumption) | exact Int32.not_le.mpr (by assumption) ) c_39)
      refine lv_iconst (v := 0) hx hb (fk_get fk_cX9_readOne_2 8 rfl) (by decide) ?_
      subst hQ
      have hpost : XI S_17 ∧ Fr (fun j k => (j = 57 ∧ (k = 2 ∨ k = 3 ∨ k = 4 ∨ k = 7 ∨ k = 8)) ∨ ((j = 59 ∨ j = 60) ∧ k = 99)) S S_17 ∧ ((0 : Int32) = 0 ∨ (0 : Int32) = 1) := by
        exact ⟨hX_18, hF_19, (by first | exact Or.inl rfl | exact Or.inr rfl)⟩
      exact W.zret (v := 0) hx hb hr rfl (fun t_ ht_ hW_ => ⟨⟨0, S_17, rfl, hpost, by rw [ht_]; exact hP, va_K.moved hW_.alike hK, hD⟩, hS.F ht_⟩) hS.2.2 (fk_get fk_cX9_readOne_2 9 rfl)
    refine lv_aload_n hx hb (fk_get fk_cX9_readOne_0 29 rfl) rfl (lv_at hl 0 rfl) ?_
    refine lv_iload_n hx hb (fk_get fk_cX9_readOne_0 30 rfl) rfl (lv_at hl 1 rfl) ?_
    refine lv_iconst (v := 1) hx hb (fk_get fk_cX9_readOne_0 31 rfl) (by decide) ?_
    refine lv_iadd hx hb (fk_get fk_cX9_readOne_1 0 rfl) ?_
    rw [show ((2 + 1) : Int32) = 3 from by decide]
    have hFc := va_self hD hS hA
    refine va_calli (va_runV (As := [.int (3)]) (rest := []) ⟨hx, hb, hml, hown, hT⟩ (c_x9_RY_3 l G ad S_11 H.size  (hX_12)) (tV 1 hT m3_56 m3_58 mp_6 m1_12 m3_59 rfl rfl (by decide +kernel) ⟨Nat.le_of_ble_eq_true rfl, Nat.le_of_ble_eq_true rfl⟩) ⟨PcE_blind, va_recv hK hP (ci := 11) (q0 := 57) rfl (ix_at (lt71 (by omega)) (cX_text G ad S_11)), PcE_of hP hK hD hE hS (fun q h => hFc q h) _⟩ rfl rfl hl.1 rfl (lv_room (Nat.le_of_ble_eq_true rfl)) (fk_get fk_cX9_readOne_1 1 rfl) ⟨Nat.zero_le _, Nat.zero_le _⟩) hS (fun q _ h => hFc q h) hFc (fun r_40 S_42 t_ H locs ht_ hvm_ hw_41 hB_ hz_ hk_ hS => ?_)
    obtain ⟨hP, -, hD1_⟩ := hB_
    rw [ht_] at hP
    have hD : va_D A (wX G ad S_42) := hD1_.weaken (fun k q _ h => hFc q.1 h)
    try dsimp only at hw_41
    obtain ⟨hX_43, hF_44_, hw_41⟩ := hw_41
    have hF_44 : Fr (fun j k => (j = 57 ∧ (k = 2 ∨ k = 3 ∨ k = 4 ∨ k = 7 ∨ k = 8)) ∨ ((j = 59 ∨ j = 60) ∧ k = 99)) S S_42 := Fr.trans hF_13 (Fr.mono hF_44_ (fun j k h => by omega))
    refine lv_if_eq (tgt := 77) hx hb (fk_get fk_cX9_readOne_1 2 rfl) (by decide) (fun c_45 => ?_) (fun c_45 => ?_)
    · refine lv_iconst (v := 0) hx hb (fk_get fk_cX9_readOne_1 9 rfl) (by decide) ?_
      subst hQ
      have hpost : XI S_42 ∧ Fr (fun j k => (j = 57 ∧ (k = 2 ∨ k = 3 ∨ k = 4 ∨ k = 7 ∨ k = 8)) ∨ ((j = 59 ∨ j = 60) ∧ k = 99)) S S_42 ∧ ((0 : Int32) = 0 ∨ (0 : Int32) = 1) := by
        exact ⟨hX_43, hF_44, (by first | exact Or.inl rfl | exact Or.inr rfl)⟩
      exact W.zret (v := 0) hx hb hr rfl (fun t_ ht_ hW_ => ⟨⟨0, S_42, rfl, hpost, by rw [ht_]; exact hP, va_K.moved hW_.alike hK, hD⟩, hS.F ht_⟩) hS.2.2 (fk_get fk_cX9_readOne_1 10 rfl)
    refine lv_aload_n hx hb (fk_get fk_cX9_readOne_1 3 rfl) rfl (lv_at hl 0 rfl) ?_
    refine lv_bipush (v := 41) hx hb (fk_get fk_cX9_readOne_1 4 rfl) (by decide) ?_
    have hFc := va_self hD hS hA
    refine va_calli (va_runV (As := [.int (41)]) (rest := []) ⟨hx, hb, hml, hown, hT⟩ (c_x9_takes l G ad S_42 H.size (41) (hX_43)) (tV 1 hT m2_213 m2_215 mp_0 m1_12 m2_216 rfl rfl (by decide +kernel) ⟨Nat.le_of_ble_eq_true rfl, Nat.le_of_ble_eq_true rfl⟩) ⟨PcW_blind, va_recv hK hP (ci := 11) (q0 := 57) rfl (ix_at (lt71 (by omega)) (cX_text G ad S_42)), PcW_of hP hK hD _⟩ rfl rfl hl.1 rfl (lv_room (Nat.le_of_ble_eq_true rfl)) (fk_get fk_cX9_readOne_1 5 rfl) ⟨Nat.zero_le _, Nat.zero_le _⟩) hS (fun q _ h => hFc q h) hFc (fun r_46 S_48 t_ H locs ht_ hvm_ hw_47 hB_ hz_ hk_ hS => ?_)
    obtain ⟨hP, -, hD1_⟩ := hB_
    rw [ht_] at hP
    have hD : va_D A (wX G ad S_48) := hD1_.weaken (fun k q _ h => hFc q.1 h)
    try dsimp only at hw_47
    obtain ⟨hX_49, hF_50_, hw_47⟩ := hw_47
    have hF_50 : Fr (fun j k => (j = 57 ∧ (k = 2 ∨ k = 3 ∨ k = 4 ∨ k = 7 ∨ k = 8)) ∨ ((j = 59 ∨ j = 60) ∧ k = 99)) S S_48 := Fr.trans hF_44 (Fr.mono hF_50_ (fun j k h => by omega))
    refine lv_if_eq (tgt := 77) hx hb (fk_get fk_cX9_readOne_1 6 rfl) (by decide) (fun c_51 => ?_) (fun c_51 => ?_)
    · refine lv_iconst (v := 0) hx hb (fk_get fk_cX9_readOne_1 9 rfl) (by decide) ?_
      subst hQ
      have hpost : XI S_48 ∧ Fr (fun j k => (j = 57 ∧ (k = 2 ∨ k = 3 ∨ k = 4 ∨ k = 7 ∨ k = 8)) ∨ ((j = 59 ∨ j = 60) ∧ k = 99)) S S_48 ∧ ((0 : Int32) = 0 ∨ (0 : Int32) = 1) := by
        exact ⟨hX_49, hF_50, (by first | exact Or.inl rfl | exact Or.inr rfl)⟩
      exact W.zret (v := 0) hx hb hr rfl (fun t_ ht_ hW_ => ⟨⟨0, S_48, rfl, hpost, by rw [ht_]; exact hP, va_K.moved hW_.alike hK, hD⟩, hS.F ht_⟩) hS.2.2 (fk_get fk_cX9_readOne_1 10 rfl)
    refine lv_iconst (v := 1) hx hb (fk_get fk_cX9_readOne_1 7 rfl) (by decide) ?_
    refine lv_goto (tgt := 78) hx hb (fk_get fk_cX9_readOne_1 8 rfl) (by decide) ?_
    subst hQ
    have hpost : XI S_48 ∧ Fr (fun j k => (j = 57 ∧ (k = 2 ∨ k = 3 ∨ k = 4 ∨ k = 7 ∨ k = 8)) ∨ ((j = 59 ∨ j = 60) ∧ k = 99)) S S_48 ∧ ((1 : Int32) = 0 ∨ (1 : Int32) = 1) := by
      exact ⟨hX_49, hF_50, (by first | exact Or.inl rfl | exact Or.inr rfl)⟩
    exact W.zret (v := 1) hx hb hr rfl (fun t_ ht_ hW_ => ⟨⟨1, S_48, rfl, hpost, by rw [ht_]; exact hP, va_K.moved hW_.alike hK, hD⟩, hS.F ht_⟩) hS.2.2 (fk_get fk_cX9_readOne_1 10 rfl)
  refine lv_aload_n hx hb (fk_get fk_cX9_readOne_0 7 rfl) rfl (lv_at hl 0 rfl) ?_
  refine lv_iload_n hx hb (fk_get fk_cX9_readOne_0 8 rfl) rfl (lv_at hl 1 rfl) ?_
  refine lv_iconst (v := 1) hx hb (fk_get fk_cX9_readOne_0 9 rfl) (by decide) ?_
  refine lv_iadd hx hb (fk_get fk_cX9_readOne_0 10 rfl) ?_
  rw [show ((2 + 1) : Int32) = 3 from by decide]
  have hFc := va_self hD hS hA
  refine va_calli (va_runV (As := [.int (3)]) (rest := []) ⟨hx, hb, hml, hown, hT⟩ (c_x9_RO_3 l G ad S_4 H.size  (hX_5)) (tV 1 hT m3_64 m3_66 mp_8 m1_12 m3_67 rfl rfl (by decide +kernel) ⟨Nat.le_of_ble_eq_true rfl, Nat.le_of_ble_eq_true rfl⟩) ⟨PcE_blind, va_recv hK hP (ci := 11) (q0 := 57) rfl (ix_at (lt71 (by omega)) (cX_text G ad S_4)), PcE_of hP hK hD hE hS (fun q h => hFc q h) _⟩ rfl rfl hl.1 rfl (lv_room (Nat.le_of_ble_eq_true rfl)) (fk_get fk_cX9_readOne_0 11 rfl) ⟨Nat.zero_le _, Nat.zero_le _⟩) hS (fun q _ h => hFc q h) hFc (fun r_52 S_54 t_ H locs ht_ hvm_ hw_53 hB_ hz_ hk_ hS => ?_)
  obtain ⟨hP, -, hD1_⟩ := hB_
  rw [ht_] at hP
  have hD : va_D A (wX G ad S_54) := hD1_.weaken (fun k q _ h => hFc q.1 h)
  try dsimp only at hw_53
  obtain ⟨hX_55, hF_56_, hw_53⟩ := hw_53
  have hF_56 : Fr (fun j k => (j = 57 ∧ (k = 2 ∨ k = 3 ∨ k = 4 ∨ k = 7 ∨ k = 8)) ∨ ((j = 59 ∨ j = 60) ∧ k = 99)) S S_54 := Fr.trans hF_6 (Fr.mono hF_56_ (fun j k h => by omega))
  refine lv_if_eq (tgt := 38) hx hb (fk_get fk_cX9_readOne_0 12 rfl) (by decide) (fun c_57 => ?_) (fun c_57 => ?_)
  · refine lv_iconst (v := 0) hx hb (fk_get fk_cX9_readOne_0 20 rfl) (by decide) ?_
    subst hQ
    have hpost : XI S_54 ∧ Fr (fun j k => (j = 57 ∧ (k = 2 ∨ k = 3 ∨ k = 4 ∨ k = 7 ∨ k = 8)) ∨ ((j = 59 ∨ j = 60) ∧ k = 99)) S S_54 ∧ ((0 : Int32) = 0 ∨ (0 : Int32) = 1) := by
      exact ⟨hX_55, hF_56, (by first | exact Or.inl rfl | exact Or.inr rfl)⟩
    exact W.zret (v := 0) hx hb hr rfl (fun t_ ht_ hW_ => ⟨⟨0, S_54, rfl, hpost, by rw [ht_]; exact hP, va_K.moved hW_.alike hK, hD⟩, hS.F ht_⟩) hS.2.2 (fk_get fk_cX9_readOne_0 21 rfl)
  refine lv_aload_n hx hb (fk_get fk_cX9_readOne_0 13 rfl) rfl (lv_at hl 0 rfl) ?_
  refine lv_bipush (v := 18) hx hb (fk_get fk_cX9_readOne_0 14 rfl) (by decide) ?_
  refine lv_iconst (v := 0) hx hb (fk_get fk_cX9_readOne_0 15 rfl) (by decide) ?_
  have hFc := va_self hD hS hA
  refine va_calli (va_runV (As := [.int (18), .int (0)]) (rest := []) ⟨hx, hb, hml, hown, hT⟩ (c_x9_putCode l G ad S_54 H.size (18) (0) (hX_55)) (tV 2 hT m3_68 m3_70 mp_9 m1_12 m3_71 rfl rfl (by decide +kernel) ⟨Nat.le_of_ble_eq_true rfl, Nat.le_of_ble_eq_true rfl⟩) ⟨PcW_blind, va_recv hK hP (ci := 11) (q0 := 57) rfl (ix_at (lt71 (by omega)) (cX_text G ad S_54)), PcW_of hP hK hD _⟩ rfl rfl hl.1 rfl (lv_room (Nat.le_of_ble_eq_true rfl)) (fk_get fk_cX9_readOne_0 16 rfl) ⟨Nat.zero_le _, Nat.zero_le _⟩) hS (fun q _ h => hFc q h) hFc (fun r_58 S_60 t_ H locs ht_ hvm_ hw_59 hB_ hz_ hk_ hS => ?_)
  obtain ⟨hP, -, hD1_⟩ := hB_
  rw [ht_] at hP
  have hD : va_D A (wX G ad S_60) := hD1_.weaken (fun k q _ h => hFc q.1 h)
  try dsimp only at hw_59
  obtain ⟨hX_61, hF_62_, hw_59⟩ := hw_59
  have hF_62 : Fr (fun j k => (j = 57 ∧ (k = 2 ∨ k = 3 ∨ k = 4 ∨ k = 7 ∨ k = 8)) ∨ ((j = 59 ∨ j = 60) ∧ k = 99)) S S_60 := Fr.trans hF_56 (Fr.mono hF_62_ (fun j k h => by omega))
  refine lv_if_eq (tgt := 38) hx hb (fk_get fk_cX9_readOne_0 17 rfl) (by decide) (fun c_63 => ?_) (fun c_63 => ?_)
  · refine lv_iconst (v := 0) hx hb (fk_get fk_cX9_readOne_0 20 rfl) (by decide) ?_
    subst hQ
    have hpost : XI S_60 ∧ Fr (fun j k => (j = 57 ∧ (k = 2 ∨ k = 3 ∨ k = 4 ∨ k = 7 ∨ k = 8)) ∨ ((j = 59 ∨ j = 60) ∧ k = 99)) S S_60 ∧ ((0 : Int32) = 0 ∨ (0 : Int32) = 1) := by
      exact ⟨hX_61, hF_62, (by first | exact Or.inl rfl | exact Or.inr rfl)⟩
    exact W.zret (v := 0) hx hb hr rfl (fun t_ ht_ hW_ => ⟨⟨0, S_60, rfl, hpost, by rw [ht_]; exact hP, va_K.moved hW_.alike hK, hD⟩, hS.F ht_⟩) hS.2.2 (fk_get fk_cX9_readOne_0 21 rfl)
  refine lv_iconst (v := 1) hx hb (fk_get fk_cX9_readOne_0 18 rfl) (by decide) ?_
  refine lv_goto (tgt := 39) hx hb (fk_get fk_cX9_readOne_0 19 rfl) (by decide) ?_
  subst hQ
  have hpost : XI S_60 ∧ Fr (fun j k => (j = 57 ∧ (k = 2 ∨ k = 3 ∨ k = 4 ∨ k = 7 ∨ k = 8)) ∨ ((j = 59 ∨ j = 60) ∧ k = 99)) S S_60 ∧ ((1 : Int32) = 0 ∨ (1 : Int32) = 1) := by
    exact ⟨hX_61, hF_62, (by first | exact Or.inl rfl | exact Or.inr rfl)⟩
  exact W.zret (v := 1) hx hb hr rfl (fun t_ ht_ hW_ => ⟨⟨1, S_60, rfl, hpost, by rw [ht_]; exact hP, va_K.moved hW_.alike hK, hD⟩, hS.F ht_⟩) hS.2.2 (fk_get fk_cX9_readOne_0 21 rfl)
set_option maxHeartbeats 800000 in
set_option maxRecDepth 100000 in
theorem c_x9_RA_2 (l : Launch) (G : GG) (ad : Nat → Nat) (S : FS) (sz : Nat)  (hX : XI S) : Met l yX9_readAll (Cond.code yX9_readAll cX9_readAll 3 (some .boolean) :: TBL) ({ frames := 14, cells := 0, slots := 0, locals := 383 } : Room) (PcE G (wX G ad S) sz [.ref (ad 57), .int (2)]) (va_Qi (fun (r : Int32) (S' : FS) => XI S' ∧ Fr (fun j k => (j = 57 ∧ (k = 2 ∨ k = 3 ∨ k = 4 ∨ k = 7 ∨ k = 8)) ∨ ((j = 59 ∨ j = 60) ∧ k = 99)) S S' ∧ (r = 0 ∨ r = 1)) (fun S' t => BW G (va_A (wX G ad S) sz) (wX G ad S') t) (va_A (wX G ad S) sz)) 0 0 (va_A (wX G ad S) sz) := by
  refine Met.ofW (cc := cX9_readAll) (maxL := 3) (ret := (some .boolean)) (by decide) rfl ?_
  intro p e s m args below meth c₀ s₁ B hml hv
  obtain ⟨rfl, hsz, hP, hK, hD0, hE⟩ := hv
  have hx := B.exec
  have hb := B.bytes
  have hr := B.returns
  have hT : ∀ w ∈ TBL, w.before ([.ref (ad 57), .int (2)] : List Value).toArray s = true := fun w h => atoms_spec (ws := Cond.code yX9_readAll cX9_readAll 3 (some .boolean) :: TBL) B.pre w (List.mem_cons_of_mem _ h)
  have hown : s.vm.findClass "LittleMore$Text" = some m.cls := findClass_of_methodNamed B.named
  have hlocks := B.notSynchronized
  subst hsz
  have hD := hD0.self (sz := s.heap.size)
  generalize hAe : va_A (wX G ad S) s.heap.size = A at hD hE ⊢
  have hA : ∀ q : Nat, s.heap.size ≤ q → A q := fun q h => by rw [← hAe]; exact Or.inr h
  have hS : va_S A s.heap s.heap [] := va_S.rf
  have hP : va_P G.1 vwCl (wX G ad S) s.heap := hP
  have hl := lv_entry ([.ref (ad 57), .int (2)]) (n := 3) (Nat.le_of_ble_eq_true rfl)
  rw [lg_entry_eq]
  generalize (lg_sl ([.ref (ad 57), .int (2)]) ++ List.replicate (3 - (lg_sl ([.ref (ad 57), .int (2)])).length) Slot.unset).toArray = ls at hl ⊢
  have hl : lv_has ls 3 [(0, .ref (ad 57)), (1, .int (2))] := hl
  refine W_abs (fun Q hQ => ?_)
  generalize ([.ref (ad 57), .int (2)] : List Value).toArray = args at hT hQ ⊢
  refine lv_aload_n hx hb (fk_get fk_cX9_readAll_0 0 rfl) rfl (lv_at hl 0 rfl) ?_
  refine lv_iload_n hx hb (fk_get fk_cX9_readAll_0 1 rfl) rfl (lv_at hl 1 rfl) ?_
  have hFc := va_self hD hS hA
  refine va_calli (va_runV (As := [.int (2)]) (rest := []) ⟨hx, hb, hml, hown, hT⟩ (c_x9_RO_2 l G ad S s.heap.size  (hX)) (tV 1 hT m3_64 m3_66 mp_8 m1_12 m3_67 rfl rfl (by decide +kernel) ⟨Nat.le_of_ble_eq_true rfl, Nat.le_of_ble_eq_true rfl⟩) ⟨PcE_blind, va_recv hK hP (ci := 11) (q0 := 57) rfl (ix_at (lt71 (by omega)) (cX_text G ad S)), PcE_of hP hK hD hE hS (fun q h => hFc q h) _⟩ rfl rfl hl.1 rfl (lv_room (Nat.le_of_ble_eq_true rfl)) (fk_get fk_cX9_readAll_0 2 rfl) ⟨Nat.zero_le _, Nat.zero_le _⟩) hS (fun q _ h => hFc q h) hFc (fun r_1 S_3 t_ H locs ht_ hvm_ hw_2 hB_ hz_ hk_ hS => ?_)
  obtain ⟨hP, -, hD1_⟩ := hB_
  rw [ht_] at hP
  have hD : va_D A (wX G ad S_3) := hD1_.weaken (fun k q _ h => hFc q.1 h)
  try dsimp only at hw_2
  obtain ⟨hX_4, hF_5_, hw_2⟩ := hw_2
  have hF_5 : Fr (fun j k => (j = 57 ∧ (k = 2 ∨ k = 3 ∨ k = 4 ∨ k = 7 ∨ k = 8)) ∨ ((j = 59 ∨ j = 60) ∧ k = 99)) S S_3 := Fr.trans (Fr.rf : Fr (fun j k => (j = 57 ∧ (k = 2 ∨ k = 3 ∨ k = 4 ∨ k = 7 ∨ k = 8)) ∨ ((j = 59 ∨ j = 60) ∧ k = 99)) S S) (Fr.mono hF_5_ (fun j k h => by omega))
  refine lv_if_ne (tgt := 10) hx hb (fk_get fk_cX9_readAll_0 3 rfl) (by decide) (fun c_6 => ?_) (fun c_6 => ?_)
  · refine lv_iconst (v := 0) hx hb (fk_get fk_cX9_readAll_0 6 rfl) (by decide) ?_
    refine lv_istore_n (lv' := [(2, .int (0)), (0, .ref (ad 57)), (1, .int (2))]) hx hb (fk_get fk_cX9_readAll_0 7 rfl) rfl hl (by decide) rfl (fun ls hl => ?_)
    have lp_7 : ∀ (fu : Nat) (c : Nat) (SL12 : FS) (H_9 : Heap) (locs_10 : List Loc) (ls : Array Slot),  (XI SL12) → (Fr (fun j k => (j = 57 ∧ (k = 2 ∨ k = 3 ∨ k = 4 ∨ k = 7 ∨ k = 8)) ∨ ((j = 59 ∨ j = 60) ∧ k = 99)) S SL12) → (c ≤ 100) → (100 < c + fu) → va_P G.1 vwCl (wX G ad SL12) H_9 → va_D A (wX G ad SL12) → va_S A s.heap H_9 locs_10 → lv_has ls 3 [(2, .int ((nI c))), (0, .ref (ad 57)), (1, .int (2))] → W p l e ({ frames := 14, cells := 0, slots := 0, locals := 383 } : Room) s m args below meth c₀ H_9 locs_10 0 0 Q (F0 m 12 ls []) := by
      intro fu
      induction fu with
      | zero =>
        intro c SL12 H_9 locs_10 ls hXl12 hFl12 hk hf hP hD hS hl
        exact absurd hf (by omega)
      | succ fu ih =>
        intro c SL12 H_9 locs_10 ls hXl12 hFl12 hk hf hP hD hS hl
        refine lv_iload_n hx hb (fk_get fk_cX9_readAll_0 8 rfl) rfl (lv_at hl 0 rfl) ?_
        refine lv_bipush (v := 100) hx hb (fk_get fk_cX9_readAll_0 9 rfl) (by decide) ?_
        refine lv_icmp_ge (tgt := 53) hx hb (fk_get fk_cX9_readAll_0 10 rfl) (by decide) (fun c_11 => ?_) (fun c_11 => ?_)
        · have q_c_11 : 100 ≤ c := ci_le (a := 100) (b := c) (by omega) (by omega) c_11
          refine lv_iconst (v := 1) hx hb (fk_get fk_cX9_readAll_0 28 rfl) (by decide) ?_
          subst hQ
          have hpost : XI SL12 ∧ Fr (fun j k => (j = 57 ∧ (k = 2 ∨ k = 3 ∨ k = 4 ∨ k = 7 ∨ k = 8)) ∨ ((j = 59 ∨ j = 60) ∧ k = 99)) S SL12 ∧ ((1 : Int32) = 0 ∨ (1 : Int32) = 1) := by
            exact ⟨hXl12, hFl12, (by first | exact Or.inl rfl | exact Or.inr rfl)⟩
          exact W.zret (v := 1) hx hb hr rfl (fun t_ ht_ hW_ => ⟨⟨1, SL12, rfl, hpost, by rw [ht_]; exact hP, va_K.moved hW_.alike hK, hD⟩, hS.F ht_⟩) hS.2.2 (fk_get fk_cX9_readAll_0 29 rfl)
        have q_c_11 : c < 100 := ci_nle (a := 100) (b := c) (by omega) (by omega) c_11
        refine lv_aload_n hx hb (fk_get fk_cX9_readAll_0 11 rfl) rfl (lv_at hl 1 rfl) ?_
        refine lv_bipush (v := 38) hx hb (fk_get fk_cX9_readAll_0 12 rfl) (by decide) ?_
        have hFc := va_self hD hS hA
        refine va_calli (va_runV (As := [.int (38)]) (rest := []) ⟨hx, hb, hml, hown, hT⟩ (c_x9_takes l G ad SL12 H_9.size (38) (hXl12)) (tV 1 hT m2_213 m2_215 mp_0 m1_12 m2_216 rfl rfl (by decide +kernel) ⟨Nat.le_of_ble_eq_true rfl, Nat.le_of_ble_eq_true rfl⟩) ⟨PcW_blind, va_recv hK hP (ci := 11) (q0 := 57) rfl (ix_at (lt71 (by omega)) (cX_text G ad SL12)), PcW_of hP hK hD _⟩ rfl rfl hl.1 rfl (lv_room (Nat.le_of_ble_eq_true rfl)) (fk_get fk_cX9_readAll_0 13 rfl) ⟨Nat.zero_le _, Nat.zero_le _⟩) hS (fun q _ h => hFc q h) hFc (fun r_12 S_14 t_ H locs ht_ hvm_ hw_13 hB_ hz_ hk_ hS => ?_)
        obtain ⟨hP, -, hD1_⟩ := hB_
        rw [ht_] at hP
        have hD : va_D A (wX G ad S_14) := hD1_.weaken (fun k q _ h => hFc q.1 h)
        try dsimp only at hw_13
        obtain ⟨hX_15, hF_16_, hw_13⟩ := hw_13
        have hF_16 : Fr (fun j k => (j = 57 ∧ (k = 2 ∨ k = 3 ∨ k = 4 ∨ k = 7 ∨ k = 8)) ∨ ((j = 59 ∨ j = 60) ∧ k = 99)) S S_14 := Fr.trans hFl12 (Fr.mono hF_16_ (fun j k h => by omega))
        refine lv_if_eq (tgt := 53) hx hb (fk_get fk_cX9_readAll_0 14 rfl) (by decide) (fun c_17 => ?_) (fun c_17 => ?_)
        · refine lv_iconst (v := 1) hx hb (fk_get fk_cX9_readAll_0 28 rfl) (by decide) ?_
          subst hQ
          have hpost : XI S_14 ∧ Fr (fun j k => (j = 57 ∧ (k = 2 ∨ k = 3 ∨ k = 4 ∨ k = 7 ∨ k = 8)) ∨ ((j = 59 ∨ j = 60) ∧ k = 99)) S S_14 ∧ ((1 : Int32) = 0 ∨ (1 : Int32) = 1) := by
            exact ⟨hX_15, hF_16, (by first | exact Or.inl rfl | exact Or.inr rfl)⟩
          exact W.zret (v := 1) hx hb hr rfl (fun t_ ht_ hW_ => ⟨⟨1, S_14, rfl, hpost, by rw [ht_]; exact hP, va_K.moved hW_.alike hK, hD⟩, hS.F ht_⟩) hS.2.2 (fk_get fk_cX9_readAll_0 29 rfl)
        refine lv_aload_n hx hb (fk_get fk_cX9_readAll_0 15 rfl) rfl (lv_at hl 1 rfl) ?_
        refine lv_iload_n hx hb (fk_get fk_cX9_readAll_0 16 rfl) rfl (lv_at hl 2 rfl) ?_
        have hFc := va_self hD hS hA
        refine va_calli (va_runV (As := [.int (2)]) (rest := []) ⟨hx, hb, hml, hown, hT⟩ (c_x9_RO_2 l G ad S_14 H.size  (hX_15)) (tV 1 hT m3_64 m3_66 mp_8 m1_12 m3_67 rfl rfl (by decide +kernel) ⟨Nat.le_of_ble_eq_true rfl, Nat.le_of_ble_eq_true rfl⟩) ⟨PcE_blind, va_recv hK hP (ci := 11) (q0 := 57) rfl (ix_at (lt71 (by omega)) (cX_text G ad S_14)), PcE_of hP hK hD hE hS (fun q h => hFc q h) _⟩ rfl rfl hl.1 rfl (lv_room (Nat.le_of_ble_eq_true rfl)) (fk_get fk_cX9_readAll_0 17 rfl) ⟨Nat.zero_le _, Nat.zero_le _⟩) hS (fun q _ h => hFc q h) hFc (fun r_18 S_20 t_ H locs ht_ hvm_ hw_19 hB_ hz_ hk_ hS => ?_)
        obtain ⟨hP, -, hD1_⟩ := hB_
        rw [ht_] at hP
        have hD : va_D A (wX G ad S_20) := hD1_.weaken (fun k q _ h => hFc q.1 h)
        try dsimp only at hw_19
        obtain ⟨hX_21, hF_22_, hw_19⟩ := hw_19
        have hF_22 : Fr (fun j k => (j = 57 ∧ (k = 2 ∨ k = 3 ∨ k = 4 ∨ k = 7 ∨ k = 8)) ∨ ((j = 59 ∨ j = 60) ∧ k = 99)) S S_20 := Fr.trans hF_16 (Fr.mono hF_22_ (fun j k h => by omega))
        refine lv_if_eq (tgt := 45) hx hb (fk_get fk_cX9_readAll_0 18 rfl) (by decide) (fun c_23 => ?_) (fun c_23 => ?_)
        · refine lv_iconst (v := 0) hx hb (fk_get fk_cX9_readAll_0 24 rfl) (by decide) ?_
          subst hQ
          have hpost : XI S_20 ∧ Fr (fun j k => (j = 57 ∧ (k = 2 ∨ k = 3 ∨ k = 4 ∨ k = 7 ∨ k = 8)) ∨ ((j = 59 ∨ j = 60) ∧ k = 99)) S S_20 ∧ ((0 : Int32) = 0 ∨ (0 : Int32) = 1) := by
            exact ⟨hX_21, hF_22, (by first | exact Or.inl rfl | exact Or.inr rfl)⟩
          exact W.zret (v := 0) hx hb hr rfl (fun t_ ht_ hW_ => ⟨⟨0, S_20, rfl, hpost, by rw [ht_]; exact hP, va_K.moved hW_.alike hK, hD⟩, hS.F ht_⟩) hS.2.2 (fk_get fk_cX9_readAll_0 25 rfl)
        refine lv_aload_n hx hb (fk_get fk_cX9_readAll_0 19 rfl) rfl (lv_at hl 1 rfl) ?_
        refine lv_bipush (v := 19) hx hb (fk_get fk_cX9_readAll_0 20 rfl) (by decide) ?_
        refine lv_iconst (v := 0) hx hb (fk_get fk_cX9_readAll_0 21 rfl) (by decide) ?_
        have hFc := va_self hD hS hA
        refine va_calli (va_runV (As := [.int (19), .int (0)]) (rest := []) ⟨hx, hb, hml, hown, hT⟩ (c_x9_putCode l G ad S_20 H.size (19) (0) (hX_21)) (tV 2 hT m3_68 m3_70 mp_9 m1_12 m3_71 rfl rfl (by decide +kernel) ⟨Nat.le_of_ble_eq_true rfl, Nat.le_of_ble_eq_true rfl⟩) ⟨PcW_blind, va_recv hK hP (ci := 11) (q0 := 57) rfl (ix_at (lt71 (by omega)) (cX_text G ad S_20)), PcW_of hP hK hD _⟩ rfl rfl hl.1 rfl (lv_room (Nat.le_of_ble_eq_true rfl)) (fk_get fk_cX9_readAll_0 22 rfl) ⟨Nat.zero_le _, Nat.zero_le _⟩) hS (fun q _ h => hFc q h) hFc (fun r_24 S_26 t_ H locs ht_ hvm_ hw_25 hB_ hz_ hk_ hS => ?_)
        obtain ⟨hP, -, hD1_⟩ := hB_
        rw [ht_] at hP
        have hD : va_D A (wX G ad S_26) := hD1_.weaken (fun k q _ h => hFc q.1 h)
        try dsimp only at hw_25
        obtain ⟨hX_27, hF_28_, hw_25⟩ := hw_25
        have hF_28 : Fr (fun j k => (j = 57 ∧ (k = 2 ∨ k = 3 ∨ k = 4 ∨ k = 7 ∨ k = 8)) ∨ ((j = 59 ∨ j = 60) ∧ k = 99)) S S_26 := Fr.trans hF_22 (Fr.mono hF_28_ (fun j k h => by omega))
        refine lv_if_ne (tgt := 47) hx hb (fk_get fk_cX9_readAll_0 23 rfl) (by decide) (fun c_29 => ?_) (fun c_29 => ?_)
        · refine lv_iinc (v := (nI (c + 1))) (lv' := [(2, .int ((nI (c + 1)))), (0, .ref (ad 57)), (1, .int (2))]) hx hb (fk_get fk_cX9_readAll_0 26 rfl) hl (k := 0) rfl ((nI_1 c)) (by decide) rfl (fun ls hl => ?_)
          refine lv_goto (tgt := 12) hx hb (fk_get fk_cX9_readAll_0 27 rfl) (by decide) ?_
          exact ih (c + 1) (S_26) _ _ ls (hX_27) (hF_28) (by omega) (by omega) hP hD hS (lv_sub hl [0, 1, 2] rfl)
        refine lv_iconst (v := 0) hx hb (fk_get fk_cX9_readAll_0 24 rfl) (by decide) ?_
        subst hQ
        have hpost : XI S_26 ∧ Fr (fun j k => (j = 57 ∧ (k = 2 ∨ k = 3 ∨ k = 4 ∨ k = 7 ∨ k = 8)) ∨ ((j = 59 ∨ j = 60) ∧ k = 99)) S S_26 ∧ ((0 : Int32) = 0 ∨ (0 : Int32) = 1) := by
          exact ⟨hX_27, hF_28, (by first | exact Or.inl rfl | exact Or.inr rfl)⟩
        exact W.zret (v := 0) hx hb hr rfl (fun t_ ht_ hW_ => ⟨⟨0, S_26, rfl, hpost, by rw [ht_]; exact hP, va_K.moved hW_.alike hK, hD⟩, hS.F ht_⟩) hS.2.2 (fk_get fk_cX9_readAll_0 25 rfl)
    exact lp_7 (100 + 1) (0) (S_3) _ _ ls (hX_4) (hF_5) (by omega) (by omega) hP hD hS (lv_sub hl [0, 1, 2] rfl)
  refine lv_iconst (v := 0) hx hb (fk_get fk_cX9_readAll_0 4 rfl) (by decide) ?_
  subst hQ
  have hpost : XI S_3 ∧ Fr (fun j k => (j = 57 ∧ (k = 2 ∨ k = 3 ∨ k = 4 ∨ k = 7 ∨ k = 8)) ∨ ((j = 59 ∨ j = 60) ∧ k = 99)) S S_3 ∧ ((0 : Int32) = 0 ∨ (0 : Int32) = 1) := by
    exact ⟨hX_4, hF_5, (by first | exact Or.inl rfl | exact Or.inr rfl)⟩
  exact W.zret (v := 0) hx hb hr rfl (fun t_ ht_ hW_ => ⟨⟨0, S_3, rfl, hpost, by rw [ht_]; exact hP, va_K.moved hW_.alike hK, hD⟩, hS.F ht_⟩) hS.2.2 (fk_get fk_cX9_readAll_0 5 rfl)
set_option maxHeartbeats 800000 in
set_option maxRecDepth 100000 in
theorem c_x9_RY_2 (l : Launch) (G : GG) (ad : Nat → Nat) (S : FS) (sz : Nat)  (hX : XI S) : Met l yX9_readAny (Cond.code yX9_readAny cX9_readAny 3 (some .boolean) :: TBL) ({ frames := 15, cells := 0, slots := 0, locals := 409 } : Room) (PcE G (wX G ad S) sz [.ref (ad 57), .int (2)]) (va_Qi (fun (r : Int32) (S' : FS) => XI S' ∧ Fr (fun j k => (j = 57 ∧ (k = 2 ∨ k = 3 ∨ k = 4 ∨ k = 7 ∨ k = 8)) ∨ ((j = 59 ∨ j = 60) ∧ k = 99)) S S' ∧ (r = 0 ∨ r = 1)) (fun S' t => BW G (va_A (wX G ad S) sz) (wX G ad S') t) (va_A (wX G ad S) sz)) 0 0 (va_A (wX G ad S) sz) := by
  refine Met.ofW (cc := cX9_readAny) (maxL := 3) (ret := (some .boolean)) (by decide) rfl ?_
  intro p e s m args below meth c₀ s₁ B hml hv
  obtain ⟨rfl, hsz, hP, hK, hD0, hE⟩ := hv
  have hx := B.exec
  have hb := B.bytes
  have hr := B.returns
  have hT : ∀ w ∈ TBL, w.before ([.ref (ad 57), .int (2)] : List Value).toArray s = true := fun w h => atoms_spec (ws := Cond.code yX9_readAny cX9_readAny 3 (some .boolean) :: TBL) B.pre w (List.mem_cons_of_mem _ h)
  have hown : s.vm.findClass "LittleMore$Text" = some m.cls := findClass_of_methodNamed B.named
  have hlocks := B.notSynchronized
  subst hsz
  have hD := hD0.self (sz := s.heap.size)
  generalize hAe : va_A (wX G ad S) s.heap.size = A at hD hE ⊢
  have hA : ∀ q : Nat, s.heap.size ≤ q → A q := fun q h => by rw [← hAe]; exact Or.inr h
  have hS : va_S A s.heap s.heap [] := va_S.rf
  have hP : va_P G.1 vwCl (wX G ad S) s.heap := hP
  have hl := lv_entry ([.ref (ad 57), .int (2)]) (n := 3) (Nat.le_of_ble_eq_true rfl)
  rw [lg_entry_eq]
  generalize (lg_sl ([.ref (ad 57), .int (2)]) ++ List.replicate (3 - (lg_sl ([.ref (ad 57), .int (2)])).length) Slot.unset).toArray = ls at hl ⊢
  have hl : lv_has ls 3 [(0, .ref (ad 57)), (1, .int (2))] := hl
  refine W_abs (fun Q hQ => ?_)
  generalize ([.ref (ad 57), .int (2)] : List Value).toArray = args at hT hQ ⊢
  refine lv_aload_n hx hb (fk_get fk_cX9_readAny_0 0 rfl) rfl (lv_at hl 0 rfl) ?_
  refine lv_iload_n hx hb (fk_get fk_cX9_readAny_0 1 rfl) rfl (lv_at hl 1 rfl) ?_
  have hFc := va_self hD hS hA
  refine va_calli (va_runV (As := [.int (2)]) (rest := []) ⟨hx, hb, hml, hown, hT⟩ (c_x9_RA_2 l G ad S s.heap.size  (hX)) (tV 1 hT m3_60 m3_62 mp_7 m1_12 m3_63 rfl rfl (by decide +kernel) ⟨Nat.le_of_ble_eq_true rfl, Nat.le_of_ble_eq_true rfl⟩) ⟨PcE_blind, va_recv hK hP (ci := 11) (q0 := 57) rfl (ix_at (lt71 (by omega)) (cX_text G ad S)), PcE_of hP hK hD hE hS (fun q h => hFc q h) _⟩ rfl rfl hl.1 rfl (lv_room (Nat.le_of_ble_eq_true rfl)) (fk_get fk_cX9_readAny_0 2 rfl) ⟨Nat.zero_le _, Nat.zero_le _⟩) hS (fun q _ h => hFc q h) hFc (fun r_1 S_3 t_ H locs ht_ hvm_ hw_2 hB_ hz_ hk_ hS => ?_)
  obtain ⟨hP, -, hD1_⟩ := hB_
  rw [ht_] at hP
  have hD : va_D A (wX G ad S_3) := hD1_.weaken (fun k q _ h => hFc q.1 h)
  try dsimp only at hw_2
  obtain ⟨hX_4, hF_5_, hw_2⟩ := hw_2
  have hF_5 : Fr (fun j k => (j = 57 ∧ (k = 2 ∨ k = 3 ∨ k = 4 ∨ k = 7 ∨ k = 8)) ∨ ((j = 59 ∨ j = 60) ∧ k = 99)) S S_3 := Fr.trans (Fr.rf : Fr (fun j k => (j = 57 ∧ (k = 2 ∨ k = 3 ∨ k = 4 ∨ k = 7 ∨ k = 8)) ∨ ((j = 59 ∨ j = 60) ∧ k = 99)) S S) (Fr.mono hF_5_ (fun j k h => by omega))
  refine lv_if_ne (tgt := 10) hx hb (fk_get fk_cX9_readAny_0 3 rfl) (by decide) (fun c_6 => ?_) (fun c_6 => ?_)
  · refine lv_iconst (v := 0) hx hb (fk_get fk_cX9_readAny_0 6 rfl) (by decide) ?_
    refine lv_istore_n (lv' := [(2, .int (0)), (0, .ref (ad 57)), (1, .int (2))]) hx hb (fk_get fk_cX9_readAny_0 7 rfl) rfl hl (by decide) rfl (fun ls hl => ?_)
    have lp_7 : ∀ (fu : Nat) (c : Nat) (SL12 : FS) (H_9 : Heap) (locs_10 : List Loc) (ls : Array Slot),  (XI SL12) → (Fr (fun j k => (j = 57 ∧ (k = 2 ∨ k = 3 ∨ k = 4 ∨ k = 7 ∨ k = 8)) ∨ ((j = 59 ∨ j = 60) ∧ k = 99)) S SL12) → (c ≤ 100) → (100 < c + fu) → va_P G.1 vwCl (wX G ad SL12) H_9 → va_D A (wX G ad SL12) → va_S A s.heap H_9 locs_10 → lv_has ls 3 [(2, .int ((nI c))), (0, .ref (ad 57)), (1, .int (2))] → W p l e ({ frames := 15, cells := 0, slots := 0, locals := 409 } : Room) s m args below meth c₀ H_9 locs_10 0 0 Q (F0 m 12 ls []) := by
      intro fu
      induction fu with
      | zero =>
        intro c SL12 H_9 locs_10 ls hXl12 hFl12 hk hf hP hD hS hl
        exact absurd hf (by omega)
      | succ fu ih =>
        intro c SL12 H_9 locs_10 ls hXl12 hFl12 hk hf hP hD hS hl
        refine lv_iload_n hx hb (fk_get fk_cX9_readAny_0 8 rfl) rfl (lv_at hl 0 rfl) ?_
        refine lv_bipush (v := 100) hx hb (fk_get fk_cX9_readAny_0 9 rfl) (by decide) ?_
        refine lv_icmp_ge (tgt := 53) hx hb (fk_get fk_cX9_readAny_0 10 rfl) (by decide) (fun c_11 => ?_) (fun c_11 => ?_)
        · have q_c_11 : 100 ≤ c := ci_le (a := 100) (b := c) (by omega) (by omega) c_11
          refine lv_iconst (v := 1) hx hb (fk_get fk_cX9_readAny_0 28 rfl) (by decide) ?_
          subst hQ
          have hpost : XI SL12 ∧ Fr (fun j k => (j = 57 ∧ (k = 2 ∨ k = 3 ∨ k = 4 ∨ k = 7 ∨ k = 8)) ∨ ((j = 59 ∨ j = 60) ∧ k = 99)) S SL12 ∧ ((1 : Int32) = 0 ∨ (1 : Int32) = 1) := by
            exact ⟨hXl12, hFl12, (by first | exact Or.inl rfl | exact Or.inr rfl)⟩
          exact W.zret (v := 1) hx hb hr rfl (fun t_ ht_ hW_ => ⟨⟨1, SL12, rfl, hpost, by rw [ht_]; exact hP, va_K.moved hW_.alike hK, hD⟩, hS.F ht_⟩) hS.2.2 (fk_get fk_cX9_readAny_0 29 rfl)
        have q_c_11 : c < 100 := ci_nle (a := 100) (b := c) (by omega) (by omega) c_11
        refine lv_aload_n hx hb (fk_get fk_cX9_readAny_0 11 rfl) rfl (lv_at hl 1 rfl) ?_
        refine lv_bipush (v := 124) hx hb (fk_get fk_cX9_readAny_0 12 rfl) (by decide) ?_
        have hFc := va_self hD hS hA
        refine va_calli (va_runV (As := [.int (124)]) (rest := []) ⟨hx, hb, hml, hown, hT⟩ (c_x9_takes l G ad SL12 H_9.size (124) (hXl12)) (tV 1 hT m2_213 m2_215 mp_0 m1_12 m2_216 rfl rfl (by decide +kernel) ⟨Nat.le_of_ble_eq_true rfl, Nat.le_of_ble_eq_true rfl⟩) ⟨PcW_blind, va_recv hK hP (ci := 11) (q0 := 57) rfl (ix_at (lt71 (by omega)) (cX_text G ad SL12)), PcW_of hP hK hD _⟩ rfl rfl hl.1 rfl (lv_room (Nat.le_of_ble_eq_true rfl)) (fk_get fk_cX9_readAny_0 13 rfl) ⟨Nat.zero_le _, Nat.zero_le _⟩) hS (fun q _ h => hFc q h) hFc (fun r_12 S_14 t_ H locs ht_ hvm_ hw_13 hB_ hz_ hk_ hS => ?_)
        obtain ⟨hP, -, hD1_⟩ := hB_
        rw [ht_] at hP
        have hD : va_D A (wX G ad S_14) := hD1_.weaken (fun k q _ h => hFc q.1 h)
        try dsimp only at hw_13
        obtain ⟨hX_15, hF_16_, hw_13⟩ := hw_13
        have hF_16 : Fr (fun j k => (j = 57 ∧ (k = 2 ∨ k = 3 ∨ k = 4 ∨ k = 7 ∨ k = 8)) ∨ ((j = 59 ∨ j = 60) ∧ k = 99)) S S_14 := Fr.trans hFl12 (Fr.mono hF_16_ (fun j k h => by omega))
        refine lv_if_eq (tgt := 53) hx hb (fk_get fk_cX9_readAny_0 14 rfl) (by decide) (fun c_17 => ?_) (fun c_17 => ?_)
        · refine lv_iconst (v := 1) hx hb (fk_get fk_cX9_readAny_0 28 rfl) (by decide) ?_
          subst hQ
          have hpost : XI S_14 ∧ Fr (fun j k => (j = 57 ∧ (k = 2 ∨ k = 3 ∨ k = 4 ∨ k = 7 ∨ k = 8)) ∨ ((j = 59 ∨ j = 60) ∧ k = 99)) S S_14 ∧ ((1 : Int32) = 0 ∨ (1 : Int32) = 1) := by
            exact ⟨hX_15, hF_16, (by first | exact Or.inl rfl | exact Or.inr rfl)⟩
          exact W.zret (v := 1) hx hb hr rfl (fun t_ ht_ hW_ => ⟨⟨1, S_14, rfl, hpost, by rw [ht_]; exact hP, va_K.moved hW_.alike hK, hD⟩, hS.F ht_⟩) hS.2.2 (fk_get fk_cX9_readAny_0 29 rfl)
        refine lv_aload_n hx hb (fk_get fk_cX9_readAny_0 15 rfl) rfl (lv_at hl 1 rfl) ?_
        refine lv_iload_n hx hb (fk_get fk_cX9_readAny_0 16 rfl) rfl (lv_at hl 2 rfl) ?_
        have hFc := va_self hD hS hA
        refine va_calli (va_runV (As := [.int (2)]) (rest := []) ⟨hx, hb, hml, hown, hT⟩ (c_x9_RA_2 l G ad S_14 H.size  (hX_15)) (tV 1 hT m3_60 m3_62 mp_7 m1_12 m3_63 rfl rfl (by decide +kernel) ⟨Nat.le_of_ble_eq_true rfl, Nat.le_of_ble_eq_true rfl⟩) ⟨PcE_blind, va_recv hK hP (ci := 11) (q0 := 57) rfl (ix_at (lt71 (by omega)) (cX_text G ad S_14)), PcE_of hP hK hD hE hS (fun q h => hFc q h) _⟩ rfl rfl hl.1 rfl (lv_room (Nat.le_of_ble_eq_true rfl)) (fk_get fk_cX9_readAny_0 17 rfl) ⟨Nat.zero_le _, Nat.zero_le _⟩) hS (fun q _ h => hFc q h) hFc (fun r_18 S_20 t_ H locs ht_ hvm_ hw_19 hB_ hz_ hk_ hS => ?_)
        obtain ⟨hP, -, hD1_⟩ := hB_
        rw [ht_] at hP
        have hD : va_D A (wX G ad S_20) := hD1_.weaken (fun k q _ h => hFc q.1 h)
        try dsimp only at hw_19
        obtain ⟨hX_21, hF_22_, hw_19⟩ := hw_19
        have hF_22 : Fr (fun j k => (j = 57 ∧ (k = 2 ∨ k = 3 ∨ k = 4 ∨ k = 7 ∨ k = 8)) ∨ ((j = 59 ∨ j = 60) ∧ k = 99)) S S_20 := Fr.trans hF_16 (Fr.mono hF_22_ (fun j k h => by omega))
        refine lv_if_eq (tgt := 45) hx hb (fk_get fk_cX9_readAny_0 18 rfl) (by decide) (fun c_23 => ?_) (fun c_23 => ?_)
        · refine lv_iconst (v := 0) hx hb (fk_get fk_cX9_readAny_0 24 rfl) (by decide) ?_
          subst hQ
          have hpost : XI S_20 ∧ Fr (fun j k => (j = 57 ∧ (k = 2 ∨ k = 3 ∨ k = 4 ∨ k = 7 ∨ k = 8)) ∨ ((j = 59 ∨ j = 60) ∧ k = 99)) S S_20 ∧ ((0 : Int32) = 0 ∨ (0 : Int32) = 1) := by
            exact ⟨hX_21, hF_22, (by first | exact Or.inl rfl | exact Or.inr rfl)⟩
          exact W.zret (v := 0) hx hb hr rfl (fun t_ ht_ hW_ => ⟨⟨0, S_20, rfl, hpost, by rw [ht_]; exact hP, va_K.moved hW_.alike hK, hD⟩, hS.F ht_⟩) hS.2.2 (fk_get fk_cX9_readAny_0 25 rfl)
        refine lv_aload_n hx hb (fk_get fk_cX9_readAny_0 19 rfl) rfl (lv_at hl 1 rfl) ?_
        refine lv_bipush (v := 20) hx hb (fk_get fk_cX9_readAny_0 20 rfl) (by decide) ?_
        refine lv_iconst (v := 0) hx hb (fk_get fk_cX9_readAny_0 21 rfl) (by decide) ?_
        have hFc := va_self hD hS hA
        refine va_calli (va_runV (As := [.int (20), .int (0)]) (rest := []) ⟨hx, hb, hml, hown, hT⟩ (c_x9_putCode l G ad S_20 H.size (20) (0) (hX_21)) (tV 2 hT m3_68 m3_70 mp_9 m1_12 m3_71 rfl rfl (by decide +kernel) ⟨Nat.le_of_ble_eq_true rfl, Nat.le_of_ble_eq_true rfl⟩) ⟨PcW_blind, va_recv hK hP (ci := 11) (q0 := 57) rfl (ix_at (lt71 (by omega)) (cX_text G ad S_20)), PcW_of hP hK hD _⟩ rfl rfl hl.1 rfl (lv_room (Nat.le_of_ble_eq_true rfl)) (fk_get fk_cX9_readAny_0 22 rfl) ⟨Nat.zero_le _, Nat.zero_le _⟩) hS (fun q _ h => hFc q h) hFc (fun r_24 S_26 t_ H locs ht_ hvm_ hw_25 hB_ hz_ hk_ hS => ?_)
        obtain ⟨hP, -, hD1_⟩ := hB_
        rw [ht_] at hP
        have hD : va_D A (wX G ad S_26) := hD1_.weaken (fun k q _ h => hFc q.1 h)
        try dsimp only at hw_25
        obtain ⟨hX_27, hF_28_, hw_25⟩ := hw_25
        have hF_28 : Fr (fun j k => (j = 57 ∧ (k = 2 ∨ k = 3 ∨ k = 4 ∨ k = 7 ∨ k = 8)) ∨ ((j = 59 ∨ j = 60) ∧ k = 99)) S S_26 := Fr.trans hF_22 (Fr.mono hF_28_ (fun j k h => by omega))
        refine lv_if_ne (tgt := 47) hx hb (fk_get fk_cX9_readAny_0 23 rfl) (by decide) (fun c_29 => ?_) (fun c_29 => ?_)
        · refine lv_iinc (v := (nI (c + 1))) (lv' := [(2, .int ((nI (c + 1)))), (0, .ref (ad 57)), (1, .int (2))]) hx hb (fk_get fk_cX9_readAny_0 26 rfl) hl (k := 0) rfl ((nI_1 c)) (by decide) rfl (fun ls hl => ?_)
          refine lv_goto (tgt := 12) hx hb (fk_get fk_cX9_readAny_0 27 rfl) (by decide) ?_
          exact ih (c + 1) (S_26) _ _ ls (hX_27) (hF_28) (by omega) (by omega) hP hD hS (lv_sub hl [0, 1, 2] rfl)
        refine lv_iconst (v := 0) hx hb (fk_get fk_cX9_readAny_0 24 rfl) (by decide) ?_
        subst hQ
        have hpost : XI S_26 ∧ Fr (fun j k => (j = 57 ∧ (k = 2 ∨ k = 3 ∨ k = 4 ∨ k = 7 ∨ k = 8)) ∨ ((j = 59 ∨ j = 60) ∧ k = 99)) S S_26 ∧ ((0 : Int32) = 0 ∨ (0 : Int32) = 1) := by
          exact ⟨hX_27, hF_28, (by first | exact Or.inl rfl | exact Or.inr rfl)⟩
        exact W.zret (v := 0) hx hb hr rfl (fun t_ ht_ hW_ => ⟨⟨0, S_26, rfl, hpost, by rw [ht_]; exact hP, va_K.moved hW_.alike hK, hD⟩, hS.F ht_⟩) hS.2.2 (fk_get fk_cX9_readAny_0 25 rfl)
    exact lp_7 (100 + 1) (0) (S_3) _ _ ls (hX_4) (hF_5) (by omega) (by omega) hP hD hS (lv_sub hl [0, 1, 2] rfl)
  refine lv_iconst (v := 0) hx hb (fk_get fk_cX9_readAny_0 4 rfl) (by decide) ?_
  subst hQ
  have hpost : XI S_3 ∧ Fr (fun j k => (j = 57 ∧ (k = 2 ∨ k = 3 ∨ k = 4 ∨ k = 7 ∨ k = 8)) ∨ ((j = 59 ∨ j = 60) ∧ k = 99)) S S_3 ∧ ((0 : Int32) = 0 ∨ (0 : Int32) = 1) := by
    exact ⟨hX_4, hF_5, (by first | exact Or.inl rfl | exact Or.inr rfl)⟩
  exact W.zret (v := 0) hx hb hr rfl (fun t_ ht_ hW_ => ⟨⟨0, S_3, rfl, hpost, by rw [ht_]; exact hP, va_K.moved hW_.alike hK, hD⟩, hS.F ht_⟩) hS.2.2 (fk_get fk_cX9_readAny_0 5 rfl)
set_option maxHeartbeats 800000 in
set_option maxRecDepth 100000 in
theorem c_x9_RO_1 (l : Launch) (G : GG) (ad : Nat → Nat) (S : FS) (sz : Nat)  (hX : XI S) : Met l yX9_readOne (Cond.code yX9_readOne cX9_readOne 4 (some .boolean) :: TBL) ({ frames := 16, cells := 0, slots := 0, locals := 435 } : Room) (PcE G (wX G ad S) sz [.ref (ad 57), .int (1)]) (va_Qi (fun (r : Int32) (S' : FS) => XI S' ∧ Fr (fun j k => (j = 57 ∧ (k = 2 ∨ k = 3 ∨ k = 4 ∨ k = 7 ∨ k = 8)) ∨ ((j = 59 ∨ j = 60) ∧ k = 99)) S S' ∧ (r = 0 ∨ r = 1)) (fun S' t => BW G (va_A (wX G ad S) sz) (wX G ad S') t) (va_A (wX G ad S) sz)) 0 0 (va_A (wX G ad S) sz) := by
  refine Met.ofW (cc := cX9_readOne) (maxL := 4) (ret := (some .boolean)) (by decide) rfl ?_
  intro p e s m args below meth c₀ s₁ B hml hv
  obtain ⟨rfl, hsz, hP, hK, hD0, hE⟩ := hv
  have hx := B.exec
  have hb := B.bytes
  have hr := B.returns
  have hT : ∀ w ∈ TBL, w.before ([.ref (ad 57), .int (1)] : List Value).toArray s = true := fun w h => atoms_spec (ws := Cond.code yX9_readOne cX9_readOne 4 (some .boolean) :: TBL) B.pre w (List.mem_cons_of_mem _ h)
  have hown : s.vm.findClass "LittleMore$Text" = some m.cls := findClass_of_methodNamed B.named
  have hlocks := B.notSynchronized
  subst hsz
  have hD := hD0.self (sz := s.heap.size)
  generalize hAe : va_A (wX G ad S) s.heap.size = A at hD hE ⊢
  have hA : ∀ q : Nat, s.heap.size ≤ q → A q := fun q h => by rw [← hAe]; exact Or.inr h
  have hS : va_S A s.heap s.heap [] := va_S.rf
  have hP : va_P G.1 vwCl (wX G ad S) s.heap := hP
  have hl := lv_entry ([.ref (ad 57), .int (1)]) (n := 4) (Nat.le_of_ble_eq_true rfl)
  rw [lg_entry_eq]
  generalize (lg_sl ([.ref (ad 57), .int (1)]) ++ List.replicate (4 - (lg_sl ([.ref (ad 57), .int (1)])).length) Slot.unset).toArray = ls at hl ⊢
  have hl : lv_has ls 4 [(0, .ref (ad 57)), (1, .int (1))] := hl
  refine W_abs (fun Q hQ => ?_)
  generalize ([.ref (ad 57), .int (1)] : List Value).toArray = args at hT hQ ⊢
  refine lv_iload_n hx hb (fk_get fk_cX9_readOne_0 0 rfl) rfl (lv_at hl 1 rfl) ?_
  refine lv_iconst (v := 4) hx hb (fk_get fk_cX9_readOne_0 1 rfl) (by decide) ?_
  refine lv_icmp_ge (tgt := 40) hx hb (fk_get fk_cX9_readOne_0 2 rfl) (by decide) (fun c_1 => absurd c_1 ((by decide))) (fun _ => ?_)
  refine lv_aload_n hx hb (fk_get fk_cX9_readOne_0 3 rfl) rfl (lv_at hl 0 rfl) ?_
  refine lv_bipush (v := 33) hx hb (fk_get fk_cX9_readOne_0 4 rfl) (by decide) ?_
  have hFc := va_self hD hS hA
  refine va_calli (va_runV (As := [.int (33)]) (rest := []) ⟨hx, hb, hml, hown, hT⟩ (c_x9_takes l G ad S s.heap.size (33) (hX)) (tV 1 hT m2_213 m2_215 mp_0 m1_12 m2_216 rfl rfl (by decide +kernel) ⟨Nat.le_of_ble_eq_true rfl, Nat.le_of_ble_eq_true rfl⟩) ⟨PcW_blind, va_recv hK hP (ci := 11) (q0 := 57) rfl (ix_at (lt71 (by omega)) (cX_text G ad S)), PcW_of hP hK hD _⟩ rfl rfl hl.1 rfl (lv_room (Nat.le_of_ble_eq_true rfl)) (fk_get fk_cX9_readOne_0 5 rfl) ⟨Nat.zero_le _, Nat.zero_le _⟩) hS (fun q _ h => hFc q h) hFc (fun r_2 S_4 t_ H locs ht_ hvm_ hw_3 hB_ hz_ hk_ hS => ?_)
  obtain ⟨hP, -, hD1_⟩ := hB_
  rw [ht_] at hP
  have hD : va_D A (wX G ad S_4) := hD1_.weaken (fun k q _ h => hFc q.1 h)
  try dsimp only at hw_3
  obtain ⟨hX_5, hF_6_, hw_3⟩ := hw_3
  have hF_6 : Fr (fun j k => (j = 57 ∧ (k = 2 ∨ k = 3 ∨ k = 4 ∨ k = 7 ∨ k = 8)) ∨ ((j = 59 ∨ j = 60) ∧ k = 99)) S S_4 := Fr.trans (Fr.rf : Fr (fun j k => (j = 57 ∧ (k = 2 ∨ k = 3 ∨ k = 4 ∨ k = 7 ∨ k = 8)) ∨ ((j = 59 ∨ j = 60) ∧ k = 99)) S S) (Fr.mono hF_6_ (fun j k h => by omega))
  refine lv_if_eq (tgt := 40) hx hb (fk_get fk_cX9_readOne_0 6 rfl) (by decide) (fun c_7 => ?_) (fun c_7 => ?_)
  · refine lv_iload_n hx hb (fk_get fk_cX9_readOne_0 22 rfl) rfl (lv_at hl 1 rfl) ?_
    refine lv_iconst (v := 4) hx hb (fk_get fk_cX9_readOne_0 23 rfl) (by decide) ?_
    refine lv_icmp_ge (tgt := 79) hx hb (fk_get fk_cX9_readOne_0 24 rfl) (by decide) (fun c_8 => absurd c_8 ((by decide))) (fun _ => ?_)
    refine lv_aload_n hx hb (fk_get fk_cX9_readOne_0 25 rfl) rfl (lv_at hl 0 rfl) ?_
    refine lv_bipush (v := 40) hx hb (fk_get fk_cX9_readOne_0 26 rfl) (by decide) ?_
    have hFc := va_self hD hS hA
    refine va_calli (va_runV (As := [.int (40)]) (rest := []) ⟨hx, hb, hml, hown, hT⟩ (c_x9_takes l G ad S_4 H.size (40) (hX_5)) (tV 1 hT m2_213 m2_215 mp_0 m1_12 m2_216 rfl rfl (by decide +kernel) ⟨Nat.le_of_ble_eq_true rfl, Nat.le_of_ble_eq_true rfl⟩) ⟨PcW_blind, va_recv hK hP (ci := 11) (q0 := 57) rfl (ix_at (lt71 (by omega)) (cX_text G ad S_4)), PcW_of hP hK hD _⟩ rfl rfl hl.1 rfl (lv_room (Nat.le_of_ble_eq_true rfl)) (fk_get fk_cX9_readOne_0 27 rfl) ⟨Nat.zero_le _, Nat.zero_le _⟩) hS (fun q _ h => hFc q h) hFc (fun r_9 S_11 t_ H locs ht_ hvm_ hw_10 hB_ hz_ hk_ hS => ?_)
    obtain ⟨hP, -, hD1_⟩ := hB_
    rw [ht_] at hP
    have hD : va_D A (wX G ad S_11) := hD1_.weaken (fun k q _ h => hFc q.1 h)
    try dsimp only at hw_10
    obtain ⟨hX_12, hF_13_, hw_10⟩ := hw_10
    have hF_13 : Fr (fun j k => (j = 57 ∧ (k = 2 ∨ k = 3 ∨ k = 4 ∨ k = 7 ∨ k = 8)) ∨ ((j = 59 ∨ j = 60) ∧ k = 99)) S S_11 := Fr.trans hF_6 (Fr.mono hF_13_ (fun j k h => by omega))
    refine lv_if_eq (tgt := 79) hx hb (fk_get fk_cX9_readOne_0 28 rfl) (by decide) (fun c_14 => ?_) (fun c_14 => ?_)
    · refine lv_aload_n hx hb (fk_get fk_cX9_readOne_1 11 rfl) rfl (lv_at hl 0 rfl) ?_
      refine va_ldcS (q := G.2.2.2 (310 + 4)) (tx := txS 4) hx hb hown (hE.2.2.2.2.1.2 4 (by omega)) (fk_get fk_cX9_readOne_1 12 rfl) ?_
      have hFc := va_self hD hS hA
      refine va_calli (va_runV (As := [.ref (G.2.2.2 (310 + 4))]) (rest := []) ⟨hx, hb, hml, hown, hT⟩ (c_x9_takesOneOf l G ad S_11 H.size (4) ((by omega : 4 < 6)) (hX_12)) (tV 1 hT m3_73 m3_75 mp_10 m1_12 m3_76 rfl rfl (by decide +kernel) ⟨Nat.le_of_ble_eq_true rfl, Nat.le_of_ble_eq_true rfl⟩) ⟨PcE_blind, va_recv hK hP (ci := 11) (q0 := 57) rfl (ix_at (lt71 (by omega)) (cX_text G ad S_11)), PcE_of hP hK hD hE hS (fun q h => hFc q h) _⟩ rfl rfl hl.1 rfl (lv_room (Nat.le_of_ble_eq_true rfl)) (fk_get fk_cX9_readOne_1 13 rfl) ⟨Nat.zero_le _, Nat.zero_le _⟩) hS (fun q _ h => hFc q h) hFc (fun r_15 S_17 t_ H locs ht_ hvm_ hw_16 hB_ hz_ hk_ hS => ?_)
      obtain ⟨hP, -, hD1_⟩ := hB_
      rw [ht_] at hP
      have hD : va_D A (wX G ad S_17) := hD1_.weaken (fun k q _ h => hFc q.1 h)
      try dsimp only at hw_16
      obtain ⟨hX_18, hF_19_, hw_16⟩ := hw_16
      have hF_19 : Fr (fun j k => (j = 57 ∧ (k = 2 ∨ k = 3 ∨ k = 4 ∨ k = 7 ∨ k = 8)) ∨ ((j = 59 ∨ j = 60) ∧ k = 99)) S S_17 := Fr.trans hF_13 (Fr.mono hF_19_ (fun j k h => by omega))
      refine lv_istore_n (lv' := [(2, .int (r_15)), (0, .ref (ad 57)), (1, .int (1))]) hx hb (fk_get fk_cX9_readOne_1 14 rfl) rfl hl (by decide) rfl (fun ls hl => ?_)
      refine lv_iload_n hx hb (fk_get fk_cX9_readOne_1 15 rfl) rfl (lv_at hl 0 rfl) ?_
      refine lv_if_ge (tgt := 94) hx hb (fk_get fk_cX9_readOne_1 16 rfl) (by decide) (fun c_20 => ?_) (fun c_20 => ?_)
      · refine lv_aload_n hx hb (fk_get fk_cX9_readOne_1 19 rfl) rfl (lv_at hl 1 rfl) ?_
        refine va_ldcS (q := G.2.2.2 (310 + 5)) (tx := txS 5) hx hb hown (hE.2.2.2.2.1.2 5 (by omega)) (fk_get fk_cX9_readOne_1 20 rfl) ?_
        have hFc := va_self hD hS hA
        refine va_calli (va_runV (As := [.ref (G.2.2.2 (310 + 5))]) (rest := []) ⟨hx, hb, hml, hown, hT⟩ (c_x9_takesOneOf l G ad S_17 H.size (5) ((by omega : 5 < 6)) (hX_18)) (tV 1 hT m3_73 m3_75 mp_10 m1_12 m3_76 rfl rfl (by decide +kernel) ⟨Nat.le_of_ble_eq_true rfl, Nat.le_of_ble_eq_true rfl⟩) ⟨PcE_blind, va_recv hK hP (ci := 11) (q0 := 57) rfl (ix_at (lt71 (by omega)) (cX_text G ad S_17)), PcE_of hP hK hD hE hS (fun q h => hFc q h) _⟩ rfl rfl hl.1 rfl (lv_room (Nat.le_of_ble_eq_true rfl)) (fk_get fk_cX9_readOne_1 21 rfl) ⟨Nat.zero_le _, Nat.zero_le _⟩) hS (fun q _ h => hFc q h) hFc (fun r_21 S_23 t_ H locs ht_ hvm_ hw_22 hB_ hz_ hk_ hS => ?_)
        obtain ⟨hP, -, hD1_⟩ := hB_
        rw [ht_] at hP
        have hD : va_D A (wX G ad S_23) := hD1_.weaken (fun k q _ h => hFc q.1 h)
        try dsimp only at hw_22
        obtain ⟨hX_24, hF_25_, hw_22⟩ := hw_22
        have hF_25 : Fr (fun j k => (j = 57 ∧ (k = 2 ∨ k = 3 ∨ k = 4 ∨ k = 7 ∨ k = 8)) ∨ ((j = 59 ∨ j = 60) ∧ k = 99)) S S_23 := Fr.trans hF_19 (Fr.mono hF_25_ (fun j k h => by omega))
        refine lv_istore_n (lv' := [(3, .int (r_21)), (2, .int (r_15)), (0, .ref (ad 57)), (1, .int (1))]) hx hb (fk_get fk_cX9_readOne_1 22 rfl) rfl hl (by decide) rfl (fun ls hl => ?_)
        refine lv_iload_n hx hb (fk_get fk_cX9_readOne_1 23 rfl) rfl (lv_at hl 0 rfl) ?_
        refine lv_if_lt (tgt := 132) hx hb (fk_get fk_cX9_readOne_1 24 rfl) (by decide) (fun c_26 => ?_) (fun c_26 => ?_)
        · refine lv_iconst (v := 0) hx hb (fk_get fk_cX9_readOne_2 8 rfl) (by decide) ?_
          subst hQ
          have hpost : XI S_23 ∧ Fr (fun j k => (j = 57 ∧ (k = 2 ∨ k = 3 ∨ k = 4 ∨ k = 7 ∨ k = 8)) ∨ ((j = 59 ∨ j = 60) ∧ k = 99)) S S_23 ∧ ((0 : Int32) = 0 ∨ (0 : Int32) = 1) := by
            exact ⟨hX_24, hF_25, (by first | exact Or.inl rfl | exact Or.inr rfl)⟩
          exact W.zret (v := 0) hx hb hr rfl (fun t_ ht_ hW_ => ⟨⟨0, S_23, rfl, hpost, by rw [ht_]; exact hP, va_K.moved hW_.alike hK, hD⟩, hS.F ht_⟩) hS.2.2 (fk_get fk_cX9_readOne_2 9 rfl)
        refine lv_aload_n hx hb (fk_get fk_cX9_readOne_1 25 rfl) rfl (lv_at hl 2 rfl) ?_
        have hFc := va_self hD hS hA
        refine va_calli (va_runV (As := []) (rest := []) ⟨hx, hb, hml, hown, hT⟩ (c_x9_readNumber l G ad S_23 H.size  (hX_24)) (tV 0 hT m3_49 m3_51 mp_5 m1_12 m3_52 rfl rfl (by decide +kernel) ⟨Nat.le_of_ble_eq_true rfl, Nat.le_of_ble_eq_true rfl⟩) ⟨PcW_blind, va_recv hK hP (ci := 11) (q0 := 57) rfl (ix_at (lt71 (by omega)) (cX_text G ad S_23)), PcW_of hP hK hD _⟩ rfl rfl hl.1 rfl (lv_room (Nat.le_of_ble_eq_true rfl)) (fk_get fk_cX9_readOne_1 26 rfl) ⟨Nat.zero_le _, Nat.zero_le _⟩) hS (fun q _ h => hFc q h) hFc (fun r_27 S_29 t_ H locs ht_ hvm_ hw_28 hB_ hz_ hk_ hS => ?_)
        obtain ⟨hP, -, hD1_⟩ := hB_
        rw [ht_] at hP
        have hD : va_D A (wX G ad S_29) := hD1_.weaken (fun k q _ h => hFc q.1 h)
        try dsimp only at hw_28
        obtain ⟨hX_30, hF_31_, hw_28⟩ := hw_28
        have hF_31 : Fr (fun j k => (j = 57 ∧ (k = 2 ∨ k = 3 ∨ k = 4 ∨ k = 7 ∨ k = 8)) ∨ ((j = 59 ∨ j = 60) ∧ k = 99)) S S_29 := Fr.trans hF_25 (Fr.mono hF_31_ (fun j k h => by omega))
        refine lv_if_eq (tgt := 132) hx hb (fk_get fk_cX9_readOne_1 27 rfl) (by decide) (fun c_32 => ?_) (fun c_32 => ?_)
        · refine lv_iconst (v := 0) hx hb (fk_get fk_cX9_readOne_2 8 rfl) (by decide) ?_
          subst hQ
          have hpost : XI S_29 ∧ Fr (fun j k => (j = 57 ∧ (k = 2 ∨ k = 3 ∨ k = 4 ∨ k = 7 ∨ k = 8)) ∨ ((j = 59 ∨ j = 60) ∧ k = 99)) S S_29 ∧ ((0 : Int32) = 0 ∨ (0 : Int32) = 1) := by
            exact ⟨hX_30, hF_31, (by first | exact Or.inl rfl | exact Or.inr rfl)⟩
          exact W.zret (v := 0) hx hb hr rfl (fun t_ ht_ hW_ => ⟨⟨0, S_29, rfl, hpost, by rw [ht_]; exact hP, va_K.moved hW_.alike hK, hD⟩, hS.F ht_⟩) hS.2.2 (fk_get fk_cX9_readOne_2 9 rfl)
        refine lv_aload_n hx hb (fk_get fk_cX9_readOne_1 28 rfl) rfl (lv_at hl 2 rfl) ?_
        refine lv_iload_n hx hb (fk_get fk_cX9_readOne_1 29 rfl) rfl (lv_at hl 1 rfl) ?_
        refine lv_iconst (v := 3) hx hb (fk_get fk_cX9_readOne_1 30 rfl) (by decide) ?_
        refine lv_imul hx hb (fk_get fk_cX9_readOne_1 31 rfl) ?_
        refine lv_iload_n hx hb (fk_get fk_cX9_readOne_2 0 rfl) rfl (lv_at hl 0 rfl) ?_
        refine lv_iadd hx hb (fk_get fk_cX9_readOne_2 1 rfl) ?_
        refine lv_aload_n hx hb (fk_get fk_cX9_readOne_2 2 rfl) rfl (lv_at hl 2 rfl) ?_
        refine va_get (D := G.1) (ci := 11) (v := .int (fF S_29 57 8)) (C := RX9) (T := TX9) (N := 9) hx hb hT inX9 hown hK hP 57 (ix_at (lt71 (by omega)) (cX_text G ad S_29)) rfl 8 (by decide) (hT _ m2_17) (fun _ h9 => h9) rfl (fk_get fk_cX9_readOne_2 3 rfl) ?_
        have hFc := va_self hD hS hA
        refine va_calli (va_runV (As := [.int (((r_15 * 3) + r_21)), .int ((fF S_29 57 8))]) (rest := []) ⟨hx, hb, hml, hown, hT⟩ (c_x9_putCode l G ad S_29 H.size (((r_15 * 3) + r_21)) ((fF S_29 57 8)) (hX_30)) (tV 2 hT m3_68 m3_70 mp_9 m1_12 m3_71 rfl rfl (by decide +kernel) ⟨Nat.le_of_ble_eq_true rfl, Nat.le_of_ble_eq_true rfl⟩) ⟨PcW_blind, va_recv hK hP (ci := 11) (q0 := 57) rfl (ix_at (lt71 (by omega)) (cX_text G ad S_29)), PcW_of hP hK hD _⟩ rfl rfl hl.1 rfl (lv_room (Nat.le_of_ble_eq_true rfl)) (fk_get fk_cX9_readOne_2 4 rfl) ⟨Nat.zero_le _, Nat.zero_le _⟩) hS (fun q _ h => hFc q h) hFc (fun r_33 S_35 t_ H locs ht_ hvm_ hw_34 hB_ hz_ hk_ hS => ?_)
        obtain ⟨hP, -, hD1_⟩ := hB_
        rw [ht_] at hP
        have hD : va_D A (wX G ad S_35) := hD1_.weaken (fun k q _ h => hFc q.1 h)
        try dsimp only at hw_34
        obtain ⟨hX_36, hF_37_, hw_34⟩ := hw_34
        have hF_37 : Fr (fun j k => (j = 57 ∧ (k = 2 ∨ k = 3 ∨ k = 4 ∨ k = 7 ∨ k = 8)) ∨ ((j = 59 ∨ j = 60) ∧ k = 99)) S S_35 := Fr.trans hF_31 (Fr.mono hF_37_ (fun j k h => by omega))
        refine lv_if_eq (tgt := 132) hx hb (fk_get fk_cX9_readOne_2 5 rfl) (by decide) (fun c_38 => ?_) (fun c_38 => ?_)
        · refine lv_iconst (v := 0) hx hb (fk_get fk_cX9_readOne_2 8 rfl) (by decide) ?_
          subst hQ
          have hpost : XI S_35 ∧ Fr (fun j k => (j = 57 ∧ (k = 2 ∨ k = 3 ∨ k = 4 ∨ k = 7 ∨ k = 8)) ∨ ((j = 59 ∨ j = 60) ∧ k = 99)) S S_35 ∧ ((0 : Int32) = 0 ∨ (0 : Int32) = 1) := by
            exact ⟨hX_36, hF_37, (by first | exact Or.inl rfl | exact Or.inr rfl)⟩
          exact W.zret (v := 0) hx hb hr rfl (fun t_ ht_ hW_ => ⟨⟨0, S_35, rfl, hpost, by rw [ht_]; exact hP, va_K.moved hW_.alike hK, hD⟩, hS.F ht_⟩) hS.2.2 (fk_get fk_cX9_readOne_2 9 rfl)
        refine lv_iconst (v := 1) hx hb (fk_get fk_cX9_readOne_2 6 rfl) (by decide) ?_
        refine lv_goto (tgt := 133) hx hb (fk_get fk_cX9_readOne_2 7 rfl) (by decide) ?_
        subst hQ
        have hpost : XI S_35 ∧ Fr (fun j k => (j = 57 ∧ (k = 2 ∨ k = 3 ∨ k = 4 ∨ k = 7 ∨ k = 8)) ∨ ((j = 59 ∨ j = 60) ∧ k = 99)) S S_35 ∧ ((1 : Int32) = 0 ∨ (1 : Int32) = 1) := by
          exact ⟨hX_36, hF_37, (by first | exact Or.inl rfl | exact Or.inr rfl)⟩
        exact W.zret (v := 1) hx hb hr rfl (fun t_ ht_ hW_ => ⟨⟨1, S_35, rfl, hpost, by rw [ht_]; exact hP, va_K.moved hW_.alike hK, hD⟩, hS.F ht_⟩) hS.2.2 (fk_get fk_cX9_readOne_2 9 rfl)
      refine lv_iload_n hx hb (fk_get fk_cX9_readOne_1 17 rfl) rfl (lv_at hl 0 rfl) ?_
      refine lv_goto (tgt := 100) hx hb (fk_get fk_cX9_readOne_1 18 rfl) (by decide) ?_
      refine lv_istore_n (lv' := [(3, .int (r_15)), (2, .int (r_15)), (0, .ref (ad 57)), (1, .int (1))]) hx hb (fk_get fk_cX9_readOne_1 22 rfl) rfl hl (by decide) rfl (fun ls hl => ?_)
      refine lv_iload_n hx hb (fk_get fk_cX9_readOne_1 23 rfl) rfl (lv_at hl 0 rfl) ?_
      refine lv_if_lt (tgt := 132) hx hb (fk_get fk_cX9_readOne_1 24 rfl) (by decide) (fun _ => ?_) (fun c_39 => absurd (by first | assumption | exact Int32.not_lt.mp (by assumption) | exact Int32.not_le.mp (by assumption) | exact Int32.not_lt.mpr (by assumption) | exact Int32.not_le.mpr (by assumption) ) c_39)
      refine lv_iconst (v := 0) hx hb (fk_get fk_cX9_readOne_2 8 rfl) (by decide) ?_
      subst hQ
      have hpost : XI S_17 ∧ Fr (fun j k => (j = 57 ∧ (k = 2 ∨ k = 3 ∨ k = 4 ∨ k = 7 ∨ k = 8)) ∨ ((j = 59 ∨ j = 60) ∧ k = 99)) S S_17 ∧ ((0 : Int32) = 0 ∨ (0 : Int32) = 1) := by
        exact ⟨hX_18, hF_19, (by first | exact Or.inl rfl | exact Or.inr rfl)⟩
      exact W.zret (v := 0) hx hb hr rfl (fun t_ ht_ hW_ => ⟨⟨0, S_17, rfl, hpost, by rw [ht_]; exact hP, va_K.moved hW_.alike hK, hD⟩, hS.F ht_⟩) hS.2.2 (fk_get fk_cX9_readOne_2 9 rfl)
    refine lv_aload_n hx hb (fk_get fk_cX9_readOne_0 29 rfl) rfl (lv_at hl 0 rfl) ?_
    refine lv_iload_n hx hb (fk_get fk_cX9_readOne_0 30 rfl) rfl (lv_at hl 1 rfl) ?_
    refine lv_iconst (v := 1) hx hb (fk_get fk_cX9_readOne_0 31 rfl) (by decide) ?_
    refine lv_iadd hx hb (fk_get fk_cX9_readOne_1 0 rfl) ?_
    rw [show ((1 + 1) : Int32) = 2 from by decide]
    have hFc := va_self hD hS hA
    refine va_calli (va_runV (As := [.int (2)]) (rest := []) ⟨hx, hb, hml, hown, hT⟩ (c_x9_RY_2 l G ad S_11 H.size  (hX_12)) (tV 1 hT m3_56 m3_58 mp_6 m1_12 m3_59 rfl rfl (by decide +kernel) ⟨Nat.le_of_ble_eq_true rfl, Nat.le_of_ble_eq_true rfl⟩) ⟨PcE_blind, va_recv hK hP (ci := 11) (q0 := 57) rfl (ix_at (lt71 (by omega)) (cX_text G ad S_11)), PcE_of hP hK hD hE hS (fun q h => hFc q h) _⟩ rfl rfl hl.1 rfl (lv_room (Nat.le_of_ble_eq_true rfl)) (fk_get fk_cX9_readOne_1 1 rfl) ⟨Nat.zero_le _, Nat.zero_le _⟩) hS (fun q _ h => hFc q h) hFc (fun r_40 S_42 t_ H locs ht_ hvm_ hw_41 hB_ hz_ hk_ hS => ?_)
    obtain ⟨hP, -, hD1_⟩ := hB_
    rw [ht_] at hP
    have hD : va_D A (wX G ad S_42) := hD1_.weaken (fun k q _ h => hFc q.1 h)
    try dsimp only at hw_41
    obtain ⟨hX_43, hF_44_, hw_41⟩ := hw_41
    have hF_44 : Fr (fun j k => (j = 57 ∧ (k = 2 ∨ k = 3 ∨ k = 4 ∨ k = 7 ∨ k = 8)) ∨ ((j = 59 ∨ j = 60) ∧ k = 99)) S S_42 := Fr.trans hF_13 (Fr.mono hF_44_ (fun j k h => by omega))
    refine lv_if_eq (tgt := 77) hx hb (fk_get fk_cX9_readOne_1 2 rfl) (by decide) (fun c_45 => ?_) (fun c_45 => ?_)
    · refine lv_iconst (v := 0) hx hb (fk_get fk_cX9_readOne_1 9 rfl) (by decide) ?_
      subst hQ
      have hpost : XI S_42 ∧ Fr (fun j k => (j = 57 ∧ (k = 2 ∨ k = 3 ∨ k = 4 ∨ k = 7 ∨ k = 8)) ∨ ((j = 59 ∨ j = 60) ∧ k = 99)) S S_42 ∧ ((0 : Int32) = 0 ∨ (0 : Int32) = 1) := by
        exact ⟨hX_43, hF_44, (by first | exact Or.inl rfl | exact Or.inr rfl)⟩
      exact W.zret (v := 0) hx hb hr rfl (fun t_ ht_ hW_ => ⟨⟨0, S_42, rfl, hpost, by rw [ht_]; exact hP, va_K.moved hW_.alike hK, hD⟩, hS.F ht_⟩) hS.2.2 (fk_get fk_cX9_readOne_1 10 rfl)
    refine lv_aload_n hx hb (fk_get fk_cX9_readOne_1 3 rfl) rfl (lv_at hl 0 rfl) ?_
    refine lv_bipush (v := 41) hx hb (fk_get fk_cX9_readOne_1 4 rfl) (by decide) ?_
    have hFc := va_self hD hS hA
    refine va_calli (va_runV (As := [.int (41)]) (rest := []) ⟨hx, hb, hml, hown, hT⟩ (c_x9_takes l G ad S_42 H.size (41) (hX_43)) (tV 1 hT m2_213 m2_215 mp_0 m1_12 m2_216 rfl rfl (by decide +kernel) ⟨Nat.le_of_ble_eq_true rfl, Nat.le_of_ble_eq_true rfl⟩) ⟨PcW_blind, va_recv hK hP (ci := 11) (q0 := 57) rfl (ix_at (lt71 (by omega)) (cX_text G ad S_42)), PcW_of hP hK hD _⟩ rfl rfl hl.1 rfl (lv_room (Nat.le_of_ble_eq_true rfl)) (fk_get fk_cX9_readOne_1 5 rfl) ⟨Nat.zero_le _, Nat.zero_le _⟩) hS (fun q _ h => hFc q h) hFc (fun r_46 S_48 t_ H locs ht_ hvm_ hw_47 hB_ hz_ hk_ hS => ?_)
    obtain ⟨hP, -, hD1_⟩ := hB_
    rw [ht_] at hP
    have hD : va_D A (wX G ad S_48) := hD1_.weaken (fun k q _ h => hFc q.1 h)
    try dsimp only at hw_47
    obtain ⟨hX_49, hF_50_, hw_47⟩ := hw_47
    have hF_50 : Fr (fun j k => (j = 57 ∧ (k = 2 ∨ k = 3 ∨ k = 4 ∨ k = 7 ∨ k = 8)) ∨ ((j = 59 ∨ j = 60) ∧ k = 99)) S S_48 := Fr.trans hF_44 (Fr.mono hF_50_ (fun j k h => by omega))
    refine lv_if_eq (tgt := 77) hx hb (fk_get fk_cX9_readOne_1 6 rfl) (by decide) (fun c_51 => ?_) (fun c_51 => ?_)
    · refine lv_iconst (v := 0) hx hb (fk_get fk_cX9_readOne_1 9 rfl) (by decide) ?_
      subst hQ
      have hpost : XI S_48 ∧ Fr (fun j k => (j = 57 ∧ (k = 2 ∨ k = 3 ∨ k = 4 ∨ k = 7 ∨ k = 8)) ∨ ((j = 59 ∨ j = 60) ∧ k = 99)) S S_48 ∧ ((0 : Int32) = 0 ∨ (0 : Int32) = 1) := by
        exact ⟨hX_49, hF_50, (by first | exact Or.inl rfl | exact Or.inr rfl)⟩
      exact W.zret (v := 0) hx hb hr rfl (fun t_ ht_ hW_ => ⟨⟨0, S_48, rfl, hpost, by rw [ht_]; exact hP, va_K.moved hW_.alike hK, hD⟩, hS.F ht_⟩) hS.2.2 (fk_get fk_cX9_readOne_1 10 rfl)
    refine lv_iconst (v := 1) hx hb (fk_get fk_cX9_readOne_1 7 rfl) (by decide) ?_
    refine lv_goto (tgt := 78) hx hb (fk_get fk_cX9_readOne_1 8 rfl) (by decide) ?_
    subst hQ
    have hpost : XI S_48 ∧ Fr (fun j k => (j = 57 ∧ (k = 2 ∨ k = 3 ∨ k = 4 ∨ k = 7 ∨ k = 8)) ∨ ((j = 59 ∨ j = 60) ∧ k = 99)) S S_48 ∧ ((1 : Int32) = 0 ∨ (1 : Int32) = 1) := by
      exact ⟨hX_49, hF_50, (by first | exact Or.inl rfl | exact Or.inr rfl)⟩
    exact W.zret (v := 1) hx hb hr rfl (fun t_ ht_ hW_ => ⟨⟨1, S_48, rfl, hpost, by rw [ht_]; exact hP, va_K.moved hW_.alike hK, hD⟩, hS.F ht_⟩) hS.2.2 (fk_get fk_cX9_readOne_1 10 rfl)
  refine lv_aload_n hx hb (fk_get fk_cX9_readOne_0 7 rfl) rfl (lv_at hl 0 rfl) ?_
  refine lv_iload_n hx hb (fk_get fk_cX9_readOne_0 8 rfl) rfl (lv_at hl 1 rfl) ?_
  refine lv_iconst (v := 1) hx hb (fk_get fk_cX9_readOne_0 9 rfl) (by decide) ?_
  refine lv_iadd hx hb (fk_get fk_cX9_readOne_0 10 rfl) ?_
  rw [show ((1 + 1) : Int32) = 2 from by decide]
  have hFc := va_self hD hS hA
  refine va_calli (va_runV (As := [.int (2)]) (rest := []) ⟨hx, hb, hml, hown, hT⟩ (c_x9_RO_2 l G ad S_4 H.size  (hX_5)) (tV 1 hT m3_64 m3_66 mp_8 m1_12 m3_67 rfl rfl (by decide +kernel) ⟨Nat.le_of_ble_eq_true rfl, Nat.le_of_ble_eq_true rfl⟩) ⟨PcE_blind, va_recv hK hP (ci := 11) (q0 := 57) rfl (ix_at (lt71 (by omega)) (cX_text G ad S_4)), PcE_of hP hK hD hE hS (fun q h => hFc q h) _⟩ rfl rfl hl.1 rfl (lv_room (Nat.le_of_ble_eq_true rfl)) (fk_get fk_cX9_readOne_0 11 rfl) ⟨Nat.zero_le _, Nat.zero_le _⟩) hS (fun q _ h => hFc q h) hFc (fun r_52 S_54 t_ H locs ht_ hvm_ hw_53 hB_ hz_ hk_ hS => ?_)
  obtain ⟨hP, -, hD1_⟩ := hB_
  rw [ht_] at hP
  have hD : va_D A (wX G ad S_54) := hD1_.weaken (fun k q _ h => hFc q.1 h)
  try dsimp only at hw_53
  obtain ⟨hX_55, hF_56_, hw_53⟩ := hw_53
  have hF_56 : Fr (fun j k => (j = 57 ∧ (k = 2 ∨ k = 3 ∨ k = 4 ∨ k = 7 ∨ k = 8)) ∨ ((j = 59 ∨ j = 60) ∧ k = 99)) S S_54 := Fr.trans hF_6 (Fr.mono hF_56_ (fun j k h => by omega))
  refine lv_if_eq (tgt := 38) hx hb (fk_get fk_cX9_readOne_0 12 rfl) (by decide) (fun c_57 => ?_) (fun c_57 => ?_)
  · refine lv_iconst (v := 0) hx hb (fk_get fk_cX9_readOne_0 20 rfl) (by decide) ?_
    subst hQ
    have hpost : XI S_54 ∧ Fr (fun j k => (j = 57 ∧ (k = 2 ∨ k = 3 ∨ k = 4 ∨ k = 7 ∨ k = 8)) ∨ ((j = 59 ∨ j = 60) ∧ k = 99)) S S_54 ∧ ((0 : Int32) = 0 ∨ (0 : Int32) = 1) := by
      exact ⟨hX_55, hF_56, (by first | exact Or.inl rfl | exact Or.inr rfl)⟩
    exact W.zret (v := 0) hx hb hr rfl (fun t_ ht_ hW_ => ⟨⟨0, S_54, rfl, hpost, by rw [ht_]; exact hP, va_K.moved hW_.alike hK, hD⟩, hS.F ht_⟩) hS.2.2 (fk_get fk_cX9_readOne_0 21 rfl)
  refine lv_aload_n hx hb (fk_get fk_cX9_readOne_0 13 rfl) rfl (lv_at hl 0 rfl) ?_
  refine lv_bipush (v := 18) hx hb (fk_get fk_cX9_readOne_0 14 rfl) (by decide) ?_
  refine lv_iconst (v := 0) hx hb (fk_get fk_cX9_readOne_0 15 rfl) (by decide) ?_
  have hFc := va_self hD hS hA
  refine va_calli (va_runV (As := [.int (18), .int (0)]) (rest := []) ⟨hx, hb, hml, hown, hT⟩ (c_x9_putCode l G ad S_54 H.size (18) (0) (hX_55)) (tV 2 hT m3_68 m3_70 mp_9 m1_12 m3_71 rfl rfl (by decide +kernel) ⟨Nat.le_of_ble_eq_true rfl, Nat.le_of_ble_eq_true rfl⟩) ⟨PcW_blind, va_recv hK hP (ci := 11) (q0 := 57) rfl (ix_at (lt71 (by omega)) (cX_text G ad S_54)), PcW_of hP hK hD _⟩ rfl rfl hl.1 rfl (lv_room (Nat.le_of_ble_eq_true rfl)) (fk_get fk_cX9_readOne_0 16 rfl) ⟨Nat.zero_le _, Nat.zero_le _⟩) hS (fun q _ h => hFc q h) hFc (fun r_58 S_60 t_ H locs ht_ hvm_ hw_59 hB_ hz_ hk_ hS => ?_)
  obtain ⟨hP, -, hD1_⟩ := hB_
  rw [ht_] at hP
  have hD : va_D A (wX G ad S_60) := hD1_.weaken (fun k q _ h => hFc q.1 h)
  try dsimp only at hw_59
  obtain ⟨hX_61, hF_62_, hw_59⟩ := hw_59
  have hF_62 : Fr (fun j k => (j = 57 ∧ (k = 2 ∨ k = 3 ∨ k = 4 ∨ k = 7 ∨ k = 8)) ∨ ((j = 59 ∨ j = 60) ∧ k = 99)) S S_60 := Fr.trans hF_56 (Fr.mono hF_62_ (fun j k h => by omega))
  refine lv_if_eq (tgt := 38) hx hb (fk_get fk_cX9_readOne_0 17 rfl) (by decide) (fun c_63 => ?_) (fun c_63 => ?_)
  · refine lv_iconst (v := 0) hx hb (fk_get fk_cX9_readOne_0 20 rfl) (by decide) ?_
    subst hQ
    have hpost : XI S_60 ∧ Fr (fun j k => (j = 57 ∧ (k = 2 ∨ k = 3 ∨ k = 4 ∨ k = 7 ∨ k = 8)) ∨ ((j = 59 ∨ j = 60) ∧ k = 99)) S S_60 ∧ ((0 : Int32) = 0 ∨ (0 : Int32) = 1) := by
      exact ⟨hX_61, hF_62, (by first | exact Or.inl rfl | exact Or.inr rfl)⟩
    exact W.zret (v := 0) hx hb hr rfl (fun t_ ht_ hW_ => ⟨⟨0, S_60, rfl, hpost, by rw [ht_]; exact hP, va_K.moved hW_.alike hK, hD⟩, hS.F ht_⟩) hS.2.2 (fk_get fk_cX9_readOne_0 21 rfl)
  refine lv_iconst (v := 1) hx hb (fk_get fk_cX9_readOne_0 18 rfl) (by decide) ?_
  refine lv_goto (tgt := 39) hx hb (fk_get fk_cX9_readOne_0 19 rfl) (by decide) ?_
  subst hQ
  have hpost : XI S_60 ∧ Fr (fun j k => (j = 57 ∧ (k = 2 ∨ k = 3 ∨ k = 4 ∨ k = 7 ∨ k = 8)) ∨ ((j = 59 ∨ j = 60) ∧ k = 99)) S S_60 ∧ ((1 : Int32) = 0 ∨ (1 : Int32) = 1) := by
    exact ⟨hX_61, hF_62, (by first | exact Or.inl rfl | exact Or.inr rfl)⟩
  exact W.zret (v := 1) hx hb hr rfl (fun t_ ht_ hW_ => ⟨⟨1, S_60, rfl, hpost, by rw [ht_]; exact hP, va_K.moved hW_.alike hK, hD⟩, hS.F ht_⟩) hS.2.2 (fk_get fk_cX9_readOne_0 21 rfl)
set_option maxHeartbeats 800000 in
set_option maxRecDepth 100000 in
theorem c_x9_RA_1 (l : Launch) (G : GG) (ad : Nat → Nat) (S : FS) (sz : Nat)  (hX : XI S) : Met l yX9_readAll (Cond.code yX9_readAll cX9_readAll 3 (some .boolean) :: TBL) ({ frames := 17, cells := 0, slots := 0, locals := 462 } : Room) (PcE G (wX G ad S) sz [.ref (ad 57), .int (1)]) (va_Qi (fun (r : Int32) (S' : FS) => XI S' ∧ Fr (fun j k => (j = 57 ∧ (k = 2 ∨ k = 3 ∨ k = 4 ∨ k = 7 ∨ k = 8)) ∨ ((j = 59 ∨ j = 60) ∧ k = 99)) S S' ∧ (r = 0 ∨ r = 1)) (fun S' t => BW G (va_A (wX G ad S) sz) (wX G ad S') t) (va_A (wX G ad S) sz)) 0 0 (va_A (wX G ad S) sz) := by
  refine Met.ofW (cc := cX9_readAll) (maxL := 3) (ret := (some .boolean)) (by decide) rfl ?_
  intro p e s m args below meth c₀ s₁ B hml hv
  obtain ⟨rfl, hsz, hP, hK, hD0, hE⟩ := hv
  have hx := B.exec
  have hb := B.bytes
  have hr := B.returns
  have hT : ∀ w ∈ TBL, w.before ([.ref (ad 57), .int (1)] : List Value).toArray s = true := fun w h => atoms_spec (ws := Cond.code yX9_readAll cX9_readAll 3 (some .boolean) :: TBL) B.pre w (List.mem_cons_of_mem _ h)
  have hown : s.vm.findClass "LittleMore$Text" = some m.cls := findClass_of_methodNamed B.named
  have hlocks := B.notSynchronized
  subst hsz
  have hD := hD0.self (sz := s.heap.size)
  generalize hAe : va_A (wX G ad S) s.heap.size = A at hD hE ⊢
  have hA : ∀ q : Nat, s.heap.size ≤ q → A q := fun q h => by rw [← hAe]; exact Or.inr h
  have hS : va_S A s.heap s.heap [] := va_S.rf
  have hP : va_P G.1 vwCl (wX G ad S) s.heap := hP
  have hl := lv_entry ([.ref (ad 57), .int (1)]) (n := 3) (Nat.le_of_ble_eq_true rfl)
  rw [lg_entry_eq]
  generalize (lg_sl ([.ref (ad 57), .int (1)]) ++ List.replicate (3 - (lg_sl ([.ref (ad 57), .int (1)])).length) Slot.unset).toArray = ls at hl ⊢
  have hl : lv_has ls 3 [(0, .ref (ad 57)), (1, .int (1))] := hl
  refine W_abs (fun Q hQ => ?_)
  generalize ([.ref (ad 57), .int (1)] : List Value).toArray = args at hT hQ ⊢
  refine lv_aload_n hx hb (fk_get fk_cX9_readAll_0 0 rfl) rfl (lv_at hl 0 rfl) ?_
  refine lv_iload_n hx hb (fk_get fk_cX9_readAll_0 1 rfl) rfl (lv_at hl 1 rfl) ?_
  have hFc := va_self hD hS hA
  refine va_calli (va_runV (As := [.int (1)]) (rest := []) ⟨hx, hb, hml, hown, hT⟩ (c_x9_RO_1 l G ad S s.heap.size  (hX)) (tV 1 hT m3_64 m3_66 mp_8 m1_12 m3_67 rfl rfl (by decide +kernel) ⟨Nat.le_of_ble_eq_true rfl, Nat.le_of_ble_eq_true rfl⟩) ⟨PcE_blind, va_recv hK hP (ci := 11) (q0 := 57) rfl (ix_at (lt71 (by omega)) (cX_text G ad S)), PcE_of hP hK hD hE hS (fun q h => hFc q h) _⟩ rfl rfl hl.1 rfl (lv_room (Nat.le_of_ble_eq_true rfl)) (fk_get fk_cX9_readAll_0 2 rfl) ⟨Nat.zero_le _, Nat.zero_le _⟩) hS (fun q _ h => hFc q h) hFc (fun r_1 S_3 t_ H locs ht_ hvm_ hw_2 hB_ hz_ hk_ hS => ?_)
  obtain ⟨hP, -, hD1_⟩ := hB_
  rw [ht_] at hP
  have hD : va_D A (wX G ad S_3) := hD1_.weaken (fun k q _ h => hFc q.1 h)
  try dsimp only at hw_2
  obtain ⟨hX_4, hF_5_, hw_2⟩ := hw_2
  have hF_5 : Fr (fun j k => (j = 57 ∧ (k = 2 ∨ k = 3 ∨ k = 4 ∨ k = 7 ∨ k = 8)) ∨ ((j = 59 ∨ j = 60) ∧ k = 99)) S S_3 := Fr.trans (Fr.rf : Fr (fun j k => (j = 57 ∧ (k = 2 ∨ k = 3 ∨ k = 4 ∨ k = 7 ∨ k = 8)) ∨ ((j = 59 ∨ j = 60) ∧ k = 99)) S S) (Fr.mono hF_5_ (fun j k h => by omega))
  refine lv_if_ne (tgt := 10) hx hb (fk_get fk_cX9_readAll_0 3 rfl) (by decide) (fun c_6 => ?_) (fun c_6 => ?_)
  · refine lv_iconst (v := 0) hx hb (fk_get fk_cX9_readAll_0 6 rfl) (by decide) ?_
    refine lv_istore_n (lv' := [(2, .int (0)), (0, .ref (ad 57)), (1, .int (1))]) hx hb (fk_get fk_cX9_readAll_0 7 rfl) rfl hl (by decide) rfl (fun ls hl => ?_)
    have lp_7 : ∀ (fu : Nat) (c : Nat) (SL12 : FS) (H_9 : Heap) (locs_10 : List Loc) (ls : Array Slot),  (XI SL12) → (Fr (fun j k => (j = 57 ∧ (k = 2 ∨ k = 3 ∨ k = 4 ∨ k = 7 ∨ k = 8)) ∨ ((j = 59 ∨ j = 60) ∧ k = 99)) S SL12) → (c ≤ 100) → (100 < c + fu) → va_P G.1 vwCl (wX G ad SL12) H_9 → va_D A (wX G ad SL12) → va_S A s.heap H_9 locs_10 → lv_has ls 3 [(2, .int ((nI c))), (0, .ref (ad 57)), (1, .int (1))] → W p l e ({ frames := 17, cells := 0, slots := 0, locals := 462 } : Room) s m args below meth c₀ H_9 locs_10 0 0 Q (F0 m 12 ls []) := by
      intro fu
      induction fu with
      | zero =>
        intro c SL12 H_9 locs_10 ls hXl12 hFl12 hk hf hP hD hS hl
        exact absurd hf (by omega)
      | succ fu ih =>
        intro c SL12 H_9 locs_10 ls hXl12 hFl12 hk hf hP hD hS hl
        refine lv_iload_n hx hb (fk_get fk_cX9_readAll_0 8 rfl) rfl (lv_at hl 0 rfl) ?_
        refine lv_bipush (v := 100) hx hb (fk_get fk_cX9_readAll_0 9 rfl) (by decide) ?_
        refine lv_icmp_ge (tgt := 53) hx hb (fk_get fk_cX9_readAll_0 10 rfl) (by decide) (fun c_11 => ?_) (fun c_11 => ?_)
        · have q_c_11 : 100 ≤ c := ci_le (a := 100) (b := c) (by omega) (by omega) c_11
          refine lv_iconst (v := 1) hx hb (fk_get fk_cX9_readAll_0 28 rfl) (by decide) ?_
          subst hQ
          have hpost : XI SL12 ∧ Fr (fun j k => (j = 57 ∧ (k = 2 ∨ k = 3 ∨ k = 4 ∨ k = 7 ∨ k = 8)) ∨ ((j = 59 ∨ j = 60) ∧ k = 99)) S SL12 ∧ ((1 : Int32) = 0 ∨ (1 : Int32) = 1) := by
            exact ⟨hXl12, hFl12, (by first | exact Or.inl rfl | exact Or.inr rfl)⟩
          exact W.zret (v := 1) hx hb hr rfl (fun t_ ht_ hW_ => ⟨⟨1, SL12, rfl, hpost, by rw [ht_]; exact hP, va_K.moved hW_.alike hK, hD⟩, hS.F ht_⟩) hS.2.2 (fk_get fk_cX9_readAll_0 29 rfl)
        have q_c_11 : c < 100 := ci_nle (a := 100) (b := c) (by omega) (by omega) c_11
        refine lv_aload_n hx hb (fk_get fk_cX9_readAll_0 11 rfl) rfl (lv_at hl 1 rfl) ?_
        refine lv_bipush (v := 38) hx hb (fk_get fk_cX9_readAll_0 12 rfl) (by decide) ?_
        have hFc := va_self hD hS hA
        refine va_calli (va_runV (As := [.int (38)]) (rest := []) ⟨hx, hb, hml, hown, hT⟩ (c_x9_takes l G ad SL12 H_9.size (38) (hXl12)) (tV 1 hT m2_213 m2_215 mp_0 m1_12 m2_216 rfl rfl (by decide +kernel) ⟨Nat.le_of_ble_eq_true rfl, Nat.le_of_ble_eq_true rfl⟩) ⟨PcW_blind, va_recv hK hP (ci := 11) (q0 := 57) rfl (ix_at (lt71 (by omega)) (cX_text G ad SL12)), PcW_of hP hK hD _⟩ rfl rfl hl.1 rfl (lv_room (Nat.le_of_ble_eq_true rfl)) (fk_get fk_cX9_readAll_0 13 rfl) ⟨Nat.zero_le _, Nat.zero_le _⟩) hS (fun q _ h => hFc q h) hFc (fun r_12 S_14 t_ H locs ht_ hvm_ hw_13 hB_ hz_ hk_ hS => ?_)
        obtain ⟨hP, -, hD1_⟩ := hB_
        rw [ht_] at hP
        have hD : va_D A (wX G ad S_14) := hD1_.weaken (fun k q _ h => hFc q.1 h)
        try dsimp only at hw_13
        obtain ⟨hX_15, hF_16_, hw_13⟩ := hw_13
        have hF_16 : Fr (fun j k => (j = 57 ∧ (k = 2 ∨ k = 3 ∨ k = 4 ∨ k = 7 ∨ k = 8)) ∨ ((j = 59 ∨ j = 60) ∧ k = 99)) S S_14 := Fr.trans hFl12 (Fr.mono hF_16_ (fun j k h => by omega))
        refine lv_if_eq (tgt := 53) hx hb (fk_get fk_cX9_readAll_0 14 rfl) (by decide) (fun c_17 => ?_) (fun c_17 => ?_)
        · refine lv_iconst (v := 1) hx hb (fk_get fk_cX9_readAll_0 28 rfl) (by decide) ?_
          subst hQ
          have hpost : XI S_14 ∧ Fr (fun j k => (j = 57 ∧ (k = 2 ∨ k = 3 ∨ k = 4 ∨ k = 7 ∨ k = 8)) ∨ ((j = 59 ∨ j = 60) ∧ k = 99)) S S_14 ∧ ((1 : Int32) = 0 ∨ (1 : Int32) = 1) := by
            exact ⟨hX_15, hF_16, (by first | exact Or.inl rfl | exact Or.inr rfl)⟩
          exact W.zret (v := 1) hx hb hr rfl (fun t_ ht_ hW_ => ⟨⟨1, S_14, rfl, hpost, by rw [ht_]; exact hP, va_K.moved hW_.alike hK, hD⟩, hS.F ht_⟩) hS.2.2 (fk_get fk_cX9_readAll_0 29 rfl)
        refine lv_aload_n hx hb (fk_get fk_cX9_readAll_0 15 rfl) rfl (lv_at hl 1 rfl) ?_
        refine lv_iload_n hx hb (fk_get fk_cX9_readAll_0 16 rfl) rfl (lv_at hl 2 rfl) ?_
        have hFc := va_self hD hS hA
        refine va_calli (va_runV (As := [.int (1)]) (rest := []) ⟨hx, hb, hml, hown, hT⟩ (c_x9_RO_1 l G ad S_14 H.size  (hX_15)) (tV 1 hT m3_64 m3_66 mp_8 m1_12 m3_67 rfl rfl (by decide +kernel) ⟨Nat.le_of_ble_eq_true rfl, Nat.le_of_ble_eq_true rfl⟩) ⟨PcE_blind, va_recv hK hP (ci := 11) (q0 := 57) rfl (ix_at (lt71 (by omega)) (cX_text G ad S_14)), PcE_of hP hK hD hE hS (fun q h => hFc q h) _⟩ rfl rfl hl.1 rfl (lv_room (Nat.le_of_ble_eq_true rfl)) (fk_get fk_cX9_readAll_0 17 rfl) ⟨Nat.zero_le _, Nat.zero_le _⟩) hS (fun q _ h => hFc q h) hFc (fun r_18 S_20 t_ H locs ht_ hvm_ hw_19 hB_ hz_ hk_ hS => ?_)
        obtain ⟨hP, -, hD1_⟩ := hB_
        rw [ht_] at hP
        have hD : va_D A (wX G ad S_20) := hD1_.weaken (fun k q _ h => hFc q.1 h)
        try dsimp only at hw_19
        obtain ⟨hX_21, hF_22_, hw_19⟩ := hw_19
        have hF_22 : Fr (fun j k => (j = 57 ∧ (k = 2 ∨ k = 3 ∨ k = 4 ∨ k = 7 ∨ k = 8)) ∨ ((j = 59 ∨ j = 60) ∧ k = 99)) S S_20 := Fr.trans hF_16 (Fr.mono hF_22_ (fun j k h => by omega))
        refine lv_if_eq (tgt := 45) hx hb (fk_get fk_cX9_readAll_0 18 rfl) (by decide) (fun c_23 => ?_) (fun c_23 => ?_)
        · refine lv_iconst (v := 0) hx hb (fk_get fk_cX9_readAll_0 24 rfl) (by decide) ?_
          subst hQ
          have hpost : XI S_20 ∧ Fr (fun j k => (j = 57 ∧ (k = 2 ∨ k = 3 ∨ k = 4 ∨ k = 7 ∨ k = 8)) ∨ ((j = 59 ∨ j = 60) ∧ k = 99)) S S_20 ∧ ((0 : Int32) = 0 ∨ (0 : Int32) = 1) := by
            exact ⟨hX_21, hF_22, (by first | exact Or.inl rfl | exact Or.inr rfl)⟩
          exact W.zret (v := 0) hx hb hr rfl (fun t_ ht_ hW_ => ⟨⟨0, S_20, rfl, hpost, by rw [ht_]; exact hP, va_K.moved hW_.alike hK, hD⟩, hS.F ht_⟩) hS.2.2 (fk_get fk_cX9_readAll_0 25 rfl)
        refine lv_aload_n hx hb (fk_get fk_cX9_readAll_0 19 rfl) rfl (lv_at hl 1 rfl) ?_
        refine lv_bipush (v := 19) hx hb (fk_get fk_cX9_readAll_0 20 rfl) (by decide) ?_
        refine lv_iconst (v := 0) hx hb (fk_get fk_cX9_readAll_0 21 rfl) (by decide) ?_
        have hFc := va_self hD hS hA
        refine va_calli (va_runV (As := [.int (19), .int (0)]) (rest := []) ⟨hx, hb, hml, hown, hT⟩ (c_x9_putCode l G ad S_20 H.size (19) (0) (hX_21)) (tV 2 hT m3_68 m3_70 mp_9 m1_12 m3_71 rfl rfl (by decide +kernel) ⟨Nat.le_of_ble_eq_true rfl, Nat.le_of_ble_eq_true rfl⟩) ⟨PcW_blind, va_recv hK hP (ci := 11) (q0 := 57) rfl (ix_at (lt71 (by omega)) (cX_text G ad S_20)), PcW_of hP hK hD _⟩ rfl rfl hl.1 rfl (lv_room (Nat.le_of_ble_eq_true rfl)) (fk_get fk_cX9_readAll_0 22 rfl) ⟨Nat.zero_le _, Nat.zero_le _⟩) hS (fun q _ h => hFc q h) hFc (fun r_24 S_26 t_ H locs ht_ hvm_ hw_25 hB_ hz_ hk_ hS => ?_)
        obtain ⟨hP, -, hD1_⟩ := hB_
        rw [ht_] at hP
        have hD : va_D A (wX G ad S_26) := hD1_.weaken (fun k q _ h => hFc q.1 h)
        try dsimp only at hw_25
        obtain ⟨hX_27, hF_28_, hw_25⟩ := hw_25
        have hF_28 : Fr (fun j k => (j = 57 ∧ (k = 2 ∨ k = 3 ∨ k = 4 ∨ k = 7 ∨ k = 8)) ∨ ((j = 59 ∨ j = 60) ∧ k = 99)) S S_26 := Fr.trans hF_22 (Fr.mono hF_28_ (fun j k h => by omega))
        refine lv_if_ne (tgt := 47) hx hb (fk_get fk_cX9_readAll_0 23 rfl) (by decide) (fun c_29 => ?_) (fun c_29 => ?_)
        · refine lv_iinc (v := (nI (c + 1))) (lv' := [(2, .int ((nI (c + 1)))), (0, .ref (ad 57)), (1, .int (1))]) hx hb (fk_get fk_cX9_readAll_0 26 rfl) hl (k := 0) rfl ((nI_1 c)) (by decide) rfl (fun ls hl => ?_)
          refine lv_goto (tgt := 12) hx hb (fk_get fk_cX9_readAll_0 27 rfl) (by decide) ?_
          exact ih (c + 1) (S_26) _ _ ls (hX_27) (hF_28) (by omega) (by omega) hP hD hS (lv_sub hl [0, 1, 2] rfl)
        refine lv_iconst (v := 0) hx hb (fk_get fk_cX9_readAll_0 24 rfl) (by decide) ?_
        subst hQ
        have hpost : XI S_26 ∧ Fr (fun j k => (j = 57 ∧ (k = 2 ∨ k = 3 ∨ k = 4 ∨ k = 7 ∨ k = 8)) ∨ ((j = 59 ∨ j = 60) ∧ k = 99)) S S_26 ∧ ((0 : Int32) = 0 ∨ (0 : Int32) = 1) := by
          exact ⟨hX_27, hF_28, (by first | exact Or.inl rfl | exact Or.inr rfl)⟩
        exact W.zret (v := 0) hx hb hr rfl (fun t_ ht_ hW_ => ⟨⟨0, S_26, rfl, hpost, by rw [ht_]; exact hP, va_K.moved hW_.alike hK, hD⟩, hS.F ht_⟩) hS.2.2 (fk_get fk_cX9_readAll_0 25 rfl)
    exact lp_7 (100 + 1) (0) (S_3) _ _ ls (hX_4) (hF_5) (by omega) (by omega) hP hD hS (lv_sub hl [0, 1, 2] rfl)
  refine lv_iconst (v := 0) hx hb (fk_get fk_cX9_readAll_0 4 rfl) (by decide) ?_
  subst hQ
  have hpost : XI S_3 ∧ Fr (fun j k => (j = 57 ∧ (k = 2 ∨ k = 3 ∨ k = 4 ∨ k = 7 ∨ k = 8)) ∨ ((j = 59 ∨ j = 60) ∧ k = 99)) S S_3 ∧ ((0 : Int32) = 0 ∨ (0 : Int32) = 1) := by
    exact ⟨hX_4, hF_5, (by first | exact Or.inl rfl | exact Or.inr rfl)⟩
  exact W.zret (v := 0) hx hb hr rfl (fun t_ ht_ hW_ => ⟨⟨0, S_3, rfl, hpost, by rw [ht_]; exact hP, va_K.moved hW_.alike hK, hD⟩, hS.F ht_⟩) hS.2.2 (fk_get fk_cX9_readAll_0 5 rfl)
set_option maxHeartbeats 800000 in
set_option maxRecDepth 100000 in
theorem c_x9_RY_1 (l : Launch) (G : GG) (ad : Nat → Nat) (S : FS) (sz : Nat)  (hX : XI S) : Met l yX9_readAny (Cond.code yX9_readAny cX9_readAny 3 (some .boolean) :: TBL) ({ frames := 18, cells := 0, slots := 0, locals := 488 } : Room) (PcE G (wX G ad S) sz [.ref (ad 57), .int (1)]) (va_Qi (fun (r : Int32) (S' : FS) => XI S' ∧ Fr (fun j k => (j = 57 ∧ (k = 2 ∨ k = 3 ∨ k = 4 ∨ k = 7 ∨ k = 8)) ∨ ((j = 59 ∨ j = 60) ∧ k = 99)) S S' ∧ (r = 0 ∨ r = 1)) (fun S' t => BW G (va_A (wX G ad S) sz) (wX G ad S') t) (va_A (wX G ad S) sz)) 0 0 (va_A (wX G ad S) sz) := by
  refine Met.ofW (cc := cX9_readAny) (maxL := 3) (ret := (some .boolean)) (by decide) rfl ?_
  intro p e s m args below meth c₀ s₁ B hml hv
  obtain ⟨rfl, hsz, hP, hK, hD0, hE⟩ := hv
  have hx := B.exec
  have hb := B.bytes
  have hr := B.returns
  have hT : ∀ w ∈ TBL, w.before ([.ref (ad 57), .int (1)] : List Value).toArray s = true := fun w h => atoms_spec (ws := Cond.code yX9_readAny cX9_readAny 3 (some .boolean) :: TBL) B.pre w (List.mem_cons_of_mem _ h)
  have hown : s.vm.findClass "LittleMore$Text" = some m.cls := findClass_of_methodNamed B.named
  have hlocks := B.notSynchronized
  subst hsz
  have hD := hD0.self (sz := s.heap.size)
  generalize hAe : va_A (wX G ad S) s.heap.size = A at hD hE ⊢
  have hA : ∀ q : Nat, s.heap.size ≤ q → A q := fun q h => by rw [← hAe]; exact Or.inr h
  have hS : va_S A s.heap s.heap [] := va_S.rf
  have hP : va_P G.1 vwCl (wX G ad S) s.heap := hP
  have hl := lv_entry ([.ref (ad 57), .int (1)]) (n := 3) (Nat.le_of_ble_eq_true rfl)
  rw [lg_entry_eq]
  generalize (lg_sl ([.ref (ad 57), .int (1)]) ++ List.replicate (3 - (lg_sl ([.ref (ad 57), .int (1)])).length) Slot.unset).toArray = ls at hl ⊢
  have hl : lv_has ls 3 [(0, .ref (ad 57)), (1, .int (1))] := hl
  refine W_abs (fun Q hQ => ?_)
  generalize ([.ref (ad 57), .int (1)] : List Value).toArray = args at hT hQ ⊢
  refine lv_aload_n hx hb (fk_get fk_cX9_readAny_0 0 rfl) rfl (lv_at hl 0 rfl) ?_
  refine lv_iload_n hx hb (fk_get fk_cX9_readAny_0 1 rfl) rfl (lv_at hl 1 rfl) ?_
  have hFc := va_self hD hS hA
  refine va_calli (va_runV (As := [.int (1)]) (rest := []) ⟨hx, hb, hml, hown, hT⟩ (c_x9_RA_1 l G ad S s.heap.size  (hX)) (tV 1 hT m3_60 m3_62 mp_7 m1_12 m3_63 rfl rfl (by decide +kernel) ⟨Nat.le_of_ble_eq_true rfl, Nat.le_of_ble_eq_true rfl⟩) ⟨PcE_blind, va_recv hK hP (ci := 11) (q0 := 57) rfl (ix_at (lt71 (by omega)) (cX_text G ad S)), PcE_of hP hK hD hE hS (fun q h => hFc q h) _⟩ rfl rfl hl.1 rfl (lv_room (Nat.le_of_ble_eq_true rfl)) (fk_get fk_cX9_readAny_0 2 rfl) ⟨Nat.zero_le _, Nat.zero_le _⟩) hS (fun q _ h => hFc q h) hFc (fun r_1 S_3 t_ H locs ht_ hvm_ hw_2 hB_ hz_ hk_ hS => ?_)
  obtain ⟨hP, -, hD1_⟩ := hB_
  rw [ht_] at hP
  have hD : va_D A (wX G ad S_3) := hD1_.weaken (fun k q _ h => hFc q.1 h)
  try dsimp only at hw_2
  obtain ⟨hX_4, hF_5_, hw_2⟩ := hw_2
  have hF_5 : Fr (fun j k => (j = 57 ∧ (k = 2 ∨ k = 3 ∨ k = 4 ∨ k = 7 ∨ k = 8)) ∨ ((j = 59 ∨ j = 60) ∧ k = 99)) S S_3 := Fr.trans (Fr.rf : Fr (fun j k => (j = 57 ∧ (k = 2 ∨ k = 3 ∨ k = 4 ∨ k = 7 ∨ k = 8)) ∨ ((j = 59 ∨ j = 60) ∧ k = 99)) S S) (Fr.mono hF_5_ (fun j k h => by omega))
  refine lv_if_ne (tgt := 10) hx hb (fk_get fk_cX9_readAny_0 3 rfl) (by decide) (fun c_6 => ?_) (fun c_6 => ?_)
  · refine lv_iconst (v := 0) hx hb (fk_get fk_cX9_readAny_0 6 rfl) (by decide) ?_
    refine lv_istore_n (lv' := [(2, .int (0)), (0, .ref (ad 57)), (1, .int (1))]) hx hb (fk_get fk_cX9_readAny_0 7 rfl) rfl hl (by decide) rfl (fun ls hl => ?_)
    have lp_7 : ∀ (fu : Nat) (c : Nat) (SL12 : FS) (H_9 : Heap) (locs_10 : List Loc) (ls : Array Slot),  (XI SL12) → (Fr (fun j k => (j = 57 ∧ (k = 2 ∨ k = 3 ∨ k = 4 ∨ k = 7 ∨ k = 8)) ∨ ((j = 59 ∨ j = 60) ∧ k = 99)) S SL12) → (c ≤ 100) → (100 < c + fu) → va_P G.1 vwCl (wX G ad SL12) H_9 → va_D A (wX G ad SL12) → va_S A s.heap H_9 locs_10 → lv_has ls 3 [(2, .int ((nI c))), (0, .ref (ad 57)), (1, .int (1))] → W p l e ({ frames := 18, cells := 0, slots := 0, locals := 488 } : Room) s m args below meth c₀ H_9 locs_10 0 0 Q (F0 m 12 ls []) := by
      intro fu
      induction fu with
      | zero =>
        intro c SL12 H_9 locs_10 ls hXl12 hFl12 hk hf hP hD hS hl
        exact absurd hf (by omega)
      | succ fu ih =>
        intro c SL12 H_9 locs_10 ls hXl12 hFl12 hk hf hP hD hS hl
        refine lv_iload_n hx hb (fk_get fk_cX9_readAny_0 8 rfl) rfl (lv_at hl 0 rfl) ?_
        refine lv_bipush (v := 100) hx hb (fk_get fk_cX9_readAny_0 9 rfl) (by decide) ?_
        refine lv_icmp_ge (tgt := 53) hx hb (fk_get fk_cX9_readAny_0 10 rfl) (by decide) (fun c_11 => ?_) (fun c_11 => ?_)
        · have q_c_11 : 100 ≤ c := ci_le (a := 100) (b := c) (by omega) (by omega) c_11
          refine lv_iconst (v := 1) hx hb (fk_get fk_cX9_readAny_0 28 rfl) (by decide) ?_
          subst hQ
          have hpost : XI SL12 ∧ Fr (fun j k => (j = 57 ∧ (k = 2 ∨ k = 3 ∨ k = 4 ∨ k = 7 ∨ k = 8)) ∨ ((j = 59 ∨ j = 60) ∧ k = 99)) S SL12 ∧ ((1 : Int32) = 0 ∨ (1 : Int32) = 1) := by
            exact ⟨hXl12, hFl12, (by first | exact Or.inl rfl | exact Or.inr rfl)⟩
          exact W.zret (v := 1) hx hb hr rfl (fun t_ ht_ hW_ => ⟨⟨1, SL12, rfl, hpost, by rw [ht_]; exact hP, va_K.moved hW_.alike hK, hD⟩, hS.F ht_⟩) hS.2.2 (fk_get fk_cX9_readAny_0 29 rfl)
        have q_c_11 : c < 100 := ci_nle (a := 100) (b := c) (by omega) (by omega) c_11
        refine lv_aload_n hx hb (fk_get fk_cX9_readAny_0 11 rfl) rfl (lv_at hl 1 rfl) ?_
        refine lv_bipush (v := 124) hx hb (fk_get fk_cX9_readAny_0 12 rfl) (by decide) ?_
        have hFc := va_self hD hS hA
        refine va_calli (va_runV (As := [.int (124)]) (rest := []) ⟨hx, hb, hml, hown, hT⟩ (c_x9_takes l G ad SL12 H_9.size (124) (hXl12)) (tV 1 hT m2_213 m2_215 mp_0 m1_12 m2_216 rfl rfl (by decide +kernel) ⟨Nat.le_of_ble_eq_true rfl, Nat.le_of_ble_eq_true rfl⟩) ⟨PcW_blind, va_recv hK hP (ci := 11) (q0 := 57) rfl (ix_at (lt71 (by omega)) (cX_text G ad SL12)), PcW_of hP hK hD _⟩ rfl rfl hl.1 rfl (lv_room (Nat.le_of_ble_eq_true rfl)) (fk_get fk_cX9_readAny_0 13 rfl) ⟨Nat.zero_le _, Nat.zero_le _⟩) hS (fun q _ h => hFc q h) hFc (fun r_12 S_14 t_ H locs ht_ hvm_ hw_13 hB_ hz_ hk_ hS => ?_)
        obtain ⟨hP, -, hD1_⟩ := hB_
        rw [ht_] at hP
        have hD : va_D A (wX G ad S_14) := hD1_.weaken (fun k q _ h => hFc q.1 h)
        try dsimp only at hw_13
        obtain ⟨hX_15, hF_16_, hw_13⟩ := hw_13
        have hF_16 : Fr (fun j k => (j = 57 ∧ (k = 2 ∨ k = 3 ∨ k = 4 ∨ k = 7 ∨ k = 8)) ∨ ((j = 59 ∨ j = 60) ∧ k = 99)) S S_14 := Fr.trans hFl12 (Fr.mono hF_16_ (fun j k h => by omega))
        refine lv_if_eq (tgt := 53) hx hb (fk_get fk_cX9_readAny_0 14 rfl) (by decide) (fun c_17 => ?_) (fun c_17 => ?_)
        · refine lv_iconst (v := 1) hx hb (fk_get fk_cX9_readAny_0 28 rfl) (by decide) ?_
          subst hQ
          have hpost : XI S_14 ∧ Fr (fun j k => (j = 57 ∧ (k = 2 ∨ k = 3 ∨ k = 4 ∨ k = 7 ∨ k = 8)) ∨ ((j = 59 ∨ j = 60) ∧ k = 99)) S S_14 ∧ ((1 : Int32) = 0 ∨ (1 : Int32) = 1) := by
            exact ⟨hX_15, hF_16, (by first | exact Or.inl rfl | exact Or.inr rfl)⟩
          exact W.zret (v := 1) hx hb hr rfl (fun t_ ht_ hW_ => ⟨⟨1, S_14, rfl, hpost, by rw [ht_]; exact hP, va_K.moved hW_.alike hK, hD⟩, hS.F ht_⟩) hS.2.2 (fk_get fk_cX9_readAny_0 29 rfl)
        refine lv_aload_n hx hb (fk_get fk_cX9_readAny_0 15 rfl) rfl (lv_at hl 1 rfl) ?_
        refine lv_iload_n hx hb (fk_get fk_cX9_readAny_0 16 rfl) rfl (lv_at hl 2 rfl) ?_
        have hFc := va_self hD hS hA
        refine va_calli (va_runV (As := [.int (1)]) (rest := []) ⟨hx, hb, hml, hown, hT⟩ (c_x9_RA_1 l G ad S_14 H.size  (hX_15)) (tV 1 hT m3_60 m3_62 mp_7 m1_12 m3_63 rfl rfl (by decide +kernel) ⟨Nat.le_of_ble_eq_true rfl, Nat.le_of_ble_eq_true rfl⟩) ⟨PcE_blind, va_recv hK hP (ci := 11) (q0 := 57) rfl (ix_at (lt71 (by omega)) (cX_text G ad S_14)), PcE_of hP hK hD hE hS (fun q h => hFc q h) _⟩ rfl rfl hl.1 rfl (lv_room (Nat.le_of_ble_eq_true rfl)) (fk_get fk_cX9_readAny_0 17 rfl) ⟨Nat.zero_le _, Nat.zero_le _⟩) hS (fun q _ h => hFc q h) hFc (fun r_18 S_20 t_ H locs ht_ hvm_ hw_19 hB_ hz_ hk_ hS => ?_)
        obtain ⟨hP, -, hD1_⟩ := hB_
        rw [ht_] at hP
        have hD : va_D A (wX G ad S_20) := hD1_.weaken (fun k q _ h => hFc q.1 h)
        try dsimp only at hw_19
        obtain ⟨hX_21, hF_22_, hw_19⟩ := hw_19
        have hF_22 : Fr (fun j k => (j = 57 ∧ (k = 2 ∨ k = 3 ∨ k = 4 ∨ k = 7 ∨ k = 8)) ∨ ((j = 59 ∨ j = 60) ∧ k = 99)) S S_20 := Fr.trans hF_16 (Fr.mono hF_22_ (fun j k h => by omega))
        refine lv_if_eq (tgt := 45) hx hb (fk_get fk_cX9_readAny_0 18 rfl) (by decide) (fun c_23 => ?_) (fun c_23 => ?_)
        · refine lv_iconst (v := 0) hx hb (fk_get fk_cX9_readAny_0 24 rfl) (by decide) ?_
          subst hQ
          have hpost : XI S_20 ∧ Fr (fun j k => (j = 57 ∧ (k = 2 ∨ k = 3 ∨ k = 4 ∨ k = 7 ∨ k = 8)) ∨ ((j = 59 ∨ j = 60) ∧ k = 99)) S S_20 ∧ ((0 : Int32) = 0 ∨ (0 : Int32) = 1) := by
            exact ⟨hX_21, hF_22, (by first | exact Or.inl rfl | exact Or.inr rfl)⟩
          exact W.zret (v := 0) hx hb hr rfl (fun t_ ht_ hW_ => ⟨⟨0, S_20, rfl, hpost, by rw [ht_]; exact hP, va_K.moved hW_.alike hK, hD⟩, hS.F ht_⟩) hS.2.2 (fk_get fk_cX9_readAny_0 25 rfl)
        refine lv_aload_n hx hb (fk_get fk_cX9_readAny_0 19 rfl) rfl (lv_at hl 1 rfl) ?_
        refine lv_bipush (v := 20) hx hb (fk_get fk_cX9_readAny_0 20 rfl) (by decide) ?_
        refine lv_iconst (v := 0) hx hb (fk_get fk_cX9_readAny_0 21 rfl) (by decide) ?_
        have hFc := va_self hD hS hA
        refine va_calli (va_runV (As := [.int (20), .int (0)]) (rest := []) ⟨hx, hb, hml, hown, hT⟩ (c_x9_putCode l G ad S_20 H.size (20) (0) (hX_21)) (tV 2 hT m3_68 m3_70 mp_9 m1_12 m3_71 rfl rfl (by decide +kernel) ⟨Nat.le_of_ble_eq_true rfl, Nat.le_of_ble_eq_true rfl⟩) ⟨PcW_blind, va_recv hK hP (ci := 11) (q0 := 57) rfl (ix_at (lt71 (by omega)) (cX_text G ad S_20)), PcW_of hP hK hD _⟩ rfl rfl hl.1 rfl (lv_room (Nat.le_of_ble_eq_true rfl)) (fk_get fk_cX9_readAny_0 22 rfl) ⟨Nat.zero_le _, Nat.zero_le _⟩) hS (fun q _ h => hFc q h) hFc (fun r_24 S_26 t_ H locs ht_ hvm_ hw_25 hB_ hz_ hk_ hS => ?_)
        obtain ⟨hP, -, hD1_⟩ := hB_
        rw [ht_] at hP
        have hD : va_D A (wX G ad S_26) := hD1_.weaken (fun k q _ h => hFc q.1 h)
        try dsimp only at hw_25
        obtain ⟨hX_27, hF_28_, hw_25⟩ := hw_25
        have hF_28 : Fr (fun j k => (j = 57 ∧ (k = 2 ∨ k = 3 ∨ k = 4 ∨ k = 7 ∨ k = 8)) ∨ ((j = 59 ∨ j = 60) ∧ k = 99)) S S_26 := Fr.trans hF_22 (Fr.mono hF_28_ (fun j k h => by omega))
        refine lv_if_ne (tgt := 47) hx hb (fk_get fk_cX9_readAny_0 23 rfl) (by decide) (fun c_29 => ?_) (fun c_29 => ?_)
        · refine lv_iinc (v := (nI (c + 1))) (lv' := [(2, .int ((nI (c + 1)))), (0, .ref (ad 57)), (1, .int (1))]) hx hb (fk_get fk_cX9_readAny_0 26 rfl) hl (k := 0) rfl ((nI_1 c)) (by decide) rfl (fun ls hl => ?_)
          refine lv_goto (tgt := 12) hx hb (fk_get fk_cX9_readAny_0 27 rfl) (by decide) ?_
          exact ih (c + 1) (S_26) _ _ ls (hX_27) (hF_28) (by omega) (by omega) hP hD hS (lv_sub hl [0, 1, 2] rfl)
        refine lv_iconst (v := 0) hx hb (fk_get fk_cX9_readAny_0 24 rfl) (by decide) ?_
        subst hQ
        have hpost : XI S_26 ∧ Fr (fun j k => (j = 57 ∧ (k = 2 ∨ k = 3 ∨ k = 4 ∨ k = 7 ∨ k = 8)) ∨ ((j = 59 ∨ j = 60) ∧ k = 99)) S S_26 ∧ ((0 : Int32) = 0 ∨ (0 : Int32) = 1) := by
          exact ⟨hX_27, hF_28, (by first | exact Or.inl rfl | exact Or.inr rfl)⟩
        exact W.zret (v := 0) hx hb hr rfl (fun t_ ht_ hW_ => ⟨⟨0, S_26, rfl, hpost, by rw [ht_]; exact hP, va_K.moved hW_.alike hK, hD⟩, hS.F ht_⟩) hS.2.2 (fk_get fk_cX9_readAny_0 25 rfl)
    exact lp_7 (100 + 1) (0) (S_3) _ _ ls (hX_4) (hF_5) (by omega) (by omega) hP hD hS (lv_sub hl [0, 1, 2] rfl)
  refine lv_iconst (v := 0) hx hb (fk_get fk_cX9_readAny_0 4 rfl) (by decide) ?_
  subst hQ
  have hpost : XI S_3 ∧ Fr (fun j k => (j = 57 ∧ (k = 2 ∨ k = 3 ∨ k = 4 ∨ k = 7 ∨ k = 8)) ∨ ((j = 59 ∨ j = 60) ∧ k = 99)) S S_3 ∧ ((0 : Int32) = 0 ∨ (0 : Int32) = 1) := by
    exact ⟨hX_4, hF_5, (by first | exact Or.inl rfl | exact Or.inr rfl)⟩
  exact W.zret (v := 0) hx hb hr rfl (fun t_ ht_ hW_ => ⟨⟨0, S_3, rfl, hpost, by rw [ht_]; exact hP, va_K.moved hW_.alike hK, hD⟩, hS.F ht_⟩) hS.2.2 (fk_get fk_cX9_readAny_0 5 rfl)
set_option maxHeartbeats 800000 in
set_option maxRecDepth 100000 in
theorem c_x9_RO_0 (l : Launch) (G : GG) (ad : Nat → Nat) (S : FS) (sz : Nat)  (hX : XI S) : Met l yX9_readOne (Cond.code yX9_readOne cX9_readOne 4 (some .boolean) :: TBL) ({ frames := 19, cells := 0, slots := 0, locals := 514 } : Room) (PcE G (wX G ad S) sz [.ref (ad 57), .int (0)]) (va_Qi (fun (r : Int32) (S' : FS) => XI S' ∧ Fr (fun j k => (j = 57 ∧ (k = 2 ∨ k = 3 ∨ k = 4 ∨ k = 7 ∨ k = 8)) ∨ ((j = 59 ∨ j = 60) ∧ k = 99)) S S' ∧ (r = 0 ∨ r = 1)) (fun S' t => BW G (va_A (wX G ad S) sz) (wX G ad S') t) (va_A (wX G ad S) sz)) 0 0 (va_A (wX G ad S) sz) := by
  refine Met.ofW (cc := cX9_readOne) (maxL := 4) (ret := (some .boolean)) (by decide) rfl ?_
  intro p e s m args below meth c₀ s₁ B hml hv
  obtain ⟨rfl, hsz, hP, hK, hD0, hE⟩ := hv
  have hx := B.exec
  have hb := B.bytes
  have hr := B.returns
  have hT : ∀ w ∈ TBL, w.before ([.ref (ad 57), .int (0)] : List Value).toArray s = true := fun w h => atoms_spec (ws := Cond.code yX9_readOne cX9_readOne 4 (some .boolean) :: TBL) B.pre w (List.mem_cons_of_mem _ h)
  have hown : s.vm.findClass "LittleMore$Text" = some m.cls := findClass_of_methodNamed B.named
  have hlocks := B.notSynchronized
  subst hsz
  have hD := hD0.self (sz := s.heap.size)
  generalize hAe : va_A (wX G ad S) s.heap.size = A at hD hE ⊢
  have hA : ∀ q : Nat, s.heap.size ≤ q → A q := fun q h => by rw [← hAe]; exact Or.inr h
  have hS : va_S A s.heap s.heap [] := va_S.rf
  have hP : va_P G.1 vwCl (wX G ad S) s.heap := hP
  have hl := lv_entry ([.ref (ad 57), .int (0)]) (n := 4) (Nat.le_of_ble_eq_true rfl)
  rw [lg_entry_eq]
  generalize (lg_sl ([.ref (ad 57), .int (0)]) ++ List.replicate (4 - (lg_sl ([.ref (ad 57), .int (0)])).length) Slot.unset).toArray = ls at hl ⊢
  have hl : lv_has ls 4 [(0, .ref (ad 57)), (1, .int (0))] := hl
  refine W_abs (fun Q hQ => ?_)
  generalize ([.ref (ad 57), .int (0)] : List Value).toArray = args at hT hQ ⊢
  refine lv_iload_n hx hb (fk_get fk_cX9_readOne_0 0 rfl) rfl (lv_at hl 1 rfl) ?_
  refine lv_iconst (v := 4) hx hb (fk_get fk_cX9_readOne_0 1 rfl) (by decide) ?_
  refine lv_icmp_ge (tgt := 40) hx hb (fk_get fk_cX9_readOne_0 2 rfl) (by decide) (fun c_1 => absurd c_1 ((by decide))) (fun _ => ?_)
  refine lv_aload_n hx hb (fk_get fk_cX9_readOne_0 3 rfl) rfl (lv_at hl 0 rfl) ?_
  refine lv_bipush (v := 33) hx hb (fk_get fk_cX9_readOne_0 4 rfl) (by decide) ?_
  have hFc := va_self hD hS hA
  refine va_calli (va_runV (As := [.int (33)]) (rest := []) ⟨hx, hb, hml, hown, hT⟩ (c_x9_takes l G ad S s.heap.size (33) (hX)) (tV 1 hT m2_213 m2_215 mp_0 m1_12 m2_216 rfl rfl (by decide +kernel) ⟨Nat.le_of_ble_eq_true rfl, Nat.le_of_ble_eq_true rfl⟩) ⟨PcW_blind, va_recv hK hP (ci := 11) (q0 := 57) rfl (ix_at (lt71 (by omega)) (cX_text G ad S)), PcW_of hP hK hD _⟩ rfl rfl hl.1 rfl (lv_room (Nat.le_of_ble_eq_true rfl)) (fk_get fk_cX9_readOne_0 5 rfl) ⟨Nat.zero_le _, Nat.zero_le _⟩) hS (fun q _ h => hFc q h) hFc (fun r_2 S_4 t_ H locs ht_ hvm_ hw_3 hB_ hz_ hk_ hS => ?_)
  obtain ⟨hP, -, hD1_⟩ := hB_
  rw [ht_] at hP
  have hD : va_D A (wX G ad S_4) := hD1_.weaken (fun k q _ h => hFc q.1 h)
  try dsimp only at hw_3
  obtain ⟨hX_5, hF_6_, hw_3⟩ := hw_3
  have hF_6 : Fr (fun j k => (j = 57 ∧ (k = 2 ∨ k = 3 ∨ k = 4 ∨ k = 7 ∨ k = 8)) ∨ ((j = 59 ∨ j = 60) ∧ k = 99)) S S_4 := Fr.trans (Fr.rf : Fr (fun j k => (j = 57 ∧ (k = 2 ∨ k = 3 ∨ k = 4 ∨ k = 7 ∨ k = 8)) ∨ ((j = 59 ∨ j = 60) ∧ k = 99)) S S) (Fr.mono hF_6_ (fun j k h => by omega))
  refine lv_if_eq (tgt := 40) hx hb (fk_get fk_cX9_readOne_0 6 rfl) (by decide) (fun c_7 => ?_) (fun c_7 => ?_)
  · refine lv_iload_n hx hb (fk_get fk_cX9_readOne_0 22 rfl) rfl (lv_at hl 1 rfl) ?_
    refine lv_iconst (v := 4) hx hb (fk_get fk_cX9_readOne_0 23 rfl) (by decide) ?_
    refine lv_icmp_ge (tgt := 79) hx hb (fk_get fk_cX9_readOne_0 24 rfl) (by decide) (fun c_8 => absurd c_8 ((by decide))) (fun _ => ?_)
    refine lv_aload_n hx hb (fk_get fk_cX9_readOne_0 25 rfl) rfl (lv_at hl 0 rfl) ?_
    refine lv_bipush (v := 40) hx hb (fk_get fk_cX9_readOne_0 26 rfl) (by decide) ?_
    have hFc := va_self hD hS hA
    refine va_calli (va_runV (As := [.int (40)]) (rest := []) ⟨hx, hb, hml, hown, hT⟩ (c_x9_takes l G ad S_4 H.size (40) (hX_5)) (tV 1 hT m2_213 m2_215 mp_0 m1_12 m2_216 rfl rfl (by decide +kernel) ⟨Nat.le_of_ble_eq_true rfl, Nat.le_of_ble_eq_true rfl⟩) ⟨PcW_blind, va_recv hK hP (ci := 11) (q0 := 57) rfl (ix_at (lt71 (by omega)) (cX_text G ad S_4)), PcW_of hP hK hD _⟩ rfl rfl hl.1 rfl (lv_room (Nat.le_of_ble_eq_true rfl)) (fk_get fk_cX9_readOne_0 27 rfl) ⟨Nat.zero_le _, Nat.zero_le _⟩) hS (fun q _ h => hFc q h) hFc (fun r_9 S_11 t_ H locs ht_ hvm_ hw_10 hB_ hz_ hk_ hS => ?_)
    obtain ⟨hP, -, hD1_⟩ := hB_
    rw [ht_] at hP
    have hD : va_D A (wX G ad S_11) := hD1_.weaken (fun k q _ h => hFc q.1 h)
    try dsimp only at hw_10
    obtain ⟨hX_12, hF_13_, hw_10⟩ := hw_10
    have hF_13 : Fr (fun j k => (j = 57 ∧ (k = 2 ∨ k = 3 ∨ k = 4 ∨ k = 7 ∨ k = 8)) ∨ ((j = 59 ∨ j = 60) ∧ k = 99)) S S_11 := Fr.trans hF_6 (Fr.mono hF_13_ (fun j k h => by omega))
    refine lv_if_eq (tgt := 79) hx hb (fk_get fk_cX9_readOne_0 28 rfl) (by decide) (fun c_14 => ?_) (fun c_14 => ?_)
    · refine lv_aload_n hx hb (fk_get fk_cX9_readOne_1 11 rfl) rfl (lv_at hl 0 rfl) ?_
      refine va_ldcS (q := G.2.2.2 (310 + 4)) (tx := txS 4) hx hb hown (hE.2.2.2.2.1.2 4 (by omega)) (fk_get fk_cX9_readOne_1 12 rfl) ?_
      have hFc := va_self hD hS hA
      refine va_calli (va_runV (As := [.ref (G.2.2.2 (310 + 4))]) (rest := []) ⟨hx, hb, hml, hown, hT⟩ (c_x9_takesOneOf l G ad S_11 H.size (4) ((by omega : 4 < 6)) (hX_12)) (tV 1 hT m3_73 m3_75 mp_10 m1_12 m3_76 rfl rfl (by decide +kernel) ⟨Nat.le_of_ble_eq_true rfl, Nat.le_of_ble_eq_true rfl⟩) ⟨PcE_blind, va_recv hK hP (ci := 11) (q0 := 57) rfl (ix_at (lt71 (by omega)) (cX_text G ad S_11)), PcE_of hP hK hD hE hS (fun q h => hFc q h) _⟩ rfl rfl hl.1 rfl (lv_room (Nat.le_of_ble_eq_true rfl)) (fk_get fk_cX9_readOne_1 13 rfl) ⟨Nat.zero_le _, Nat.zero_le _⟩) hS (fun q _ h => hFc q h) hFc (fun r_15 S_17 t_ H locs ht_ hvm_ hw_16 hB_ hz_ hk_ hS => ?_)
      obtain ⟨hP, -, hD1_⟩ := hB_
      rw [ht_] at hP
      have hD : va_D A (wX G ad S_17) := hD1_.weaken (fun k q _ h => hFc q.1 h)
      try dsimp only at hw_16
      obtain ⟨hX_18, hF_19_, hw_16⟩ := hw_16
      have hF_19 : Fr (fun j k => (j = 57 ∧ (k = 2 ∨ k = 3 ∨ k = 4 ∨ k = 7 ∨ k = 8)) ∨ ((j = 59 ∨ j = 60) ∧ k = 99)) S S_17 := Fr.trans hF_13 (Fr.mono hF_19_ (fun j k h => by omega))
      refine lv_istore_n (lv' := [(2, .int (r_15)), (0, .ref (ad 57)), (1, .int (0))]) hx hb (fk_get fk_cX9_readOne_1 14 rfl) rfl hl (by decide) rfl (fun ls hl => ?_)
      refine lv_iload_n hx hb (fk_get fk_cX9_readOne_1 15 rfl) rfl (lv_at hl 0 rfl) ?_
      refine lv_if_ge (tgt := 94) hx hb (fk_get fk_cX9_readOne_1 16 rfl) (by decide) (fun c_20 => ?_) (fun c_20 => ?_)
      · refine lv_aload_n hx hb (fk_get fk_cX9_readOne_1 19 rfl) rfl (lv_at hl 1 rfl) ?_
        refine va_ldcS (q := G.2.2.2 (310 + 5)) (tx := txS 5) hx hb hown (hE.2.2.2.2.1.2 5 (by omega)) (fk_get fk_cX9_readOne_1 20 rfl) ?_
        have hFc := va_self hD hS hA
        refine va_calli (va_runV (As := [.ref (G.2.2.2 (310 + 5))]) (rest := []) ⟨hx, hb, hml, hown, hT⟩ (c_x9_takesOneOf l G ad S_17 H.size (5) ((by omega : 5 < 6)) (hX_18)) (tV 1 hT m3_73 m3_75 mp_10 m1_12 m3_76 rfl rfl (by decide +kernel) ⟨Nat.le_of_ble_eq_true rfl, Nat.le_of_ble_eq_true rfl⟩) ⟨PcE_blind, va_recv hK hP (ci := 11) (q0 := 57) rfl (ix_at (lt71 (by omega)) (cX_text G ad S_17)), PcE_of hP hK hD hE hS (fun q h => hFc q h) _⟩ rfl rfl hl.1 rfl (lv_room (Nat.le_of_ble_eq_true rfl)) (fk_get fk_cX9_readOne_1 21 rfl) ⟨Nat.zero_le _, Nat.zero_le _⟩) hS (fun q _ h => hFc q h) hFc (fun r_21 S_23 t_ H locs ht_ hvm_ hw_22 hB_ hz_ hk_ hS => ?_)
        obtain ⟨hP, -, hD1_⟩ := hB_
        rw [ht_] at hP
        have hD : va_D A (wX G ad S_23) := hD1_.weaken (fun k q _ h => hFc q.1 h)
        try dsimp only at hw_22
        obtain ⟨hX_24, hF_25_, hw_22⟩ := hw_22
        have hF_25 : Fr (fun j k => (j = 57 ∧ (k = 2 ∨ k = 3 ∨ k = 4 ∨ k = 7 ∨ k = 8)) ∨ ((j = 59 ∨ j = 60) ∧ k = 99)) S S_23 := Fr.trans hF_19 (Fr.mono hF_25_ (fun j k h => by omega))
        refine lv_istore_n (lv' := [(3, .int (r_21)), (2, .int (r_15)), (0, .ref (ad 57)), (1, .int (0))]) hx hb (fk_get fk_cX9_readOne_1 22 rfl) rfl hl (by decide) rfl (fun ls hl => ?_)
        refine lv_iload_n hx hb (fk_get fk_cX9_readOne_1 23 rfl) rfl (lv_at hl 0 rfl) ?_
        refine lv_if_lt (tgt := 132) hx hb (fk_get fk_cX9_readOne_1 24 rfl) (by decide) (fun c_26 => ?_) (fun c_26 => ?_)
        · refine lv_iconst (v := 0) hx hb (fk_get fk_cX9_readOne_2 8 rfl) (by decide) ?_
          subst hQ
          have hpost : XI S_23 ∧ Fr (fun j k => (j = 57 ∧ (k = 2 ∨ k = 3 ∨ k = 4 ∨ k = 7 ∨ k = 8)) ∨ ((j = 59 ∨ j = 60) ∧ k = 99)) S S_23 ∧ ((0 : Int32) = 0 ∨ (0 : Int32) = 1) := by
            exact ⟨hX_24, hF_25, (by first | exact Or.inl rfl | exact Or.inr rfl)⟩
          exact W.zret (v := 0) hx hb hr rfl (fun t_ ht_ hW_ => ⟨⟨0, S_23, rfl, hpost, by rw [ht_]; exact hP, va_K.moved hW_.alike hK, hD⟩, hS.F ht_⟩) hS.2.2 (fk_get fk_cX9_readOne_2 9 rfl)
        refine lv_aload_n hx hb (fk_get fk_cX9_readOne_1 25 rfl) rfl (lv_at hl 2 rfl) ?_
        have hFc := va_self hD hS hA
        refine va_calli (va_runV (As := []) (rest := []) ⟨hx, hb, hml, hown, hT⟩ (c_x9_readNumber l G ad S_23 H.size  (hX_24)) (tV 0 hT m3_49 m3_51 mp_5 m1_12 m3_52 rfl rfl (by decide +kernel) ⟨Nat.le_of_ble_eq_true rfl, Nat.le_of_ble_eq_true rfl⟩) ⟨PcW_blind, va_recv hK hP (ci := 11) (q0 := 57) rfl (ix_at (lt71 (by omega)) (cX_text G ad S_23)), PcW_of hP hK hD _⟩ rfl rfl hl.1 rfl (lv_room (Nat.le_of_ble_eq_true rfl)) (fk_get fk_cX9_readOne_1 26 rfl) ⟨Nat.zero_le _, Nat.zero_le _⟩) hS (fun q _ h => hFc q h) hFc (fun r_27 S_29 t_ H locs ht_ hvm_ hw_28 hB_ hz_ hk_ hS => ?_)
        obtain ⟨hP, -, hD1_⟩ := hB_
        rw [ht_] at hP
        have hD : va_D A (wX G ad S_29) := hD1_.weaken (fun k q _ h => hFc q.1 h)
        try dsimp only at hw_28
        obtain ⟨hX_30, hF_31_, hw_28⟩ := hw_28
        have hF_31 : Fr (fun j k => (j = 57 ∧ (k = 2 ∨ k = 3 ∨ k = 4 ∨ k = 7 ∨ k = 8)) ∨ ((j = 59 ∨ j = 60) ∧ k = 99)) S S_29 := Fr.trans hF_25 (Fr.mono hF_31_ (fun j k h => by omega))
        refine lv_if_eq (tgt := 132) hx hb (fk_get fk_cX9_readOne_1 27 rfl) (by decide) (fun c_32 => ?_) (fun c_32 => ?_)
        · refine lv_iconst (v := 0) hx hb (fk_get fk_cX9_readOne_2 8 rfl) (by decide) ?_
          subst hQ
          have hpost : XI S_29 ∧ Fr (fun j k => (j = 57 ∧ (k = 2 ∨ k = 3 ∨ k = 4 ∨ k = 7 ∨ k = 8)) ∨ ((j = 59 ∨ j = 60) ∧ k = 99)) S S_29 ∧ ((0 : Int32) = 0 ∨ (0 : Int32) = 1) := by
            exact ⟨hX_30, hF_31, (by first | exact Or.inl rfl | exact Or.inr rfl)⟩
          exact W.zret (v := 0) hx hb hr rfl (fun t_ ht_ hW_ => ⟨⟨0, S_29, rfl, hpost, by rw [ht_]; exact hP, va_K.moved hW_.alike hK, hD⟩, hS.F ht_⟩) hS.2.2 (fk_get fk_cX9_readOne_2 9 rfl)
        refine lv_aload_n hx hb (fk_get fk_cX9_readOne_1 28 rfl) rfl (lv_at hl 2 rfl) ?_
        refine lv_iload_n hx hb (fk_get fk_cX9_readOne_1 29 rfl) rfl (lv_at hl 1 rfl) ?_
        refine lv_iconst (v := 3) hx hb (fk_get fk_cX9_readOne_1 30 rfl) (by decide) ?_
        refine lv_imul hx hb (fk_get fk_cX9_readOne_1 31 rfl) ?_
        refine lv_iload_n hx hb (fk_get fk_cX9_readOne_2 0 rfl) rfl (lv_at hl 0 rfl) ?_
        refine lv_iadd hx hb (fk_get fk_cX9_readOne_2 1 rfl) ?_
        refine lv_aload_n hx hb (fk_get fk_cX9_readOne_2 2 rfl) rfl (lv_at hl 2 rfl) ?_
        refine va_get (D := G.1) (ci := 11) (v := .int (fF S_29 57 8)) (C := RX9) (T := TX9) (N := 9) hx hb hT inX9 hown hK hP 57 (ix_at (lt71 (by omega)) (cX_text G ad S_29)) rfl 8 (by decide) (hT _ m2_17) (fun _ h9 => h9) rfl (fk_get fk_cX9_readOne_2 3 rfl) ?_
        have hFc := va_self hD hS hA
        refine va_calli (va_runV (As := [.int (((r_15 * 3) + r_21)), .int ((fF S_29 57 8))]) (rest := []) ⟨hx, hb, hml, hown, hT⟩ (c_x9_putCode l G ad S_29 H.size (((r_15 * 3) + r_21)) ((fF S_29 57 8)) (hX_30)) (tV 2 hT m3_68 m3_70 mp_9 m1_12 m3_71 rfl rfl (by decide +kernel) ⟨Nat.le_of_ble_eq_true rfl, Nat.le_of_ble_eq_true rfl⟩) ⟨PcW_blind, va_recv hK hP (ci := 11) (q0 := 57) rfl (ix_at (lt71 (by omega)) (cX_text G ad S_29)), PcW_of hP hK hD _⟩ rfl rfl hl.1 rfl (lv_room (Nat.le_of_ble_eq_true rfl)) (fk_get fk_cX9_readOne_2 4 rfl) ⟨Nat.zero_le _, Nat.zero_le _⟩) hS (fun q _ h => hFc q h) hFc (fun r_33 S_35 t_ H locs ht_ hvm_ hw_34 hB_ hz_ hk_ hS => ?_)
        obtain ⟨hP, -, hD1_⟩ := hB_
        rw [ht_] at hP
        have hD : va_D A (wX G ad S_35) := hD1_.weaken (fun k q _ h => hFc q.1 h)
        try dsimp only at hw_34
        obtain ⟨hX_36, hF_37_, hw_34⟩ := hw_34
        have hF_37 : Fr (fun j k => (j = 57 ∧ (k = 2 ∨ k = 3 ∨ k = 4 ∨ k = 7 ∨ k = 8)) ∨ ((j = 59 ∨ j = 60) ∧ k = 99)) S S_35 := Fr.trans hF_31 (Fr.mono hF_37_ (fun j k h => by omega))
        refine lv_if_eq (tgt := 132) hx hb (fk_get fk_cX9_readOne_2 5 rfl) (by decide) (fun c_38 => ?_) (fun c_38 => ?_)
        · refine lv_iconst (v := 0) hx hb (fk_get fk_cX9_readOne_2 8 rfl) (by decide) ?_
          subst hQ
          have hpost : XI S_35 ∧ Fr (fun j k => (j = 57 ∧ (k = 2 ∨ k = 3 ∨ k = 4 ∨ k = 7 ∨ k = 8)) ∨ ((j = 59 ∨ j = 60) ∧ k = 99)) S S_35 ∧ ((0 : Int32) = 0 ∨ (0 : Int32) = 1) := by
            exact ⟨hX_36, hF_37, (by first | exact Or.inl rfl | exact Or.inr rfl)⟩
          exact W.zret (v := 0) hx hb hr rfl (fun t_ ht_ hW_ => ⟨⟨0, S_35, rfl, hpost, by rw [ht_]; exact hP, va_K.moved hW_.alike hK, hD⟩, hS.F ht_⟩) hS.2.2 (fk_get fk_cX9_readOne_2 9 rfl)
        refine lv_iconst (v := 1) hx hb (fk_get fk_cX9_readOne_2 6 rfl) (by decide) ?_
        refine lv_goto (tgt := 133) hx hb (fk_get fk_cX9_readOne_2 7 rfl) (by decide) ?_
        subst hQ
        have hpost : XI S_35 ∧ Fr (fun j k => (j = 57 ∧ (k = 2 ∨ k = 3 ∨ k = 4 ∨ k = 7 ∨ k = 8)) ∨ ((j = 59 ∨ j = 60) ∧ k = 99)) S S_35 ∧ ((1 : Int32) = 0 ∨ (1 : Int32) = 1) := by
          exact ⟨hX_36, hF_37, (by first | exact Or.inl rfl | exact Or.inr rfl)⟩
        exact W.zret (v := 1) hx hb hr rfl (fun t_ ht_ hW_ => ⟨⟨1, S_35, rfl, hpost, by rw [ht_]; exact hP, va_K.moved hW_.alike hK, hD⟩, hS.F ht_⟩) hS.2.2 (fk_get fk_cX9_readOne_2 9 rfl)
      refine lv_iload_n hx hb (fk_get fk_cX9_readOne_1 17 rfl) rfl (lv_at hl 0 rfl) ?_
      refine lv_goto (tgt := 100) hx hb (fk_get fk_cX9_readOne_1 18 rfl) (by decide) ?_
      refine lv_istore_n (lv' := [(3, .int (r_15)), (2, .int (r_15)), (0, .ref (ad 57)), (1, .int (0))]) hx hb (fk_get fk_cX9_readOne_1 22 rfl) rfl hl (by decide) rfl (fun ls hl => ?_)
      refine lv_iload_n hx hb (fk_get fk_cX9_readOne_1 23 rfl) rfl (lv_at hl 0 rfl) ?_
      refine lv_if_lt (tgt := 132) hx hb (fk_get fk_cX9_readOne_1 24 rfl) (by decide) (fun _ => ?_) (fun c_39 => absurd (by first | assumption | exact Int32.not_lt.mp (by assumption) | exact Int32.not_le.mp (by assumption) | exact Int32.not_lt.mpr (by assumption) | exact Int32.not_le.mpr (by assumption) ) c_39)
      refine lv_iconst (v := 0) hx hb (fk_get fk_cX9_readOne_2 8 rfl) (by decide) ?_
      subst hQ
      have hpost : XI S_17 ∧ Fr (fun j k => (j = 57 ∧ (k = 2 ∨ k = 3 ∨ k = 4 ∨ k = 7 ∨ k = 8)) ∨ ((j = 59 ∨ j = 60) ∧ k = 99)) S S_17 ∧ ((0 : Int32) = 0 ∨ (0 : Int32) = 1) := by
        exact ⟨hX_18, hF_19, (by first | exact Or.inl rfl | exact Or.inr rfl)⟩
      exact W.zret (v := 0) hx hb hr rfl (fun t_ ht_ hW_ => ⟨⟨0, S_17, rfl, hpost, by rw [ht_]; exact hP, va_K.moved hW_.alike hK, hD⟩, hS.F ht_⟩) hS.2.2 (fk_get fk_cX9_readOne_2 9 rfl)
    refine lv_aload_n hx hb (fk_get fk_cX9_readOne_0 29 rfl) rfl (lv_at hl 0 rfl) ?_
    refine lv_iload_n hx hb (fk_get fk_cX9_readOne_0 30 rfl) rfl (lv_at hl 1 rfl) ?_
    refine lv_iconst (v := 1) hx hb (fk_get fk_cX9_readOne_0 31 rfl) (by decide) ?_
    refine lv_iadd hx hb (fk_get fk_cX9_readOne_1 0 rfl) ?_
    rw [show ((0 + 1) : Int32) = 1 from by decide]
    have hFc := va_self hD hS hA
    refine va_calli (va_runV (As := [.int (1)]) (rest := []) ⟨hx, hb, hml, hown, hT⟩ (c_x9_RY_1 l G ad S_11 H.size  (hX_12)) (tV 1 hT m3_56 m3_58 mp_6 m1_12 m3_59 rfl rfl (by decide +kernel) ⟨Nat.le_of_ble_eq_true rfl, Nat.le_of_ble_eq_true rfl⟩) ⟨PcE_blind, va_recv hK hP (ci := 11) (q0 := 57) rfl (ix_at (lt71 (by omega)) (cX_text G ad S_11)), PcE_of hP hK hD hE hS (fun q h => hFc q h) _⟩ rfl rfl hl.1 rfl (lv_room (Nat.le_of_ble_eq_true rfl)) (fk_get fk_cX9_readOne_1 1 rfl) ⟨Nat.zero_le _, Nat.zero_le _⟩) hS (fun q _ h => hFc q h) hFc (fun r_40 S_42 t_ H locs ht_ hvm_ hw_41 hB_ hz_ hk_ hS => ?_)
    obtain ⟨hP, -, hD1_⟩ := hB_
    rw [ht_] at hP
    have hD : va_D A (wX G ad S_42) := hD1_.weaken (fun k q _ h => hFc q.1 h)
    try dsimp only at hw_41
    obtain ⟨hX_43, hF_44_, hw_41⟩ := hw_41
    have hF_44 : Fr (fun j k => (j = 57 ∧ (k = 2 ∨ k = 3 ∨ k = 4 ∨ k = 7 ∨ k = 8)) ∨ ((j = 59 ∨ j = 60) ∧ k = 99)) S S_42 := Fr.trans hF_13 (Fr.mono hF_44_ (fun j k h => by omega))
    refine lv_if_eq (tgt := 77) hx hb (fk_get fk_cX9_readOne_1 2 rfl) (by decide) (fun c_45 => ?_) (fun c_45 => ?_)
    · refine lv_iconst (v := 0) hx hb (fk_get fk_cX9_readOne_1 9 rfl) (by decide) ?_
      subst hQ
      have hpost : XI S_42 ∧ Fr (fun j k => (j = 57 ∧ (k = 2 ∨ k = 3 ∨ k = 4 ∨ k = 7 ∨ k = 8)) ∨ ((j = 59 ∨ j = 60) ∧ k = 99)) S S_42 ∧ ((0 : Int32) = 0 ∨ (0 : Int32) = 1) := by
        exact ⟨hX_43, hF_44, (by first | exact Or.inl rfl | exact Or.inr rfl)⟩
      exact W.zret (v := 0) hx hb hr rfl (fun t_ ht_ hW_ => ⟨⟨0, S_42, rfl, hpost, by rw [ht_]; exact hP, va_K.moved hW_.alike hK, hD⟩, hS.F ht_⟩) hS.2.2 (fk_get fk_cX9_readOne_1 10 rfl)
    refine lv_aload_n hx hb (fk_get fk_cX9_readOne_1 3 rfl) rfl (lv_at hl 0 rfl) ?_
    refine lv_bipush (v := 41) hx hb (fk_get fk_cX9_readOne_1 4 rfl) (by decide) ?_
    have hFc := va_self hD hS hA
    refine va_calli (va_runV (As := [.int (41)]) (rest := []) ⟨hx, hb, hml, hown, hT⟩ (c_x9_takes l G ad S_42 H.size (41) (hX_43)) (tV 1 hT m2_213 m2_215 mp_0 m1_12 m2_216 rfl rfl (by decide +kernel) ⟨Nat.le_of_ble_eq_true rfl, Nat.le_of_ble_eq_true rfl⟩) ⟨PcW_blind, va_recv hK hP (ci := 11) (q0 := 57) rfl (ix_at (lt71 (by omega)) (cX_text G ad S_42)), PcW_of hP hK hD _⟩ rfl rfl hl.1 rfl (lv_room (Nat.le_of_ble_eq_true rfl)) (fk_get fk_cX9_readOne_1 5 rfl) ⟨Nat.zero_le _, Nat.zero_le _⟩) hS (fun q _ h => hFc q h) hFc (fun r_46 S_48 t_ H locs ht_ hvm_ hw_47 hB_ hz_ hk_ hS => ?_)
    obtain ⟨hP, -, hD1_⟩ := hB_
    rw [ht_] at hP
    have hD : va_D A (wX G ad S_48) := hD1_.weaken (fun k q _ h => hFc q.1 h)
    try dsimp only at hw_47
    obtain ⟨hX_49, hF_50_, hw_47⟩ := hw_47
    have hF_50 : Fr (fun j k => (j = 57 ∧ (k = 2 ∨ k = 3 ∨ k = 4 ∨ k = 7 ∨ k = 8)) ∨ ((j = 59 ∨ j = 60) ∧ k = 99)) S S_48 := Fr.trans hF_44 (Fr.mono hF_50_ (fun j k h => by omega))
    refine lv_if_eq (tgt := 77) hx hb (fk_get fk_cX9_readOne_1 6 rfl) (by decide) (fun c_51 => ?_) (fun c_51 => ?_)
    · refine lv_iconst (v := 0) hx hb (fk_get fk_cX9_readOne_1 9 rfl) (by decide) ?_
      subst hQ
      have hpost : XI S_48 ∧ Fr (fun j k => (j = 57 ∧ (k = 2 ∨ k = 3 ∨ k = 4 ∨ k = 7 ∨ k = 8)) ∨ ((j = 59 ∨ j = 60) ∧ k = 99)) S S_48 ∧ ((0 : Int32) = 0 ∨ (0 : Int32) = 1) := by
        exact ⟨hX_49, hF_50, (by first | exact Or.inl rfl | exact Or.inr rfl)⟩
      exact W.zret (v := 0) hx hb hr rfl (fun t_ ht_ hW_ => ⟨⟨0, S_48, rfl, hpost, by rw [ht_]; exact hP, va_K.moved hW_.alike hK, hD⟩, hS.F ht_⟩) hS.2.2 (fk_get fk_cX9_readOne_1 10 rfl)
    refine lv_iconst (v := 1) hx hb (fk_get fk_cX9_readOne_1 7 rfl) (by decide) ?_
    refine lv_goto (tgt := 78) hx hb (fk_get fk_cX9_readOne_1 8 rfl) (by decide) ?_
    subst hQ
    have hpost : XI S_48 ∧ Fr (fun j k => (j = 57 ∧ (k = 2 ∨ k = 3 ∨ k = 4 ∨ k = 7 ∨ k = 8)) ∨ ((j = 59 ∨ j = 60) ∧ k = 99)) S S_48 ∧ ((1 : Int32) = 0 ∨ (1 : Int32) = 1) := by
      exact ⟨hX_49, hF_50, (by first | exact Or.inl rfl | exact Or.inr rfl)⟩
    exact W.zret (v := 1) hx hb hr rfl (fun t_ ht_ hW_ => ⟨⟨1, S_48, rfl, hpost, by rw [ht_]; exact hP, va_K.moved hW_.alike hK, hD⟩, hS.F ht_⟩) hS.2.2 (fk_get fk_cX9_readOne_1 10 rfl)
  refine lv_aload_n hx hb (fk_get fk_cX9_readOne_0 7 rfl) rfl (lv_at hl 0 rfl) ?_
  refine lv_iload_n hx hb (fk_get fk_cX9_readOne_0 8 rfl) rfl (lv_at hl 1 rfl) ?_
  refine lv_iconst (v := 1) hx hb (fk_get fk_cX9_readOne_0 9 rfl) (by decide) ?_
  refine lv_iadd hx hb (fk_get fk_cX9_readOne_0 10 rfl) ?_
  rw [show ((0 + 1) : Int32) = 1 from by decide]
  have hFc := va_self hD hS hA
  refine va_calli (va_runV (As := [.int (1)]) (rest := []) ⟨hx, hb, hml, hown, hT⟩ (c_x9_RO_1 l G ad S_4 H.size  (hX_5)) (tV 1 hT m3_64 m3_66 mp_8 m1_12 m3_67 rfl rfl (by decide +kernel) ⟨Nat.le_of_ble_eq_true rfl, Nat.le_of_ble_eq_true rfl⟩) ⟨PcE_blind, va_recv hK hP (ci := 11) (q0 := 57) rfl (ix_at (lt71 (by omega)) (cX_text G ad S_4)), PcE_of hP hK hD hE hS (fun q h => hFc q h) _⟩ rfl rfl hl.1 rfl (lv_room (Nat.le_of_ble_eq_true rfl)) (fk_get fk_cX9_readOne_0 11 rfl) ⟨Nat.zero_le _, Nat.zero_le _⟩) hS (fun q _ h => hFc q h) hFc (fun r_52 S_54 t_ H locs ht_ hvm_ hw_53 hB_ hz_ hk_ hS => ?_)
  obtain ⟨hP, -, hD1_⟩ := hB_
  rw [ht_] at hP
  have hD : va_D A (wX G ad S_54) := hD1_.weaken (fun k q _ h => hFc q.1 h)
  try dsimp only at hw_53
  obtain ⟨hX_55, hF_56_, hw_53⟩ := hw_53
  have hF_56 : Fr (fun j k => (j = 57 ∧ (k = 2 ∨ k = 3 ∨ k = 4 ∨ k = 7 ∨ k = 8)) ∨ ((j = 59 ∨ j = 60) ∧ k = 99)) S S_54 := Fr.trans hF_6 (Fr.mono hF_56_ (fun j k h => by omega))
  refine lv_if_eq (tgt := 38) hx hb (fk_get fk_cX9_readOne_0 12 rfl) (by decide) (fun c_57 => ?_) (fun c_57 => ?_)
  · refine lv_iconst (v := 0) hx hb (fk_get fk_cX9_readOne_0 20 rfl) (by decide) ?_
    subst hQ
    have hpost : XI S_54 ∧ Fr (fun j k => (j = 57 ∧ (k = 2 ∨ k = 3 ∨ k = 4 ∨ k = 7 ∨ k = 8)) ∨ ((j = 59 ∨ j = 60) ∧ k = 99)) S S_54 ∧ ((0 : Int32) = 0 ∨ (0 : Int32) = 1) := by
      exact ⟨hX_55, hF_56, (by first | exact Or.inl rfl | exact Or.inr rfl)⟩
    exact W.zret (v := 0) hx hb hr rfl (fun t_ ht_ hW_ => ⟨⟨0, S_54, rfl, hpost, by rw [ht_]; exact hP, va_K.moved hW_.alike hK, hD⟩, hS.F ht_⟩) hS.2.2 (fk_get fk_cX9_readOne_0 21 rfl)
  refine lv_aload_n hx hb (fk_get fk_cX9_readOne_0 13 rfl) rfl (lv_at hl 0 rfl) ?_
  refine lv_bipush (v := 18) hx hb (fk_get fk_cX9_readOne_0 14 rfl) (by decide) ?_
  refine lv_iconst (v := 0) hx hb (fk_get fk_cX9_readOne_0 15 rfl) (by decide) ?_
  have hFc := va_self hD hS hA
  refine va_calli (va_runV (As := [.int (18), .int (0)]) (rest := []) ⟨hx, hb, hml, hown, hT⟩ (c_x9_putCode l G ad S_54 H.size (18) (0) (hX_55)) (tV 2 hT m3_68 m3_70 mp_9 m1_12 m3_71 rfl rfl (by decide +kernel) ⟨Nat.le_of_ble_eq_true rfl, Nat.le_of_ble_eq_true rfl⟩) ⟨PcW_blind, va_recv hK hP (ci := 11) (q0 := 57) rfl (ix_at (lt71 (by omega)) (cX_text G ad S_54)), PcW_of hP hK hD _⟩ rfl rfl hl.1 rfl (lv_room (Nat.le_of_ble_eq_true rfl)) (fk_get fk_cX9_readOne_0 16 rfl) ⟨Nat.zero_le _, Nat.zero_le _⟩) hS (fun q _ h => hFc q h) hFc (fun r_58 S_60 t_ H locs ht_ hvm_ hw_59 hB_ hz_ hk_ hS => ?_)
  obtain ⟨hP, -, hD1_⟩ := hB_
  rw [ht_] at hP
  have hD : va_D A (wX G ad S_60) := hD1_.weaken (fun k q _ h => hFc q.1 h)
  try dsimp only at hw_59
  obtain ⟨hX_61, hF_62_, hw_59⟩ := hw_59
  have hF_62 : Fr (fun j k => (j = 57 ∧ (k = 2 ∨ k = 3 ∨ k = 4 ∨ k = 7 ∨ k = 8)) ∨ ((j = 59 ∨ j = 60) ∧ k = 99)) S S_60 := Fr.trans hF_56 (Fr.mono hF_62_ (fun j k h => by omega))
  refine lv_if_eq (tgt := 38) hx hb (fk_get fk_cX9_readOne_0 17 rfl) (by decide) (fun c_63 => ?_) (fun c_63 => ?_)
  · refine lv_iconst (v := 0) hx hb (fk_get fk_cX9_readOne_0 20 rfl) (by decide) ?_
    subst hQ
    have hpost : XI S_60 ∧ Fr (fun j k => (j = 57 ∧ (k = 2 ∨ k = 3 ∨ k = 4 ∨ k = 7 ∨ k = 8)) ∨ ((j = 59 ∨ j = 60) ∧ k = 99)) S S_60 ∧ ((0 : Int32) = 0 ∨ (0 : Int32) = 1) := by
      exact ⟨hX_61, hF_62, (by first | exact Or.inl rfl | exact Or.inr rfl)⟩
    exact W.zret (v := 0) hx hb hr rfl (fun t_ ht_ hW_ => ⟨⟨0, S_60, rfl, hpost, by rw [ht_]; exact hP, va_K.moved hW_.alike hK, hD⟩, hS.F ht_⟩) hS.2.2 (fk_get fk_cX9_readOne_0 21 rfl)
  refine lv_iconst (v := 1) hx hb (fk_get fk_cX9_readOne_0 18 rfl) (by decide) ?_
  refine lv_goto (tgt := 39) hx hb (fk_get fk_cX9_readOne_0 19 rfl) (by decide) ?_
  subst hQ
  have hpost : XI S_60 ∧ Fr (fun j k => (j = 57 ∧ (k = 2 ∨ k = 3 ∨ k = 4 ∨ k = 7 ∨ k = 8)) ∨ ((j = 59 ∨ j = 60) ∧ k = 99)) S S_60 ∧ ((1 : Int32) = 0 ∨ (1 : Int32) = 1) := by
    exact ⟨hX_61, hF_62, (by first | exact Or.inl rfl | exact Or.inr rfl)⟩
  exact W.zret (v := 1) hx hb hr rfl (fun t_ ht_ hW_ => ⟨⟨1, S_60, rfl, hpost, by rw [ht_]; exact hP, va_K.moved hW_.alike hK, hD⟩, hS.F ht_⟩) hS.2.2 (fk_get fk_cX9_readOne_0 21 rfl)
set_option maxHeartbeats 800000 in
set_option maxRecDepth 100000 in
theorem c_x9_RA_0 (l : Launch) (G : GG) (ad : Nat → Nat) (S : FS) (sz : Nat)  (hX : XI S) : Met l yX9_readAll (Cond.code yX9_readAll cX9_readAll 3 (some .boolean) :: TBL) ({ frames := 20, cells := 0, slots := 0, locals := 541 } : Room) (PcE G (wX G ad S) sz [.ref (ad 57), .int (0)]) (va_Qi (fun (r : Int32) (S' : FS) => XI S' ∧ Fr (fun j k => (j = 57 ∧ (k = 2 ∨ k = 3 ∨ k = 4 ∨ k = 7 ∨ k = 8)) ∨ ((j = 59 ∨ j = 60) ∧ k = 99)) S S' ∧ (r = 0 ∨ r = 1)) (fun S' t => BW G (va_A (wX G ad S) sz) (wX G ad S') t) (va_A (wX G ad S) sz)) 0 0 (va_A (wX G ad S) sz) := by
  refine Met.ofW (cc := cX9_readAll) (maxL := 3) (ret := (some .boolean)) (by decide) rfl ?_
  intro p e s m args below meth c₀ s₁ B hml hv
  obtain ⟨rfl, hsz, hP, hK, hD0, hE⟩ := hv
  have hx := B.exec
  have hb := B.bytes
  have hr := B.returns
  have hT : ∀ w ∈ TBL, w.before ([.ref (ad 57), .int (0)] : List Value).toArray s = true := fun w h => atoms_spec (ws := Cond.code yX9_readAll cX9_readAll 3 (some .boolean) :: TBL) B.pre w (List.mem_cons_of_mem _ h)
  have hown : s.vm.findClass "LittleMore$Text" = some m.cls := findClass_of_methodNamed B.named
  have hlocks := B.notSynchronized
  subst hsz
  have hD := hD0.self (sz := s.heap.size)
  generalize hAe : va_A (wX G ad S) s.heap.size = A at hD hE ⊢
  have hA : ∀ q : Nat, s.heap.size ≤ q → A q := fun q h => by rw [← hAe]; exact Or.inr h
  have hS : va_S A s.heap s.heap [] := va_S.rf
  have hP : va_P G.1 vwCl (wX G ad S) s.heap := hP
  have hl := lv_entry ([.ref (ad 57), .int (0)]) (n := 3) (Nat.le_of_ble_eq_true rfl)
  rw [lg_entry_eq]
  generalize (lg_sl ([.ref (ad 57), .int (0)]) ++ List.replicate (3 - (lg_sl ([.ref (ad 57), .int (0)])).length) Slot.unset).toArray = ls at hl ⊢
  have hl : lv_has ls 3 [(0, .ref (ad 57)), (1, .int (0))] := hl
  refine W_abs (fun Q hQ => ?_)
  generalize ([.ref (ad 57), .int (0)] : List Value).toArray = args at hT hQ ⊢
  refine lv_aload_n hx hb (fk_get fk_cX9_readAll_0 0 rfl) rfl (lv_at hl 0 rfl) ?_
  refine lv_iload_n hx hb (fk_get fk_cX9_readAll_0 1 rfl) rfl (lv_at hl 1 rfl) ?_
  have hFc := va_self hD hS hA
  refine va_calli (va_runV (As := [.int (0)]) (rest := []) ⟨hx, hb, hml, hown, hT⟩ (c_x9_RO_0 l G ad S s.heap.size  (hX)) (tV 1 hT m3_64 m3_66 mp_8 m1_12 m3_67 rfl rfl (by decide +kernel) ⟨Nat.le_of_ble_eq_true rfl, Nat.le_of_ble_eq_true rfl⟩) ⟨PcE_blind, va_recv hK hP (ci := 11) (q0 := 57) rfl (ix_at (lt71 (by omega)) (cX_text G ad S)), PcE_of hP hK hD hE hS (fun q h => hFc q h) _⟩ rfl rfl hl.1 rfl (lv_room (Nat.le_of_ble_eq_true rfl)) (fk_get fk_cX9_readAll_0 2 rfl) ⟨Nat.zero_le _, Nat.zero_le _⟩) hS (fun q _ h => hFc q h) hFc (fun r_1 S_3 t_ H locs ht_ hvm_ hw_2 hB_ hz_ hk_ hS => ?_)
  obtain ⟨hP, -, hD1_⟩ := hB_
  rw [ht_] at hP
  have hD : va_D A (wX G ad S_3) := hD1_.weaken (fun k q _ h => hFc q.1 h)
  try dsimp only at hw_2
  obtain ⟨hX_4, hF_5_, hw_2⟩ := hw_2
  have hF_5 : Fr (fun j k => (j = 57 ∧ (k = 2 ∨ k = 3 ∨ k = 4 ∨ k = 7 ∨ k = 8)) ∨ ((j = 59 ∨ j = 60) ∧ k = 99)) S S_3 := Fr.trans (Fr.rf : Fr (fun j k => (j = 57 ∧ (k = 2 ∨ k = 3 ∨ k = 4 ∨ k = 7 ∨ k = 8)) ∨ ((j = 59 ∨ j = 60) ∧ k = 99)) S S) (Fr.mono hF_5_ (fun j k h => by omega))
  refine lv_if_ne (tgt := 10) hx hb (fk_get fk_cX9_readAll_0 3 rfl) (by decide) (fun c_6 => ?_) (fun c_6 => ?_)
  · refine lv_iconst (v := 0) hx hb (fk_get fk_cX9_readAll_0 6 rfl) (by decide) ?_
    refine lv_istore_n (lv' := [(2, .int (0)), (0, .ref (ad 57)), (1, .int (0))]) hx hb (fk_get fk_cX9_readAll_0 7 rfl) rfl hl (by decide) rfl (fun ls hl => ?_)
    have lp_7 : ∀ (fu : Nat) (c : Nat) (SL12 : FS) (H_9 : Heap) (locs_10 : List Loc) (ls : Array Slot),  (XI SL12) → (Fr (fun j k => (j = 57 ∧ (k = 2 ∨ k = 3 ∨ k = 4 ∨ k = 7 ∨ k = 8)) ∨ ((j = 59 ∨ j = 60) ∧ k = 99)) S SL12) → (c ≤ 100) → (100 < c + fu) → va_P G.1 vwCl (wX G ad SL12) H_9 → va_D A (wX G ad SL12) → va_S A s.heap H_9 locs_10 → lv_has ls 3 [(2, .int ((nI c))), (0, .ref (ad 57)), (1, .int (0))] → W p l e ({ frames := 20, cells := 0, slots := 0, locals := 541 } : Room) s m args below meth c₀ H_9 locs_10 0 0 Q (F0 m 12 ls []) := by
      intro fu
      induction fu with
      | zero =>
        intro c SL12 H_9 locs_10 ls hXl12 hFl12 hk hf hP hD hS hl
        exact absurd hf (by omega)
      | succ fu ih =>
        intro c SL12 H_9 locs_10 ls hXl12 hFl12 hk hf hP hD hS hl
        refine lv_iload_n hx hb (fk_get fk_cX9_readAll_0 8 rfl) rfl (lv_at hl 0 rfl) ?_
        refine lv_bipush (v := 100) hx hb (fk_get fk_cX9_readAll_0 9 rfl) (by decide) ?_
        refine lv_icmp_ge (tgt := 53) hx hb (fk_get fk_cX9_readAll_0 10 rfl) (by decide) (fun c_11 => ?_) (fun c_11 => ?_)
        · have q_c_11 : 100 ≤ c := ci_le (a := 100) (b := c) (by omega) (by omega) c_11
          refine lv_iconst (v := 1) hx hb (fk_get fk_cX9_readAll_0 28 rfl) (by decide) ?_
          subst hQ
          have hpost : XI SL12 ∧ Fr (fun j k => (j = 57 ∧ (k = 2 ∨ k = 3 ∨ k = 4 ∨ k = 7 ∨ k = 8)) ∨ ((j = 59 ∨ j = 60) ∧ k = 99)) S SL12 ∧ ((1 : Int32) = 0 ∨ (1 : Int32) = 1) := by
            exact ⟨hXl12, hFl12, (by first | exact Or.inl rfl | exact Or.inr rfl)⟩
          exact W.zret (v := 1) hx hb hr rfl (fun t_ ht_ hW_ => ⟨⟨1, SL12, rfl, hpost, by rw [ht_]; exact hP, va_K.moved hW_.alike hK, hD⟩, hS.F ht_⟩) hS.2.2 (fk_get fk_cX9_readAll_0 29 rfl)
        have q_c_11 : c < 100 := ci_nle (a := 100) (b := c) (by omega) (by omega) c_11
        refine lv_aload_n hx hb (fk_get fk_cX9_readAll_0 11 rfl) rfl (lv_at hl 1 rfl) ?_
        refine lv_bipush (v := 38) hx hb (fk_get fk_cX9_readAll_0 12 rfl) (by decide) ?_
        have hFc := va_self hD hS hA
        refine va_calli (va_runV (As := [.int (38)]) (rest := []) ⟨hx, hb, hml, hown, hT⟩ (c_x9_takes l G ad SL12 H_9.size (38) (hXl12)) (tV 1 hT m2_213 m2_215 mp_0 m1_12 m2_216 rfl rfl (by decide +kernel) ⟨Nat.le_of_ble_eq_true rfl, Nat.le_of_ble_eq_true rfl⟩) ⟨PcW_blind, va_recv hK hP (ci := 11) (q0 := 57) rfl (ix_at (lt71 (by omega)) (cX_text G ad SL12)), PcW_of hP hK hD _⟩ rfl rfl hl.1 rfl (lv_room (Nat.le_of_ble_eq_true rfl)) (fk_get fk_cX9_readAll_0 13 rfl) ⟨Nat.zero_le _, Nat.zero_le _⟩) hS (fun q _ h => hFc q h) hFc (fun r_12 S_14 t_ H locs ht_ hvm_ hw_13 hB_ hz_ hk_ hS => ?_)
        obtain ⟨hP, -, hD1_⟩ := hB_
        rw [ht_] at hP
        have hD : va_D A (wX G ad S_14) := hD1_.weaken (fun k q _ h => hFc q.1 h)
        try dsimp only at hw_13
        obtain ⟨hX_15, hF_16_, hw_13⟩ := hw_13
        have hF_16 : Fr (fun j k => (j = 57 ∧ (k = 2 ∨ k = 3 ∨ k = 4 ∨ k = 7 ∨ k = 8)) ∨ ((j = 59 ∨ j = 60) ∧ k = 99)) S S_14 := Fr.trans hFl12 (Fr.mono hF_16_ (fun j k h => by omega))
        refine lv_if_eq (tgt := 53) hx hb (fk_get fk_cX9_readAll_0 14 rfl) (by decide) (fun c_17 => ?_) (fun c_17 => ?_)
        · refine lv_iconst (v := 1) hx hb (fk_get fk_cX9_readAll_0 28 rfl) (by decide) ?_
          subst hQ
          have hpost : XI S_14 ∧ Fr (fun j k => (j = 57 ∧ (k = 2 ∨ k = 3 ∨ k = 4 ∨ k = 7 ∨ k = 8)) ∨ ((j = 59 ∨ j = 60) ∧ k = 99)) S S_14 ∧ ((1 : Int32) = 0 ∨ (1 : Int32) = 1) := by
            exact ⟨hX_15, hF_16, (by first | exact Or.inl rfl | exact Or.inr rfl)⟩
          exact W.zret (v := 1) hx hb hr rfl (fun t_ ht_ hW_ => ⟨⟨1, S_14, rfl, hpost, by rw [ht_]; exact hP, va_K.moved hW_.alike hK, hD⟩, hS.F ht_⟩) hS.2.2 (fk_get fk_cX9_readAll_0 29 rfl)
        refine lv_aload_n hx hb (fk_get fk_cX9_readAll_0 15 rfl) rfl (lv_at hl 1 rfl) ?_
        refine lv_iload_n hx hb (fk_get fk_cX9_readAll_0 16 rfl) rfl (lv_at hl 2 rfl) ?_
        have hFc := va_self hD hS hA
        refine va_calli (va_runV (As := [.int (0)]) (rest := []) ⟨hx, hb, hml, hown, hT⟩ (c_x9_RO_0 l G ad S_14 H.size  (hX_15)) (tV 1 hT m3_64 m3_66 mp_8 m1_12 m3_67 rfl rfl (by decide +kernel) ⟨Nat.le_of_ble_eq_true rfl, Nat.le_of_ble_eq_true rfl⟩) ⟨PcE_blind, va_recv hK hP (ci := 11) (q0 := 57) rfl (ix_at (lt71 (by omega)) (cX_text G ad S_14)), PcE_of hP hK hD hE hS (fun q h => hFc q h) _⟩ rfl rfl hl.1 rfl (lv_room (Nat.le_of_ble_eq_true rfl)) (fk_get fk_cX9_readAll_0 17 rfl) ⟨Nat.zero_le _, Nat.zero_le _⟩) hS (fun q _ h => hFc q h) hFc (fun r_18 S_20 t_ H locs ht_ hvm_ hw_19 hB_ hz_ hk_ hS => ?_)
        obtain ⟨hP, -, hD1_⟩ := hB_
        rw [ht_] at hP
        have hD : va_D A (wX G ad S_20) := hD1_.weaken (fun k q _ h => hFc q.1 h)
        try dsimp only at hw_19
        obtain ⟨hX_21, hF_22_, hw_19⟩ := hw_19
        have hF_22 : Fr (fun j k => (j = 57 ∧ (k = 2 ∨ k = 3 ∨ k = 4 ∨ k = 7 ∨ k = 8)) ∨ ((j = 59 ∨ j = 60) ∧ k = 99)) S S_20 := Fr.trans hF_16 (Fr.mono hF_22_ (fun j k h => by omega))
        refine lv_if_eq (tgt := 45) hx hb (fk_get fk_cX9_readAll_0 18 rfl) (by decide) (fun c_23 => ?_) (fun c_23 => ?_)
        · refine lv_iconst (v := 0) hx hb (fk_get fk_cX9_readAll_0 24 rfl) (by decide) ?_
          subst hQ
          have hpost : XI S_20 ∧ Fr (fun j k => (j = 57 ∧ (k = 2 ∨ k = 3 ∨ k = 4 ∨ k = 7 ∨ k = 8)) ∨ ((j = 59 ∨ j = 60) ∧ k = 99)) S S_20 ∧ ((0 : Int32) = 0 ∨ (0 : Int32) = 1) := by
            exact ⟨hX_21, hF_22, (by first | exact Or.inl rfl | exact Or.inr rfl)⟩
          exact W.zret (v := 0) hx hb hr rfl (fun t_ ht_ hW_ => ⟨⟨0, S_20, rfl, hpost, by rw [ht_]; exact hP, va_K.moved hW_.alike hK, hD⟩, hS.F ht_⟩) hS.2.2 (fk_get fk_cX9_readAll_0 25 rfl)
        refine lv_aload_n hx hb (fk_get fk_cX9_readAll_0 19 rfl) rfl (lv_at hl 1 rfl) ?_
        refine lv_bipush (v := 19) hx hb (fk_get fk_cX9_readAll_0 20 rfl) (by decide) ?_
        refine lv_iconst (v := 0) hx hb (fk_get fk_cX9_readAll_0 21 rfl) (by decide) ?_
        have hFc := va_self hD hS hA
        refine va_calli (va_runV (As := [.int (19), .int (0)]) (rest := []) ⟨hx, hb, hml, hown, hT⟩ (c_x9_putCode l G ad S_20 H.size (19) (0) (hX_21)) (tV 2 hT m3_68 m3_70 mp_9 m1_12 m3_71 rfl rfl (by decide +kernel) ⟨Nat.le_of_ble_eq_true rfl, Nat.le_of_ble_eq_true rfl⟩) ⟨PcW_blind, va_recv hK hP (ci := 11) (q0 := 57) rfl (ix_at (lt71 (by omega)) (cX_text G ad S_20)), PcW_of hP hK hD _⟩ rfl rfl hl.1 rfl (lv_room (Nat.le_of_ble_eq_true rfl)) (fk_get fk_cX9_readAll_0 22 rfl) ⟨Nat.zero_le _, Nat.zero_le _⟩) hS (fun q _ h => hFc q h) hFc (fun r_24 S_26 t_ H locs ht_ hvm_ hw_25 hB_ hz_ hk_ hS => ?_)
        obtain ⟨hP, -, hD1_⟩ := hB_
        rw [ht_] at hP
        have hD : va_D A (wX G ad S_26) := hD1_.weaken (fun k q _ h => hFc q.1 h)
        try dsimp only at hw_25
        obtain ⟨hX_27, hF_28_, hw_25⟩ := hw_25
        have hF_28 : Fr (fun j k => (j = 57 ∧ (k = 2 ∨ k = 3 ∨ k = 4 ∨ k = 7 ∨ k = 8)) ∨ ((j = 59 ∨ j = 60) ∧ k = 99)) S S_26 := Fr.trans hF_22 (Fr.mono hF_28_ (fun j k h => by omega))
        refine lv_if_ne (tgt := 47) hx hb (fk_get fk_cX9_readAll_0 23 rfl) (by decide) (fun c_29 => ?_) (fun c_29 => ?_)
        · refine lv_iinc (v := (nI (c + 1))) (lv' := [(2, .int ((nI (c + 1)))), (0, .ref (ad 57)), (1, .int (0))]) hx hb (fk_get fk_cX9_readAll_0 26 rfl) hl (k := 0) rfl ((nI_1 c)) (by decide) rfl (fun ls hl => ?_)
          refine lv_goto (tgt := 12) hx hb (fk_get fk_cX9_readAll_0 27 rfl) (by decide) ?_
          exact ih (c + 1) (S_26) _ _ ls (hX_27) (hF_28) (by omega) (by omega) hP hD hS (lv_sub hl [0, 1, 2] rfl)
        refine lv_iconst (v := 0) hx hb (fk_get fk_cX9_readAll_0 24 rfl) (by decide) ?_
        subst hQ
        have hpost : XI S_26 ∧ Fr (fun j k => (j = 57 ∧ (k = 2 ∨ k = 3 ∨ k = 4 ∨ k = 7 ∨ k = 8)) ∨ ((j = 59 ∨ j = 60) ∧ k = 99)) S S_26 ∧ ((0 : Int32) = 0 ∨ (0 : Int32) = 1) := by
          exact ⟨hX_27, hF_28, (by first | exact Or.inl rfl | exact Or.inr rfl)⟩
        exact W.zret (v := 0) hx hb hr rfl (fun t_ ht_ hW_ => ⟨⟨0, S_26, rfl, hpost, by rw [ht_]; exact hP, va_K.moved hW_.alike hK, hD⟩, hS.F ht_⟩) hS.2.2 (fk_get fk_cX9_readAll_0 25 rfl)
    exact lp_7 (100 + 1) (0) (S_3) _ _ ls (hX_4) (hF_5) (by omega) (by omega) hP hD hS (lv_sub hl [0, 1, 2] rfl)
  refine lv_iconst (v := 0) hx hb (fk_get fk_cX9_readAll_0 4 rfl) (by decide) ?_
  subst hQ
  have hpost : XI S_3 ∧ Fr (fun j k => (j = 57 ∧ (k = 2 ∨ k = 3 ∨ k = 4 ∨ k = 7 ∨ k = 8)) ∨ ((j = 59 ∨ j = 60) ∧ k = 99)) S S_3 ∧ ((0 : Int32) = 0 ∨ (0 : Int32) = 1) := by
    exact ⟨hX_4, hF_5, (by first | exact Or.inl rfl | exact Or.inr rfl)⟩
  exact W.zret (v := 0) hx hb hr rfl (fun t_ ht_ hW_ => ⟨⟨0, S_3, rfl, hpost, by rw [ht_]; exact hP, va_K.moved hW_.alike hK, hD⟩, hS.F ht_⟩) hS.2.2 (fk_get fk_cX9_readAll_0 5 rfl)
set_option maxHeartbeats 800000 in
set_option maxRecDepth 100000 in
theorem c_x9_RY_0 (l : Launch) (G : GG) (ad : Nat → Nat) (S : FS) (sz : Nat)  (hX : XI S) : Met l yX9_readAny (Cond.code yX9_readAny cX9_readAny 3 (some .boolean) :: TBL) ({ frames := 21, cells := 0, slots := 0, locals := 567 } : Room) (PcE G (wX G ad S) sz [.ref (ad 57), .int (0)]) (va_Qi (fun (r : Int32) (S' : FS) => XI S' ∧ Fr (fun j k => (j = 57 ∧ (k = 2 ∨ k = 3 ∨ k = 4 ∨ k = 7 ∨ k = 8)) ∨ ((j = 59 ∨ j = 60) ∧ k = 99)) S S' ∧ (r = 0 ∨ r = 1)) (fun S' t => BW G (va_A (wX G ad S) sz) (wX G ad S') t) (va_A (wX G ad S) sz)) 0 0 (va_A (wX G ad S) sz) := by
  refine Met.ofW (cc := cX9_readAny) (maxL := 3) (ret := (some .boolean)) (by decide) rfl ?_
  intro p e s m args below meth c₀ s₁ B hml hv
  obtain ⟨rfl, hsz, hP, hK, hD0, hE⟩ := hv
  have hx := B.exec
  have hb := B.bytes
  have hr := B.returns
  have hT : ∀ w ∈ TBL, w.before ([.ref (ad 57), .int (0)] : List Value).toArray s = true := fun w h => atoms_spec (ws := Cond.code yX9_readAny cX9_readAny 3 (some .boolean) :: TBL) B.pre w (List.mem_cons_of_mem _ h)
  have hown : s.vm.findClass "LittleMore$Text" = some m.cls := findClass_of_methodNamed B.named
  have hlocks := B.notSynchronized
  subst hsz
  have hD := hD0.self (sz := s.heap.size)
  generalize hAe : va_A (wX G ad S) s.heap.size = A at hD hE ⊢
  have hA : ∀ q : Nat, s.heap.size ≤ q → A q := fun q h => by rw [← hAe]; exact Or.inr h
  have hS : va_S A s.heap s.heap [] := va_S.rf
  have hP : va_P G.1 vwCl (wX G ad S) s.heap := hP
  have hl := lv_entry ([.ref (ad 57), .int (0)]) (n := 3) (Nat.le_of_ble_eq_true rfl)
  rw [lg_entry_eq]
  generalize (lg_sl ([.ref (ad 57), .int (0)]) ++ List.replicate (3 - (lg_sl ([.ref (ad 57), .int (0)])).length) Slot.unset).toArray = ls at hl ⊢
  have hl : lv_has ls 3 [(0, .ref (ad 57)), (1, .int (0))] := hl
  refine W_abs (fun Q hQ => ?_)
  generalize ([.ref (ad 57), .int (0)] : List Value).toArray = args at hT hQ ⊢
  refine lv_aload_n hx hb (fk_get fk_cX9_readAny_0 0 rfl) rfl (lv_at hl 0 rfl) ?_
  refine lv_iload_n hx hb (fk_get fk_cX9_readAny_0 1 rfl) rfl (lv_at hl 1 rfl) ?_
  have hFc := va_self hD hS hA
  refine va_calli (va_runV (As := [.int (0)]) (rest := []) ⟨hx, hb, hml, hown, hT⟩ (c_x9_RA_0 l G ad S s.heap.size  (hX)) (tV 1 hT m3_60 m3_62 mp_7 m1_12 m3_63 rfl rfl (by decide +kernel) ⟨Nat.le_of_ble_eq_true rfl, Nat.le_of_ble_eq_true rfl⟩) ⟨PcE_blind, va_recv hK hP (ci := 11) (q0 := 57) rfl (ix_at (lt71 (by omega)) (cX_text G ad S)), PcE_of hP hK hD hE hS (fun q h => hFc q h) _⟩ rfl rfl hl.1 rfl (lv_room (Nat.le_of_ble_eq_true rfl)) (fk_get fk_cX9_readAny_0 2 rfl) ⟨Nat.zero_le _, Nat.zero_le _⟩) hS (fun q _ h => hFc q h) hFc (fun r_1 S_3 t_ H locs ht_ hvm_ hw_2 hB_ hz_ hk_ hS => ?_)
  obtain ⟨hP, -, hD1_⟩ := hB_
  rw [ht_] at hP
  have hD : va_D A (wX G ad S_3) := hD1_.weaken (fun k q _ h => hFc q.1 h)
  try dsimp only at hw_2
  obtain ⟨hX_4, hF_5_, hw_2⟩ := hw_2
  have hF_5 : Fr (fun j k => (j = 57 ∧ (k = 2 ∨ k = 3 ∨ k = 4 ∨ k = 7 ∨ k = 8)) ∨ ((j = 59 ∨ j = 60) ∧ k = 99)) S S_3 := Fr.trans (Fr.rf : Fr (fun j k => (j = 57 ∧ (k = 2 ∨ k = 3 ∨ k = 4 ∨ k = 7 ∨ k = 8)) ∨ ((j = 59 ∨ j = 60) ∧ k = 99)) S S) (Fr.mono hF_5_ (fun j k h => by omega))
  refine lv_if_ne (tgt := 10) hx hb (fk_get fk_cX9_readAny_0 3 rfl) (by decide) (fun c_6 => ?_) (fun c_6 => ?_)
  · refine lv_iconst (v := 0) hx hb (fk_get fk_cX9_readAny_0 6 rfl) (by decide) ?_
    refine lv_istore_n (lv' := [(2, .int (0)), (0, .ref (ad 57)), (1, .int (0))]) hx hb (fk_get fk_cX9_readAny_0 7 rfl) rfl hl (by decide) rfl (fun ls hl => ?_)
    have lp_7 : ∀ (fu : Nat) (c : Nat) (SL12 : FS) (H_9 : Heap) (locs_10 : List Loc) (ls : Array Slot),  (XI SL12) → (Fr (fun j k => (j = 57 ∧ (k = 2 ∨ k = 3 ∨ k = 4 ∨ k = 7 ∨ k = 8)) ∨ ((j = 59 ∨ j = 60) ∧ k = 99)) S SL12) → (c ≤ 100) → (100 < c + fu) → va_P G.1 vwCl (wX G ad SL12) H_9 → va_D A (wX G ad SL12) → va_S A s.heap H_9 locs_10 → lv_has ls 3 [(2, .int ((nI c))), (0, .ref (ad 57)), (1, .int (0))] → W p l e ({ frames := 21, cells := 0, slots := 0, locals := 567 } : Room) s m args below meth c₀ H_9 locs_10 0 0 Q (F0 m 12 ls []) := by
      intro fu
      induction fu with
      | zero =>
        intro c SL12 H_9 locs_10 ls hXl12 hFl12 hk hf hP hD hS hl
        exact absurd hf (by omega)
      | succ fu ih =>
        intro c SL12 H_9 locs_10 ls hXl12 hFl12 hk hf hP hD hS hl
        refine lv_iload_n hx hb (fk_get fk_cX9_readAny_0 8 rfl) rfl (lv_at hl 0 rfl) ?_
        refine lv_bipush (v := 100) hx hb (fk_get fk_cX9_readAny_0 9 rfl) (by decide) ?_
        refine lv_icmp_ge (tgt := 53) hx hb (fk_get fk_cX9_readAny_0 10 rfl) (by decide) (fun c_11 => ?_) (fun c_11 => ?_)
        · have q_c_11 : 100 ≤ c := ci_le (a := 100) (b := c) (by omega) (by omega) c_11
          refine lv_iconst (v := 1) hx hb (fk_get fk_cX9_readAny_0 28 rfl) (by decide) ?_
          subst hQ
          have hpost : XI SL12 ∧ Fr (fun j k => (j = 57 ∧ (k = 2 ∨ k = 3 ∨ k = 4 ∨ k = 7 ∨ k = 8)) ∨ ((j = 59 ∨ j = 60) ∧ k = 99)) S SL12 ∧ ((1 : Int32) = 0 ∨ (1 : Int32) = 1) := by
            exact ⟨hXl12, hFl12, (by first | exact Or.inl rfl | exact Or.inr rfl)⟩
          exact W.zret (v := 1) hx hb hr rfl (fun t_ ht_ hW_ => ⟨⟨1, SL12, rfl, hpost, by rw [ht_]; exact hP, va_K.moved hW_.alike hK, hD⟩, hS.F ht_⟩) hS.2.2 (fk_get fk_cX9_readAny_0 29 rfl)
        have q_c_11 : c < 100 := ci_nle (a := 100) (b := c) (by omega) (by omega) c_11
        refine lv_aload_n hx hb (fk_get fk_cX9_readAny_0 11 rfl) rfl (lv_at hl 1 rfl) ?_
        refine lv_bipush (v := 124) hx hb (fk_get fk_cX9_readAny_0 12 rfl) (by decide) ?_
        have hFc := va_self hD hS hA
        refine va_calli (va_runV (As := [.int (124)]) (rest := []) ⟨hx, hb, hml, hown, hT⟩ (c_x9_takes l G ad SL12 H_9.size (124) (hXl12)) (tV 1 hT m2_213 m2_215 mp_0 m1_12 m2_216 rfl rfl (by decide +kernel) ⟨Nat.le_of_ble_eq_true rfl, Nat.le_of_ble_eq_true rfl⟩) ⟨PcW_blind, va_recv hK hP (ci := 11) (q0 := 57) rfl (ix_at (lt71 (by omega)) (cX_text G ad SL12)), PcW_of hP hK hD _⟩ rfl rfl hl.1 rfl (lv_room (Nat.le_of_ble_eq_true rfl)) (fk_get fk_cX9_readAny_0 13 rfl) ⟨Nat.zero_le _, Nat.zero_le _⟩) hS (fun q _ h => hFc q h) hFc (fun r_12 S_14 t_ H locs ht_ hvm_ hw_13 hB_ hz_ hk_ hS => ?_)
        obtain ⟨hP, -, hD1_⟩ := hB_
        rw [ht_] at hP
        have hD : va_D A (wX G ad S_14) := hD1_.weaken (fun k q _ h => hFc q.1 h)
        try dsimp only at hw_13
        obtain ⟨hX_15, hF_16_, hw_13⟩ := hw_13
        have hF_16 : Fr (fun j k => (j = 57 ∧ (k = 2 ∨ k = 3 ∨ k = 4 ∨ k = 7 ∨ k = 8)) ∨ ((j = 59 ∨ j = 60) ∧ k = 99)) S S_14 := Fr.trans hFl12 (Fr.mono hF_16_ (fun j k h => by omega))
        refine lv_if_eq (tgt := 53) hx hb (fk_get fk_cX9_readAny_0 14 rfl) (by decide) (fun c_17 => ?_) (fun c_17 => ?_)
        · refine lv_iconst (v := 1) hx hb (fk_get fk_cX9_readAny_0 28 rfl) (by decide) ?_
          subst hQ
          have hpost : XI S_14 ∧ Fr (fun j k => (j = 57 ∧ (k = 2 ∨ k = 3 ∨ k = 4 ∨ k = 7 ∨ k = 8)) ∨ ((j = 59 ∨ j = 60) ∧ k = 99)) S S_14 ∧ ((1 : Int32) = 0 ∨ (1 : Int32) = 1) := by
            exact ⟨hX_15, hF_16, (by first | exact Or.inl rfl | exact Or.inr rfl)⟩
          exact W.zret (v := 1) hx hb hr rfl (fun t_ ht_ hW_ => ⟨⟨1, S_14, rfl, hpost, by rw [ht_]; exact hP, va_K.moved hW_.alike hK, hD⟩, hS.F ht_⟩) hS.2.2 (fk_get fk_cX9_readAny_0 29 rfl)
        refine lv_aload_n hx hb (fk_get fk_cX9_readAny_0 15 rfl) rfl (lv_at hl 1 rfl) ?_
        refine lv_iload_n hx hb (fk_get fk_cX9_readAny_0 16 rfl) rfl (lv_at hl 2 rfl) ?_
        have hFc := va_self hD hS hA
        refine va_calli (va_runV (As := [.int (0)]) (rest := []) ⟨hx, hb, hml, hown, hT⟩ (c_x9_RA_0 l G ad S_14 H.size  (hX_15)) (tV 1 hT m3_60 m3_62 mp_7 m1_12 m3_63 rfl rfl (by decide +kernel) ⟨Nat.le_of_ble_eq_true rfl, Nat.le_of_ble_eq_true rfl⟩) ⟨PcE_blind, va_recv hK hP (ci := 11) (q0 := 57) rfl (ix_at (lt71 (by omega)) (cX_text G ad S_14)), PcE_of hP hK hD hE hS (fun q h => hFc q h) _⟩ rfl rfl hl.1 rfl (lv_room (Nat.le_of_ble_eq_true rfl)) (fk_get fk_cX9_readAny_0 17 rfl) ⟨Nat.zero_le _, Nat.zero_le _⟩) hS (fun q _ h => hFc q h) hFc (fun r_18 S_20 t_ H locs ht_ hvm_ hw_19 hB_ hz_ hk_ hS => ?_)
        obtain ⟨hP, -, hD1_⟩ := hB_
        rw [ht_] at hP
        have hD : va_D A (wX G ad S_20) := hD1_.weaken (fun k q _ h => hFc q.1 h)
        try dsimp only at hw_19
        obtain ⟨hX_21, hF_22_, hw_19⟩ := hw_19
        have hF_22 : Fr (fun j k => (j = 57 ∧ (k = 2 ∨ k = 3 ∨ k = 4 ∨ k = 7 ∨ k = 8)) ∨ ((j = 59 ∨ j = 60) ∧ k = 99)) S S_20 := Fr.trans hF_16 (Fr.mono hF_22_ (fun j k h => by omega))
        refine lv_if_eq (tgt := 45) hx hb (fk_get fk_cX9_readAny_0 18 rfl) (by decide) (fun c_23 => ?_) (fun c_23 => ?_)
        · refine lv_iconst (v := 0) hx hb (fk_get fk_cX9_readAny_0 24 rfl) (by decide) ?_
          subst hQ
          have hpost : XI S_20 ∧ Fr (fun j k => (j = 57 ∧ (k = 2 ∨ k = 3 ∨ k = 4 ∨ k = 7 ∨ k = 8)) ∨ ((j = 59 ∨ j = 60) ∧ k = 99)) S S_20 ∧ ((0 : Int32) = 0 ∨ (0 : Int32) = 1) := by
            exact ⟨hX_21, hF_22, (by first | exact Or.inl rfl | exact Or.inr rfl)⟩
          exact W.zret (v := 0) hx hb hr rfl (fun t_ ht_ hW_ => ⟨⟨0, S_20, rfl, hpost, by rw [ht_]; exact hP, va_K.moved hW_.alike hK, hD⟩, hS.F ht_⟩) hS.2.2 (fk_get fk_cX9_readAny_0 25 rfl)
        refine lv_aload_n hx hb (fk_get fk_cX9_readAny_0 19 rfl) rfl (lv_at hl 1 rfl) ?_
        refine lv_bipush (v := 20) hx hb (fk_get fk_cX9_readAny_0 20 rfl) (by decide) ?_
        refine lv_iconst (v := 0) hx hb (fk_get fk_cX9_readAny_0 21 rfl) (by decide) ?_
        have hFc := va_self hD hS hA
        refine va_calli (va_runV (As := [.int (20), .int (0)]) (rest := []) ⟨hx, hb, hml, hown, hT⟩ (c_x9_putCode l G ad S_20 H.size (20) (0) (hX_21)) (tV 2 hT m3_68 m3_70 mp_9 m1_12 m3_71 rfl rfl (by decide +kernel) ⟨Nat.le_of_ble_eq_true rfl, Nat.le_of_ble_eq_true rfl⟩) ⟨PcW_blind, va_recv hK hP (ci := 11) (q0 := 57) rfl (ix_at (lt71 (by omega)) (cX_text G ad S_20)), PcW_of hP hK hD _⟩ rfl rfl hl.1 rfl (lv_room (Nat.le_of_ble_eq_true rfl)) (fk_get fk_cX9_readAny_0 22 rfl) ⟨Nat.zero_le _, Nat.zero_le _⟩) hS (fun q _ h => hFc q h) hFc (fun r_24 S_26 t_ H locs ht_ hvm_ hw_25 hB_ hz_ hk_ hS => ?_)
        obtain ⟨hP, -, hD1_⟩ := hB_
        rw [ht_] at hP
        have hD : va_D A (wX G ad S_26) := hD1_.weaken (fun k q _ h => hFc q.1 h)
        try dsimp only at hw_25
        obtain ⟨hX_27, hF_28_, hw_25⟩ := hw_25
        have hF_28 : Fr (fun j k => (j = 57 ∧ (k = 2 ∨ k = 3 ∨ k = 4 ∨ k = 7 ∨ k = 8)) ∨ ((j = 59 ∨ j = 60) ∧ k = 99)) S S_26 := Fr.trans hF_22 (Fr.mono hF_28_ (fun j k h => by omega))
        refine lv_if_ne (tgt := 47) hx hb (fk_get fk_cX9_readAny_0 23 rfl) (by decide) (fun c_29 => ?_) (fun c_29 => ?_)
        · refine lv_iinc (v := (nI (c + 1))) (lv' := [(2, .int ((nI (c + 1)))), (0, .ref (ad 57)), (1, .int (0))]) hx hb (fk_get fk_cX9_readAny_0 26 rfl) hl (k := 0) rfl ((nI_1 c)) (by decide) rfl (fun ls hl => ?_)
          refine lv_goto (tgt := 12) hx hb (fk_get fk_cX9_readAny_0 27 rfl) (by decide) ?_
          exact ih (c + 1) (S_26) _ _ ls (hX_27) (hF_28) (by omega) (by omega) hP hD hS (lv_sub hl [0, 1, 2] rfl)
        refine lv_iconst (v := 0) hx hb (fk_get fk_cX9_readAny_0 24 rfl) (by decide) ?_
        subst hQ
        have hpost : XI S_26 ∧ Fr (fun j k => (j = 57 ∧ (k = 2 ∨ k = 3 ∨ k = 4 ∨ k = 7 ∨ k = 8)) ∨ ((j = 59 ∨ j = 60) ∧ k = 99)) S S_26 ∧ ((0 : Int32) = 0 ∨ (0 : Int32) = 1) := by
          exact ⟨hX_27, hF_28, (by first | exact Or.inl rfl | exact Or.inr rfl)⟩
        exact W.zret (v := 0) hx hb hr rfl (fun t_ ht_ hW_ => ⟨⟨0, S_26, rfl, hpost, by rw [ht_]; exact hP, va_K.moved hW_.alike hK, hD⟩, hS.F ht_⟩) hS.2.2 (fk_get fk_cX9_readAny_0 25 rfl)
    exact lp_7 (100 + 1) (0) (S_3) _ _ ls (hX_4) (hF_5) (by omega) (by omega) hP hD hS (lv_sub hl [0, 1, 2] rfl)
  refine lv_iconst (v := 0) hx hb (fk_get fk_cX9_readAny_0 4 rfl) (by decide) ?_
  subst hQ
  have hpost : XI S_3 ∧ Fr (fun j k => (j = 57 ∧ (k = 2 ∨ k = 3 ∨ k = 4 ∨ k = 7 ∨ k = 8)) ∨ ((j = 59 ∨ j = 60) ∧ k = 99)) S S_3 ∧ ((0 : Int32) = 0 ∨ (0 : Int32) = 1) := by
    exact ⟨hX_4, hF_5, (by first | exact Or.inl rfl | exact Or.inr rfl)⟩
  exact W.zret (v := 0) hx hb hr rfl (fun t_ ht_ hW_ => ⟨⟨0, S_3, rfl, hpost, by rw [ht_]; exact hP, va_K.moved hW_.alike hK, hD⟩, hS.F ht_⟩) hS.2.2 (fk_get fk_cX9_readAny_0 5 rfl)
set_option maxHeartbeats 800000 in
set_option maxRecDepth 100000 in
theorem c_x9_readClause (l : Launch) (G : GG) (ad : Nat → Nat) (S : FS) (sz : Nat)  (hX : XI S) : Met l yX9_readClause (Cond.code yX9_readClause cX9_readClause 3 (some .boolean) :: TBL) ({ frames := 22, cells := 0, slots := 0, locals := 593 } : Room) (PcE G (wX G ad S) sz [.ref (ad 57)]) (va_Qi (fun (r : Int32) (S' : FS) => XI S' ∧ Fr (fun j k => (j = 57 ∧ (k = 2 ∨ k = 3 ∨ k = 4 ∨ k = 7 ∨ k = 8)) ∨ ((j = 59 ∨ j = 60) ∧ k = 99)) S S' ∧ (r = 0 ∨ r = 1)) (fun S' t => BW G (va_A (wX G ad S) sz) (wX G ad S') t) (va_A (wX G ad S) sz)) 0 0 (va_A (wX G ad S) sz) := by
  refine Met.ofW (cc := cX9_readClause) (maxL := 3) (ret := (some .boolean)) (by decide) rfl ?_
  intro p e s m args below meth c₀ s₁ B hml hv
  obtain ⟨rfl, hsz, hP, hK, hD0, hE⟩ := hv
  have hx := B.exec
  have hb := B.bytes
  have hr := B.returns
  have hT : ∀ w ∈ TBL, w.before ([.ref (ad 57)] : List Value).toArray s = true := fun w h => atoms_spec (ws := Cond.code yX9_readClause cX9_readClause 3 (some .boolean) :: TBL) B.pre w (List.mem_cons_of_mem _ h)
  have hown : s.vm.findClass "LittleMore$Text" = some m.cls := findClass_of_methodNamed B.named
  have hlocks := B.notSynchronized
  subst hsz
  have hD := hD0.self (sz := s.heap.size)
  generalize hAe : va_A (wX G ad S) s.heap.size = A at hD hE ⊢
  have hA : ∀ q : Nat, s.heap.size ≤ q → A q := fun q h => by rw [← hAe]; exact Or.inr h
  have hS : va_S A s.heap s.heap [] := va_S.rf
  have hP : va_P G.1 vwCl (wX G ad S) s.heap := hP
  have hl := lv_entry ([.ref (ad 57)]) (n := 3) (Nat.le_of_ble_eq_true rfl)
  rw [lg_entry_eq]
  generalize (lg_sl ([.ref (ad 57)]) ++ List.replicate (3 - (lg_sl ([.ref (ad 57)])).length) Slot.unset).toArray = ls at hl ⊢
  have hl : lv_has ls 3 [(0, .ref (ad 57))] := hl
  refine W_abs (fun Q hQ => ?_)
  generalize ([.ref (ad 57)] : List Value).toArray = args at hT hQ ⊢
  refine lv_aload_n hx hb (fk_get fk_cX9_readClause_0 0 rfl) rfl (lv_at hl 0 rfl) ?_
  have hFc := va_self hD hS hA
  refine va_calli (va_runV (As := []) (rest := []) ⟨hx, hb, hml, hown, hT⟩ (c_x9_readWord l G ad S s.heap.size  (hX)) (tV 0 hT m2_225 m2_227 mp_3 m1_12 m2_228 rfl rfl (by decide +kernel) ⟨Nat.le_of_ble_eq_true rfl, Nat.le_of_ble_eq_true rfl⟩) ⟨PcE_blind, va_recv hK hP (ci := 11) (q0 := 57) rfl (ix_at (lt71 (by omega)) (cX_text G ad S)), PcE_of hP hK hD hE hS (fun q h => hFc q h) _⟩ rfl rfl hl.1 rfl (lv_room (Nat.le_of_ble_eq_true rfl)) (fk_get fk_cX9_readClause_0 1 rfl) ⟨Nat.zero_le _, Nat.zero_le _⟩) hS (fun q _ h => hFc q h) hFc (fun r_1 S_3 t_ H locs ht_ hvm_ hw_2 hB_ hz_ hk_ hS => ?_)
  obtain ⟨hP, -, hD1_⟩ := hB_
  rw [ht_] at hP
  have hD : va_D A (wX G ad S_3) := hD1_.weaken (fun k q _ h => hFc q.1 h)
  try dsimp only at hw_2
  obtain ⟨hX_4, hF_5_, hw_2⟩ := hw_2
  have hF_5 : Fr (fun j k => (j = 57 ∧ (k = 2 ∨ k = 3 ∨ k = 4 ∨ k = 7 ∨ k = 8)) ∨ ((j = 59 ∨ j = 60) ∧ k = 99)) S S_3 := Fr.trans (Fr.rf : Fr (fun j k => (j = 57 ∧ (k = 2 ∨ k = 3 ∨ k = 4 ∨ k = 7 ∨ k = 8)) ∨ ((j = 59 ∨ j = 60) ∧ k = 99)) S S) (Fr.mono hF_5_ (fun j k h => by omega))
  refine lv_istore_n (lv' := [(1, .int (r_1)), (0, .ref (ad 57))]) hx hb (fk_get fk_cX9_readClause_0 2 rfl) rfl hl (by decide) rfl (fun ls hl => ?_)
  refine lv_iload_n hx hb (fk_get fk_cX9_readClause_0 3 rfl) rfl (lv_at hl 0 rfl) ?_
  refine lv_iconst (v := (-1)) hx hb (fk_get fk_cX9_readClause_0 4 rfl) (by decide) ?_
  refine lv_icmp_eq (tgt := 26) hx hb (fk_get fk_cX9_readClause_0 5 rfl) (by decide) (fun c_6 => ?_) (fun c_6 => ?_)
  · refine lv_iconst (v := 0) hx hb (fk_get fk_cX9_readClause_0 13 rfl) (by decide) ?_
    subst hQ
    have hpost : XI S_3 ∧ Fr (fun j k => (j = 57 ∧ (k = 2 ∨ k = 3 ∨ k = 4 ∨ k = 7 ∨ k = 8)) ∨ ((j = 59 ∨ j = 60) ∧ k = 99)) S S_3 ∧ ((0 : Int32) = 0 ∨ (0 : Int32) = 1) := by
      exact ⟨hX_4, hF_5, (by first | exact Or.inl rfl | exact Or.inr rfl)⟩
    exact W.zret (v := 0) hx hb hr rfl (fun t_ ht_ hW_ => ⟨⟨0, S_3, rfl, hpost, by rw [ht_]; exact hP, va_K.moved hW_.alike hK, hD⟩, hS.F ht_⟩) hS.2.2 (fk_get fk_cX9_readClause_0 14 rfl)
  refine lv_aload_n hx hb (fk_get fk_cX9_readClause_0 6 rfl) rfl (lv_at hl 1 rfl) ?_
  refine lv_bipush (v := 32) hx hb (fk_get fk_cX9_readClause_0 7 rfl) (by decide) ?_
  have hFc := va_self hD hS hA
  refine va_calli (va_runV (As := [.int (32)]) (rest := []) ⟨hx, hb, hml, hown, hT⟩ (c_x9_takes l G ad S_3 H.size (32) (hX_4)) (tV 1 hT m2_213 m2_215 mp_0 m1_12 m2_216 rfl rfl (by decide +kernel) ⟨Nat.le_of_ble_eq_true rfl, Nat.le_of_ble_eq_true rfl⟩) ⟨PcW_blind, va_recv hK hP (ci := 11) (q0 := 57) rfl (ix_at (lt71 (by omega)) (cX_text G ad S_3)), PcW_of hP hK hD _⟩ rfl rfl hl.1 rfl (lv_room (Nat.le_of_ble_eq_true rfl)) (fk_get fk_cX9_readClause_0 8 rfl) ⟨Nat.zero_le _, Nat.zero_le _⟩) hS (fun q _ h => hFc q h) hFc (fun r_7 S_9 t_ H locs ht_ hvm_ hw_8 hB_ hz_ hk_ hS => ?_)
  obtain ⟨hP, -, hD1_⟩ := hB_
  rw [ht_] at hP
  have hD : va_D A (wX G ad S_9) := hD1_.weaken (fun k q _ h => hFc q.1 h)
  try dsimp only at hw_8
  obtain ⟨hX_10, hF_11_, hw_8⟩ := hw_8
  have hF_11 : Fr (fun j k => (j = 57 ∧ (k = 2 ∨ k = 3 ∨ k = 4 ∨ k = 7 ∨ k = 8)) ∨ ((j = 59 ∨ j = 60) ∧ k = 99)) S S_9 := Fr.trans hF_5 (Fr.mono hF_11_ (fun j k h => by omega))
  refine lv_if_eq (tgt := 26) hx hb (fk_get fk_cX9_readClause_0 9 rfl) (by decide) (fun c_12 => ?_) (fun c_12 => ?_)
  · refine lv_iconst (v := 0) hx hb (fk_get fk_cX9_readClause_0 13 rfl) (by decide) ?_
    subst hQ
    have hpost : XI S_9 ∧ Fr (fun j k => (j = 57 ∧ (k = 2 ∨ k = 3 ∨ k = 4 ∨ k = 7 ∨ k = 8)) ∨ ((j = 59 ∨ j = 60) ∧ k = 99)) S S_9 ∧ ((0 : Int32) = 0 ∨ (0 : Int32) = 1) := by
      exact ⟨hX_10, hF_11, (by first | exact Or.inl rfl | exact Or.inr rfl)⟩
    exact W.zret (v := 0) hx hb hr rfl (fun t_ ht_ hW_ => ⟨⟨0, S_9, rfl, hpost, by rw [ht_]; exact hP, va_K.moved hW_.alike hK, hD⟩, hS.F ht_⟩) hS.2.2 (fk_get fk_cX9_readClause_0 14 rfl)
  refine lv_aload_n hx hb (fk_get fk_cX9_readClause_0 10 rfl) rfl (lv_at hl 1 rfl) ?_
  have hFc := va_self hD hS hA
  refine va_calli (va_runV (As := []) (rest := []) ⟨hx, hb, hml, hown, hT⟩ (c_x9_readNumber l G ad S_9 H.size  (hX_10)) (tV 0 hT m3_49 m3_51 mp_5 m1_12 m3_52 rfl rfl (by decide +kernel) ⟨Nat.le_of_ble_eq_true rfl, Nat.le_of_ble_eq_true rfl⟩) ⟨PcW_blind, va_recv hK hP (ci := 11) (q0 := 57) rfl (ix_at (lt71 (by omega)) (cX_text G ad S_9)), PcW_of hP hK hD _⟩ rfl rfl hl.1 rfl (lv_room (Nat.le_of_ble_eq_true rfl)) (fk_get fk_cX9_readClause_0 11 rfl) ⟨Nat.zero_le _, Nat.zero_le _⟩) hS (fun q _ h => hFc q h) hFc (fun r_13 S_15 t_ H locs ht_ hvm_ hw_14 hB_ hz_ hk_ hS => ?_)
  obtain ⟨hP, -, hD1_⟩ := hB_
  rw [ht_] at hP
  have hD : va_D A (wX G ad S_15) := hD1_.weaken (fun k q _ h => hFc q.1 h)
  try dsimp only at hw_14
  obtain ⟨hX_16, hF_17_, hw_14⟩ := hw_14
  have hF_17 : Fr (fun j k => (j = 57 ∧ (k = 2 ∨ k = 3 ∨ k = 4 ∨ k = 7 ∨ k = 8)) ∨ ((j = 59 ∨ j = 60) ∧ k = 99)) S S_15 := Fr.trans hF_11 (Fr.mono hF_17_ (fun j k h => by omega))
  refine lv_if_ne (tgt := 28) hx hb (fk_get fk_cX9_readClause_0 12 rfl) (by decide) (fun c_18 => ?_) (fun c_18 => ?_)
  · refine lv_aload_n hx hb (fk_get fk_cX9_readClause_0 15 rfl) rfl (lv_at hl 1 rfl) ?_
    refine va_get (D := G.1) (ci := 11) (v := .int (fF S_15 57 8)) (C := RX9) (T := TX9) (N := 9) hx hb hT inX9 hown hK hP 57 (ix_at (lt71 (by omega)) (cX_text G ad S_15)) rfl 8 (by decide) (hT _ m2_17) (fun _ h9 => h9) rfl (fk_get fk_cX9_readClause_0 16 rfl) ?_
    refine lv_istore_n (lv' := [(2, .int ((fF S_15 57 8))), (1, .int (r_1)), (0, .ref (ad 57))]) hx hb (fk_get fk_cX9_readClause_0 17 rfl) rfl hl (by decide) rfl (fun ls hl => ?_)
    refine lv_iload_n hx hb (fk_get fk_cX9_readClause_0 18 rfl) rfl (lv_at hl 1 rfl) ?_
    by_cases c_19 : r_1 = (2 : Int32)
    · refine lv_lookup (off := 26) (tgt := 60) hx hb (dk_get dk_cX9_readClause_0 0 rfl) (by decide) (by rw [c_19]; decide) (by decide) ?_
      refine lv_aload_n hx hb (fk_get fk_cX9_readClause_0 19 rfl) rfl (lv_at hl 2 rfl) ?_
      refine lv_iload_n hx hb (fk_get fk_cX9_readClause_0 20 rfl) rfl (lv_at hl 0 rfl) ?_
      refine va_put (D := G.1) (ci := 11) (v := .int ((fF S_15 57 8))) (ty := .int) (C := RX9) (T := TX9) (N := 9) hx hb hT inX9 tyX9 tyX9_ok nmX9 hown hK hP hD hS 57 (ix_at (lt71 (by omega)) (cX_text G ad S_15)) rfl 3 (by decide) (hT _ m2_7) (fun _ h9 => h9) rfl (by decide +kernel) rfl rfl (Nat.le_of_ble_eq_true rfl) (fk_get fk_cX9_readClause_0 21 rfl) (fun H locs hP hD hS => ?_)
      rw [pX_text_3 (S := S_15) ((fF S_15 57 8))] at hP hD
      have hX_20 : XI (setF S_15 57 3 ((fF S_15 57 8))) := XI.sF hX_16 _ ⟨by omega, by omega, by omega, by omega, by omega, by omega, by omega, by omega⟩
      have hF_21 : Fr (fun j k => (j = 57 ∧ (k = 2 ∨ k = 3 ∨ k = 4 ∨ k = 7 ∨ k = 8)) ∨ ((j = 59 ∨ j = 60) ∧ k = 99)) S (setF S_15 57 3 ((fF S_15 57 8))) := Fr.sF hF_17 (by omega)
      refine lv_iconst (v := 1) hx hb (fk_get fk_cX9_readClause_0 22 rfl) (by decide) ?_
      subst hQ
      have hpost : XI (setF S_15 57 3 ((fF S_15 57 8))) ∧ Fr (fun j k => (j = 57 ∧ (k = 2 ∨ k = 3 ∨ k = 4 ∨ k = 7 ∨ k = 8)) ∨ ((j = 59 ∨ j = 60) ∧ k = 99)) S (setF S_15 57 3 ((fF S_15 57 8))) ∧ ((1 : Int32) = 0 ∨ (1 : Int32) = 1) := by
        exact ⟨hX_20, hF_21, (by first | exact Or.inl rfl | exact Or.inr rfl)⟩
      exact W.zret (v := 1) hx hb hr rfl (fun t_ ht_ hW_ => ⟨⟨1, (setF S_15 57 3 ((fF S_15 57 8))), rfl, hpost, by rw [ht_]; exact hP, va_K.moved hW_.alike hK, hD⟩, hS.F ht_⟩) hS.2.2 (fk_get fk_cX9_readClause_0 23 rfl)
    by_cases c_22 : r_1 = (3 : Int32)
    · refine lv_lookup (off := 33) (tgt := 67) hx hb (dk_get dk_cX9_readClause_0 0 rfl) (by decide) (by rw [c_22]; decide) (by decide) ?_
      refine lv_aload_n hx hb (fk_get fk_cX9_readClause_0 24 rfl) rfl (lv_at hl 2 rfl) ?_
      refine lv_iload_n hx hb (fk_get fk_cX9_readClause_0 25 rfl) rfl (lv_at hl 0 rfl) ?_
      refine va_put (D := G.1) (ci := 11) (v := .int ((fF S_15 57 8))) (ty := .int) (C := RX9) (T := TX9) (N := 9) hx hb hT inX9 tyX9 tyX9_ok nmX9 hown hK hP hD hS 57 (ix_at (lt71 (by omega)) (cX_text G ad S_15)) rfl 4 (by decide) (hT _ m2_9) (fun _ h9 => h9) rfl (by decide +kernel) rfl rfl (Nat.le_of_ble_eq_true rfl) (fk_get fk_cX9_readClause_0 26 rfl) (fun H locs hP hD hS => ?_)
      rw [pX_text_4 (S := S_15) ((fF S_15 57 8))] at hP hD
      have hX_23 : XI (setF S_15 57 4 ((fF S_15 57 8))) := XI.sF hX_16 _ ⟨by omega, by omega, by omega, by omega, by omega, by omega, by omega, by omega⟩
      have hF_24 : Fr (fun j k => (j = 57 ∧ (k = 2 ∨ k = 3 ∨ k = 4 ∨ k = 7 ∨ k = 8)) ∨ ((j = 59 ∨ j = 60) ∧ k = 99)) S (setF S_15 57 4 ((fF S_15 57 8))) := Fr.sF hF_17 (by omega)
      refine lv_iconst (v := 1) hx hb (fk_get fk_cX9_readClause_0 27 rfl) (by decide) ?_
      subst hQ
      have hpost : XI (setF S_15 57 4 ((fF S_15 57 8))) ∧ Fr (fun j k => (j = 57 ∧ (k = 2 ∨ k = 3 ∨ k = 4 ∨ k = 7 ∨ k = 8)) ∨ ((j = 59 ∨ j = 60) ∧ k = 99)) S (setF S_15 57 4 ((fF S_15 57 8))) ∧ ((1 : Int32) = 0 ∨ (1 : Int32) = 1) := by
        exact ⟨hX_23, hF_24, (by first | exact Or.inl rfl | exact Or.inr rfl)⟩
      exact W.zret (v := 1) hx hb hr rfl (fun t_ ht_ hW_ => ⟨⟨1, (setF S_15 57 4 ((fF S_15 57 8))), rfl, hpost, by rw [ht_]; exact hP, va_K.moved hW_.alike hK, hD⟩, hS.F ht_⟩) hS.2.2 (fk_get fk_cX9_readClause_0 28 rfl)
    refine lv_lookup (off := 40) (tgt := 74) hx hb (dk_get dk_cX9_readClause_0 0 rfl) (by decide) (by rw [lv_osw c_19 (by decide), lv_osw c_22 (by decide)]; rfl) (by decide) ?_
    refine lv_aload_n hx hb (fk_get fk_cX9_readClause_0 29 rfl) rfl (lv_at hl 2 rfl) ?_
    refine lv_bipush (v := 32) hx hb (fk_get fk_cX9_readClause_0 30 rfl) (by decide) ?_
    have hFc := va_self hD hS hA
    refine va_calli (va_runV (As := [.int (32)]) (rest := []) ⟨hx, hb, hml, hown, hT⟩ (c_x9_takes l G ad S_15 H.size (32) (hX_16)) (tV 1 hT m2_213 m2_215 mp_0 m1_12 m2_216 rfl rfl (by decide +kernel) ⟨Nat.le_of_ble_eq_true rfl, Nat.le_of_ble_eq_true rfl⟩) ⟨PcW_blind, va_recv hK hP (ci := 11) (q0 := 57) rfl (ix_at (lt71 (by omega)) (cX_text G ad S_15)), PcW_of hP hK hD _⟩ rfl rfl hl.1 rfl (lv_room (Nat.le_of_ble_eq_true rfl)) (fk_get fk_cX9_readClause_0 31 rfl) ⟨Nat.zero_le _, Nat.zero_le _⟩) hS (fun q _ h => hFc q h) hFc (fun r_25 S_27 t_ H locs ht_ hvm_ hw_26 hB_ hz_ hk_ hS => ?_)
    obtain ⟨hP, -, hD1_⟩ := hB_
    rw [ht_] at hP
    have hD : va_D A (wX G ad S_27) := hD1_.weaken (fun k q _ h => hFc q.1 h)
    try dsimp only at hw_26
    obtain ⟨hX_28, hF_29_, hw_26⟩ := hw_26
    have hF_29 : Fr (fun j k => (j = 57 ∧ (k = 2 ∨ k = 3 ∨ k = 4 ∨ k = 7 ∨ k = 8)) ∨ ((j = 59 ∨ j = 60) ∧ k = 99)) S S_27 := Fr.trans hF_17 (Fr.mono hF_29_ (fun j k h => by omega))
    refine lv_if_eq (tgt := 114) hx hb (fk_get fk_cX9_readClause_1 0 rfl) (by decide) (fun c_30 => ?_) (fun c_30 => ?_)
    · refine lv_iconst (v := 0) hx hb (fk_get fk_cX9_readClause_1 17 rfl) (by decide) ?_
      subst hQ
      have hpost : XI S_27 ∧ Fr (fun j k => (j = 57 ∧ (k = 2 ∨ k = 3 ∨ k = 4 ∨ k = 7 ∨ k = 8)) ∨ ((j = 59 ∨ j = 60) ∧ k = 99)) S S_27 ∧ ((0 : Int32) = 0 ∨ (0 : Int32) = 1) := by
        exact ⟨hX_28, hF_29, (by first | exact Or.inl rfl | exact Or.inr rfl)⟩
      exact W.zret (v := 0) hx hb hr rfl (fun t_ ht_ hW_ => ⟨⟨0, S_27, rfl, hpost, by rw [ht_]; exact hP, va_K.moved hW_.alike hK, hD⟩, hS.F ht_⟩) hS.2.2 (fk_get fk_cX9_readClause_1 18 rfl)
    refine lv_aload_n hx hb (fk_get fk_cX9_readClause_1 1 rfl) rfl (lv_at hl 2 rfl) ?_
    refine lv_iconst (v := 0) hx hb (fk_get fk_cX9_readClause_1 2 rfl) (by decide) ?_
    have hFc := va_self hD hS hA
    refine va_calli (va_runV (As := [.int (0)]) (rest := []) ⟨hx, hb, hml, hown, hT⟩ (c_x9_RY_0 l G ad S_27 H.size  (hX_28)) (tV 1 hT m3_56 m3_58 mp_6 m1_12 m3_59 rfl rfl (by decide +kernel) ⟨Nat.le_of_ble_eq_true rfl, Nat.le_of_ble_eq_true rfl⟩) ⟨PcE_blind, va_recv hK hP (ci := 11) (q0 := 57) rfl (ix_at (lt71 (by omega)) (cX_text G ad S_27)), PcE_of hP hK hD hE hS (fun q h => hFc q h) _⟩ rfl rfl hl.1 rfl (lv_room (Nat.le_of_ble_eq_true rfl)) (fk_get fk_cX9_readClause_1 3 rfl) ⟨Nat.zero_le _, Nat.zero_le _⟩) hS (fun q _ h => hFc q h) hFc (fun r_31 S_33 t_ H locs ht_ hvm_ hw_32 hB_ hz_ hk_ hS => ?_)
    obtain ⟨hP, -, hD1_⟩ := hB_
    rw [ht_] at hP
    have hD : va_D A (wX G ad S_33) := hD1_.weaken (fun k q _ h => hFc q.1 h)
    try dsimp only at hw_32
    obtain ⟨hX_34, hF_35_, hw_32⟩ := hw_32
    have hF_35 : Fr (fun j k => (j = 57 ∧ (k = 2 ∨ k = 3 ∨ k = 4 ∨ k = 7 ∨ k = 8)) ∨ ((j = 59 ∨ j = 60) ∧ k = 99)) S S_33 := Fr.trans hF_29 (Fr.mono hF_35_ (fun j k h => by omega))
    refine lv_if_eq (tgt := 114) hx hb (fk_get fk_cX9_readClause_1 4 rfl) (by decide) (fun c_36 => ?_) (fun c_36 => ?_)
    · refine lv_iconst (v := 0) hx hb (fk_get fk_cX9_readClause_1 17 rfl) (by decide) ?_
      subst hQ
      have hpost : XI S_33 ∧ Fr (fun j k => (j = 57 ∧ (k = 2 ∨ k = 3 ∨ k = 4 ∨ k = 7 ∨ k = 8)) ∨ ((j = 59 ∨ j = 60) ∧ k = 99)) S S_33 ∧ ((0 : Int32) = 0 ∨ (0 : Int32) = 1) := by
        exact ⟨hX_34, hF_35, (by first | exact Or.inl rfl | exact Or.inr rfl)⟩
      exact W.zret (v := 0) hx hb hr rfl (fun t_ ht_ hW_ => ⟨⟨0, S_33, rfl, hpost, by rw [ht_]; exact hP, va_K.moved hW_.alike hK, hD⟩, hS.F ht_⟩) hS.2.2 (fk_get fk_cX9_readClause_1 18 rfl)
    refine lv_aload_n hx hb (fk_get fk_cX9_readClause_1 5 rfl) rfl (lv_at hl 2 rfl) ?_
    refine lv_bipush (v := 21) hx hb (fk_get fk_cX9_readClause_1 6 rfl) (by decide) ?_
    refine lv_iload_n hx hb (fk_get fk_cX9_readClause_1 7 rfl) rfl (lv_at hl 1 rfl) ?_
    refine lv_if_ne (tgt := 102) hx hb (fk_get fk_cX9_readClause_1 8 rfl) (by decide) (fun c_37 => ?_) (fun c_37 => ?_)
    · refine lv_iload_n hx hb (fk_get fk_cX9_readClause_1 11 rfl) rfl (lv_at hl 0 rfl) ?_
      refine lv_ineg hx hb (fk_get fk_cX9_readClause_1 12 rfl) ?_
      have hFc := va_self hD hS hA
      refine va_calli (va_runV (As := [.int (21), .int ((-(fF S_15 57 8)))]) (rest := []) ⟨hx, hb, hml, hown, hT⟩ (c_x9_putCode l G ad S_33 H.size (21) ((-(fF S_15 57 8))) (hX_34)) (tV 2 hT m3_68 m3_70 mp_9 m1_12 m3_71 rfl rfl (by decide +kernel) ⟨Nat.le_of_ble_eq_true rfl, Nat.le_of_ble_eq_true rfl⟩) ⟨PcW_blind, va_recv hK hP (ci := 11) (q0 := 57) rfl (ix_at (lt71 (by omega)) (cX_text G ad S_33)), PcW_of hP hK hD _⟩ rfl rfl hl.1 rfl (lv_room (Nat.le_of_ble_eq_true rfl)) (fk_get fk_cX9_readClause_1 13 rfl) ⟨Nat.zero_le _, Nat.zero_le _⟩) hS (fun q _ h => hFc q h) hFc (fun r_38 S_40 t_ H locs ht_ hvm_ hw_39 hB_ hz_ hk_ hS => ?_)
      obtain ⟨hP, -, hD1_⟩ := hB_
      rw [ht_] at hP
      have hD : va_D A (wX G ad S_40) := hD1_.weaken (fun k q _ h => hFc q.1 h)
      try dsimp only at hw_39
      obtain ⟨hX_41, hF_42_, hw_39⟩ := hw_39
      have hF_42 : Fr (fun j k => (j = 57 ∧ (k = 2 ∨ k = 3 ∨ k = 4 ∨ k = 7 ∨ k = 8)) ∨ ((j = 59 ∨ j = 60) ∧ k = 99)) S S_40 := Fr.trans hF_35 (Fr.mono hF_42_ (fun j k h => by omega))
      refine lv_if_eq (tgt := 114) hx hb (fk_get fk_cX9_readClause_1 14 rfl) (by decide) (fun c_43 => ?_) (fun c_43 => ?_)
      · refine lv_iconst (v := 0) hx hb (fk_get fk_cX9_readClause_1 17 rfl) (by decide) ?_
        subst hQ
        have hpost : XI S_40 ∧ Fr (fun j k => (j = 57 ∧ (k = 2 ∨ k = 3 ∨ k = 4 ∨ k = 7 ∨ k = 8)) ∨ ((j = 59 ∨ j = 60) ∧ k = 99)) S S_40 ∧ ((0 : Int32) = 0 ∨ (0 : Int32) = 1) := by
          exact ⟨hX_41, hF_42, (by first | exact Or.inl rfl | exact Or.inr rfl)⟩
        exact W.zret (v := 0) hx hb hr rfl (fun t_ ht_ hW_ => ⟨⟨0, S_40, rfl, hpost, by rw [ht_]; exact hP, va_K.moved hW_.alike hK, hD⟩, hS.F ht_⟩) hS.2.2 (fk_get fk_cX9_readClause_1 18 rfl)
      refine lv_iconst (v := 1) hx hb (fk_get fk_cX9_readClause_1 15 rfl) (by decide) ?_
      refine lv_goto (tgt := 115) hx hb (fk_get fk_cX9_readClause_1 16 rfl) (by decide) ?_
      subst hQ
      have hpost : XI S_40 ∧ Fr (fun j k => (j = 57 ∧ (k = 2 ∨ k = 3 ∨ k = 4 ∨ k = 7 ∨ k = 8)) ∨ ((j = 59 ∨ j = 60) ∧ k = 99)) S S_40 ∧ ((1 : Int32) = 0 ∨ (1 : Int32) = 1) := by
        exact ⟨hX_41, hF_42, (by first | exact Or.inl rfl | exact Or.inr rfl)⟩
      exact W.zret (v := 1) hx hb hr rfl (fun t_ ht_ hW_ => ⟨⟨1, S_40, rfl, hpost, by rw [ht_]; exact hP, va_K.moved hW_.alike hK, hD⟩, hS.F ht_⟩) hS.2.2 (fk_get fk_cX9_readClause_1 18 rfl)
    refine lv_iload_n hx hb (fk_get fk_cX9_readClause_1 9 rfl) rfl (lv_at hl 0 rfl) ?_
    refine lv_goto (tgt := 104) hx hb (fk_get fk_cX9_readClause_1 10 rfl) (by decide) ?_
    have hFc := va_self hD hS hA
    refine va_calli (va_runV (As := [.int (21), .int ((fF S_15 57 8))]) (rest := []) ⟨hx, hb, hml, hown, hT⟩ (c_x9_putCode l G ad S_33 H.size (21) ((fF S_15 57 8)) (hX_34)) (tV 2 hT m3_68 m3_70 mp_9 m1_12 m3_71 rfl rfl (by decide +kernel) ⟨Nat.le_of_ble_eq_true rfl, Nat.le_of_ble_eq_true rfl⟩) ⟨PcW_blind, va_recv hK hP (ci := 11) (q0 := 57) rfl (ix_at (lt71 (by omega)) (cX_text G ad S_33)), PcW_of hP hK hD _⟩ rfl rfl hl.1 rfl (lv_room (Nat.le_of_ble_eq_true rfl)) (fk_get fk_cX9_readClause_1 13 rfl) ⟨Nat.zero_le _, Nat.zero_le _⟩) hS (fun q _ h => hFc q h) hFc (fun r_44 S_46 t_ H locs ht_ hvm_ hw_45 hB_ hz_ hk_ hS => ?_)
    obtain ⟨hP, -, hD1_⟩ := hB_
    rw [ht_] at hP
    have hD : va_D A (wX G ad S_46) := hD1_.weaken (fun k q _ h => hFc q.1 h)
    try dsimp only at hw_45
    obtain ⟨hX_47, hF_48_, hw_45⟩ := hw_45
    have hF_48 : Fr (fun j k => (j = 57 ∧ (k = 2 ∨ k = 3 ∨ k = 4 ∨ k = 7 ∨ k = 8)) ∨ ((j = 59 ∨ j = 60) ∧ k = 99)) S S_46 := Fr.trans hF_35 (Fr.mono hF_48_ (fun j k h => by omega))
    refine lv_if_eq (tgt := 114) hx hb (fk_get fk_cX9_readClause_1 14 rfl) (by decide) (fun c_49 => ?_) (fun c_49 => ?_)
    · refine lv_iconst (v := 0) hx hb (fk_get fk_cX9_readClause_1 17 rfl) (by decide) ?_
      subst hQ
      have hpost : XI S_46 ∧ Fr (fun j k => (j = 57 ∧ (k = 2 ∨ k = 3 ∨ k = 4 ∨ k = 7 ∨ k = 8)) ∨ ((j = 59 ∨ j = 60) ∧ k = 99)) S S_46 ∧ ((0 : Int32) = 0 ∨ (0 : Int32) = 1) := by
        exact ⟨hX_47, hF_48, (by first | exact Or.inl rfl | exact Or.inr rfl)⟩
      exact W.zret (v := 0) hx hb hr rfl (fun t_ ht_ hW_ => ⟨⟨0, S_46, rfl, hpost, by rw [ht_]; exact hP, va_K.moved hW_.alike hK, hD⟩, hS.F ht_⟩) hS.2.2 (fk_get fk_cX9_readClause_1 18 rfl)
    refine lv_iconst (v := 1) hx hb (fk_get fk_cX9_readClause_1 15 rfl) (by decide) ?_
    refine lv_goto (tgt := 115) hx hb (fk_get fk_cX9_readClause_1 16 rfl) (by decide) ?_
    subst hQ
    have hpost : XI S_46 ∧ Fr (fun j k => (j = 57 ∧ (k = 2 ∨ k = 3 ∨ k = 4 ∨ k = 7 ∨ k = 8)) ∨ ((j = 59 ∨ j = 60) ∧ k = 99)) S S_46 ∧ ((1 : Int32) = 0 ∨ (1 : Int32) = 1) := by
      exact ⟨hX_47, hF_48, (by first | exact Or.inl rfl | exact Or.inr rfl)⟩
    exact W.zret (v := 1) hx hb hr rfl (fun t_ ht_ hW_ => ⟨⟨1, S_46, rfl, hpost, by rw [ht_]; exact hP, va_K.moved hW_.alike hK, hD⟩, hS.F ht_⟩) hS.2.2 (fk_get fk_cX9_readClause_1 18 rfl)
  refine lv_iconst (v := 0) hx hb (fk_get fk_cX9_readClause_0 13 rfl) (by decide) ?_
  subst hQ
  have hpost : XI S_15 ∧ Fr (fun j k => (j = 57 ∧ (k = 2 ∨ k = 3 ∨ k = 4 ∨ k = 7 ∨ k = 8)) ∨ ((j = 59 ∨ j = 60) ∧ k = 99)) S S_15 ∧ ((0 : Int32) = 0 ∨ (0 : Int32) = 1) := by
    exact ⟨hX_16, hF_17, (by first | exact Or.inl rfl | exact Or.inr rfl)⟩
  exact W.zret (v := 0) hx hb hr rfl (fun t_ ht_ hW_ => ⟨⟨0, S_15, rfl, hpost, by rw [ht_]; exact hP, va_K.moved hW_.alike hK, hD⟩, hS.F ht_⟩) hS.2.2 (fk_get fk_cX9_readClause_0 14 rfl)
