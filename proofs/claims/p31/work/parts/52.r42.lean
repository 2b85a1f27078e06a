set_option maxHeartbeats 800000 in
set_option maxRecDepth 100000 in
theorem c_jchk (l : Launch) (G : GG) (ad : Nat → Nat) (S : FS) (sz : Nat) (x y : Int32) (h0 : ¬ x < 0) (h1 : x < y) (hX : XI S) : Met l yJ0_checkIndex_df160 (Cond.code yJ0_checkIndex_df160 cJ0_checkIndex_df160 2 none :: TBL) ({ frames := 3, cells := 0, slots := 0, locals := 90 } : Room) (PcE G (wX G ad S) sz [.int (x), .int (y)]) (va_Sv (fun _ => True)) 0 0 (fun _ => False) := by
  refine va_MetF (cc := cJ0_checkIndex_df160) (maxL := 2) (ret := none) (by decide +kernel) rfl ?_
  intro p e s m args below meth c₀ s₁ B hml hv
  obtain ⟨rfl, hsz, hP, hK, hD0, hE⟩ := hv
  have hx := B.exec
  have hb := B.bytes
  have hr := B.returns
  have hT : ∀ w ∈ TBL, w.before ([.int (x), .int (y)] : List Value).toArray s = true := fun w h => atoms_spec (ws := Cond.code yJ0_checkIndex_df160 cJ0_checkIndex_df160 2 none :: TBL) B.pre w (List.mem_cons_of_mem _ h)
  have hown : s.vm.findClass "java/lang/String" = some m.cls := findClass_of_methodNamed B.named
  have hlocks := B.notSynchronized
  have hD := hD0
  subst hsz
  have hFc : ∀ q, va_A (wX G ad S) s.heap.size q → va_A (wX G ad S) s.heap.size q := fun _ h => h
  have hS : va_S (va_A (wX G ad S) s.heap.size) s.heap s.heap [] := va_S.rf
  have hP : va_P G.1 vwCl (wX G ad S) s.heap := hP
  have hl := lv_entry ([.int (x), .int (y)]) (n := 2) (Nat.le_of_ble_eq_true rfl)
  rw [lg_entry_eq]
  generalize (lg_sl ([.int (x), .int (y)]) ++ List.replicate (2 - (lg_sl ([.int (x), .int (y)])).length) Slot.unset).toArray = ls at hl ⊢
  have hl : lv_has ls 2 [(0, .int (x)), (1, .int (y))] := hl
  refine W_abs (fun Q hQ => ?_)
  generalize ([.int (x), .int (y)] : List Value).toArray = args at hT hQ ⊢
  refine lv_iload_n hx hb (fk_get fk_cJ0_checkIndex_df160_0 0 rfl) rfl (lv_at hl 0 rfl) ?_
  refine lv_iload_n hx hb (fk_get fk_cJ0_checkIndex_df160_0 1 rfl) rfl (lv_at hl 1 rfl) ?_
  rcases hE.2.2.1 with hz_2 | ⟨tz_2, hz_2⟩
  · refine va_gets (v := .null) hx hb hz_2 hS hown (hT _ m3_24) (fun _ h9 => h9) (fk_get fk_cJ0_checkIndex_df160_0 2 rfl) ?_
    refine vp_callSi (W.runS (As := [.int (x), .int (y), .null]) (rest := []) ⟨hx, hb, hml, hown, hT⟩ (c_jchkN l (x) (y) (by first | assumption | omega) (by first | assumption | omega)) (tS 3 hT m3_26 m3_27 m1_21 m3_28 rfl rfl (by decide +kernel) ⟨Nat.le_of_ble_eq_true rfl, Nat.le_of_ble_eq_true rfl⟩) ⟨PcN_blind, PcN_of _ _ _⟩ rfl rfl hl.1 rfl (lv_room (Nat.le_of_ble_eq_true rfl)) (fk_get fk_cJ0_checkIndex_df160_0 3 rfl) ⟨Nat.zero_le _, Nat.zero_le _⟩) (fun r_1 hw_2 => ?_)
    try dsimp only at hw_2
    refine lv_pop hx hb (fk_get fk_cJ0_checkIndex_df160_0 4 rfl) rfl ?_
    subst hQ
    exact W.vret hx hb hr (fun t_ ht_ hW_ => ⟨rfl, trivial, ht_⟩) (fun q h => by cases h) (fk_get fk_cJ0_checkIndex_df160_0 5 rfl)
  refine va_gets (v := .ref tz_2) hx hb hz_2 hS hown (hT _ m3_24) (fun _ h9 => h9) (fk_get fk_cJ0_checkIndex_df160_0 2 rfl) ?_
  refine vp_callSi (W.runS (As := [.int (x), .int (y), .ref (tz_2)]) (rest := []) ⟨hx, hb, hml, hown, hT⟩ (c_jchkR l (x) (y) (tz_2) (by first | assumption | omega) (by first | assumption | omega)) (tS 3 hT m3_26 m3_27 m1_21 m3_28 rfl rfl (by decide +kernel) ⟨Nat.le_of_ble_eq_true rfl, Nat.le_of_ble_eq_true rfl⟩) ⟨PcN_blind, PcN_of _ _ _⟩ rfl rfl hl.1 rfl (lv_room (Nat.le_of_ble_eq_true rfl)) (fk_get fk_cJ0_checkIndex_df160_0 3 rfl) ⟨Nat.zero_le _, Nat.zero_le _⟩) (fun r_3 hw_4 => ?_)
  try dsimp only at hw_4
  refine lv_pop hx hb (fk_get fk_cJ0_checkIndex_df160_0 4 rfl) rfl ?_
  subst hQ
  exact W.vret hx hb hr (fun t_ ht_ hW_ => ⟨rfl, trivial, ht_⟩) (fun q h => by cases h) (fk_get fk_cJ0_checkIndex_df160_0 5 rfl)
set_option maxHeartbeats 800000 in
set_option maxRecDepth 100000 in
theorem c_jlcharAt (l : Launch) (G : GG) (ad : Nat → Nat) (S : FS) (sz : Nat) (sk jz : Nat) (hsk : sk < 6) (hj : jz < lenS.getD sk 0) (hX : XI S) : Met l yJ1_charAt_3b067 (Cond.code yJ1_charAt_3b067 cJ1_charAt_3b067 2 (some .char) :: TBL) ({ frames := 4, cells := 0, slots := 0, locals := 115 } : Room) (PcE G (wX G ad S) sz [.ref (G.2.2.2 (320 + sk)), .int ((nI jz))]) (vp_Si (fun (r : Int32) => ∃ b : Int32, r = b &&& 255)) 0 0 (fun _ => False) := by
  refine va_MetF (cc := cJ1_charAt_3b067) (maxL := 2) (ret := (some .char)) (by decide +kernel) rfl ?_
  intro p e s m args below meth c₀ s₁ B hml hv
  obtain ⟨rfl, hsz, hP, hK, hD0, hE⟩ := hv
  have hx := B.exec
  have hb := B.bytes
  have hr := B.returns
  have hT : ∀ w ∈ TBL, w.before ([.ref (G.2.2.2 (320 + sk)), .int ((nI jz))] : List Value).toArray s = true := fun w h => atoms_spec (ws := Cond.code yJ1_charAt_3b067 cJ1_charAt_3b067 2 (some .char) :: TBL) B.pre w (List.mem_cons_of_mem _ h)
  have hown : s.vm.findClass "java/lang/StringLatin1" = some m.cls := findClass_of_methodNamed B.named
  have hlocks := B.notSynchronized
  have hD := hD0
  subst hsz
  have hFc : ∀ q, va_A (wX G ad S) s.heap.size q → va_A (wX G ad S) s.heap.size q := fun _ h => h
  have hS : va_S (va_A (wX G ad S) s.heap.size) s.heap s.heap [] := va_S.rf
  have hP : va_P G.1 vwCl (wX G ad S) s.heap := hP
  have hl := lv_entry ([.ref (G.2.2.2 (320 + sk)), .int ((nI jz))]) (n := 2) (Nat.le_of_ble_eq_true rfl)
  rw [lg_entry_eq]
  generalize (lg_sl ([.ref (G.2.2.2 (320 + sk)), .int ((nI jz))]) ++ List.replicate (2 - (lg_sl ([.ref (G.2.2.2 (320 + sk)), .int ((nI jz))])).length) Slot.unset).toArray = ls at hl ⊢
  have hl : lv_has ls 2 [(0, .ref (G.2.2.2 (320 + sk))), (1, .int ((nI jz)))] := hl
  refine W_abs (fun Q hQ => ?_)
  generalize ([.ref (G.2.2.2 (320 + sk)), .int ((nI jz))] : List Value).toArray = args at hT hQ ⊢
  have hs6 := lenS_6 hsk
  refine lv_iload_n hx hb (fk_get fk_cJ1_charAt_3b067_0 0 rfl) rfl (lv_at hl 1 rfl) ?_
  refine lv_aload_n hx hb (fk_get fk_cJ1_charAt_3b067_0 1 rfl) rfl (lv_at hl 0 rfl) ?_
  refine va_tlen (v := nI (lenS.getD sk 0)) hx hb (hE.2.2.2.2.1.1.1 sk hsk).2.2.2 hS rfl (fk_get fk_cJ1_charAt_3b067_0 2 rfl) ?_
  refine va_csv (W.runS (As := [.int ((nI jz)), .int ((nI (lenS.getD sk 0)))]) (rest := []) ⟨hx, hb, hml, hown, hT⟩ (c_jchk l G ad S s.heap.size ((nI jz)) ((nI (lenS.getD sk 0))) (nI_pos (by omega)) (nI_lt hj (by omega)) (hX)) (tS 2 hT m3_21 m3_22 m1_19 m3_23 rfl rfl (by decide +kernel) ⟨Nat.le_of_ble_eq_true rfl, Nat.le_of_ble_eq_true rfl⟩) ⟨PcE_blind, PcE_of hP hK hD hE hS (fun q h => hFc q h) _⟩ rfl rfl hl.1 rfl (lv_room (Nat.le_of_ble_eq_true rfl)) (fk_get fk_cJ1_charAt_3b067_0 3 rfl) ⟨Nat.zero_le _, Nat.zero_le _⟩) (fun hw_2 => ?_)
  try dsimp only at hw_2
  refine lv_aload_n hx hb (fk_get fk_cJ1_charAt_3b067_0 4 rfl) rfl (lv_at hl 0 rfl) ?_
  refine lv_iload_n hx hb (fk_get fk_cJ1_charAt_3b067_0 5 rfl) rfl (lv_at hl 1 rfl) ?_
  refine va_tb (v := .int ((bytS.getD sk []).getD ((nI jz) : Int32).toNatClampNeg 0)) hx hb (hE.2.2.2.2.1.1.1 sk hsk).2.2.2 hS (by rw [show ((nI jz) : Int32) = nI jz from rfl]; exact vp_in_nI (by omega) (lenS_lt hsk)) rfl (fk_get fk_cJ1_charAt_3b067_0 6 rfl) ?_
  generalize ((bytS.getD sk []).getD ((nI jz) : Int32).toNatClampNeg 0) = u_3
  refine lv_sipush (v := 255) hx hb (fk_get fk_cJ1_charAt_3b067_0 7 rfl) (by decide) ?_
  refine lv_iand hx hb (fk_get fk_cJ1_charAt_3b067_0 8 rfl) ?_
  refine lv_i2c hx hb (fk_get fk_cJ1_charAt_3b067_0 9 rfl) rfl ?_
  rw [sc_c2 u_3]
  subst hQ
  have hpost : ∃ b : Int32, ((u_3 &&& 255) : Int32) = b &&& 255 := by
    exact ⟨_, rfl⟩
  exact W.zret (v := (u_3 &&& 255)) hx hb hr (sc_nar _) (fun t_ ht_ hW_ => ⟨(u_3 &&& 255), rfl, hpost, ht_⟩) (fun q h => by cases h) (fk_get fk_cJ1_charAt_3b067_0 10 rfl)
set_option maxHeartbeats 800000 in
set_option maxRecDepth 100000 in
theorem c_jcharAt (l : Launch) (G : GG) (ad : Nat → Nat) (S : FS) (sz : Nat) (sk jz : Nat) (hsk : sk < 6) (hj : jz < lenS.getD sk 0) (hX : XI S) : Met l yJ0_charAt_5068e (Cond.code yJ0_charAt_5068e cJ0_charAt_5068e 2 (some .char) :: TBL) ({ frames := 5, cells := 0, slots := 0, locals := 140 } : Room) (PcE G (wX G ad S) sz [.ref (G.2.2.2 (310 + sk)), .int ((nI jz))]) (vp_Si (fun (r : Int32) => ∃ b : Int32, r = b &&& 255)) 0 0 (fun _ => False) := by
  refine va_MetF (cc := cJ0_charAt_5068e) (maxL := 2) (ret := (some .char)) (by decide +kernel) rfl ?_
  intro p e s m args below meth c₀ s₁ B hml hv
  obtain ⟨rfl, hsz, hP, hK, hD0, hE⟩ := hv
  have hx := B.exec
  have hb := B.bytes
  have hr := B.returns
  have hT : ∀ w ∈ TBL, w.before ([.ref (G.2.2.2 (310 + sk)), .int ((nI jz))] : List Value).toArray s = true := fun w h => atoms_spec (ws := Cond.code yJ0_charAt_5068e cJ0_charAt_5068e 2 (some .char) :: TBL) B.pre w (List.mem_cons_of_mem _ h)
  have hown : s.vm.findClass "java/lang/String" = some m.cls := findClass_of_methodNamed B.named
  have hlocks := B.notSynchronized
  have hD := hD0
  subst hsz
  have hFc : ∀ q, va_A (wX G ad S) s.heap.size q → va_A (wX G ad S) s.heap.size q := fun _ h => h
  have hS : va_S (va_A (wX G ad S) s.heap.size) s.heap s.heap [] := va_S.rf
  have hP : va_P G.1 vwCl (wX G ad S) s.heap := hP
  have hl := lv_entry ([.ref (G.2.2.2 (310 + sk)), .int ((nI jz))]) (n := 2) (Nat.le_of_ble_eq_true rfl)
  rw [lg_entry_eq]
  generalize (lg_sl ([.ref (G.2.2.2 (310 + sk)), .int ((nI jz))]) ++ List.replicate (2 - (lg_sl ([.ref (G.2.2.2 (310 + sk)), .int ((nI jz))])).length) Slot.unset).toArray = ls at hl ⊢
  have hl : lv_has ls 2 [(0, .ref (G.2.2.2 (310 + sk))), (1, .int ((nI jz)))] := hl
  refine W_abs (fun Q hQ => ?_)
  generalize ([.ref (G.2.2.2 (310 + sk)), .int ((nI jz))] : List Value).toArray = args at hT hQ ⊢
  have hs6 := lenS_6 hsk
  refine lv_aload_n hx hb (fk_get fk_cJ0_charAt_5068e_0 0 rfl) rfl (lv_at hl 0 rfl) ?_
  refine vp_callSi (W.runV (As := []) (rest := []) ⟨hx, hb, hml, hown, hT⟩ (c_jisLatin1 l G ad S s.heap.size (sk) (hsk) (hX)) (tV 0 hT m3_14 m3_15 m3_16 m1_19 m3_17 rfl rfl (by decide +kernel) ⟨Nat.le_of_ble_eq_true rfl, Nat.le_of_ble_eq_true rfl⟩) ⟨PcE_blind, vk_recv hE.2.2.2.2.1.1 hsk hS, PcE_of hP hK hD hE hS (fun q h => hFc q h) _⟩ rfl rfl hl.1 rfl (lv_room (Nat.le_of_ble_eq_true rfl)) (fk_get fk_cJ0_charAt_5068e_0 1 rfl) ⟨Nat.zero_le _, Nat.zero_le _⟩) (fun r_1 hw_2 => ?_)
  try dsimp only at hw_2
  subst hw_2
  refine lv_if_eq (tgt := 16) hx hb (fk_get fk_cJ0_charAt_5068e_0 2 rfl) (by decide) (fun c_3 => absurd c_3 ((by decide))) (fun _ => ?_)
  refine lv_aload_n hx hb (fk_get fk_cJ0_charAt_5068e_0 3 rfl) rfl (lv_at hl 0 rfl) ?_
  refine vk_getf (v := .ref (G.2.2.2 (320 + sk))) hx hb (hE.2.2.2.2.1.1.1 sk hsk).2.2.1 hS hown (hT _ m7_221) (fun _ h9 => h9) (fk_get fk_cJ0_charAt_5068e_0 4 rfl) ?_
  refine lv_iload_n hx hb (fk_get fk_cJ0_charAt_5068e_0 5 rfl) rfl (lv_at hl 1 rfl) ?_
  refine vp_callSi (W.runS (As := [.ref (G.2.2.2 (320 + sk)), .int ((nI jz))]) (rest := []) ⟨hx, hb, hml, hown, hT⟩ (c_jlcharAt l G ad S s.heap.size (sk) (jz) (hsk) (by first | assumption | omega) (hX)) (tS 2 hT m3_18 m3_19 m1_20 m3_20 rfl rfl (by decide +kernel) ⟨Nat.le_of_ble_eq_true rfl, Nat.le_of_ble_eq_true rfl⟩) ⟨PcE_blind, PcE_of hP hK hD hE hS (fun q h => hFc q h) _⟩ rfl rfl hl.1 rfl (lv_room (Nat.le_of_ble_eq_true rfl)) (fk_get fk_cJ0_charAt_5068e_0 6 rfl) ⟨Nat.zero_le _, Nat.zero_le _⟩) (fun r_4 hw_5 => ?_)
  try dsimp only at hw_5
  obtain ⟨b_, eb_⟩ := hw_5
  subst eb_
  subst hQ
  have hpost : ∃ b : Int32, ((b_ &&& 255) : Int32) = b &&& 255 := by
    exact ⟨_, rfl⟩
  exact W.zret (v := (b_ &&& 255)) hx hb hr (sc_nar _) (fun t_ ht_ hW_ => ⟨(b_ &&& 255), rfl, hpost, ht_⟩) (fun q h => by cases h) (fk_get fk_cJ0_charAt_5068e_0 7 rfl)
