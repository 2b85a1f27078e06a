theorem lenS_lt {k : Nat} (h : k < 6) : lenS.getD k 0 < 2 ^ 31 := by
  rcases (show k = 0 ∨ k = 1 ∨ k = 2 ∨ k = 3 ∨ k = 4 ∨ k = 5 by omega) with rfl | rfl | rfl | rfl | rfl | rfl <;> decide
theorem lenS_6 {k : Nat} (h : k < 6) : lenS.getD k 0 ≤ 6 := by
  rcases (show k = 0 ∨ k = 1 ∨ k = 2 ∨ k = 3 ∨ k = 4 ∨ k = 5 by omega) with rfl | rfl | rfl | rfl | rfl | rfl <;> decide
theorem lenS_sh {k : Nat} (h : k < 6) : nI (lenS.getD k 0) >>> ((0 : Int32) &&& 31) = nI (lenS.getD k 0) := by
  rcases (show k = 0 ∨ k = 1 ∨ k = 2 ∨ k = 3 ∨ k = 4 ∨ k = 5 by omega) with rfl | rfl | rfl | rfl | rfl | rfl <;> decide
set_option maxHeartbeats 800000 in
set_option maxRecDepth 100000 in
theorem c_jcoder (l : Launch) (G : GG) (ad : Nat → Nat) (S : FS) (sz : Nat) (sk : Nat) (hsk : sk < 6) (hX : XI S) : Met l yJ0_coder_7d493 (Cond.code yJ0_coder_7d493 cJ0_coder_7d493 1 (some .byte) :: TBL) ({ frames := 2, cells := 0, slots := 0, locals := 64 } : Room) (PcE G (wX G ad S) sz [.ref (G.2.2.2 (310 + sk))]) (vp_Si (fun (r : Int32) => r = 0)) 0 0 (fun _ => False) := by
  refine va_MetF (cc := cJ0_coder_7d493) (maxL := 1) (ret := (some .byte)) (by decide +kernel) rfl ?_
  intro p e s m args below meth c₀ s₁ B hml hv
  obtain ⟨rfl, hsz, hP, hK, hD0, hE⟩ := hv
  have hx := B.exec
  have hb := B.bytes
  have hr := B.returns
  have hT : ∀ w ∈ TBL, w.before ([.ref (G.2.2.2 (310 + sk))] : List Value).toArray s = true := fun w h => atoms_spec (ws := Cond.code yJ0_coder_7d493 cJ0_coder_7d493 1 (some .byte) :: TBL) B.pre w (List.mem_cons_of_mem _ h)
  have hown : s.vm.findClass "java/lang/String" = some m.cls := findClass_of_methodNamed B.named
  have hlocks := B.notSynchronized
  have hD := hD0
  subst hsz
  have hFc : ∀ q, va_A (wX G ad S) s.heap.size q → va_A (wX G ad S) s.heap.size q := fun _ h => h
  have hS : va_S (va_A (wX G ad S) s.heap.size) s.heap s.heap [] := va_S.rf
  have hP : va_P G.1 vwCl (wX G ad S) s.heap := hP
  have hl := lv_entry ([.ref (G.2.2.2 (310 + sk))]) (n := 1) (Nat.le_of_ble_eq_true rfl)
  rw [lg_entry_eq]
  generalize (lg_sl ([.ref (G.2.2.2 (310 + sk))]) ++ List.replicate (1 - (lg_sl ([.ref (G.2.2.2 (310 + sk))])).length) Slot.unset).toArray = ls at hl ⊢
  have hl : lv_has ls 1 [(0, .ref (G.2.2.2 (310 + sk)))] := hl
  refine W_abs (fun Q hQ => ?_)
  generalize ([.ref (G.2.2.2 (310 + sk))] : List Value).toArray = args at hT hQ ⊢
  have hs6 := lenS_6 hsk
  refine va_gets (v := .int 1) hx hb hE.2.1 hS hown (hT _ m3_8) (fun _ h9 => h9) (fk_get fk_cJ0_coder_7d493_0 0 rfl) ?_
  refine lv_if_eq (tgt := 13) hx hb (fk_get fk_cJ0_coder_7d493_0 1 rfl) (by decide) (fun c_1 => absurd c_1 ((by decide))) (fun _ => ?_)
  refine lv_aload_n hx hb (fk_get fk_cJ0_coder_7d493_0 2 rfl) rfl (lv_at hl 0 rfl) ?_
  refine vk_getf (v := .int (0)) hx hb (hE.2.2.2.2.1.1.1 sk hsk).2.1 hS hown (hT _ m7_222) (fun _ h9 => h9) (fk_get fk_cJ0_coder_7d493_0 3 rfl) ?_
  refine lv_goto (tgt := 14) hx hb (fk_get fk_cJ0_coder_7d493_0 4 rfl) (by decide) ?_
  subst hQ
  have hpost : (0 : Int32) = 0 := by
    rfl
  exact W.zret (v := 0) hx hb hr rfl (fun t_ ht_ hW_ => ⟨0, rfl, hpost, ht_⟩) (fun q h => by cases h) (fk_get fk_cJ0_coder_7d493_0 5 rfl)
set_option maxHeartbeats 800000 in
set_option maxRecDepth 100000 in
theorem c_jisLatin1 (l : Launch) (G : GG) (ad : Nat → Nat) (S : FS) (sz : Nat) (sk : Nat) (hsk : sk < 6) (hX : XI S) : Met l yJ0_isLatin1_aae02 (Cond.code yJ0_isLatin1_aae02 cJ0_isLatin1_aae02 1 (some .boolean) :: TBL) ({ frames := 2, cells := 0, slots := 0, locals := 64 } : Room) (PcE G (wX G ad S) sz [.ref (G.2.2.2 (310 + sk))]) (vp_Si (fun (r : Int32) => r = 1)) 0 0 (fun _ => False) := by
  refine va_MetF (cc := cJ0_isLatin1_aae02) (maxL := 1) (ret := (some .boolean)) (by decide +kernel) rfl ?_
  intro p e s m args below meth c₀ s₁ B hml hv
  obtain ⟨rfl, hsz, hP, hK, hD0, hE⟩ := hv
  have hx := B.exec
  have hb := B.bytes
  have hr := B.returns
  have hT : ∀ w ∈ TBL, w.before ([.ref (G.2.2.2 (310 + sk))] : List Value).toArray s = true := fun w h => atoms_spec (ws := Cond.code yJ0_isLatin1_aae02 cJ0_isLatin1_aae02 1 (some .boolean) :: TBL) B.pre w (List.mem_cons_of_mem _ h)
  have hown : s.vm.findClass "java/lang/String" = some m.cls := findClass_of_methodNamed B.named
  have hlocks := B.notSynchronized
  have hD := hD0
  subst hsz
  have hFc : ∀ q, va_A (wX G ad S) s.heap.size q → va_A (wX G ad S) s.heap.size q := fun _ h => h
  have hS : va_S (va_A (wX G ad S) s.heap.size) s.heap s.heap [] := va_S.rf
  have hP : va_P G.1 vwCl (wX G ad S) s.heap := hP
  have hl := lv_entry ([.ref (G.2.2.2 (310 + sk))]) (n := 1) (Nat.le_of_ble_eq_true rfl)
  rw [lg_entry_eq]
  generalize (lg_sl ([.ref (G.2.2.2 (310 + sk))]) ++ List.replicate (1 - (lg_sl ([.ref (G.2.2.2 (310 + sk))])).length) Slot.unset).toArray = ls at hl ⊢
  have hl : lv_has ls 1 [(0, .ref (G.2.2.2 (310 + sk)))] := hl
  refine W_abs (fun Q hQ => ?_)
  generalize ([.ref (G.2.2.2 (310 + sk))] : List Value).toArray = args at hT hQ ⊢
  have hs6 := lenS_6 hsk
  refine va_gets (v := .int 1) hx hb hE.2.1 hS hown (hT _ m3_8) (fun _ h9 => h9) (fk_get fk_cJ0_isLatin1_aae02_0 0 rfl) ?_
  refine lv_if_eq (tgt := 17) hx hb (fk_get fk_cJ0_isLatin1_aae02_0 1 rfl) (by decide) (fun c_1 => absurd c_1 ((by decide))) (fun _ => ?_)
  refine lv_aload_n hx hb (fk_get fk_cJ0_isLatin1_aae02_0 2 rfl) rfl (lv_at hl 0 rfl) ?_
  refine vk_getf (v := .int (0)) hx hb (hE.2.2.2.2.1.1.1 sk hsk).2.1 hS hown (hT _ m7_222) (fun _ h9 => h9) (fk_get fk_cJ0_isLatin1_aae02_0 3 rfl) ?_
  refine lv_if_ne (tgt := 17) hx hb (fk_get fk_cJ0_isLatin1_aae02_0 4 rfl) (by decide) (fun c_2 => absurd ((by decide)) c_2) (fun _ => ?_)
  refine lv_iconst (v := 1) hx hb (fk_get fk_cJ0_isLatin1_aae02_0 5 rfl) (by decide) ?_
  refine lv_goto (tgt := 18) hx hb (fk_get fk_cJ0_isLatin1_aae02_0 6 rfl) (by decide) ?_
  subst hQ
  have hpost : (1 : Int32) = 1 := by
    rfl
  exact W.zret (v := 1) hx hb hr rfl (fun t_ ht_ hW_ => ⟨1, rfl, hpost, ht_⟩) (fun q h => by cases h) (fk_get fk_cJ0_isLatin1_aae02_0 7 rfl)
set_option maxHeartbeats 800000 in
set_option maxRecDepth 100000 in
theorem c_jslen (l : Launch) (G : GG) (ad : Nat → Nat) (S : FS) (sz : Nat) (sk : Nat) (hsk : sk < 6) (hX : XI S) : Met l yJ0_length_8abf5 (Cond.code yJ0_length_8abf5 cJ0_length_8abf5 1 (some .int) :: TBL) ({ frames := 3, cells := 0, slots := 0, locals := 88 } : Room) (PcE G (wX G ad S) sz [.ref (G.2.2.2 (310 + sk))]) (vp_Si (fun (r : Int32) => r = nI (lenS.getD sk 0))) 0 0 (fun _ => False) := by
  refine va_MetF (cc := cJ0_length_8abf5) (maxL := 1) (ret := (some .int)) (by decide +kernel) rfl ?_
  intro p e s m args below meth c₀ s₁ B hml hv
  obtain ⟨rfl, hsz, hP, hK, hD0, hE⟩ := hv
  have hx := B.exec
  have hb := B.bytes
  have hr := B.returns
  have hT : ∀ w ∈ TBL, w.before ([.ref (G.2.2.2 (310 + sk))] : List Value).toArray s = true := fun w h => atoms_spec (ws := Cond.code yJ0_length_8abf5 cJ0_length_8abf5 1 (some .int) :: TBL) B.pre w (List.mem_cons_of_mem _ h)
  have hown : s.vm.findClass "java/lang/String" = some m.cls := findClass_of_methodNamed B.named
  have hlocks := B.notSynchronized
  have hD := hD0
  subst hsz
  have hFc : ∀ q, va_A (wX G ad S) s.heap.size q → va_A (wX G ad S) s.heap.size q := fun _ h => h
  have hS : va_S (va_A (wX G ad S) s.heap.size) s.heap s.heap [] := va_S.rf
  have hP : va_P G.1 vwCl (wX G ad S) s.heap := hP
  have hl := lv_entry ([.ref (G.2.2.2 (310 + sk))]) (n := 1) (Nat.le_of_ble_eq_true rfl)
  rw [lg_entry_eq]
  generalize (lg_sl ([.ref (G.2.2.2 (310 + sk))]) ++ List.replicate (1 - (lg_sl ([.ref (G.2.2.2 (310 + sk))])).length) Slot.unset).toArray = ls at hl ⊢
  have hl : lv_has ls 1 [(0, .ref (G.2.2.2 (310 + sk)))] := hl
  refine W_abs (fun Q hQ => ?_)
  generalize ([.ref (G.2.2.2 (310 + sk))] : List Value).toArray = args at hT hQ ⊢
  have hs6 := lenS_6 hsk
  refine lv_aload_n hx hb (fk_get fk_cJ0_length_8abf5_0 0 rfl) rfl (lv_at hl 0 rfl) ?_
  refine vk_getf (v := .ref (G.2.2.2 (320 + sk))) hx hb (hE.2.2.2.2.1.1.1 sk hsk).2.2.1 hS hown (hT _ m7_221) (fun _ h9 => h9) (fk_get fk_cJ0_length_8abf5_0 1 rfl) ?_
  refine va_tlen (v := nI (lenS.getD sk 0)) hx hb (hE.2.2.2.2.1.1.1 sk hsk).2.2.2 hS rfl (fk_get fk_cJ0_length_8abf5_0 2 rfl) ?_
  refine lv_aload_n hx hb (fk_get fk_cJ0_length_8abf5_0 3 rfl) rfl (lv_at hl 0 rfl) ?_
  refine vp_callSi (W.runV (As := []) (rest := [.int ((nI (lenS.getD sk 0)))]) ⟨hx, hb, hml, hown, hT⟩ (c_jcoder l G ad S s.heap.size (sk) (hsk) (hX)) (tV 0 hT m3_4 m3_5 m3_6 m1_19 m3_7 rfl rfl (by decide +kernel) ⟨Nat.le_of_ble_eq_true rfl, Nat.le_of_ble_eq_true rfl⟩) ⟨PcE_blind, vk_recv hE.2.2.2.2.1.1 hsk hS, PcE_of hP hK hD hE hS (fun q h => hFc q h) _⟩ rfl rfl hl.1 rfl (lv_room (Nat.le_of_ble_eq_true rfl)) (fk_get fk_cJ0_length_8abf5_0 4 rfl) ⟨Nat.zero_le _, Nat.zero_le _⟩) (fun r_1 hw_2 => ?_)
  try dsimp only at hw_2
  subst hw_2
  refine lv_ishr hx hb (fk_get fk_cJ0_length_8abf5_0 5 rfl) ?_
  rw [show ((nI (lenS.getD sk 0)) >>> ((0) &&& 31)) = (nI (lenS.getD sk 0)) from lenS_sh hsk]
  subst hQ
  have hpost : ((nI (lenS.getD sk 0)) : Int32) = nI (lenS.getD sk 0) := by
    rfl
  exact W.iret (v := (nI (lenS.getD sk 0))) hx hb hr (fun t_ ht_ hW_ => ⟨(nI (lenS.getD sk 0)), rfl, hpost, ht_⟩) (fun q h => by cases h) (fk_get fk_cJ0_length_8abf5_0 6 rfl)
set_option maxHeartbeats 800000 in
set_option maxRecDepth 100000 in
theorem c_jchkN (l : Launch) (x y : Int32) (h0 : ¬ x < 0) (h1 : x < y) : Met l yJ3_checkIndex_8e157 (Cond.code yJ3_checkIndex_8e157 cJ3_checkIndex_8e157 3 (some .int) :: TBL) ({ frames := 2, cells := 0, slots := 0, locals := 64 } : Room) (PcN [.int (x), .int (y), .null]) (vp_Si (fun (r : Int32) => r = x)) 0 0 (fun _ => False) := by
  refine va_MetF (cc := cJ3_checkIndex_8e157) (maxL := 3) (ret := (some .int)) (by decide +kernel) rfl ?_
  intro p e s m args below meth c₀ s₁ B hml hv
  obtain ⟨rfl, -⟩ := hv
  have hx := B.exec
  have hb := B.bytes
  have hr := B.returns
  have hT : ∀ w ∈ TBL, w.before ([.int (x), .int (y), .null] : List Value).toArray s = true := fun w h => atoms_spec (ws := Cond.code yJ3_checkIndex_8e157 cJ3_checkIndex_8e157 3 (some .int) :: TBL) B.pre w (List.mem_cons_of_mem _ h)
  have hown : s.vm.findClass "jdk/internal/util/Preconditions" = some m.cls := findClass_of_methodNamed B.named
  have hlocks := B.notSynchronized
  have hl := lv_entry ([.int (x), .int (y), .null]) (n := 3) (Nat.le_of_ble_eq_true rfl)
  rw [lg_entry_eq]
  generalize (lg_sl ([.int (x), .int (y), .null]) ++ List.replicate (3 - (lg_sl ([.int (x), .int (y), .null])).length) Slot.unset).toArray = ls at hl ⊢
  have hl : lv_has ls 3 [(0, .int (x)), (1, .int (y)), (2, .null)] := hl
  refine W_abs (fun Q hQ => ?_)
  generalize ([.int (x), .int (y), .null] : List Value).toArray = args at hT hQ ⊢
  refine lv_iload_n hx hb (fk_get fk_cJ3_checkIndex_8e157_0 0 rfl) rfl (lv_at hl 0 rfl) ?_
  refine lv_if_lt (tgt := 9) hx hb (fk_get fk_cJ3_checkIndex_8e157_0 1 rfl) (by decide) (fun c_1 => absurd c_1 (h0)) (fun _ => ?_)
  refine lv_iload_n hx hb (fk_get fk_cJ3_checkIndex_8e157_0 2 rfl) rfl (lv_at hl 0 rfl) ?_
  refine lv_iload_n hx hb (fk_get fk_cJ3_checkIndex_8e157_0 3 rfl) rfl (lv_at hl 1 rfl) ?_
  refine lv_icmp_lt (tgt := 16) hx hb (fk_get fk_cJ3_checkIndex_8e157_0 4 rfl) (by decide) (fun _ => ?_) (fun c_2 => absurd (h1) c_2)
  refine lv_iload_n hx hb (fk_get fk_cJ3_checkIndex_8e157_0 5 rfl) rfl (lv_at hl 0 rfl) ?_
  subst hQ
  have hpost : (x : Int32) = x := by
    rfl
  exact W.iret (v := x) hx hb hr (fun t_ ht_ hW_ => ⟨x, rfl, hpost, ht_⟩) (fun q h => by cases h) (fk_get fk_cJ3_checkIndex_8e157_0 6 rfl)
set_option maxHeartbeats 800000 in
set_option maxRecDepth 100000 in
theorem c_jchkR (l : Launch) (x y : Int32) (tf : Nat) (h0 : ¬ x < 0) (h1 : x < y) : Met l yJ3_checkIndex_8e157 (Cond.code yJ3_checkIndex_8e157 cJ3_checkIndex_8e157 3 (some .int) :: TBL) ({ frames := 2, cells := 0, slots := 0, locals := 64 } : Room) (PcN [.int (x), .int (y), .ref (tf)]) (vp_Si (fun (r : Int32) => r = x)) 0 0 (fun _ => False) := by
  refine va_MetF (cc := cJ3_checkIndex_8e157) (maxL := 3) (ret := (some .int)) (by decide +kernel) rfl ?_
  intro p e s m args below meth c₀ s₁ B hml hv
  obtain ⟨rfl, -⟩ := hv
  have hx := B.exec
  have hb := B.bytes
  have hr := B.returns
  have hT : ∀ w ∈ TBL, w.before ([.int (x), .int (y), .ref (tf)] : List Value).toArray s = true := fun w h => atoms_spec (ws := Cond.code yJ3_checkIndex_8e157 cJ3_checkIndex_8e157 3 (some .int) :: TBL) B.pre w (List.mem_cons_of_mem _ h)
  have hown : s.vm.findClass "jdk/internal/util/Preconditions" = some m.cls := findClass_of_methodNamed B.named
  have hlocks := B.notSynchronized
  have hl := lv_entry ([.int (x), .int (y), .ref (tf)]) (n := 3) (Nat.le_of_ble_eq_true rfl)
  rw [lg_entry_eq]
  generalize (lg_sl ([.int (x), .int (y), .ref (tf)]) ++ List.replicate (3 - (lg_sl ([.int (x), .int (y), .ref (tf)])).length) Slot.unset).toArray = ls at hl ⊢
  have hl : lv_has ls 3 [(0, .int (x)), (1, .int (y)), (2, .ref (tf))] := hl
  refine W_abs (fun Q hQ => ?_)
  generalize ([.int (x), .int (y), .ref (tf)] : List Value).toArray = args at hT hQ ⊢
  refine lv_iload_n hx hb (fk_get fk_cJ3_checkIndex_8e157_0 0 rfl) rfl (lv_at hl 0 rfl) ?_
  refine lv_if_lt (tgt := 9) hx hb (fk_get fk_cJ3_checkIndex_8e157_0 1 rfl) (by decide) (fun c_1 => absurd c_1 (h0)) (fun _ => ?_)
  refine lv_iload_n hx hb (fk_get fk_cJ3_checkIndex_8e157_0 2 rfl) rfl (lv_at hl 0 rfl) ?_
  refine lv_iload_n hx hb (fk_get fk_cJ3_checkIndex_8e157_0 3 rfl) rfl (lv_at hl 1 rfl) ?_
  refine lv_icmp_lt (tgt := 16) hx hb (fk_get fk_cJ3_checkIndex_8e157_0 4 rfl) (by decide) (fun _ => ?_) (fun c_2 => absurd (h1) c_2)
  refine lv_iload_n hx hb (fk_get fk_cJ3_checkIndex_8e157_0 5 rfl) rfl (lv_at hl 0 rfl) ?_
  subst hQ
  have hpost : (x : Int32) = x := by
    rfl
  exact W.iret (v := x) hx hb hr (fun t_ ht_ hW_ => ⟨x, rfl, hpost, ht_⟩) (fun q h => by cases h) (fk_get fk_cJ3_checkIndex_8e157_0 6 rfl)
