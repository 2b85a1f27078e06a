set_option maxHeartbeats 800000 in
set_option maxRecDepth 100000 in
theorem c_jixc (l : Launch) (G : GG) (ad : Nat → Nat) (S : FS) (sz : Nat) (sk : Nat) (c_ : Int32) (hsk : sk < 6) (hX : XI S) : Met l yJ1_indexOfChar_4cfef (Cond.code yJ1_indexOfChar_4cfef cJ1_indexOfChar_4cfef 6 (some .int) :: TBL) ({ frames := 2, cells := 0, slots := 0, locals := 64 } : Room) (PcE G (wX G ad S) sz [.ref (G.2.2.2 (320 + sk)), .int (c_), .int (0), .int ((nI (lenS.getD sk 0)))]) (vp_Si (fun (r : Int32) => True)) 0 0 (fun _ => False) := by
  refine va_MetF (cc := cJ1_indexOfChar_4cfef) (maxL := 6) (ret := (some .int)) (by decide +kernel) rfl ?_
  intro p e s m args below meth c₀ s₁ B hml hv
  obtain ⟨rfl, hsz, hP, hK, hD0, hE⟩ := hv
  have hx := B.exec
  have hb := B.bytes
  have hr := B.returns
  have hT : ∀ w ∈ TBL, w.before ([.ref (G.2.2.2 (320 + sk)), .int (c_), .int (0), .int ((nI (lenS.getD sk 0)))] : List Value).toArray s = true := fun w h => atoms_spec (ws := Cond.code yJ1_indexOfChar_4cfef cJ1_indexOfChar_4cfef 6 (some .int) :: TBL) B.pre w (List.mem_cons_of_mem _ h)
  have hown : s.vm.findClass "java/lang/StringLatin1" = some m.cls := findClass_of_methodNamed B.named
  have hlocks := B.notSynchronized
  have hD := hD0
  subst hsz
  have hFc : ∀ q, va_A (wX G ad S) s.heap.size q → va_A (wX G ad S) s.heap.size q := fun _ h => h
  have hS : va_S (va_A (wX G ad S) s.heap.size) s.heap s.heap [] := va_S.rf
  have hP : va_P G.1 vwCl (wX G ad S) s.heap := hP
  have hl := lv_entry ([.ref (G.2.2.2 (320 + sk)), .int (c_), .int (0), .int ((nI (lenS.getD sk 0)))]) (n := 6) (Nat.le_of_ble_eq_true rfl)
  rw [lg_entry_eq]
  generalize (lg_sl ([.ref (G.2.2.2 (320 + sk)), .int (c_), .int (0), .int ((nI (lenS.getD sk 0)))]) ++ List.replicate (6 - (lg_sl ([.ref (G.2.2.2 (320 + sk)), .int (c_), .int (0), .int ((nI (lenS.getD sk 0)))])).length) Slot.unset).toArray = ls at hl ⊢
  have hl : lv_has ls 6 [(0, .ref (G.2.2.2 (320 + sk))), (1, .int (c_)), (2, .int (0)), (3, .int ((nI (lenS.getD sk 0))))] := hl
  refine W_abs (fun Q hQ => ?_)
  generalize ([.ref (G.2.2.2 (320 + sk)), .int (c_), .int (0), .int ((nI (lenS.getD sk 0)))] : List Value).toArray = args at hT hQ ⊢
  have hs6 := lenS_6 hsk
  refine lv_iload_n hx hb (fk_get fk_cJ1_indexOfChar_4cfef_0 0 rfl) rfl (lv_at hl 1 rfl) ?_
  refine lv_i2b hx hb (fk_get fk_cJ1_indexOfChar_4cfef_0 1 rfl) rfl ?_
  refine lv_istore (lv' := [(4, .int ((c_).toInt8.toInt32)), (0, .ref (G.2.2.2 (320 + sk))), (1, .int (c_)), (2, .int (0)), (3, .int ((nI (lenS.getD sk 0))))]) hx hb (fk_get fk_cJ1_indexOfChar_4cfef_0 2 rfl) hl (by decide) rfl (fun ls hl => ?_)
  refine lv_iload_n hx hb (fk_get fk_cJ1_indexOfChar_4cfef_0 3 rfl) rfl (lv_at hl 3 rfl) ?_
  refine lv_istore (lv' := [(5, .int (0)), (4, .int ((c_).toInt8.toInt32)), (0, .ref (G.2.2.2 (320 + sk))), (1, .int (c_)), (2, .int (0)), (3, .int ((nI (lenS.getD sk 0))))]) hx hb (fk_get fk_cJ1_indexOfChar_4cfef_0 4 rfl) hl (by decide) rfl (fun ls hl => ?_)
  have lp_1 : ∀ (fu : Nat) (c : Nat) (ls : Array Slot),  (c ≤ lenS.getD sk 0) → (lenS.getD sk 0 < c + fu) → lv_has ls 6 [(5, .int ((nI c))), (4, .int ((c_).toInt8.toInt32)), (0, .ref (G.2.2.2 (320 + sk))), (1, .int (c_)), (2, .int (0)), (3, .int ((nI (lenS.getD sk 0))))] → W p l e ({ frames := 2, cells := 0, slots := 0, locals := 64 } : Room) s m args below meth c₀ s.heap [] 0 0 Q (F0 m 7 ls []) := by
    intro fu
    induction fu with
    | zero =>
      intro c ls hk hf hl
      exact absurd hf (by omega)
    | succ fu ih =>
      intro c ls hk hf hl
      refine lv_iload hx hb (fk_get fk_cJ1_indexOfChar_4cfef_0 5 rfl) (lv_at hl 0 rfl) ?_
      refine lv_iload_n hx hb (fk_get fk_cJ1_indexOfChar_4cfef_0 6 rfl) rfl (lv_at hl 5 rfl) ?_
      refine lv_icmp_ge (tgt := 31) hx hb (fk_get fk_cJ1_indexOfChar_4cfef_0 7 rfl) (by decide) (fun c_2 => ?_) (fun c_2 => ?_)
      · have q_c_2 : (lenS.getD sk 0) ≤ c := ci_le (a := ((lenS.getD sk 0))) (b := c) (by omega) (by omega) c_2
        refine lv_iconst (v := (-1)) hx hb (fk_get fk_cJ1_indexOfChar_4cfef_0 17 rfl) (by decide) ?_
        subst hQ
        have hpost : True := by
          trivial
        exact W.iret (v := (-1)) hx hb hr (fun t_ ht_ hW_ => ⟨(-1), rfl, hpost, ht_⟩) (fun q h => by cases h) (fk_get fk_cJ1_indexOfChar_4cfef_0 18 rfl)
      have q_c_2 : c < (lenS.getD sk 0) := ci_nle (a := ((lenS.getD sk 0))) (b := c) (by omega) (by omega) c_2
      refine lv_aload_n hx hb (fk_get fk_cJ1_indexOfChar_4cfef_0 8 rfl) rfl (lv_at hl 2 rfl) ?_
      refine lv_iload hx hb (fk_get fk_cJ1_indexOfChar_4cfef_0 9 rfl) (lv_at hl 0 rfl) ?_
      refine va_tb (v := .int ((bytS.getD sk []).getD ((nI c) : Int32).toNatClampNeg 0)) hx hb (hE.2.2.2.2.1.1.1 sk hsk).2.2.2 hS (by rw [show ((nI c) : Int32) = nI c from rfl]; exact vp_in_nI (by omega) (lenS_lt hsk)) rfl (fk_get fk_cJ1_indexOfChar_4cfef_0 10 rfl) ?_
      generalize ((bytS.getD sk []).getD ((nI c) : Int32).toNatClampNeg 0) = u_3
      refine lv_iload hx hb (fk_get fk_cJ1_indexOfChar_4cfef_0 11 rfl) (lv_at hl 1 rfl) ?_
      refine lv_icmp_ne (tgt := 25) hx hb (fk_get fk_cJ1_indexOfChar_4cfef_0 12 rfl) (by decide) (fun c_4 => ?_) (fun c_4 => ?_)
      · refine lv_iinc (v := (nI (c + 1))) (lv' := [(5, .int ((nI (c + 1)))), (4, .int ((c_).toInt8.toInt32)), (0, .ref (G.2.2.2 (320 + sk))), (1, .int (c_)), (2, .int (0)), (3, .int ((nI (lenS.getD sk 0))))]) hx hb (fk_get fk_cJ1_indexOfChar_4cfef_0 15 rfl) hl (k := 0) rfl ((nI_1 c)) (by decide) rfl (fun ls hl => ?_)
        refine lv_goto (tgt := 7) hx hb (fk_get fk_cJ1_indexOfChar_4cfef_0 16 rfl) (by decide) ?_
        exact ih (c + 1) ls (by omega) (by omega) (lv_sub hl [0, 1, 2, 3, 4, 5] rfl)
      refine lv_iload hx hb (fk_get fk_cJ1_indexOfChar_4cfef_0 13 rfl) (lv_at hl 0 rfl) ?_
      subst hQ
      have hpost : True := by
        trivial
      exact W.iret (v := (nI c)) hx hb hr (fun t_ ht_ hW_ => ⟨(nI c), rfl, hpost, ht_⟩) (fun q h => by cases h) (fk_get fk_cJ1_indexOfChar_4cfef_0 14 rfl)
  exact lp_1 (lenS.getD sk 0 + 1) (0) ls (by omega) (by omega) (lv_sub hl [0, 1, 2, 3, 4, 5] rfl)
set_option maxHeartbeats 800000 in
set_option maxRecDepth 100000 in
theorem c_jlix (l : Launch) (G : GG) (ad : Nat → Nat) (S : FS) (sz : Nat) (sk : Nat) (c_ : Int32) (hsk : sk < 6) (hX : XI S) : Met l yJ1_indexOf_4cfef (Cond.code yJ1_indexOf_4cfef cJ1_indexOf_4cfef 4 (some .int) :: TBL) ({ frames := 3, cells := 0, slots := 0, locals := 93 } : Room) (PcE G (wX G ad S) sz [.ref (G.2.2.2 (320 + sk)), .int (c_), .int (0), .int ((nI (lenS.getD sk 0)))]) (vp_Si (fun (r : Int32) => True)) 0 0 (fun _ => False) := by
  refine va_MetF (cc := cJ1_indexOf_4cfef) (maxL := 4) (ret := (some .int)) (by decide +kernel) rfl ?_
  intro p e s m args below meth c₀ s₁ B hml hv
  obtain ⟨rfl, hsz, hP, hK, hD0, hE⟩ := hv
  have hx := B.exec
  have hb := B.bytes
  have hr := B.returns
  have hT : ∀ w ∈ TBL, w.before ([.ref (G.2.2.2 (320 + sk)), .int (c_), .int (0), .int ((nI (lenS.getD sk 0)))] : List Value).toArray s = true := fun w h => atoms_spec (ws := Cond.code yJ1_indexOf_4cfef cJ1_indexOf_4cfef 4 (some .int) :: TBL) B.pre w (List.mem_cons_of_mem _ h)
  have hown : s.vm.findClass "java/lang/StringLatin1" = some m.cls := findClass_of_methodNamed B.named
  have hlocks := B.notSynchronized
  have hD := hD0
  subst hsz
  have hFc : ∀ q, va_A (wX G ad S) s.heap.size q → va_A (wX G ad S) s.heap.size q := fun _ h => h
  have hS : va_S (va_A (wX G ad S) s.heap.size) s.heap s.heap [] := va_S.rf
  have hP : va_P G.1 vwCl (wX G ad S) s.heap := hP
  have hl := lv_entry ([.ref (G.2.2.2 (320 + sk)), .int (c_), .int (0), .int ((nI (lenS.getD sk 0)))]) (n := 4) (Nat.le_of_ble_eq_true rfl)
  rw [lg_entry_eq]
  generalize (lg_sl ([.ref (G.2.2.2 (320 + sk)), .int (c_), .int (0), .int ((nI (lenS.getD sk 0)))]) ++ List.replicate (4 - (lg_sl ([.ref (G.2.2.2 (320 + sk)), .int (c_), .int (0), .int ((nI (lenS.getD sk 0)))])).length) Slot.unset).toArray = ls at hl ⊢
  have hl : lv_has ls 4 [(0, .ref (G.2.2.2 (320 + sk))), (1, .int (c_)), (2, .int (0)), (3, .int ((nI (lenS.getD sk 0))))] := hl
  refine W_abs (fun Q hQ => ?_)
  generalize ([.ref (G.2.2.2 (320 + sk)), .int (c_), .int (0), .int ((nI (lenS.getD sk 0)))] : List Value).toArray = args at hT hQ ⊢
  have hs6 := lenS_6 hsk
  refine lv_iload_n hx hb (fk_get fk_cJ1_indexOf_4cfef_0 0 rfl) rfl (lv_at hl 1 rfl) ?_
  refine vp_callSi (W.runS (As := [.int (c_)]) (rest := []) ⟨hx, hb, hml, hown, hT⟩ (c_jcanEncode l (c_) ) (tS 1 hT m3_89 m3_90 m1_20 m3_91 rfl rfl (by decide +kernel) ⟨Nat.le_of_ble_eq_true rfl, Nat.le_of_ble_eq_true rfl⟩) ⟨PcN_blind, PcN_of _ _ _⟩ rfl rfl hl.1 rfl (lv_room (Nat.le_of_ble_eq_true rfl)) (fk_get fk_cJ1_indexOf_4cfef_0 1 rfl) ⟨Nat.zero_le _, Nat.zero_le _⟩) (fun r_1 hw_2 => ?_)
  try dsimp only at hw_2
  refine lv_if_ne (tgt := 9) hx hb (fk_get fk_cJ1_indexOf_4cfef_0 2 rfl) (by decide) (fun c_3 => ?_) (fun c_3 => ?_)
  · have p_c_3 := if1_t hw_2 c_3
    refine lv_iload_n hx hb (fk_get fk_cJ1_indexOf_4cfef_0 5 rfl) rfl (lv_at hl 2 rfl) ?_
    refine lv_iconst (v := 0) hx hb (fk_get fk_cJ1_indexOf_4cfef_0 6 rfl) (by decide) ?_
    refine vp_callSi (W.runS (As := [.int (0), .int (0)]) (rest := []) ⟨hx, hb, hml, hown, hT⟩ (c_jmax l (0) (0) ) (tS 2 hT m3_92 m2_139 m1_18 m2_140 rfl rfl (by decide +kernel) ⟨Nat.le_of_ble_eq_true rfl, Nat.le_of_ble_eq_true rfl⟩) ⟨PcN_blind, PcN_of _ _ _⟩ rfl rfl hl.1 rfl (lv_room (Nat.le_of_ble_eq_true rfl)) (fk_get fk_cJ1_indexOf_4cfef_0 7 rfl) ⟨Nat.zero_le _, Nat.zero_le _⟩) (fun r_4 hw_5 => ?_)
    try dsimp only at hw_5
    rw [if_neg Int32.lt_irrefl] at hw_5
    subst hw_5
    refine lv_istore_n (lv' := [(2, .int ((0))), (0, .ref (G.2.2.2 (320 + sk))), (1, .int (c_)), (3, .int ((nI (lenS.getD sk 0))))]) hx hb (fk_get fk_cJ1_indexOf_4cfef_0 8 rfl) rfl hl (by decide) rfl (fun ls hl => ?_)
    refine lv_iload_n hx hb (fk_get fk_cJ1_indexOf_4cfef_0 9 rfl) rfl (lv_at hl 3 rfl) ?_
    refine lv_aload_n hx hb (fk_get fk_cJ1_indexOf_4cfef_0 10 rfl) rfl (lv_at hl 1 rfl) ?_
    refine va_tlen (v := nI (lenS.getD sk 0)) hx hb (hE.2.2.2.2.1.1.1 sk hsk).2.2.2 hS rfl (fk_get fk_cJ1_indexOf_4cfef_0 11 rfl) ?_
    refine vp_callSi (W.runS (As := [.int ((nI (lenS.getD sk 0))), .int ((nI (lenS.getD sk 0)))]) (rest := []) ⟨hx, hb, hml, hown, hT⟩ (c_jmin l ((nI (lenS.getD sk 0))) ((nI (lenS.getD sk 0))) ) (tS 2 hT m3_93 m3_94 m1_18 m3_95 rfl rfl (by decide +kernel) ⟨Nat.le_of_ble_eq_true rfl, Nat.le_of_ble_eq_true rfl⟩) ⟨PcN_blind, PcN_of _ _ _⟩ rfl rfl hl.1 rfl (lv_room (Nat.le_of_ble_eq_true rfl)) (fk_get fk_cJ1_indexOf_4cfef_0 12 rfl) ⟨Nat.zero_le _, Nat.zero_le _⟩) (fun r_6 hw_7 => ?_)
    try dsimp only at hw_7
    rw [if_neg Int32.lt_irrefl] at hw_7
    subst hw_7
    refine lv_istore_n (lv' := [(3, .int ((nI (lenS.getD sk 0)))), (2, .int ((0))), (0, .ref (G.2.2.2 (320 + sk))), (1, .int (c_))]) hx hb (fk_get fk_cJ1_indexOf_4cfef_0 13 rfl) rfl hl (by decide) rfl (fun ls hl => ?_)
    refine lv_iload_n hx hb (fk_get fk_cJ1_indexOf_4cfef_0 14 rfl) rfl (lv_at hl 1 rfl) ?_
    refine lv_iload_n hx hb (fk_get fk_cJ1_indexOf_4cfef_0 15 rfl) rfl (lv_at hl 0 rfl) ?_
    refine lv_icmp_lt (tgt := 29) hx hb (fk_get fk_cJ1_indexOf_4cfef_0 16 rfl) (by decide) (fun c_8 => ?_) (fun c_8 => ?_)
    · have q_c_8 : 0 < (lenS.getD sk 0) := ci_lt (a := 0) (b := ((lenS.getD sk 0))) (by omega) (by omega) c_8
      refine lv_aload_n hx hb (fk_get fk_cJ1_indexOf_4cfef_0 19 rfl) rfl (lv_at hl 2 rfl) ?_
      refine lv_iload_n hx hb (fk_get fk_cJ1_indexOf_4cfef_0 20 rfl) rfl (lv_at hl 3 rfl) ?_
      refine lv_iload_n hx hb (fk_get fk_cJ1_indexOf_4cfef_0 21 rfl) rfl (lv_at hl 1 rfl) ?_
      refine lv_iload_n hx hb (fk_get fk_cJ1_indexOf_4cfef_0 22 rfl) rfl (lv_at hl 0 rfl) ?_
      refine vp_callSi (W.runS (As := [.ref (G.2.2.2 (320 + sk)), .int (c_), .int ((0)), .int ((nI (lenS.getD sk 0)))]) (rest := []) ⟨hx, hb, hml, hown, hT⟩ (c_jixc l G ad S s.heap.size (sk) (c_) (hsk) (hX)) (tS 4 hT m3_96 m3_97 m1_20 m3_98 rfl rfl (by decide +kernel) ⟨Nat.le_of_ble_eq_true rfl, Nat.le_of_ble_eq_true rfl⟩) ⟨PcE_blind, PcE_of hP hK hD hE hS (fun q h => hFc q h) _⟩ rfl rfl hl.1 rfl (lv_room (Nat.le_of_ble_eq_true rfl)) (fk_get fk_cJ1_indexOf_4cfef_0 23 rfl) ⟨Nat.zero_le _, Nat.zero_le _⟩) (fun r_9 hw_10 => ?_)
      try dsimp only at hw_10
      subst hQ
      have hpost : True := by
        trivial
      exact W.iret (v := r_9) hx hb hr (fun t_ ht_ hW_ => ⟨r_9, rfl, hpost, ht_⟩) (fun q h => by cases h) (fk_get fk_cJ1_indexOf_4cfef_0 24 rfl)
    have q_c_8 : (lenS.getD sk 0) ≤ 0 := ci_nlt (a := 0) (b := ((lenS.getD sk 0))) (by omega) (by omega) c_8
    refine lv_iconst (v := (-1)) hx hb (fk_get fk_cJ1_indexOf_4cfef_0 17 rfl) (by decide) ?_
    subst hQ
    have hpost : True := by
      trivial
    exact W.iret (v := (-1)) hx hb hr (fun t_ ht_ hW_ => ⟨(-1), rfl, hpost, ht_⟩) (fun q h => by cases h) (fk_get fk_cJ1_indexOf_4cfef_0 18 rfl)
  have p_c_3 := if1_f hw_2 c_3
  refine lv_iconst (v := (-1)) hx hb (fk_get fk_cJ1_indexOf_4cfef_0 3 rfl) (by decide) ?_
  subst hQ
  have hpost : True := by
    trivial
  exact W.iret (v := (-1)) hx hb hr (fun t_ ht_ hW_ => ⟨(-1), rfl, hpost, ht_⟩) (fun q h => by cases h) (fk_get fk_cJ1_indexOf_4cfef_0 4 rfl)
set_option maxHeartbeats 800000 in
set_option maxRecDepth 100000 in
theorem c_jix2 (l : Launch) (G : GG) (ad : Nat → Nat) (S : FS) (sz : Nat) (sk : Nat) (c_ : Int32) (hsk : sk < 6) (hX : XI S) : Met l yJ0_indexOf_7cf53 (Cond.code yJ0_indexOf_7cf53 cJ0_indexOf_7cf53 3 (some .int) :: TBL) ({ frames := 4, cells := 0, slots := 0, locals := 120 } : Room) (PcE G (wX G ad S) sz [.ref (G.2.2.2 (310 + sk)), .int (c_), .int (0)]) (vp_Si (fun (r : Int32) => True)) 0 0 (fun _ => False) := by
  refine va_MetF (cc := cJ0_indexOf_7cf53) (maxL := 3) (ret := (some .int)) (by decide +kernel) rfl ?_
  intro p e s m args below meth c₀ s₁ B hml hv
  obtain ⟨rfl, hsz, hP, hK, hD0, hE⟩ := hv
  have hx := B.exec
  have hb := B.bytes
  have hr := B.returns
  have hT : ∀ w ∈ TBL, w.before ([.ref (G.2.2.2 (310 + sk)), .int (c_), .int (0)] : List Value).toArray s = true := fun w h => atoms_spec (ws := Cond.code yJ0_indexOf_7cf53 cJ0_indexOf_7cf53 3 (some .int) :: TBL) B.pre w (List.mem_cons_of_mem _ h)
  have hown : s.vm.findClass "java/lang/String" = some m.cls := findClass_of_methodNamed B.named
  have hlocks := B.notSynchronized
  have hD := hD0
  subst hsz
  have hFc : ∀ q, va_A (wX G ad S) s.heap.size q → va_A (wX G ad S) s.heap.size q := fun _ h => h
  have hS : va_S (va_A (wX G ad S) s.heap.size) s.heap s.heap [] := va_S.rf
  have hP : va_P G.1 vwCl (wX G ad S) s.heap := hP
  have hl := lv_entry ([.ref (G.2.2.2 (310 + sk)), .int (c_), .int (0)]) (n := 3) (Nat.le_of_ble_eq_true rfl)
  rw [lg_entry_eq]
  generalize (lg_sl ([.ref (G.2.2.2 (310 + sk)), .int (c_), .int (0)]) ++ List.replicate (3 - (lg_sl ([.ref (G.2.2.2 (310 + sk)), .int (c_), .int (0)])).length) Slot.unset).toArray = ls at hl ⊢
  have hl : lv_has ls 3 [(0, .ref (G.2.2.2 (310 + sk))), (1, .int (c_)), (2, .int (0))] := hl
  refine W_abs (fun Q hQ => ?_)
  generalize ([.ref (G.2.2.2 (310 + sk)), .int (c_), .int (0)] : List Value).toArray = args at hT hQ ⊢
  have hs6 := lenS_6 hsk
  refine lv_aload_n hx hb (fk_get fk_cJ0_indexOf_7cf53_0 0 rfl) rfl (lv_at hl 0 rfl) ?_
  refine vp_callSi (W.runV (As := []) (rest := []) ⟨hx, hb, hml, hown, hT⟩ (c_jisLatin1 l G ad S s.heap.size (sk) (hsk) (hX)) (tV 0 hT m3_14 m3_15 m3_16 m1_19 m3_17 rfl rfl (by decide +kernel) ⟨Nat.le_of_ble_eq_true rfl, Nat.le_of_ble_eq_true rfl⟩) ⟨PcE_blind, vk_recv hE.2.2.2.2.1.1 hsk hS, PcE_of hP hK hD hE hS (fun q h => hFc q h) _⟩ rfl rfl hl.1 rfl (lv_room (Nat.le_of_ble_eq_true rfl)) (fk_get fk_cJ0_indexOf_7cf53_0 1 rfl) ⟨Nat.zero_le _, Nat.zero_le _⟩) (fun r_1 hw_2 => ?_)
  try dsimp only at hw_2
  subst hw_2
  refine lv_if_eq (tgt := 23) hx hb (fk_get fk_cJ0_indexOf_7cf53_0 2 rfl) (by decide) (fun c_3 => absurd c_3 ((by decide))) (fun _ => ?_)
  refine lv_aload_n hx hb (fk_get fk_cJ0_indexOf_7cf53_0 3 rfl) rfl (lv_at hl 0 rfl) ?_
  refine vk_getf (v := .ref (G.2.2.2 (320 + sk))) hx hb (hE.2.2.2.2.1.1.1 sk hsk).2.2.1 hS hown (hT _ m7_221) (fun _ h9 => h9) (fk_get fk_cJ0_indexOf_7cf53_0 4 rfl) ?_
  refine lv_iload_n hx hb (fk_get fk_cJ0_indexOf_7cf53_0 5 rfl) rfl (lv_at hl 1 rfl) ?_
  refine lv_iload_n hx hb (fk_get fk_cJ0_indexOf_7cf53_0 6 rfl) rfl (lv_at hl 2 rfl) ?_
  refine lv_aload_n hx hb (fk_get fk_cJ0_indexOf_7cf53_0 7 rfl) rfl (lv_at hl 0 rfl) ?_
  refine vp_callSi (W.runV (As := []) (rest := [.int (0), .int (c_), .ref (G.2.2.2 (320 + sk))]) ⟨hx, hb, hml, hown, hT⟩ (c_jslen l G ad S s.heap.size (sk) (hsk) (hX)) (tV 0 hT m3_85 m3_1 m3_2 m1_19 m3_3 rfl rfl (by decide +kernel) ⟨Nat.le_of_ble_eq_true rfl, Nat.le_of_ble_eq_true rfl⟩) ⟨PcE_blind, vk_recv hE.2.2.2.2.1.1 hsk hS, PcE_of hP hK hD hE hS (fun q h => hFc q h) _⟩ rfl rfl hl.1 rfl (lv_room (Nat.le_of_ble_eq_true rfl)) (fk_get fk_cJ0_indexOf_7cf53_0 8 rfl) ⟨Nat.zero_le _, Nat.zero_le _⟩) (fun r_4 hw_5 => ?_)
  try dsimp only at hw_5
  subst hw_5
  refine vp_callSi (W.runS (As := [.ref (G.2.2.2 (320 + sk)), .int (c_), .int (0), .int ((nI (lenS.getD sk 0)))]) (rest := []) ⟨hx, hb, hml, hown, hT⟩ (c_jlix l G ad S s.heap.size (sk) (c_) (hsk) (hX)) (tS 4 hT m3_86 m3_87 m1_20 m3_88 rfl rfl (by decide +kernel) ⟨Nat.le_of_ble_eq_true rfl, Nat.le_of_ble_eq_true rfl⟩) ⟨PcE_blind, PcE_of hP hK hD hE hS (fun q h => hFc q h) _⟩ rfl rfl hl.1 rfl (lv_room (Nat.le_of_ble_eq_true rfl)) (fk_get fk_cJ0_indexOf_7cf53_0 9 rfl) ⟨Nat.zero_le _, Nat.zero_le _⟩) (fun r_6 hw_7 => ?_)
  try dsimp only at hw_7
  refine lv_goto (tgt := 36) hx hb (fk_get fk_cJ0_indexOf_7cf53_0 10 rfl) (by decide) ?_
  subst hQ
  have hpost : True := by
    trivial
  exact W.iret (v := r_6) hx hb hr (fun t_ ht_ hW_ => ⟨r_6, rfl, hpost, ht_⟩) (fun q h => by cases h) (fk_get fk_cJ0_indexOf_7cf53_0 11 rfl)
set_option maxHeartbeats 800000 in
set_option maxRecDepth 100000 in
theorem c_jix1 (l : Launch) (G : GG) (ad : Nat → Nat) (S : FS) (sz : Nat) (sk : Nat) (c_ : Int32) (hsk : sk < 6) (hX : XI S) : Met l yJ0_indexOf_0f7a4 (Cond.code yJ0_indexOf_0f7a4 cJ0_indexOf_0f7a4 2 (some .int) :: TBL) ({ frames := 5, cells := 0, slots := 0, locals := 146 } : Room) (PcE G (wX G ad S) sz [.ref (G.2.2.2 (310 + sk)), .int (c_)]) (vp_Si (fun (r : Int32) => True)) 0 0 (fun _ => False) := by
  refine va_MetF (cc := cJ0_indexOf_0f7a4) (maxL := 2) (ret := (some .int)) (by decide +kernel) rfl ?_
  intro p e s m args below meth c₀ s₁ B hml hv
  obtain ⟨rfl, hsz, hP, hK, hD0, hE⟩ := hv
  have hx := B.exec
  have hb := B.bytes
  have hr := B.returns
  have hT : ∀ w ∈ TBL, w.before ([.ref (G.2.2.2 (310 + sk)), .int (c_)] : List Value).toArray s = true := fun w h => atoms_spec (ws := Cond.code yJ0_indexOf_0f7a4 cJ0_indexOf_0f7a4 2 (some .int) :: TBL) B.pre w (List.mem_cons_of_mem _ h)
  have hown : s.vm.findClass "java/lang/String" = some m.cls := findClass_of_methodNamed B.named
  have hlocks := B.notSynchronized
  have hD := hD0
  subst hsz
  have hFc : ∀ q, va_A (wX G ad S) s.heap.size q → va_A (wX G ad S) s.heap.size q := fun _ h => h
  have hS : va_S (va_A (wX G ad S) s.heap.size) s.heap s.heap [] := va_S.rf
  have hP : va_P G.1 vwCl (wX G ad S) s.heap := hP
  have hl := lv_entry ([.ref (G.2.2.2 (310 + sk)), .int (c_)]) (n := 2) (Nat.le_of_ble_eq_true rfl)
  rw [lg_entry_eq]
  generalize (lg_sl ([.ref (G.2.2.2 (310 + sk)), .int (c_)]) ++ List.replicate (2 - (lg_sl ([.ref (G.2.2.2 (310 + sk)), .int (c_)])).length) Slot.unset).toArray = ls at hl ⊢
  have hl : lv_has ls 2 [(0, .ref (G.2.2.2 (310 + sk))), (1, .int (c_))] := hl
  refine W_abs (fun Q hQ => ?_)
  generalize ([.ref (G.2.2.2 (310 + sk)), .int (c_)] : List Value).toArray = args at hT hQ ⊢
  have hs6 := lenS_6 hsk
  refine lv_aload_n hx hb (fk_get fk_cJ0_indexOf_0f7a4_0 0 rfl) rfl (lv_at hl 0 rfl) ?_
  refine lv_iload_n hx hb (fk_get fk_cJ0_indexOf_0f7a4_0 1 rfl) rfl (lv_at hl 1 rfl) ?_
  refine lv_iconst (v := 0) hx hb (fk_get fk_cJ0_indexOf_0f7a4_0 2 rfl) (by decide) ?_
  refine vp_callSi (W.runV (As := [.int (c_), .int (0)]) (rest := []) ⟨hx, hb, hml, hown, hT⟩ (c_jix2 l G ad S s.heap.size (sk) (c_) (hsk) (hX)) (tV 2 hT m3_81 m3_82 m3_83 m1_19 m3_84 rfl rfl (by decide +kernel) ⟨Nat.le_of_ble_eq_true rfl, Nat.le_of_ble_eq_true rfl⟩) ⟨PcE_blind, vk_recv hE.2.2.2.2.1.1 hsk hS, PcE_of hP hK hD hE hS (fun q h => hFc q h) _⟩ rfl rfl hl.1 rfl (lv_room (Nat.le_of_ble_eq_true rfl)) (fk_get fk_cJ0_indexOf_0f7a4_0 3 rfl) ⟨Nat.zero_le _, Nat.zero_le _⟩) (fun r_1 hw_2 => ?_)
  try dsimp only at hw_2
  subst hQ
  have hpost : True := by
    trivial
  exact W.iret (v := r_1) hx hb hr (fun t_ ht_ hW_ => ⟨r_1, rfl, hpost, ht_⟩) (fun q h => by cases h) (fk_get fk_cJ0_indexOf_0f7a4_0 4 rfl)
theorem sa_nat {x : Int32} {n : Nat} (h0 : ¬ x < 0) (h1 : x < nI n) (hn : n ≤ 100) : ∃ j, j < n ∧ x = nI j := by
  obtain ⟨j, hj, rfl⟩ := nI_of (x := x) h0
  exact ⟨j, ci_lt hj (by omega) h1, rfl⟩
set_option maxHeartbeats 800000 in
set_option maxRecDepth 100000 in
theorem c_x9_signAt (l : Launch) (G : GG) (ad : Nat → Nat) (S : FS) (sz : Nat) (x : Int32) (hX : XI S) : Met l yX9_signAt (Cond.code yX9_signAt cX9_signAt 2 (some .int) :: TBL) ({ frames := 2, cells := 0, slots := 0, locals := 64 } : Room) (PcW G (wX G ad S) sz [.ref (ad 57), .int (x)]) (vp_Si (fun (r : Int32) => True)) 0 0 (fun _ => False) := by
  refine Met.ofW (cc := cX9_signAt) (maxL := 2) (ret := (some .int)) (by decide) rfl ?_
  intro p e s m args below meth c₀ s₁ B hml hv
  obtain ⟨rfl, hsz, hP, hK, hD0⟩ := hv
  have hx := B.exec
  have hb := B.bytes
  have hr := B.returns
  have hT : ∀ w ∈ TBL, w.before ([.ref (ad 57), .int (x)] : List Value).toArray s = true := fun w h => atoms_spec (ws := Cond.code yX9_signAt cX9_signAt 2 (some .int) :: TBL) B.pre w (List.mem_cons_of_mem _ h)
  have hown : s.vm.findClass "LittleMore$Text" = some m.cls := findClass_of_methodNamed B.named
  have hlocks := B.notSynchronized
  have hD := hD0
  have hP : va_P G.1 vwCl (wX G ad S) s.heap := hP
  have hl := lv_entry ([.ref (ad 57), .int (x)]) (n := 2) (Nat.le_of_ble_eq_true rfl)
  rw [lg_entry_eq]
  generalize (lg_sl ([.ref (ad 57), .int (x)]) ++ List.replicate (2 - (lg_sl ([.ref (ad 57), .int (x)])).length) Slot.unset).toArray = ls at hl ⊢
  have hl : lv_has ls 2 [(0, .ref (ad 57)), (1, .int (x))] := hl
  refine W_abs (fun Q hQ => ?_)
  generalize ([.ref (ad 57), .int (x)] : List Value).toArray = args at hT hQ ⊢
  refine lv_iload_n hx hb (fk_get fk_cX9_signAt_0 0 rfl) rfl (lv_at hl 1 rfl) ?_
  refine lv_if_lt (tgt := 21) hx hb (fk_get fk_cX9_signAt_0 1 rfl) (by decide) (fun c_1 => ?_) (fun c_1 => ?_)
  · refine lv_iconst (v := (-1)) hx hb (fk_get fk_cX9_signAt_0 11 rfl) (by decide) ?_
    subst hQ
    have hpost : True := by
      trivial
    exact W.iret (v := (-1)) hx hb hr (fun t_ ht_ hW_ => ⟨(-1), rfl, hpost, ht_⟩) (fun q h => by cases h) (fk_get fk_cX9_signAt_0 12 rfl)
  refine lv_iload_n hx hb (fk_get fk_cX9_signAt_0 2 rfl) rfl (lv_at hl 1 rfl) ?_
  refine lv_aload_n hx hb (fk_get fk_cX9_signAt_0 3 rfl) rfl (lv_at hl 0 rfl) ?_
  refine va_get (D := G.1) (ci := 11) (v := .int (fF S 57 1)) (C := RX9) (T := TX9) (N := 9) hx hb hT inX9 hown hK hP 57 (ix_at (lt71 (by omega)) (cX_text G ad S)) rfl 1 (by decide) (hT _ m2_3) (fun _ h9 => h9) rfl (fk_get fk_cX9_signAt_0 4 rfl) ?_
  obtain ⟨n_2, en_2, bn_2⟩ := XI.tlen hX
  rw [en_2]
  refine lv_icmp_ge (tgt := 21) hx hb (fk_get fk_cX9_signAt_0 5 rfl) (by decide) (fun c_3 => ?_) (fun c_3 => ?_)
  · refine lv_iconst (v := (-1)) hx hb (fk_get fk_cX9_signAt_0 11 rfl) (by decide) ?_
    subst hQ
    have hpost : True := by
      trivial
    exact W.iret (v := (-1)) hx hb hr (fun t_ ht_ hW_ => ⟨(-1), rfl, hpost, ht_⟩) (fun q h => by cases h) (fk_get fk_cX9_signAt_0 12 rfl)
  obtain ⟨j, hj, ej⟩ := sa_nat (by assumption) (Int32.not_le.mp c_3) (by omega)
  refine lv_aload_n hx hb (fk_get fk_cX9_signAt_0 6 rfl) rfl (lv_at hl 0 rfl) ?_
  refine va_get (D := G.1) (ci := 11) (v := .ref (ad 58)) (C := RX9) (T := TX9) (N := 9) hx hb hT inX9 hown hK hP 57 (ix_at (lt71 (by omega)) (cX_text G ad S)) rfl 0 (by decide) (hT _ m2_1) (fun _ h9 => h9) rfl (fk_get fk_cX9_signAt_0 7 rfl) ?_
  refine lv_iload_n hx hb (fk_get fk_cX9_signAt_0 8 rfl) rfl (lv_at hl 1 rfl) ?_
  refine r_bald (f := fA S 58) hx hb hK hP 58 2 (ix_at (lt71 (by omega)) (cX_arr (show isA 58 2 100 from by decide))) rfl (j := j) (ej) (by omega) (by decide) (fk_get fk_cX9_signAt_0 9 rfl) ?_
  refine lv_goto (tgt := 22) hx hb (fk_get fk_cX9_signAt_0 10 rfl) (by decide) ?_
  subst hQ
  have hpost : True := by
    trivial
  exact W.iret (v := (fA S 58 j)) hx hb hr (fun t_ ht_ hW_ => ⟨(fA S 58 j), rfl, hpost, ht_⟩) (fun q h => by cases h) (fk_get fk_cX9_signAt_0 12 rfl)
set_option maxHeartbeats 800000 in
set_option maxRecDepth 100000 in
theorem c_x9_takes (l : Launch) (G : GG) (ad : Nat → Nat) (S : FS) (sz : Nat) (c_ : Int32) (hX : XI S) : Met l yX9_takes (Cond.code yX9_takes cX9_takes 2 (some .boolean) :: TBL) ({ frames := 3, cells := 0, slots := 0, locals := 89 } : Room) (PcW G (wX G ad S) sz [.ref (ad 57), .int (c_)]) (va_Qi (fun (r : Int32) (S' : FS) => XI S' ∧ Fr (fun j k => (j = 57 ∧ (k = 2 ∨ k = 3 ∨ k = 4 ∨ k = 7 ∨ k = 8)) ∨ ((j = 59 ∨ j = 60) ∧ k = 99)) S S' ∧ (r = 0 ∨ r = 1)) (fun S' t => BW G (va_A (wX G ad S) sz) (wX G ad S') t) (va_A (wX G ad S) sz)) 0 0 (va_A (wX G ad S) sz) := by
  refine Met.ofW (cc := cX9_takes) (maxL := 2) (ret := (some .boolean)) (by decide) rfl ?_
  intro p e s m args below meth c₀ s₁ B hml hv
  obtain ⟨rfl, hsz, hP, hK, hD0⟩ := hv
  have hx := B.exec
  have hb := B.bytes
  have hr := B.returns
  have hT : ∀ w ∈ TBL, w.before ([.ref (ad 57), .int (c_)] : List Value).toArray s = true := fun w h => atoms_spec (ws := Cond.code yX9_takes cX9_takes 2 (some .boolean) :: TBL) B.pre w (List.mem_cons_of_mem _ h)
  have hown : s.vm.findClass "LittleMore$Text" = some m.cls := findClass_of_methodNamed B.named
  have hlocks := B.notSynchronized
  subst hsz
  have hD := hD0.self (sz := s.heap.size)
  generalize hAe : va_A (wX G ad S) s.heap.size = A at hD ⊢
  have hA : ∀ q : Nat, s.heap.size ≤ q → A q := fun q h => by rw [← hAe]; exact Or.inr h
  have hS : va_S A s.heap s.heap [] := va_S.rf
  have hP : va_P G.1 vwCl (wX G ad S) s.heap := hP
  have hl := lv_entry ([.ref (ad 57), .int (c_)]) (n := 2) (Nat.le_of_ble_eq_true rfl)
  rw [lg_entry_eq]
  generalize (lg_sl ([.ref (ad 57), .int (c_)]) ++ List.replicate (2 - (lg_sl ([.ref (ad 57), .int (c_)])).length) Slot.unset).toArray = ls at hl ⊢
  have hl : lv_has ls 2 [(0, .ref (ad 57)), (1, .int (c_))] := hl
  refine W_abs (fun Q hQ => ?_)
  generalize ([.ref (ad 57), .int (c_)] : List Value).toArray = args at hT hQ ⊢
  refine lv_aload_n hx hb (fk_get fk_cX9_takes_0 0 rfl) rfl (lv_at hl 0 rfl) ?_
  refine lv_aload_n hx hb (fk_get fk_cX9_takes_0 1 rfl) rfl (lv_at hl 0 rfl) ?_
  refine va_get (D := G.1) (ci := 11) (v := .int (fF S 57 2)) (C := RX9) (T := TX9) (N := 9) hx hb hT inX9 hown hK hP 57 (ix_at (lt71 (by omega)) (cX_text G ad S)) rfl 2 (by decide) (hT _ m2_5) (fun _ h9 => h9) rfl (fk_get fk_cX9_takes_0 2 rfl) ?_
  refine vp_callSi (W.runV (As := [.int ((fF S 57 2))]) (rest := []) ⟨hx, hb, hml, hown, hT⟩ (c_x9_signAt l G ad S s.heap.size ((fF S 57 2)) (hX)) (tV 1 hT m2_217 m2_219 mp_1 m1_12 m2_220 rfl rfl (by decide +kernel) ⟨Nat.le_of_ble_eq_true rfl, Nat.le_of_ble_eq_true rfl⟩) ⟨PcW_blind, va_recv hK hP (ci := 11) (q0 := 57) rfl (ix_at (lt71 (by omega)) (cX_text G ad S)), PcW_of hP hK hD _⟩ rfl rfl hl.1 rfl (lv_room (Nat.le_of_ble_eq_true rfl)) (fk_get fk_cX9_takes_0 3 rfl) ⟨Nat.zero_le _, Nat.zero_le _⟩) (fun r_1 hw_2 => ?_)
  try dsimp only at hw_2
  refine lv_iload_n hx hb (fk_get fk_cX9_takes_0 4 rfl) rfl (lv_at hl 1 rfl) ?_
  refine lv_icmp_eq (tgt := 14) hx hb (fk_get fk_cX9_takes_0 5 rfl) (by decide) (fun c_3 => ?_) (fun c_3 => ?_)
  · refine lv_aload_n hx hb (fk_get fk_cX9_takes_0 8 rfl) rfl (lv_at hl 0 rfl) ?_
    refine lv_dup hx hb (fk_get fk_cX9_takes_0 9 rfl) rfl ?_
    refine va_get (D := G.1) (ci := 11) (v := .int (fF S 57 2)) (C := RX9) (T := TX9) (N := 9) hx hb hT inX9 hown hK hP 57 (ix_at (lt71 (by omega)) (cX_text G ad S)) rfl 2 (by decide) (hT _ m2_5) (fun _ h9 => h9) rfl (fk_get fk_cX9_takes_0 10 rfl) ?_
    refine lv_iconst (v := 1) hx hb (fk_get fk_cX9_takes_0 11 rfl) (by decide) ?_
    refine lv_iadd hx hb (fk_get fk_cX9_takes_0 12 rfl) ?_
    refine va_put (D := G.1) (ci := 11) (v := .int (((fF S 57 2) + 1))) (ty := .int) (C := RX9) (T := TX9) (N := 9) hx hb hT inX9 tyX9 tyX9_ok nmX9 hown hK hP hD hS 57 (ix_at (lt71 (by omega)) (cX_text G ad S)) rfl 2 (by decide) (hT _ m2_5) (fun _ h9 => h9) rfl (by decide +kernel) rfl rfl (Nat.le_of_ble_eq_true rfl) (fk_get fk_cX9_takes_0 13 rfl) (fun H locs hP hD hS => ?_)
    rw [pX_text_2 (S := S) (((fF S 57 2) + 1))] at hP hD
    have hX_4 : XI (setF S 57 2 (((fF S 57 2) + 1))) := XI.sF hX _ ⟨by omega, by omega, by omega, by omega, by omega, by omega, by omega, by omega⟩
    have hF_5 : Fr (fun j k => (j = 57 ∧ (k = 2 ∨ k = 3 ∨ k = 4 ∨ k = 7 ∨ k = 8)) ∨ ((j = 59 ∨ j = 60) ∧ k = 99)) S (setF S 57 2 (((fF S 57 2) + 1))) := Fr.sF (Fr.rf : Fr (fun j k => (j = 57 ∧ (k = 2 ∨ k = 3 ∨ k = 4 ∨ k = 7 ∨ k = 8)) ∨ ((j = 59 ∨ j = 60) ∧ k = 99)) S S) (by omega)
    refine lv_iconst (v := 1) hx hb (fk_get fk_cX9_takes_0 14 rfl) (by decide) ?_
    subst hQ
    have hpost : XI (setF S 57 2 (((fF S 57 2) + 1))) ∧ Fr (fun j k => (j = 57 ∧ (k = 2 ∨ k = 3 ∨ k = 4 ∨ k = 7 ∨ k = 8)) ∨ ((j = 59 ∨ j = 60) ∧ k = 99)) S (setF S 57 2 (((fF S 57 2) + 1))) ∧ ((1 : Int32) = 0 ∨ (1 : Int32) = 1) := by
      exact ⟨hX_4, hF_5, (by first | exact Or.inl rfl | exact Or.inr rfl)⟩
    exact W.zret (v := 1) hx hb hr rfl (fun t_ ht_ hW_ => ⟨⟨1, (setF S 57 2 (((fF S 57 2) + 1))), rfl, hpost, by rw [ht_]; exact hP, va_K.moved hW_.alike hK, hD⟩, hS.F ht_⟩) hS.2.2 (fk_get fk_cX9_takes_0 15 rfl)
  refine lv_iconst (v := 0) hx hb (fk_get fk_cX9_takes_0 6 rfl) (by decide) ?_
  subst hQ
  have hpost : XI S ∧ Fr (fun j k => (j = 57 ∧ (k = 2 ∨ k = 3 ∨ k = 4 ∨ k = 7 ∨ k = 8)) ∨ ((j = 59 ∨ j = 60) ∧ k = 99)) S S ∧ ((0 : Int32) = 0 ∨ (0 : Int32) = 1) := by
    exact ⟨hX, (Fr.rf : Fr (fun j k => (j = 57 ∧ (k = 2 ∨ k = 3 ∨ k = 4 ∨ k = 7 ∨ k = 8)) ∨ ((j = 59 ∨ j = 60) ∧ k = 99)) S S), (by first | exact Or.inl rfl | exact Or.inr rfl)⟩
  exact W.zret (v := 0) hx hb hr rfl (fun t_ ht_ hW_ => ⟨⟨0, S, rfl, hpost, by rw [ht_]; exact hP, va_K.moved hW_.alike hK, hD⟩, hS.F ht_⟩) hS.2.2 (fk_get fk_cX9_takes_0 7 rfl)
set_option maxHeartbeats 800000 in
set_option maxRecDepth 100000 in
theorem c_x9_putCode (l : Launch) (G : GG) (ad : Nat → Nat) (S : FS) (sz : Nat) (c_ x : Int32) (hX : XI S) : Met l yX9_putCode (Cond.code yX9_putCode cX9_putCode 3 (some .boolean) :: TBL) ({ frames := 2, cells := 0, slots := 0, locals := 64 } : Room) (PcW G (wX G ad S) sz [.ref (ad 57), .int (c_), .int (x)]) (va_Qi (fun (r : Int32) (S' : FS) => XI S' ∧ Fr (fun j k => (j = 57 ∧ (k = 2 ∨ k = 3 ∨ k = 4 ∨ k = 7 ∨ k = 8)) ∨ ((j = 59 ∨ j = 60) ∧ k = 99)) S S' ∧ (r = 0 ∨ r = 1)) (fun S' t => BW G (va_A (wX G ad S) sz) (wX G ad S') t) (va_A (wX G ad S) sz)) 0 0 (va_A (wX G ad S) sz) := by
  refine Met.ofW (cc := cX9_putCode) (maxL := 3) (ret := (some .boolean)) (by decide) rfl ?_
  intro p e s m args below meth c₀ s₁ B hml hv
  obtain ⟨rfl, hsz, hP, hK, hD0⟩ := hv
  have hx := B.exec
  have hb := B.bytes
  have hr := B.returns
  have hT : ∀ w ∈ TBL, w.before ([.ref (ad 57), .int (c_), .int (x)] : List Value).toArray s = true := fun w h => atoms_spec (ws := Cond.code yX9_putCode cX9_putCode 3 (some .boolean) :: TBL) B.pre w (List.mem_cons_of_mem _ h)
  have hown : s.vm.findClass "LittleMore$Text" = some m.cls := findClass_of_methodNamed B.named
  have hlocks := B.notSynchronized
  subst hsz
  have hD := hD0.self (sz := s.heap.size)
  generalize hAe : va_A (wX G ad S) s.heap.size = A at hD ⊢
  have hA : ∀ q : Nat, s.heap.size ≤ q → A q := fun q h => by rw [← hAe]; exact Or.inr h
  have hS : va_S A s.heap s.heap [] := va_S.rf
  have hP : va_P G.1 vwCl (wX G ad S) s.heap := hP
  have hl := lv_entry ([.ref (ad 57), .int (c_), .int (x)]) (n := 3) (Nat.le_of_ble_eq_true rfl)
  rw [lg_entry_eq]
  generalize (lg_sl ([.ref (ad 57), .int (c_), .int (x)]) ++ List.replicate (3 - (lg_sl ([.ref (ad 57), .int (c_), .int (x)])).length) Slot.unset).toArray = ls at hl ⊢
  have hl : lv_has ls 3 [(0, .ref (ad 57)), (1, .int (c_)), (2, .int (x))] := hl
  refine W_abs (fun Q hQ => ?_)
  generalize ([.ref (ad 57), .int (c_), .int (x)] : List Value).toArray = args at hT hQ ⊢
  refine lv_aload_n hx hb (fk_get fk_cX9_putCode_0 0 rfl) rfl (lv_at hl 0 rfl) ?_
  refine va_get (D := G.1) (ci := 11) (v := .int (fF S 57 7)) (C := RX9) (T := TX9) (N := 9) hx hb hT inX9 hown hK hP 57 (ix_at (lt71 (by omega)) (cX_text G ad S)) rfl 7 (by decide) (hT _ m2_15) (fun _ h9 => h9) rfl (fk_get fk_cX9_putCode_0 1 rfl) ?_
  obtain ⟨n_1, en_1, bn_1⟩ := XI.ccnt hX
  rw [en_1]
  refine lv_bipush (v := 100) hx hb (fk_get fk_cX9_putCode_0 2 rfl) (by decide) ?_
  refine lv_icmp_lt (tgt := 11) hx hb (fk_get fk_cX9_putCode_0 3 rfl) (by decide) (fun c_2 => ?_) (fun c_2 => ?_)
  · have q_c_2 : n_1 < 100 := ci_lt (a := n_1) (b := 100) (by omega) (by omega) c_2
    refine lv_aload_n hx hb (fk_get fk_cX9_putCode_0 6 rfl) rfl (lv_at hl 0 rfl) ?_
    refine va_get (D := G.1) (ci := 11) (v := .ref (ad 59)) (C := RX9) (T := TX9) (N := 9) hx hb hT inX9 hown hK hP 57 (ix_at (lt71 (by omega)) (cX_text G ad S)) rfl 5 (by decide) (hT _ m2_11) (fun _ h9 => h9) rfl (fk_get fk_cX9_putCode_0 7 rfl) ?_
    refine lv_aload_n hx hb (fk_get fk_cX9_putCode_0 8 rfl) rfl (lv_at hl 0 rfl) ?_
    refine va_get (D := G.1) (ci := 11) (v := .int (fF S 57 7)) (C := RX9) (T := TX9) (N := 9) hx hb hT inX9 hown hK hP 57 (ix_at (lt71 (by omega)) (cX_text G ad S)) rfl 7 (by decide) (hT _ m2_15) (fun _ h9 => h9) rfl (fk_get fk_cX9_putCode_0 9 rfl) ?_
    rw [en_1]
    refine lv_iload_n hx hb (fk_get fk_cX9_putCode_0 10 rfl) rfl (lv_at hl 1 rfl) ?_
    refine r_iast hx hb hK hP hD hS 59 0 (ix_at (lt71 (by omega)) (cX_arr (show isA 59 0 100 from by decide))) rfl (j := n_1) (rfl) (by omega) (by decide) (fk_get fk_cX9_putCode_0 11 rfl) (fun H locs hP hD hS => ?_)
    rw [pX_arr (G := G) (ad := ad) (S := S) (lt71 (by omega)) (show isA 59 0 100 from by decide) (upd (fA S 59) n_1 (c_))] at hP hD
    have hX_3 : XI (setA S 59 (upd (fA S 59) n_1 (c_))) := XI.sA hX _ (by omega)
    have hF_4 : Fr (fun j k => (j = 57 ∧ (k = 2 ∨ k = 3 ∨ k = 4 ∨ k = 7 ∨ k = 8)) ∨ ((j = 59 ∨ j = 60) ∧ k = 99)) S (setA S 59 (upd (fA S 59) n_1 (c_))) := Fr.sA (Fr.rf : Fr (fun j k => (j = 57 ∧ (k = 2 ∨ k = 3 ∨ k = 4 ∨ k = 7 ∨ k = 8)) ∨ ((j = 59 ∨ j = 60) ∧ k = 99)) S S) (by omega)
    refine lv_aload_n hx hb (fk_get fk_cX9_putCode_0 12 rfl) rfl (lv_at hl 0 rfl) ?_
    refine va_get (D := G.1) (ci := 11) (v := .ref (ad 60)) (C := RX9) (T := TX9) (N := 9) hx hb hT inX9 hown hK hP 57 (ix_at (lt71 (by omega)) (cX_text G ad (setA S 59 (upd (fA S 59) n_1 (c_))))) rfl 6 (by decide) (hT _ m2_13) (fun _ h9 => h9) rfl (fk_get fk_cX9_putCode_0 13 rfl) ?_
    refine lv_aload_n hx hb (fk_get fk_cX9_putCode_0 14 rfl) rfl (lv_at hl 0 rfl) ?_
    refine va_get (D := G.1) (ci := 11) (v := .int (fF (setA S 59 (upd (fA S 59) n_1 (c_))) 57 7)) (C := RX9) (T := TX9) (N := 9) hx hb hT inX9 hown hK hP 57 (ix_at (lt71 (by omega)) (cX_text G ad (setA S 59 (upd (fA S 59) n_1 (c_))))) rfl 7 (by decide) (hT _ m2_15) (fun _ h9 => h9) rfl (fk_get fk_cX9_putCode_0 15 rfl) ?_
    rw [show fF (setA S 59 (upd (fA S 59) n_1 (c_))) 57 7 = (fF S 57 7) from by simp [fF_setF, fF_setR, fF_setA, fF_setL]]
    rw [en_1]
    refine lv_iload_n hx hb (fk_get fk_cX9_putCode_0 16 rfl) rfl (lv_at hl 2 rfl) ?_
    refine r_iast hx hb hK hP hD hS 60 0 (ix_at (lt71 (by omega)) (cX_arr (show isA 60 0 100 from by decide))) rfl (j := n_1) (rfl) (by omega) (by decide) (fk_get fk_cX9_putCode_0 17 rfl) (fun H locs hP hD hS => ?_)
    rw [pX_arr (G := G) (ad := ad) (S := (setA S 59 (upd (fA S 59) n_1 (c_)))) (lt71 (by omega)) (show isA 60 0 100 from by decide) (upd (fA (setA S 59 (upd (fA S 59) n_1 (c_))) 60) n_1 (x))] at hP hD
    have hX_5 : XI (setA (setA S 59 (upd (fA S 59) n_1 (c_))) 60 (upd (fA (setA S 59 (upd (fA S 59) n_1 (c_))) 60) n_1 (x))) := XI.sA hX_3 _ (by omega)
    have hF_6 : Fr (fun j k => (j = 57 ∧ (k = 2 ∨ k = 3 ∨ k = 4 ∨ k = 7 ∨ k = 8)) ∨ ((j = 59 ∨ j = 60) ∧ k = 99)) S (setA (setA S 59 (upd (fA S 59) n_1 (c_))) 60 (upd (fA (setA S 59 (upd (fA S 59) n_1 (c_))) 60) n_1 (x))) := Fr.sA hF_4 (by omega)
    refine lv_aload_n hx hb (fk_get fk_cX9_putCode_0 18 rfl) rfl (lv_at hl 0 rfl) ?_
    refine lv_dup hx hb (fk_get fk_cX9_putCode_0 19 rfl) rfl ?_
    refine va_get (D := G.1) (ci := 11) (v := .int (fF (setA (setA S 59 (upd (fA S 59) n_1 (c_))) 60 (upd (fA (setA S 59 (upd (fA S 59) n_1 (c_))) 60) n_1 (x))) 57 7)) (C := RX9) (T := TX9) (N := 9) hx hb hT inX9 hown hK hP 57 (ix_at (lt71 (by omega)) (cX_text G ad (setA (setA S 59 (upd (fA S 59) n_1 (c_))) 60 (upd (fA (setA S 59 (upd (fA S 59) n_1 (c_))) 60) n_1 (x))))) rfl 7 (by decide) (hT _ m2_15) (fun _ h9 => h9) rfl (fk_get fk_cX9_putCode_0 20 rfl) ?_
    rw [show fF (setA (setA S 59 (upd (fA S 59) n_1 (c_))) 60 (upd (fA (setA S 59 (upd (fA S 59) n_1 (c_))) 60) n_1 (x))) 57 7 = (fF S 57 7) from by simp [fF_setF, fF_setR, fF_setA, fF_setL]]
    rw [en_1]
    refine lv_iconst (v := 1) hx hb (fk_get fk_cX9_putCode_0 21 rfl) (by decide) ?_
    refine lv_iadd hx hb (fk_get fk_cX9_putCode_0 22 rfl) ?_
    rw [show ((nI n_1) + 1) = (nI (n_1 + 1)) from (nI_1 n_1)]
    refine va_put (D := G.1) (ci := 11) (v := .int ((nI (n_1 + 1)))) (ty := .int) (C := RX9) (T := TX9) (N := 9) hx hb hT inX9 tyX9 tyX9_ok nmX9 hown hK hP hD hS 57 (ix_at (lt71 (by omega)) (cX_text G ad (setA (setA S 59 (upd (fA S 59) n_1 (c_))) 60 (upd (fA (setA S 59 (upd (fA S 59) n_1 (c_))) 60) n_1 (x))))) rfl 7 (by decide) (hT _ m2_15) (fun _ h9 => h9) rfl (by decide +kernel) rfl rfl (Nat.le_of_ble_eq_true rfl) (fk_get fk_cX9_putCode_0 23 rfl) (fun H locs hP hD hS => ?_)
    rw [pX_text_7 (S := (setA (setA S 59 (upd (fA S 59) n_1 (c_))) 60 (upd (fA (setA S 59 (upd (fA S 59) n_1 (c_))) 60) n_1 (x)))) ((nI (n_1 + 1)))] at hP hD
    have hX_7 : XI (setF (setA (setA S 59 (upd (fA S 59) n_1 (c_))) 60 (upd (fA (setA S 59 (upd (fA S 59) n_1 (c_))) 60) n_1 (x))) 57 7 ((nI (n_1 + 1)))) := XI.cc (n := (n_1 + 1)) hX_5 (by omega)
    have hF_8 : Fr (fun j k => (j = 57 ∧ (k = 2 ∨ k = 3 ∨ k = 4 ∨ k = 7 ∨ k = 8)) ∨ ((j = 59 ∨ j = 60) ∧ k = 99)) S (setF (setA (setA S 59 (upd (fA S 59) n_1 (c_))) 60 (upd (fA (setA S 59 (upd (fA S 59) n_1 (c_))) 60) n_1 (x))) 57 7 ((nI (n_1 + 1)))) := Fr.sF hF_6 (by omega)
    refine lv_iconst (v := 1) hx hb (fk_get fk_cX9_putCode_0 24 rfl) (by decide) ?_
    subst hQ
    have hpost : XI (setF (setA (setA S 59 (upd (fA S 59) n_1 (c_))) 60 (upd (fA (setA S 59 (upd (fA S 59) n_1 (c_))) 60) n_1 (x))) 57 7 ((nI (n_1 + 1)))) ∧ Fr (fun j k => (j = 57 ∧ (k = 2 ∨ k = 3 ∨ k = 4 ∨ k = 7 ∨ k = 8)) ∨ ((j = 59 ∨ j = 60) ∧ k = 99)) S (setF (setA (setA S 59 (upd (fA S 59) n_1 (c_))) 60 (upd (fA (setA S 59 (upd (fA S 59) n_1 (c_))) 60) n_1 (x))) 57 7 ((nI (n_1 + 1)))) ∧ ((1 : Int32) = 0 ∨ (1 : Int32) = 1) := by
      exact ⟨hX_7, hF_8, (by first | exact Or.inl rfl | exact Or.inr rfl)⟩
    exact W.zret (v := 1) hx hb hr rfl (fun t_ ht_ hW_ => ⟨⟨1, (setF (setA (setA S 59 (upd (fA S 59) n_1 (c_))) 60 (upd (fA (setA S 59 (upd (fA S 59) n_1 (c_))) 60) n_1 (x))) 57 7 ((nI (n_1 + 1)))), rfl, hpost, by rw [ht_]; exact hP, va_K.moved hW_.alike hK, hD⟩, hS.F ht_⟩) hS.2.2 (fk_get fk_cX9_putCode_0 25 rfl)
  have q_c_2 : 100 ≤ n_1 := ci_nlt (a := n_1) (b := 100) (by omega) (by omega) c_2
  refine lv_iconst (v := 0) hx hb (fk_get fk_cX9_putCode_0 4 rfl) (by decide) ?_
  subst hQ
  have hpost : XI S ∧ Fr (fun j k => (j = 57 ∧ (k = 2 ∨ k = 3 ∨ k = 4 ∨ k = 7 ∨ k = 8)) ∨ ((j = 59 ∨ j = 60) ∧ k = 99)) S S ∧ ((0 : Int32) = 0 ∨ (0 : Int32) = 1) := by
    exact ⟨hX, (Fr.rf : Fr (fun j k => (j = 57 ∧ (k = 2 ∨ k = 3 ∨ k = 4 ∨ k = 7 ∨ k = 8)) ∨ ((j = 59 ∨ j = 60) ∧ k = 99)) S S), (by first | exact Or.inl rfl | exact Or.inr rfl)⟩
  exact W.zret (v := 0) hx hb hr rfl (fun t_ ht_ hW_ => ⟨⟨0, S, rfl, hpost, by rw [ht_]; exact hP, va_K.moved hW_.alike hK, hD⟩, hS.F ht_⟩) hS.2.2 (fk_get fk_cX9_putCode_0 5 rfl)
set_option maxHeartbeats 800000 in
set_option maxRecDepth 100000 in
theorem c_x9_readNumber (l : Launch) (G : GG) (ad : Nat → Nat) (S : FS) (sz : Nat)  (hX : XI S) : Met l yX9_readNumber (Cond.code yX9_readNumber cX9_readNumber 1 (some .boolean) :: TBL) ({ frames := 3, cells := 0, slots := 0, locals := 89 } : Room) (PcW G (wX G ad S) sz [.ref (ad 57)]) (va_Qi (fun (r : Int32) (S' : FS) => XI S' ∧ Fr (fun j k => (j = 57 ∧ (k = 2 ∨ k = 3 ∨ k = 4 ∨ k = 7 ∨ k = 8)) ∨ ((j = 59 ∨ j = 60) ∧ k = 99)) S S' ∧ (r = 0 ∨ r = 1)) (fun S' t => BW G (va_A (wX G ad S) sz) (wX G ad S') t) (va_A (wX G ad S) sz)) 0 0 (va_A (wX G ad S) sz) := by
  refine Met.ofW (cc := cX9_readNumber) (maxL := 1) (ret := (some .boolean)) (by decide) rfl ?_
  intro p e s m args below meth c₀ s₁ B hml hv
  obtain ⟨rfl, hsz, hP, hK, hD0⟩ := hv
  have hx := B.exec
  have hb := B.bytes
  have hr := B.returns
  have hT : ∀ w ∈ TBL, w.before ([.ref (ad 57)] : List Value).toArray s = true := fun w h => atoms_spec (ws := Cond.code yX9_readNumber cX9_readNumber 1 (some .boolean) :: TBL) B.pre w (List.mem_cons_of_mem _ h)
  have hown : s.vm.findClass "LittleMore$Text" = some m.cls := findClass_of_methodNamed B.named
  have hlocks := B.notSynchronized
  subst hsz
  have hD := hD0.self (sz := s.heap.size)
  generalize hAe : va_A (wX G ad S) s.heap.size = A at hD ⊢
  have hA : ∀ q : Nat, s.heap.size ≤ q → A q := fun q h => by rw [← hAe]; exact Or.inr h
  have hS : va_S A s.heap s.heap [] := va_S.rf
  have hP : va_P G.1 vwCl (wX G ad S) s.heap := hP
  have hl := lv_entry ([.ref (ad 57)]) (n := 1) (Nat.le_of_ble_eq_true rfl)
  rw [lg_entry_eq]
  generalize (lg_sl ([.ref (ad 57)]) ++ List.replicate (1 - (lg_sl ([.ref (ad 57)])).length) Slot.unset).toArray = ls at hl ⊢
  have hl : lv_has ls 1 [(0, .ref (ad 57))] := hl
  refine W_abs (fun Q hQ => ?_)
  generalize ([.ref (ad 57)] : List Value).toArray = args at hT hQ ⊢
  refine lv_aload_n hx hb (fk_get fk_cX9_readNumber_0 0 rfl) rfl (lv_at hl 0 rfl) ?_
  refine lv_aload_n hx hb (fk_get fk_cX9_readNumber_0 1 rfl) rfl (lv_at hl 0 rfl) ?_
  refine va_get (D := G.1) (ci := 11) (v := .int (fF S 57 2)) (C := RX9) (T := TX9) (N := 9) hx hb hT inX9 hown hK hP 57 (ix_at (lt71 (by omega)) (cX_text G ad S)) rfl 2 (by decide) (hT _ m2_5) (fun _ h9 => h9) rfl (fk_get fk_cX9_readNumber_0 2 rfl) ?_
  refine vp_callSi (W.runV (As := [.int ((fF S 57 2))]) (rest := []) ⟨hx, hb, hml, hown, hT⟩ (c_x9_signAt l G ad S s.heap.size ((fF S 57 2)) (hX)) (tV 1 hT m2_217 m2_219 mp_1 m1_12 m2_220 rfl rfl (by decide +kernel) ⟨Nat.le_of_ble_eq_true rfl, Nat.le_of_ble_eq_true rfl⟩) ⟨PcW_blind, va_recv hK hP (ci := 11) (q0 := 57) rfl (ix_at (lt71 (by omega)) (cX_text G ad S)), PcW_of hP hK hD _⟩ rfl rfl hl.1 rfl (lv_room (Nat.le_of_ble_eq_true rfl)) (fk_get fk_cX9_readNumber_0 3 rfl) ⟨Nat.zero_le _, Nat.zero_le _⟩) (fun r_1 hw_2 => ?_)
  try dsimp only at hw_2
  refine vp_callSi (W.runS (As := [.int (r_1)]) (rest := []) ⟨hx, hb, hml, hown, hT⟩ (c_xisDigit l (r_1) ) (tS 1 hT m3_53 m3_54 m1_12 m3_55 rfl rfl (by decide +kernel) ⟨Nat.le_of_ble_eq_true rfl, Nat.le_of_ble_eq_true rfl⟩) ⟨PcN_blind, PcN_of _ _ _⟩ rfl rfl hl.1 rfl (lv_room (Nat.le_of_ble_eq_true rfl)) (fk_get fk_cX9_readNumber_0 4 rfl) ⟨Nat.zero_le _, Nat.zero_le _⟩) (fun r_3 hw_4 => ?_)
  try dsimp only at hw_4
  refine lv_if_ne (tgt := 16) hx hb (fk_get fk_cX9_readNumber_0 5 rfl) (by decide) (fun c_5 => ?_) (fun c_5 => ?_)
  · have p_c_5 := if1_t hw_4 c_5
    refine lv_aload_n hx hb (fk_get fk_cX9_readNumber_0 8 rfl) rfl (lv_at hl 0 rfl) ?_
    refine lv_aload_n hx hb (fk_get fk_cX9_readNumber_0 9 rfl) rfl (lv_at hl 0 rfl) ?_
    refine lv_aload_n hx hb (fk_get fk_cX9_readNumber_0 10 rfl) rfl (lv_at hl 0 rfl) ?_
    refine va_get (D := G.1) (ci := 11) (v := .int (fF S 57 2)) (C := RX9) (T := TX9) (N := 9) hx hb hT inX9 hown hK hP 57 (ix_at (lt71 (by omega)) (cX_text G ad S)) rfl 2 (by decide) (hT _ m2_5) (fun _ h9 => h9) rfl (fk_get fk_cX9_readNumber_0 11 rfl) ?_
    refine vp_callSi (W.runV (As := [.int ((fF S 57 2))]) (rest := [.ref (ad 57)]) ⟨hx, hb, hml, hown, hT⟩ (c_x9_signAt l G ad S s.heap.size ((fF S 57 2)) (hX)) (tV 1 hT m2_217 m2_219 mp_1 m1_12 m2_220 rfl rfl (by decide +kernel) ⟨Nat.le_of_ble_eq_true rfl, Nat.le_of_ble_eq_true rfl⟩) ⟨PcW_blind, va_recv hK hP (ci := 11) (q0 := 57) rfl (ix_at (lt71 (by omega)) (cX_text G ad S)), PcW_of hP hK hD _⟩ rfl rfl hl.1 rfl (lv_room (Nat.le_of_ble_eq_true rfl)) (fk_get fk_cX9_readNumber_0 12 rfl) ⟨Nat.zero_le _, Nat.zero_le _⟩) (fun r_6 hw_7 => ?_)
    try dsimp only at hw_7
    refine lv_bipush (v := 48) hx hb (fk_get fk_cX9_readNumber_0 13 rfl) (by decide) ?_
    refine lv_isub hx hb (fk_get fk_cX9_readNumber_0 14 rfl) ?_
    refine va_put (D := G.1) (ci := 11) (v := .int ((r_6 - 48))) (ty := .int) (C := RX9) (T := TX9) (N := 9) hx hb hT inX9 tyX9 tyX9_ok nmX9 hown hK hP hD hS 57 (ix_at (lt71 (by omega)) (cX_text G ad S)) rfl 8 (by decide) (hT _ m2_17) (fun _ h9 => h9) rfl (by decide +kernel) rfl rfl (Nat.le_of_ble_eq_true rfl) (fk_get fk_cX9_readNumber_0 15 rfl) (fun H locs hP hD hS => ?_)
    rw [pX_text_8 (S := S) ((r_6 - 48))] at hP hD
    have hX_8 : XI (setF S 57 8 ((r_6 - 48))) := XI.sF hX _ ⟨by omega, by omega, by omega, by omega, by omega, by omega, by omega, by omega⟩
    have hF_9 : Fr (fun j k => (j = 57 ∧ (k = 2 ∨ k = 3 ∨ k = 4 ∨ k = 7 ∨ k = 8)) ∨ ((j = 59 ∨ j = 60) ∧ k = 99)) S (setF S 57 8 ((r_6 - 48))) := Fr.sF (Fr.rf : Fr (fun j k => (j = 57 ∧ (k = 2 ∨ k = 3 ∨ k = 4 ∨ k = 7 ∨ k = 8)) ∨ ((j = 59 ∨ j = 60) ∧ k = 99)) S S) (by omega)
    refine lv_aload_n hx hb (fk_get fk_cX9_readNumber_0 16 rfl) rfl (lv_at hl 0 rfl) ?_
    refine lv_dup hx hb (fk_get fk_cX9_readNumber_0 17 rfl) rfl ?_
    refine va_get (D := G.1) (ci := 11) (v := .int (fF (setF S 57 8 ((r_6 - 48))) 57 2)) (C := RX9) (T := TX9) (N := 9) hx hb hT inX9 hown hK hP 57 (ix_at (lt71 (by omega)) (cX_text G ad (setF S 57 8 ((r_6 - 48))))) rfl 2 (by decide) (hT _ m2_5) (fun _ h9 => h9) rfl (fk_get fk_cX9_readNumber_0 18 rfl) ?_
    rw [show fF (setF S 57 8 ((r_6 - 48))) 57 2 = (fF S 57 2) from by simp [fF_setF, fF_setR, fF_setA, fF_setL]]
    refine lv_iconst (v := 1) hx hb (fk_get fk_cX9_readNumber_0 19 rfl) (by decide) ?_
    refine lv_iadd hx hb (fk_get fk_cX9_readNumber_0 20 rfl) ?_
    refine va_put (D := G.1) (ci := 11) (v := .int (((fF S 57 2) + 1))) (ty := .int) (C := RX9) (T := TX9) (N := 9) hx hb hT inX9 tyX9 tyX9_ok nmX9 hown hK hP hD hS 57 (ix_at (lt71 (by omega)) (cX_text G ad (setF S 57 8 ((r_6 - 48))))) rfl 2 (by decide) (hT _ m2_5) (fun _ h9 => h9) rfl (by decide +kernel) rfl rfl (Nat.le_of_ble_eq_true rfl) (fk_get fk_cX9_readNumber_0 21 rfl) (fun H locs hP hD hS => ?_)
    rw [pX_text_2 (S := (setF S 57 8 ((r_6 - 48)))) (((fF S 57 2) + 1))] at hP hD
    have hX_10 : XI (setF (setF S 57 8 ((r_6 - 48))) 57 2 (((fF S 57 2) + 1))) := XI.sF hX_8 _ ⟨by omega, by omega, by omega, by omega, by omega, by omega, by omega, by omega⟩
    have hF_11 : Fr (fun j k => (j = 57 ∧ (k = 2 ∨ k = 3 ∨ k = 4 ∨ k = 7 ∨ k = 8)) ∨ ((j = 59 ∨ j = 60) ∧ k = 99)) S (setF (setF S 57 8 ((r_6 - 48))) 57 2 (((fF S 57 2) + 1))) := Fr.sF hF_9 (by omega)
    refine lv_aload_n hx hb (fk_get fk_cX9_readNumber_0 22 rfl) rfl (lv_at hl 0 rfl) ?_
    refine lv_aload_n hx hb (fk_get fk_cX9_readNumber_0 23 rfl) rfl (lv_at hl 0 rfl) ?_
    refine va_get (D := G.1) (ci := 11) (v := .int (fF (setF (setF S 57 8 ((r_6 - 48))) 57 2 (((fF S 57 2) + 1))) 57 2)) (C := RX9) (T := TX9) (N := 9) hx hb hT inX9 hown hK hP 57 (ix_at (lt71 (by omega)) (cX_text G ad (setF (setF S 57 8 ((r_6 - 48))) 57 2 (((fF S 57 2) + 1))))) rfl 2 (by decide) (hT _ m2_5) (fun _ h9 => h9) rfl (fk_get fk_cX9_readNumber_0 24 rfl) ?_
    rw [show fF (setF (setF S 57 8 ((r_6 - 48))) 57 2 (((fF S 57 2) + 1))) 57 2 = ((fF S 57 2) + 1) from by simp [fF_setF, fF_setR, fF_setA, fF_setL]]
    refine vp_callSi (W.runV (As := [.int (((fF S 57 2) + 1))]) (rest := []) ⟨hx, hb, hml, hown, hT⟩ (c_x9_signAt l G ad (setF (setF S 57 8 ((r_6 - 48))) 57 2 (((fF S 57 2) + 1))) H.size (((fF S 57 2) + 1)) (hX_10)) (tV 1 hT m2_217 m2_219 mp_1 m1_12 m2_220 rfl rfl (by decide +kernel) ⟨Nat.le_of_ble_eq_true rfl, Nat.le_of_ble_eq_true rfl⟩) ⟨PcW_blind, va_recv hK hP (ci := 11) (q0 := 57) rfl (ix_at (lt71 (by omega)) (cX_text G ad (setF (setF S 57 8 ((r_6 - 48))) 57 2 (((fF S 57 2) + 1))))), PcW_of hP hK hD _⟩ rfl rfl hl.1 rfl (lv_room (Nat.le_of_ble_eq_true rfl)) (fk_get fk_cX9_readNumber_0 25 rfl) ⟨Nat.zero_le _, Nat.zero_le _⟩) (fun r_12 hw_13 => ?_)
    try dsimp only at hw_13
    refine vp_callSi (W.runS (As := [.int (r_12)]) (rest := []) ⟨hx, hb, hml, hown, hT⟩ (c_xisDigit l (r_12) ) (tS 1 hT m3_53 m3_54 m1_12 m3_55 rfl rfl (by decide +kernel) ⟨Nat.le_of_ble_eq_true rfl, Nat.le_of_ble_eq_true rfl⟩) ⟨PcN_blind, PcN_of _ _ _⟩ rfl rfl hl.1 rfl (lv_room (Nat.le_of_ble_eq_true rfl)) (fk_get fk_cX9_readNumber_0 26 rfl) ⟨Nat.zero_le _, Nat.zero_le _⟩) (fun r_14 hw_15 => ?_)
    try dsimp only at hw_15
    refine lv_if_eq (tgt := 88) hx hb (fk_get fk_cX9_readNumber_0 27 rfl) (by decide) (fun c_16 => ?_) (fun c_16 => ?_)
    · have p_c_16 := if1_f hw_15 c_16
      refine lv_iconst (v := 1) hx hb (fk_get fk_cX9_readNumber_1 15 rfl) (by decide) ?_
      subst hQ
      have hpost : XI (setF (setF S 57 8 ((r_6 - 48))) 57 2 (((fF S 57 2) + 1))) ∧ Fr (fun j k => (j = 57 ∧ (k = 2 ∨ k = 3 ∨ k = 4 ∨ k = 7 ∨ k = 8)) ∨ ((j = 59 ∨ j = 60) ∧ k = 99)) S (setF (setF S 57 8 ((r_6 - 48))) 57 2 (((fF S 57 2) + 1))) ∧ ((1 : Int32) = 0 ∨ (1 : Int32) = 1) := by
        exact ⟨hX_10, hF_11, (by first | exact Or.inl rfl | exact Or.inr rfl)⟩
      exact W.zret (v := 1) hx hb hr rfl (fun t_ ht_ hW_ => ⟨⟨1, (setF (setF S 57 8 ((r_6 - 48))) 57 2 (((fF S 57 2) + 1))), rfl, hpost, by rw [ht_]; exact hP, va_K.moved hW_.alike hK, hD⟩, hS.F ht_⟩) hS.2.2 (fk_get fk_cX9_readNumber_1 16 rfl)
    have p_c_16 := if1_t hw_15 c_16
    refine lv_aload_n hx hb (fk_get fk_cX9_readNumber_0 28 rfl) rfl (lv_at hl 0 rfl) ?_
    refine lv_aload_n hx hb (fk_get fk_cX9_readNumber_0 29 rfl) rfl (lv_at hl 0 rfl) ?_
    refine va_get (D := G.1) (ci := 11) (v := .int (fF (setF (setF S 57 8 ((r_6 - 48))) 57 2 (((fF S 57 2) + 1))) 57 8)) (C := RX9) (T := TX9) (N := 9) hx hb hT inX9 hown hK hP 57 (ix_at (lt71 (by omega)) (cX_text G ad (setF (setF S 57 8 ((r_6 - 48))) 57 2 (((fF S 57 2) + 1))))) rfl 8 (by decide) (hT _ m2_17) (fun _ h9 => h9) rfl (fk_get fk_cX9_readNumber_0 30 rfl) ?_
    rw [show fF (setF (setF S 57 8 ((r_6 - 48))) 57 2 (((fF S 57 2) + 1))) 57 8 = (r_6 - 48) from by simp [fF_setF, fF_setR, fF_setA, fF_setL]]
    refine lv_bipush (v := 10) hx hb (fk_get fk_cX9_readNumber_0 31 rfl) (by decide) ?_
    refine lv_imul hx hb (fk_get fk_cX9_readNumber_1 0 rfl) ?_
    refine lv_aload_n hx hb (fk_get fk_cX9_readNumber_1 1 rfl) rfl (lv_at hl 0 rfl) ?_
    refine lv_aload_n hx hb (fk_get fk_cX9_readNumber_1 2 rfl) rfl (lv_at hl 0 rfl) ?_
    refine va_get (D := G.1) (ci := 11) (v := .int (fF (setF (setF S 57 8 ((r_6 - 48))) 57 2 (((fF S 57 2) + 1))) 57 2)) (C := RX9) (T := TX9) (N := 9) hx hb hT inX9 hown hK hP 57 (ix_at (lt71 (by omega)) (cX_text G ad (setF (setF S 57 8 ((r_6 - 48))) 57 2 (((fF S 57 2) + 1))))) rfl 2 (by decide) (hT _ m2_5) (fun _ h9 => h9) rfl (fk_get fk_cX9_readNumber_1 3 rfl) ?_
    rw [show fF (setF (setF S 57 8 ((r_6 - 48))) 57 2 (((fF S 57 2) + 1))) 57 2 = ((fF S 57 2) + 1) from by simp [fF_setF, fF_setR, fF_setA, fF_setL]]
    refine vp_callSi (W.runV (As := [.int (((fF S 57 2) + 1))]) (rest := [.int (((r_6 - 48) * 10)), .ref (ad 57)]) ⟨hx, hb, hml, hown, hT⟩ (c_x9_signAt l G ad (setF (setF S 57 8 ((r_6 - 48))) 57 2 (((fF S 57 2) + 1))) H.size (((fF S 57 2) + 1)) (hX_10)) (tV 1 hT m2_217 m2_219 mp_1 m1_12 m2_220 rfl rfl (by decide +kernel) ⟨Nat.le_of_ble_eq_true rfl, Nat.le_of_ble_eq_true rfl⟩) ⟨PcW_blind, va_recv hK hP (ci := 11) (q0 := 57) rfl (ix_at (lt71 (by omega)) (cX_text G ad (setF (setF S 57 8 ((r_6 - 48))) 57 2 (((fF S 57 2) + 1))))), PcW_of hP hK hD _⟩ rfl rfl hl.1 rfl (lv_room (Nat.le_of_ble_eq_true rfl)) (fk_get fk_cX9_readNumber_1 4 rfl) ⟨Nat.zero_le _, Nat.zero_le _⟩) (fun r_17 hw_18 => ?_)
    try dsimp only at hw_18
    refine lv_iadd hx hb (fk_get fk_cX9_readNumber_1 5 rfl) ?_
    refine lv_bipush (v := 48) hx hb (fk_get fk_cX9_readNumber_1 6 rfl) (by decide) ?_
    refine lv_isub hx hb (fk_get fk_cX9_readNumber_1 7 rfl) ?_
    refine va_put (D := G.1) (ci := 11) (v := .int (((((r_6 - 48) * 10) + r_17) - 48))) (ty := .int) (C := RX9) (T := TX9) (N := 9) hx hb hT inX9 tyX9 tyX9_ok nmX9 hown hK hP hD hS 57 (ix_at (lt71 (by omega)) (cX_text G ad (setF (setF S 57 8 ((r_6 - 48))) 57 2 (((fF S 57 2) + 1))))) rfl 8 (by decide) (hT _ m2_17) (fun _ h9 => h9) rfl (by decide +kernel) rfl rfl (Nat.le_of_ble_eq_true rfl) (fk_get fk_cX9_readNumber_1 8 rfl) (fun H locs hP hD hS => ?_)
    rw [pX_text_8 (S := (setF (setF S 57 8 ((r_6 - 48))) 57 2 (((fF S 57 2) + 1)))) (((((r_6 - 48) * 10) + r_17) - 48))] at hP hD
    have hX_19 : XI (setF (setF (setF S 57 8 ((r_6 - 48))) 57 2 (((fF S 57 2) + 1))) 57 8 (((((r_6 - 48) * 10) + r_17) - 48))) := XI.sF hX_10 _ ⟨by omega, by omega, by omega, by omega, by omega, by omega, by omega, by omega⟩
    have hF_20 : Fr (fun j k => (j = 57 ∧ (k = 2 ∨ k = 3 ∨ k = 4 ∨ k = 7 ∨ k = 8)) ∨ ((j = 59 ∨ j = 60) ∧ k = 99)) S (setF (setF (setF S 57 8 ((r_6 - 48))) 57 2 (((fF S 57 2) + 1))) 57 8 (((((r_6 - 48) * 10) + r_17) - 48))) := Fr.sF hF_11 (by omega)
    refine lv_aload_n hx hb (fk_get fk_cX9_readNumber_1 9 rfl) rfl (lv_at hl 0 rfl) ?_
    refine lv_dup hx hb (fk_get fk_cX9_readNumber_1 10 rfl) rfl ?_
    refine va_get (D := G.1) (ci := 11) (v := .int (fF (setF (setF (setF S 57 8 ((r_6 - 48))) 57 2 (((fF S 57 2) + 1))) 57 8 (((((r_6 - 48) * 10) + r_17) - 48))) 57 2)) (C := RX9) (T := TX9) (N := 9) hx hb hT inX9 hown hK hP 57 (ix_at (lt71 (by omega)) (cX_text G ad (setF (setF (setF S 57 8 ((r_6 - 48))) 57 2 (((fF S 57 2) + 1))) 57 8 (((((r_6 - 48) * 10) + r_17) - 48))))) rfl 2 (by decide) (hT _ m2_5) (fun _ h9 => h9) rfl (fk_get fk_cX9_readNumber_1 11 rfl) ?_
    rw [show fF (setF (setF (setF S 57 8 ((r_6 - 48))) 57 2 (((fF S 57 2) + 1))) 57 8 (((((r_6 - 48) * 10) + r_17) - 48))) 57 2 = ((fF S 57 2) + 1) from by simp [fF_setF, fF_setR, fF_setA, fF_setL]]
    refine lv_iconst (v := 1) hx hb (fk_get fk_cX9_readNumber_1 12 rfl) (by decide) ?_
    refine lv_iadd hx hb (fk_get fk_cX9_readNumber_1 13 rfl) ?_
    refine va_put (D := G.1) (ci := 11) (v := .int ((((fF S 57 2) + 1) + 1))) (ty := .int) (C := RX9) (T := TX9) (N := 9) hx hb hT inX9 tyX9 tyX9_ok nmX9 hown hK hP hD hS 57 (ix_at (lt71 (by omega)) (cX_text G ad (setF (setF (setF S 57 8 ((r_6 - 48))) 57 2 (((fF S 57 2) + 1))) 57 8 (((((r_6 - 48) * 10) + r_17) - 48))))) rfl 2 (by decide) (hT _ m2_5) (fun _ h9 => h9) rfl (by decide +kernel) rfl rfl (Nat.le_of_ble_eq_true rfl) (fk_get fk_cX9_readNumber_1 14 rfl) (fun H locs hP hD hS => ?_)
    rw [pX_text_2 (S := (setF (setF (setF S 57 8 ((r_6 - 48))) 57 2 (((fF S 57 2) + 1))) 57 8 (((((r_6 - 48) * 10) + r_17) - 48)))) ((((fF S 57 2) + 1) + 1))] at hP hD
    have hX_21 : XI (setF (setF (setF (setF S 57 8 ((r_6 - 48))) 57 2 (((fF S 57 2) + 1))) 57 8 (((((r_6 - 48) * 10) + r_17) - 48))) 57 2 ((((fF S 57 2) + 1) + 1))) := XI.sF hX_19 _ ⟨by omega, by omega, by omega, by omega, by omega, by omega, by omega, by omega⟩
    have hF_22 : Fr (fun j k => (j = 57 ∧ (k = 2 ∨ k = 3 ∨ k = 4 ∨ k = 7 ∨ k = 8)) ∨ ((j = 59 ∨ j = 60) ∧ k = 99)) S (setF (setF (setF (setF S 57 8 ((r_6 - 48))) 57 2 (((fF S 57 2) + 1))) 57 8 (((((r_6 - 48) * 10) + r_17) - 48))) 57 2 ((((fF S 57 2) + 1) + 1))) := Fr.sF hF_20 (by omega)
    refine lv_iconst (v := 1) hx hb (fk_get fk_cX9_readNumber_1 15 rfl) (by decide) ?_
    subst hQ
    have hpost : XI (setF (setF (setF (setF S 57 8 ((r_6 - 48))) 57 2 (((fF S 57 2) + 1))) 57 8 (((((r_6 - 48) * 10) + r_17) - 48))) 57 2 ((((fF S 57 2) + 1) + 1))) ∧ Fr (fun j k => (j = 57 ∧ (k = 2 ∨ k = 3 ∨ k = 4 ∨ k = 7 ∨ k = 8)) ∨ ((j = 59 ∨ j = 60) ∧ k = 99)) S (setF (setF (setF (setF S 57 8 ((r_6 - 48))) 57 2 (((fF S 57 2) + 1))) 57 8 (((((r_6 - 48) * 10) + r_17) - 48))) 57 2 ((((fF S 57 2) + 1) + 1))) ∧ ((1 : Int32) = 0 ∨ (1 : Int32) = 1) := by
      exact ⟨hX_21, hF_22, (by first | exact Or.inl rfl | exact Or.inr rfl)⟩
    exact W.zret (v := 1) hx hb hr rfl (fun t_ ht_ hW_ => ⟨⟨1, (setF (setF (setF (setF S 57 8 ((r_6 - 48))) 57 2 (((fF S 57 2) + 1))) 57 8 (((((r_6 - 48) * 10) + r_17) - 48))) 57 2 ((((fF S 57 2) + 1) + 1))), rfl, hpost, by rw [ht_]; exact hP, va_K.moved hW_.alike hK, hD⟩, hS.F ht_⟩) hS.2.2 (fk_get fk_cX9_readNumber_1 16 rfl)
  have p_c_5 := if1_f hw_4 c_5
  refine lv_iconst (v := 0) hx hb (fk_get fk_cX9_readNumber_0 6 rfl) (by decide) ?_
  subst hQ
  have hpost : XI S ∧ Fr (fun j k => (j = 57 ∧ (k = 2 ∨ k = 3 ∨ k = 4 ∨ k = 7 ∨ k = 8)) ∨ ((j = 59 ∨ j = 60) ∧ k = 99)) S S ∧ ((0 : Int32) = 0 ∨ (0 : Int32) = 1) := by
    exact ⟨hX, (Fr.rf : Fr (fun j k => (j = 57 ∧ (k = 2 ∨ k = 3 ∨ k = 4 ∨ k = 7 ∨ k = 8)) ∨ ((j = 59 ∨ j = 60) ∧ k = 99)) S S), (by first | exact Or.inl rfl | exact Or.inr rfl)⟩
  exact W.zret (v := 0) hx hb hr rfl (fun t_ ht_ hW_ => ⟨⟨0, S, rfl, hpost, by rw [ht_]; exact hP, va_K.moved hW_.alike hK, hD⟩, hS.F ht_⟩) hS.2.2 (fk_get fk_cX9_readNumber_0 7 rfl)
set_option maxHeartbeats 800000 in
set_option maxRecDepth 100000 in
theorem c_x9_takesOneOf (l : Launch) (G : GG) (ad : Nat → Nat) (S : FS) (sz : Nat) (sk : Nat) (hsk : sk < 6) (hX : XI S) : Met l yX9_takesOneOf (Cond.code yX9_takesOneOf cX9_takesOneOf 4 (some .int) :: TBL) ({ frames := 6, cells := 0, slots := 0, locals := 171 } : Room) (PcE G (wX G ad S) sz [.ref (ad 57), .ref (G.2.2.2 (310 + sk))]) (va_Qi (fun (r : Int32) (S' : FS) => XI S' ∧ Fr (fun j k => (j = 57 ∧ (k = 2 ∨ k = 3 ∨ k = 4 ∨ k = 7 ∨ k = 8)) ∨ ((j = 59 ∨ j = 60) ∧ k = 99)) S S' ∧ True) (fun S' t => BW G (va_A (wX G ad S) sz) (wX G ad S') t) (va_A (wX G ad S) sz)) 0 0 (va_A (wX G ad S) sz) := by
  refine Met.ofW (cc := cX9_takesOneOf) (maxL := 4) (ret := (some .int)) (by decide) rfl ?_
  intro p e s m args below meth c₀ s₁ B hml hv
  obtain ⟨rfl, hsz, hP, hK, hD0, hE⟩ := hv
  have hx := B.exec
  have hb := B.bytes
  have hr := B.returns
  have hT : ∀ w ∈ TBL, w.before ([.ref (ad 57), .ref (G.2.2.2 (310 + sk))] : List Value).toArray s = true := fun w h => atoms_spec (ws := Cond.code yX9_takesOneOf cX9_takesOneOf 4 (some .int) :: TBL) B.pre w (List.mem_cons_of_mem _ h)
  have hown : s.vm.findClass "LittleMore$Text" = some m.cls := findClass_of_methodNamed B.named
  have hlocks := B.notSynchronized
  subst hsz
  have hD := hD0.self (sz := s.heap.size)
  generalize hAe : va_A (wX G ad S) s.heap.size = A at hD hE ⊢
  have hA : ∀ q : Nat, s.heap.size ≤ q → A q := fun q h => by rw [← hAe]; exact Or.inr h
  have hS : va_S A s.heap s.heap [] := va_S.rf
  have hP : va_P G.1 vwCl (wX G ad S) s.heap := hP
  have hl := lv_entry ([.ref (ad 57), .ref (G.2.2.2 (310 + sk))]) (n := 4) (Nat.le_of_ble_eq_true rfl)
  rw [lg_entry_eq]
  generalize (lg_sl ([.ref (ad 57), .ref (G.2.2.2 (310 + sk))]) ++ List.replicate (4 - (lg_sl ([.ref (ad 57), .ref (G.2.2.2 (310 + sk))])).length) Slot.unset).toArray = ls at hl ⊢
  have hl : lv_has ls 4 [(0, .ref (ad 57)), (1, .ref (G.2.2.2 (310 + sk)))] := hl
  refine W_abs (fun Q hQ => ?_)
  generalize ([.ref (ad 57), .ref (G.2.2.2 (310 + sk))] : List Value).toArray = args at hT hQ ⊢
  refine lv_aload_n hx hb (fk_get fk_cX9_takesOneOf_0 0 rfl) rfl (lv_at hl 0 rfl) ?_
  refine lv_aload_n hx hb (fk_get fk_cX9_takesOneOf_0 1 rfl) rfl (lv_at hl 0 rfl) ?_
  refine va_get (D := G.1) (ci := 11) (v := .int (fF S 57 2)) (C := RX9) (T := TX9) (N := 9) hx hb hT inX9 hown hK hP 57 (ix_at (lt71 (by omega)) (cX_text G ad S)) rfl 2 (by decide) (hT _ m2_5) (fun _ h9 => h9) rfl (fk_get fk_cX9_takesOneOf_0 2 rfl) ?_
  refine vp_callSi (W.runV (As := [.int ((fF S 57 2))]) (rest := []) ⟨hx, hb, hml, hown, hT⟩ (c_x9_signAt l G ad S s.heap.size ((fF S 57 2)) (hX)) (tV 1 hT m2_217 m2_219 mp_1 m1_12 m2_220 rfl rfl (by decide +kernel) ⟨Nat.le_of_ble_eq_true rfl, Nat.le_of_ble_eq_true rfl⟩) ⟨PcW_blind, va_recv hK hP (ci := 11) (q0 := 57) rfl (ix_at (lt71 (by omega)) (cX_text G ad S)), PcW_of hP hK hD _⟩ rfl rfl hl.1 rfl (lv_room (Nat.le_of_ble_eq_true rfl)) (fk_get fk_cX9_takesOneOf_0 3 rfl) ⟨Nat.zero_le _, Nat.zero_le _⟩) (fun r_1 hw_2 => ?_)
  try dsimp only at hw_2
  refine lv_istore_n (lv' := [(2, .int (r_1)), (0, .ref (ad 57)), (1, .ref (G.2.2.2 (310 + sk)))]) hx hb (fk_get fk_cX9_takesOneOf_0 4 rfl) rfl hl (by decide) rfl (fun ls hl => ?_)
  refine lv_iload_n hx hb (fk_get fk_cX9_takesOneOf_0 5 rfl) rfl (lv_at hl 0 rfl) ?_
  refine lv_iconst (v := (-1)) hx hb (fk_get fk_cX9_takesOneOf_0 6 rfl) (by decide) ?_
  refine lv_icmp_ne (tgt := 16) hx hb (fk_get fk_cX9_takesOneOf_0 7 rfl) (by decide) (fun c_3 => ?_) (fun c_3 => ?_)
  · refine lv_aload_n hx hb (fk_get fk_cX9_takesOneOf_0 10 rfl) rfl (lv_at hl 2 rfl) ?_
    refine lv_iload_n hx hb (fk_get fk_cX9_takesOneOf_0 11 rfl) rfl (lv_at hl 0 rfl) ?_
    refine lv_i2c hx hb (fk_get fk_cX9_takesOneOf_0 12 rfl) rfl ?_
    have hFc := va_self hD hS hA
    refine vp_callSi (W.runV (As := [.int (((r_1).toUInt32 % 65536).toInt32)]) (rest := []) ⟨hx, hb, hml, hown, hT⟩ (c_jix1 l G ad S s.heap.size (sk) (((r_1).toUInt32 % 65536).toInt32) (hsk) (hX)) (tV 1 hT m3_77 m3_78 m3_79 m1_19 m3_80 rfl rfl (by decide +kernel) ⟨Nat.le_of_ble_eq_true rfl, Nat.le_of_ble_eq_true rfl⟩) ⟨PcE_blind, vk_recv hE.2.2.2.2.1.1 hsk hS, PcE_of hP hK hD hE hS (fun q h => hFc q h) _⟩ rfl rfl hl.1 rfl (lv_room (Nat.le_of_ble_eq_true rfl)) (fk_get fk_cX9_takesOneOf_0 13 rfl) ⟨Nat.zero_le _, Nat.zero_le _⟩) (fun r_4 hw_5 => ?_)
    try dsimp only at hw_5
    refine lv_istore_n (lv' := [(3, .int (r_4)), (2, .int (r_1)), (0, .ref (ad 57)), (1, .ref (G.2.2.2 (310 + sk)))]) hx hb (fk_get fk_cX9_takesOneOf_0 14 rfl) rfl hl (by decide) rfl (fun ls hl => ?_)
    refine lv_iload_n hx hb (fk_get fk_cX9_takesOneOf_0 15 rfl) rfl (lv_at hl 0 rfl) ?_
    refine lv_if_lt (tgt := 37) hx hb (fk_get fk_cX9_takesOneOf_0 16 rfl) (by decide) (fun c_6 => ?_) (fun c_6 => ?_)
    · refine lv_iload_n hx hb (fk_get fk_cX9_takesOneOf_0 23 rfl) rfl (lv_at hl 0 rfl) ?_
      subst hQ
      have hpost : XI S ∧ Fr (fun j k => (j = 57 ∧ (k = 2 ∨ k = 3 ∨ k = 4 ∨ k = 7 ∨ k = 8)) ∨ ((j = 59 ∨ j = 60) ∧ k = 99)) S S ∧ True := by
        exact ⟨hX, (Fr.rf : Fr (fun j k => (j = 57 ∧ (k = 2 ∨ k = 3 ∨ k = 4 ∨ k = 7 ∨ k = 8)) ∨ ((j = 59 ∨ j = 60) ∧ k = 99)) S S), trivial⟩
      exact W.iret (v := r_4) hx hb hr (fun t_ ht_ hW_ => ⟨⟨r_4, S, rfl, hpost, by rw [ht_]; exact hP, va_K.moved hW_.alike hK, hD⟩, hS.F ht_⟩) hS.2.2 (fk_get fk_cX9_takesOneOf_0 24 rfl)
    refine lv_aload_n hx hb (fk_get fk_cX9_takesOneOf_0 17 rfl) rfl (lv_at hl 2 rfl) ?_
    refine lv_dup hx hb (fk_get fk_cX9_takesOneOf_0 18 rfl) rfl ?_
    refine va_get (D := G.1) (ci := 11) (v := .int (fF S 57 2)) (C := RX9) (T := TX9) (N := 9) hx hb hT inX9 hown hK hP 57 (ix_at (lt71 (by omega)) (cX_text G ad S)) rfl 2 (by decide) (hT _ m2_5) (fun _ h9 => h9) rfl (fk_get fk_cX9_takesOneOf_0 19 rfl) ?_
    refine lv_iconst (v := 1) hx hb (fk_get fk_cX9_takesOneOf_0 20 rfl) (by decide) ?_
    refine lv_iadd hx hb (fk_get fk_cX9_takesOneOf_0 21 rfl) ?_
    refine va_put (D := G.1) (ci := 11) (v := .int (((fF S 57 2) + 1))) (ty := .int) (C := RX9) (T := TX9) (N := 9) hx hb hT inX9 tyX9 tyX9_ok nmX9 hown hK hP hD hS 57 (ix_at (lt71 (by omega)) (cX_text G ad S)) rfl 2 (by decide) (hT _ m2_5) (fun _ h9 => h9) rfl (by decide +kernel) rfl rfl (Nat.le_of_ble_eq_true rfl) (fk_get fk_cX9_takesOneOf_0 22 rfl) (fun H locs hP hD hS => ?_)
    rw [pX_text_2 (S := S) (((fF S 57 2) + 1))] at hP hD
    have hX_7 : XI (setF S 57 2 (((fF S 57 2) + 1))) := XI.sF hX _ ⟨by omega, by omega, by omega, by omega, by omega, by omega, by omega, by omega⟩
    have hF_8 : Fr (fun j k => (j = 57 ∧ (k = 2 ∨ k = 3 ∨ k = 4 ∨ k = 7 ∨ k = 8)) ∨ ((j = 59 ∨ j = 60) ∧ k = 99)) S (setF S 57 2 (((fF S 57 2) + 1))) := Fr.sF (Fr.rf : Fr (fun j k => (j = 57 ∧ (k = 2 ∨ k = 3 ∨ k = 4 ∨ k = 7 ∨ k = 8)) ∨ ((j = 59 ∨ j = 60) ∧ k = 99)) S S) (by omega)
    refine lv_iload_n hx hb (fk_get fk_cX9_takesOneOf_0 23 rfl) rfl (lv_at hl 0 rfl) ?_
    subst hQ
    have hpost : XI (setF S 57 2 (((fF S 57 2) + 1))) ∧ Fr (fun j k => (j = 57 ∧ (k = 2 ∨ k = 3 ∨ k = 4 ∨ k = 7 ∨ k = 8)) ∨ ((j = 59 ∨ j = 60) ∧ k = 99)) S (setF S 57 2 (((fF S 57 2) + 1))) ∧ True := by
      exact ⟨hX_7, hF_8, trivial⟩
    exact W.iret (v := r_4) hx hb hr (fun t_ ht_ hW_ => ⟨⟨r_4, (setF S 57 2 (((fF S 57 2) + 1))), rfl, hpost, by rw [ht_]; exact hP, va_K.moved hW_.alike hK, hD⟩, hS.F ht_⟩) hS.2.2 (fk_get fk_cX9_takesOneOf_0 24 rfl)
  refine lv_iconst (v := (-1)) hx hb (fk_get fk_cX9_takesOneOf_0 8 rfl) (by decide) ?_
  subst hQ
  have hpost : XI S ∧ Fr (fun j k => (j = 57 ∧ (k = 2 ∨ k = 3 ∨ k = 4 ∨ k = 7 ∨ k = 8)) ∨ ((j = 59 ∨ j = 60) ∧ k = 99)) S S ∧ True := by
    exact ⟨hX, (Fr.rf : Fr (fun j k => (j = 57 ∧ (k = 2 ∨ k = 3 ∨ k = 4 ∨ k = 7 ∨ k = 8)) ∨ ((j = 59 ∨ j = 60) ∧ k = 99)) S S), trivial⟩
  exact W.iret (v := (-1)) hx hb hr (fun t_ ht_ hW_ => ⟨⟨(-1), S, rfl, hpost, by rw [ht_]; exact hP, va_K.moved hW_.alike hK, hD⟩, hS.F ht_⟩) hS.2.2 (fk_get fk_cX9_takesOneOf_0 9 rfl)
set_option maxHeartbeats 800000 in
set_option maxRecDepth 100000 in
theorem c_x9_nameOf (l : Launch) (G : GG) (ad : Nat → Nat) (S : FS) (sz : Nat) (w_ : Int32) (hX : XI S) : Met l yX9_nameOf (Cond.code yX9_nameOf cX9_nameOf 1 (some (.object "java/lang/String")) :: TBL) ({ frames := 2, cells := 0, slots := 0, locals := 64 } : Room) (PcE G (wX G ad S) sz [.int (w_)]) (va_Sq (fun (r : Option Nat) => ∃ k, k < 4 ∧ r = some (G.2.2.2 (310 + k)))) 0 0 (fun _ => False) := by
  refine Met.ofW (cc := cX9_nameOf) (maxL := 1) (ret := (some (.object "java/lang/String"))) (by decide) rfl ?_
  intro p e s m args below meth c₀ s₁ B hml hv
  obtain ⟨rfl, hsz, hP, hK, hD0, hE⟩ := hv
  have hx := B.exec
  have hb := B.bytes
  have hr := B.returns
  have hT : ∀ w ∈ TBL, w.before ([.int (w_)] : List Value).toArray s = true := fun w h => atoms_spec (ws := Cond.code yX9_nameOf cX9_nameOf 1 (some (.object "java/lang/String")) :: TBL) B.pre w (List.mem_cons_of_mem _ h)
  have hown : s.vm.findClass "LittleMore$Text" = some m.cls := findClass_of_methodNamed B.named
  have hlocks := B.notSynchronized
  have hD := hD0
  subst hsz
  have hFc : ∀ q, va_A (wX G ad S) s.heap.size q → va_A (wX G ad S) s.heap.size q := fun _ h => h
  have hS : va_S (va_A (wX G ad S) s.heap.size) s.heap s.heap [] := va_S.rf
  have hP : va_P G.1 vwCl (wX G ad S) s.heap := hP
  have hl := lv_entry ([.int (w_)]) (n := 1) (Nat.le_of_ble_eq_true rfl)
  rw [lg_entry_eq]
  generalize (lg_sl ([.int (w_)]) ++ List.replicate (1 - (lg_sl ([.int (w_)])).length) Slot.unset).toArray = ls at hl ⊢
  have hl : lv_has ls 1 [(0, .int (w_))] := hl
  refine W_abs (fun Q hQ => ?_)
  generalize ([.int (w_)] : List Value).toArray = args at hT hQ ⊢
  refine lv_iload_n hx hb (fk_get fk_cX9_nameOf_0 0 rfl) rfl (lv_at hl 0 rfl) ?_
  by_cases c_1 : w_ = (0 : Int32)
  · refine lv_tableIn (off := 27) (tgt := 28) hx hb (dk_get dk_cX9_nameOf_0 0 rfl) (by rw [c_1]; decide) (by rw [c_1]; decide) (by rw [c_1]; rfl) (by decide) ?_
    refine va_ldcS (q := G.2.2.2 (310 + 0)) (tx := txS 0) hx hb hown (hE.2.2.2.2.1.2 0 (by omega)) (fk_get fk_cX9_nameOf_0 1 rfl) ?_
    subst hQ
    have hpost : ∃ k, k < 4 ∧ ((some (G.2.2.2 (310 + 0))) : Option Nat) = some (G.2.2.2 (310 + k)) := by
      first | exact ⟨0, by decide, rfl⟩ | exact ⟨1, by decide, rfl⟩ | exact ⟨2, by decide, rfl⟩ | exact ⟨3, by decide, rfl⟩
    exact W.aret hx hb hr (Or.inl ⟨_, rfl⟩) (Or.inr ⟨_, rfl⟩) (fun t_ ht_ hW_ => ⟨(some (G.2.2.2 (310 + 0))), rfl, hpost, ht_⟩) (fun q h => by cases h) (fk_get fk_cX9_nameOf_0 2 rfl)
  by_cases c_2 : w_ = (1 : Int32)
  · refine lv_tableIn (off := 30) (tgt := 31) hx hb (dk_get dk_cX9_nameOf_0 0 rfl) (by rw [c_2]; decide) (by rw [c_2]; decide) (by rw [c_2]; rfl) (by decide) ?_
    refine va_ldcS (q := G.2.2.2 (310 + 1)) (tx := txS 1) hx hb hown (hE.2.2.2.2.1.2 1 (by omega)) (fk_get fk_cX9_nameOf_0 3 rfl) ?_
    subst hQ
    have hpost : ∃ k, k < 4 ∧ ((some (G.2.2.2 (310 + 1))) : Option Nat) = some (G.2.2.2 (310 + k)) := by
      first | exact ⟨0, by decide, rfl⟩ | exact ⟨1, by decide, rfl⟩ | exact ⟨2, by decide, rfl⟩ | exact ⟨3, by decide, rfl⟩
    exact W.aret hx hb hr (Or.inl ⟨_, rfl⟩) (Or.inr ⟨_, rfl⟩) (fun t_ ht_ hW_ => ⟨(some (G.2.2.2 (310 + 1))), rfl, hpost, ht_⟩) (fun q h => by cases h) (fk_get fk_cX9_nameOf_0 4 rfl)
  by_cases c_3 : w_ = (2 : Int32)
  · refine lv_tableIn (off := 33) (tgt := 34) hx hb (dk_get dk_cX9_nameOf_0 0 rfl) (by rw [c_3]; decide) (by rw [c_3]; decide) (by rw [c_3]; rfl) (by decide) ?_
    refine va_ldcS (q := G.2.2.2 (310 + 2)) (tx := txS 2) hx hb hown (hE.2.2.2.2.1.2 2 (by omega)) (fk_get fk_cX9_nameOf_0 5 rfl) ?_
    subst hQ
    have hpost : ∃ k, k < 4 ∧ ((some (G.2.2.2 (310 + 2))) : Option Nat) = some (G.2.2.2 (310 + k)) := by
      first | exact ⟨0, by decide, rfl⟩ | exact ⟨1, by decide, rfl⟩ | exact ⟨2, by decide, rfl⟩ | exact ⟨3, by decide, rfl⟩
    exact W.aret hx hb hr (Or.inl ⟨_, rfl⟩) (Or.inr ⟨_, rfl⟩) (fun t_ ht_ hW_ => ⟨(some (G.2.2.2 (310 + 2))), rfl, hpost, ht_⟩) (fun q h => by cases h) (fk_get fk_cX9_nameOf_0 6 rfl)
  have o_4 : (w_).toInt < 0 ∨ 2 < (w_).toInt := by
    have qc_1 : ¬ (w_).toInt = 0 := lv_neT c_1 (by decide)
    have qc_2 : ¬ (w_).toInt = 1 := lv_neT c_2 (by decide)
    have qc_3 : ¬ (w_).toInt = 2 := lv_neT c_3 (by decide)
    omega
  refine lv_tableOut (tgt := 37) hx hb (dk_get dk_cX9_nameOf_0 0 rfl) o_4 (by decide) ?_
  refine va_ldcS (q := G.2.2.2 (310 + 3)) (tx := txS 3) hx hb hown (hE.2.2.2.2.1.2 3 (by omega)) (fk_get fk_cX9_nameOf_0 7 rfl) ?_
  subst hQ
  have hpost : ∃ k, k < 4 ∧ ((some (G.2.2.2 (310 + 3))) : Option Nat) = some (G.2.2.2 (310 + k)) := by
    first | exact ⟨0, by decide, rfl⟩ | exact ⟨1, by decide, rfl⟩ | exact ⟨2, by decide, rfl⟩ | exact ⟨3, by decide, rfl⟩
  exact W.aret hx hb hr (Or.inl ⟨_, rfl⟩) (Or.inr ⟨_, rfl⟩) (fun t_ ht_ hW_ => ⟨(some (G.2.2.2 (310 + 3))), rfl, hpost, ht_⟩) (fun q h => by cases h) (fk_get fk_cX9_nameOf_0 8 rfl)
set_option maxHeartbeats 800000 in
set_option maxRecDepth 100000 in
theorem c_x9_howManyAlike (l : Launch) (G : GG) (ad : Nat → Nat) (S : FS) (sz : Nat) (sk : Nat) (hsk : sk < 6) (hX : XI S) : Met l yX9_howManyAlike (Cond.code yX9_howManyAlike cX9_howManyAlike 3 (some .int) :: TBL) ({ frames := 6, cells := 0, slots := 0, locals := 165 } : Room) (PcE G (wX G ad S) sz [.ref (ad 57), .ref (G.2.2.2 (310 + sk))]) (vp_Si (fun (r : Int32) => True)) 0 0 (fun _ => False) := by
  refine Met.ofW (cc := cX9_howManyAlike) (maxL := 3) (ret := (some .int)) (by decide) rfl ?_
  intro p e s m args below meth c₀ s₁ B hml hv
  obtain ⟨rfl, hsz, hP, hK, hD0, hE⟩ := hv
  have hx := B.exec
  have hb := B.bytes
  have hr := B.returns
  have hT : ∀ w ∈ TBL, w.before ([.ref (ad 57), .ref (G.2.2.2 (310 + sk))] : List Value).toArray s = true := fun w h => atoms_spec (ws := Cond.code yX9_howManyAlike cX9_howManyAlike 3 (some .int) :: TBL) B.pre w (List.mem_cons_of_mem _ h)
  have hown : s.vm.findClass "LittleMore$Text" = some m.cls := findClass_of_methodNamed B.named
  have hlocks := B.notSynchronized
  have hD := hD0
  subst hsz
  have hFc : ∀ q, va_A (wX G ad S) s.heap.size q → va_A (wX G ad S) s.heap.size q := fun _ h => h
  have hS : va_S (va_A (wX G ad S) s.heap.size) s.heap s.heap [] := va_S.rf
  have hP : va_P G.1 vwCl (wX G ad S) s.heap := hP
  have hl := lv_entry ([.ref (ad 57), .ref (G.2.2.2 (310 + sk))]) (n := 3) (Nat.le_of_ble_eq_true rfl)
  rw [lg_entry_eq]
  generalize (lg_sl ([.ref (ad 57), .ref (G.2.2.2 (310 + sk))]) ++ List.replicate (3 - (lg_sl ([.ref (ad 57), .ref (G.2.2.2 (310 + sk))])).length) Slot.unset).toArray = ls at hl ⊢
  have hl : lv_has ls 3 [(0, .ref (ad 57)), (1, .ref (G.2.2.2 (310 + sk)))] := hl
  refine W_abs (fun Q hQ => ?_)
  generalize ([.ref (ad 57), .ref (G.2.2.2 (310 + sk))] : List Value).toArray = args at hT hQ ⊢
  have hs6 := lenS_6 hsk
  refine lv_iconst (v := 0) hx hb (fk_get fk_cX9_howManyAlike_0 0 rfl) (by decide) ?_
  refine lv_istore_n (lv' := [(2, .int (0)), (0, .ref (ad 57)), (1, .ref (G.2.2.2 (310 + sk)))]) hx hb (fk_get fk_cX9_howManyAlike_0 1 rfl) rfl hl (by decide) rfl (fun ls hl => ?_)
  have lp_1 : ∀ (fu : Nat) (c : Nat) (ls : Array Slot),  (c ≤ lenS.getD sk 0) → (lenS.getD sk 0 < c + fu) → lv_has ls 3 [(2, .int ((nI c))), (0, .ref (ad 57)), (1, .ref (G.2.2.2 (310 + sk)))] → W p l e ({ frames := 6, cells := 0, slots := 0, locals := 165 } : Room) s m args below meth c₀ s.heap [] 0 0 Q (F0 m 2 ls []) := by
    intro fu
    induction fu with
    | zero =>
      intro c ls hk hf hl
      exact absurd hf (by omega)
    | succ fu ih =>
      intro c ls hk hf hl
      refine lv_iload_n hx hb (fk_get fk_cX9_howManyAlike_0 2 rfl) rfl (lv_at hl 0 rfl) ?_
      refine lv_aload_n hx hb (fk_get fk_cX9_howManyAlike_0 3 rfl) rfl (lv_at hl 2 rfl) ?_
      refine vp_callSi (W.runV (As := []) (rest := [.int ((nI c))]) ⟨hx, hb, hml, hown, hT⟩ (c_jslen l G ad S s.heap.size (sk) (hsk) (hX)) (tV 0 hT m3_0 m3_1 m3_2 m1_19 m3_3 rfl rfl (by decide +kernel) ⟨Nat.le_of_ble_eq_true rfl, Nat.le_of_ble_eq_true rfl⟩) ⟨PcE_blind, vk_recv hE.2.2.2.2.1.1 hsk hS, PcE_of hP hK hD hE hS (fun q h => hFc q h) _⟩ rfl rfl hl.1 rfl (lv_room (Nat.le_of_ble_eq_true rfl)) (fk_get fk_cX9_howManyAlike_0 4 rfl) ⟨Nat.zero_le _, Nat.zero_le _⟩) (fun r_2 hw_3 => ?_)
      try dsimp only at hw_3
      subst hw_3
      refine lv_icmp_ge (tgt := 36) hx hb (fk_get fk_cX9_howManyAlike_0 5 rfl) (by decide) (fun c_4 => ?_) (fun c_4 => ?_)
      · have q_c_4 : (lenS.getD sk 0) ≤ c := ci_le (a := ((lenS.getD sk 0))) (b := c) (by omega) (by omega) c_4
        refine lv_aload_n hx hb (fk_get fk_cX9_howManyAlike_0 20 rfl) rfl (lv_at hl 2 rfl) ?_
        refine vp_callSi (W.runV (As := []) (rest := []) ⟨hx, hb, hml, hown, hT⟩ (c_jslen l G ad S s.heap.size (sk) (hsk) (hX)) (tV 0 hT m3_0 m3_1 m3_2 m1_19 m3_3 rfl rfl (by decide +kernel) ⟨Nat.le_of_ble_eq_true rfl, Nat.le_of_ble_eq_true rfl⟩) ⟨PcE_blind, vk_recv hE.2.2.2.2.1.1 hsk hS, PcE_of hP hK hD hE hS (fun q h => hFc q h) _⟩ rfl rfl hl.1 rfl (lv_room (Nat.le_of_ble_eq_true rfl)) (fk_get fk_cX9_howManyAlike_0 21 rfl) ⟨Nat.zero_le _, Nat.zero_le _⟩) (fun r_5 hw_6 => ?_)
        try dsimp only at hw_6
        subst hw_6
        subst hQ
        have hpost : True := by
          trivial
        exact W.iret (v := (nI (lenS.getD sk 0))) hx hb hr (fun t_ ht_ hW_ => ⟨(nI (lenS.getD sk 0)), rfl, hpost, ht_⟩) (fun q h => by cases h) (fk_get fk_cX9_howManyAlike_0 22 rfl)
      have q_c_4 : c < (lenS.getD sk 0) := ci_nle (a := ((lenS.getD sk 0))) (b := c) (by omega) (by omega) c_4
      refine lv_aload_n hx hb (fk_get fk_cX9_howManyAlike_0 6 rfl) rfl (lv_at hl 1 rfl) ?_
      refine lv_aload_n hx hb (fk_get fk_cX9_howManyAlike_0 7 rfl) rfl (lv_at hl 1 rfl) ?_
      refine va_get (D := G.1) (ci := 11) (v := .int (fF S 57 2)) (C := RX9) (T := TX9) (N := 9) hx hb hT inX9 hown hK hP 57 (ix_at (lt71 (by omega)) (cX_text G ad S)) rfl 2 (by decide) (hT _ m2_5) (fun _ h9 => h9) rfl (fk_get fk_cX9_howManyAlike_0 8 rfl) ?_
      refine lv_iload_n hx hb (fk_get fk_cX9_howManyAlike_0 9 rfl) rfl (lv_at hl 0 rfl) ?_
      refine lv_iadd hx hb (fk_get fk_cX9_howManyAlike_0 10 rfl) ?_
      refine vp_callSi (W.runV (As := [.int (((fF S 57 2) + (nI c)))]) (rest := []) ⟨hx, hb, hml, hown, hT⟩ (c_x9_signAt l G ad S s.heap.size (((fF S 57 2) + (nI c))) (hX)) (tV 1 hT m2_217 m2_219 mp_1 m1_12 m2_220 rfl rfl (by decide +kernel) ⟨Nat.le_of_ble_eq_true rfl, Nat.le_of_ble_eq_true rfl⟩) ⟨PcW_blind, va_recv hK hP (ci := 11) (q0 := 57) rfl (ix_at (lt71 (by omega)) (cX_text G ad S)), PcW_of hP hK hD _⟩ rfl rfl hl.1 rfl (lv_room (Nat.le_of_ble_eq_true rfl)) (fk_get fk_cX9_howManyAlike_0 11 rfl) ⟨Nat.zero_le _, Nat.zero_le _⟩) (fun r_7 hw_8 => ?_)
      try dsimp only at hw_8
      refine lv_aload_n hx hb (fk_get fk_cX9_howManyAlike_0 12 rfl) rfl (lv_at hl 2 rfl) ?_
      refine lv_iload_n hx hb (fk_get fk_cX9_howManyAlike_0 13 rfl) rfl (lv_at hl 0 rfl) ?_
      refine vp_callSi (W.runV (As := [.int ((nI c))]) (rest := [.int (r_7)]) ⟨hx, hb, hml, hown, hT⟩ (c_jcharAt l G ad S s.heap.size (sk) (c) (hsk) (by first | assumption | omega) (hX)) (tV 1 hT m3_10 m3_11 m3_12 m1_19 m3_13 rfl rfl (by decide +kernel) ⟨Nat.le_of_ble_eq_true rfl, Nat.le_of_ble_eq_true rfl⟩) ⟨PcE_blind, vk_recv hE.2.2.2.2.1.1 hsk hS, PcE_of hP hK hD hE hS (fun q h => hFc q h) _⟩ rfl rfl hl.1 rfl (lv_room (Nat.le_of_ble_eq_true rfl)) (fk_get fk_cX9_howManyAlike_0 14 rfl) ⟨Nat.zero_le _, Nat.zero_le _⟩) (fun r_9 hw_10 => ?_)
      try dsimp only at hw_10
      refine lv_icmp_eq (tgt := 30) hx hb (fk_get fk_cX9_howManyAlike_0 15 rfl) (by decide) (fun c_11 => ?_) (fun c_11 => ?_)
      · refine lv_iinc (v := (nI (c + 1))) (lv' := [(2, .int ((nI (c + 1)))), (0, .ref (ad 57)), (1, .ref (G.2.2.2 (310 + sk)))]) hx hb (fk_get fk_cX9_howManyAlike_0 18 rfl) hl (k := 0) rfl ((nI_1 c)) (by decide) rfl (fun ls hl => ?_)
        refine lv_goto (tgt := 2) hx hb (fk_get fk_cX9_howManyAlike_0 19 rfl) (by decide) ?_
        exact ih (c + 1) ls (by omega) (by omega) (lv_sub hl [0, 1, 2] rfl)
      refine lv_iload_n hx hb (fk_get fk_cX9_howManyAlike_0 16 rfl) rfl (lv_at hl 0 rfl) ?_
      subst hQ
      have hpost : True := by
        trivial
      exact W.iret (v := (nI c)) hx hb hr (fun t_ ht_ hW_ => ⟨(nI c), rfl, hpost, ht_⟩) (fun q h => by cases h) (fk_get fk_cX9_howManyAlike_0 17 rfl)
  exact lp_1 (lenS.getD sk 0 + 1) (0) ls (by omega) (by omega) (lv_sub hl [0, 1, 2] rfl)
set_option maxHeartbeats 800000 in
set_option maxRecDepth 100000 in
theorem c_x9_readWord (l : Launch) (G : GG) (ad : Nat → Nat) (S : FS) (sz : Nat)  (hX : XI S) : Met l yX9_readWord (Cond.code yX9_readWord cX9_readWord 5 (some .int) :: TBL) ({ frames := 7, cells := 0, slots := 0, locals := 191 } : Room) (PcE G (wX G ad S) sz [.ref (ad 57)]) (va_Qi (fun (r : Int32) (S' : FS) => XI S' ∧ Fr (fun j k => (j = 57 ∧ (k = 2 ∨ k = 3 ∨ k = 4 ∨ k = 7 ∨ k = 8)) ∨ ((j = 59 ∨ j = 60) ∧ k = 99)) S S' ∧ True) (fun S' t => BW G (va_A (wX G ad S) sz) (wX G ad S') t) (va_A (wX G ad S) sz)) 0 0 (va_A (wX G ad S) sz) := by
  refine Met.ofW (cc := cX9_readWord) (maxL := 5) (ret := (some .int)) (by decide) rfl ?_
  intro p e s m args below meth c₀ s₁ B hml hv
  obtain ⟨rfl, hsz, hP, hK, hD0, hE⟩ := hv
  have hx := B.exec
  have hb := B.bytes
  have hr := B.returns
  have hT : ∀ w ∈ TBL, w.before ([.ref (ad 57)] : List Value).toArray s = true := fun w h => atoms_spec (ws := Cond.code yX9_readWord cX9_readWord 5 (some .int) :: TBL) B.pre w (List.mem_cons_of_mem _ h)
  have hown : s.vm.findClass "LittleMore$Text" = some m.cls := findClass_of_methodNamed B.named
  have hlocks := B.notSynchronized
  subst hsz
  have hD := hD0.self (sz := s.heap.size)
  generalize hAe : va_A (wX G ad S) s.heap.size = A at hD hE ⊢
  have hA : ∀ q : Nat, s.heap.size ≤ q → A q := fun q h => by rw [← hAe]; exact Or.inr h
  have hS : va_S A s.heap s.heap [] := va_S.rf
  have hP : va_P G.1 vwCl (wX G ad S) s.heap := hP
  have hl := lv_entry ([.ref (ad 57)]) (n := 5) (Nat.le_of_ble_eq_true rfl)
  rw [lg_entry_eq]
  generalize (lg_sl ([.ref (ad 57)]) ++ List.replicate (5 - (lg_sl ([.ref (ad 57)])).length) Slot.unset).toArray = ls at hl ⊢
  have hl : lv_has ls 5 [(0, .ref (ad 57))] := hl
  refine W_abs (fun Q hQ => ?_)
  generalize ([.ref (ad 57)] : List Value).toArray = args at hT hQ ⊢
  refine lv_iconst (v := 0) hx hb (fk_get fk_cX9_readWord_0 0 rfl) (by decide) ?_
  refine lv_istore_n (lv' := [(1, .int (0)), (0, .ref (ad 57))]) hx hb (fk_get fk_cX9_readWord_0 1 rfl) rfl hl (by decide) rfl (fun ls hl => ?_)
  refine lv_iconst (v := 0) hx hb (fk_get fk_cX9_readWord_0 2 rfl) (by decide) ?_
  refine lv_istore_n (lv' := [(2, .int (0)), (1, .int (0)), (0, .ref (ad 57))]) hx hb (fk_get fk_cX9_readWord_0 3 rfl) rfl hl (by decide) rfl (fun ls hl => ?_)
  have lp_1 : ∀ (fu : Nat) (c : Nat) (v1 : Int32) (SL4 : FS) (H_3 : Heap) (locs_4 : List Loc) (ls : Array Slot),  (XI SL4) → (Fr (fun j k => (j = 57 ∧ (k = 2 ∨ k = 3 ∨ k = 4 ∨ k = 7 ∨ k = 8)) ∨ ((j = 59 ∨ j = 60) ∧ k = 99)) S SL4) → (c ≤ 4) → (4 < c + fu) → va_P G.1 vwCl (wX G ad SL4) H_3 → va_D A (wX G ad SL4) → va_S A s.heap H_3 locs_4 → lv_has ls 5 [(2, .int ((nI c))), (1, .int (v1)), (0, .ref (ad 57))] → W p l e ({ frames := 7, cells := 0, slots := 0, locals := 191 } : Room) s m args below meth c₀ H_3 locs_4 0 0 Q (F0 m 4 ls []) := by
    intro fu
    induction fu with
    | zero =>
      intro c v1 SL4 H_3 locs_4 ls hXl4 hFl4 hk hf hP hD hS hl
      exact absurd hf (by omega)
    | succ fu ih =>
      intro c v1 SL4 H_3 locs_4 ls hXl4 hFl4 hk hf hP hD hS hl
      refine lv_iload_n hx hb (fk_get fk_cX9_readWord_0 4 rfl) rfl (lv_at hl 0 rfl) ?_
      refine lv_iconst (v := 4) hx hb (fk_get fk_cX9_readWord_0 5 rfl) (by decide) ?_
      refine lv_icmp_ge (tgt := 56) hx hb (fk_get fk_cX9_readWord_0 6 rfl) (by decide) (fun c_5 => ?_) (fun c_5 => ?_)
      · have q_c_5 : 4 ≤ c := ci_le (a := 4) (b := c) (by omega) (by omega) c_5
        refine lv_aload_n hx hb (fk_get fk_cX9_readWord_1 0 rfl) rfl (lv_at hl 2 rfl) ?_
        refine lv_dup hx hb (fk_get fk_cX9_readWord_1 1 rfl) rfl ?_
        refine va_get (D := G.1) (ci := 11) (v := .int (fF SL4 57 2)) (C := RX9) (T := TX9) (N := 9) hx hb hT inX9 hown hK hP 57 (ix_at (lt71 (by omega)) (cX_text G ad SL4)) rfl 2 (by decide) (hT _ m2_5) (fun _ h9 => h9) rfl (fk_get fk_cX9_readWord_1 2 rfl) ?_
        refine lv_iload_n hx hb (fk_get fk_cX9_readWord_1 3 rfl) rfl (lv_at hl 1 rfl) ?_
        refine lv_iadd hx hb (fk_get fk_cX9_readWord_1 4 rfl) ?_
        refine va_put (D := G.1) (ci := 11) (v := .int (((fF SL4 57 2) + v1))) (ty := .int) (C := RX9) (T := TX9) (N := 9) hx hb hT inX9 tyX9 tyX9_ok nmX9 hown hK hP hD hS 57 (ix_at (lt71 (by omega)) (cX_text G ad SL4)) rfl 2 (by decide) (hT _ m2_5) (fun _ h9 => h9) rfl (by decide +kernel) rfl rfl (Nat.le_of_ble_eq_true rfl) (fk_get fk_cX9_readWord_1 5 rfl) (fun H locs hP hD hS => ?_)
        rw [pX_text_2 (S := SL4) (((fF SL4 57 2) + v1))] at hP hD
        have hX_6 : XI (setF SL4 57 2 (((fF SL4 57 2) + v1))) := XI.sF hXl4 _ ⟨by omega, by omega, by omega, by omega, by omega, by omega, by omega, by omega⟩
        have hF_7 : Fr (fun j k => (j = 57 ∧ (k = 2 ∨ k = 3 ∨ k = 4 ∨ k = 7 ∨ k = 8)) ∨ ((j = 59 ∨ j = 60) ∧ k = 99)) S (setF SL4 57 2 (((fF SL4 57 2) + v1))) := Fr.sF hFl4 (by omega)
        refine lv_iconst (v := (-1)) hx hb (fk_get fk_cX9_readWord_1 6 rfl) (by decide) ?_
        subst hQ
        have hpost : XI (setF SL4 57 2 (((fF SL4 57 2) + v1))) ∧ Fr (fun j k => (j = 57 ∧ (k = 2 ∨ k = 3 ∨ k = 4 ∨ k = 7 ∨ k = 8)) ∨ ((j = 59 ∨ j = 60) ∧ k = 99)) S (setF SL4 57 2 (((fF SL4 57 2) + v1))) ∧ True := by
          exact ⟨hX_6, hF_7, trivial⟩
        exact W.iret (v := (-1)) hx hb hr (fun t_ ht_ hW_ => ⟨⟨(-1), (setF SL4 57 2 (((fF SL4 57 2) + v1))), rfl, hpost, by rw [ht_]; exact hP, va_K.moved hW_.alike hK, hD⟩, hS.F ht_⟩) hS.2.2 (fk_get fk_cX9_readWord_1 7 rfl)
      have q_c_5 : c < 4 := ci_nle (a := 4) (b := c) (by omega) (by omega) c_5
      refine lv_iload_n hx hb (fk_get fk_cX9_readWord_0 7 rfl) rfl (lv_at hl 0 rfl) ?_
      have hFc := va_self hD hS hA
      refine va_csq (W.runS (As := [.int ((nI c))]) (rest := []) ⟨hx, hb, hml, hown, hT⟩ (c_x9_nameOf l G ad SL4 H_3.size ((nI c)) (hXl4)) (tS 1 hT m2_229 m2_230 m1_12 m2_231 rfl rfl (by decide +kernel) ⟨Nat.le_of_ble_eq_true rfl, Nat.le_of_ble_eq_true rfl⟩) ⟨PcE_blind, PcE_of hP hK hD hE hS (fun q h => hFc q h) _⟩ rfl rfl hl.1 rfl (lv_room (Nat.le_of_ble_eq_true rfl)) (fk_get fk_cX9_readWord_0 8 rfl) ⟨Nat.zero_le _, Nat.zero_le _⟩) (fun r_8 hw_9 => ?_)
      try dsimp only at hw_9
      obtain ⟨sk_10, hsk_10, rfl⟩ := hw_9
      rw [show va_rf (some (G.2.2.2 (310 + sk_10))) = .ref (G.2.2.2 (310 + sk_10)) from rfl]
      refine lv_astore_n (lv' := [(3, .ref (G.2.2.2 (310 + sk_10))), (2, .int ((nI c))), (1, .int (v1)), (0, .ref (ad 57))]) hx hb (fk_get fk_cX9_readWord_0 9 rfl) rfl hl (by decide) rfl (fun ls hl => ?_)
      refine lv_aload_n hx hb (fk_get fk_cX9_readWord_0 10 rfl) rfl (lv_at hl 3 rfl) ?_
      refine lv_aload_n hx hb (fk_get fk_cX9_readWord_0 11 rfl) rfl (lv_at hl 0 rfl) ?_
      have hFc := va_self hD hS hA
      refine vp_callSi (W.runV (As := [.ref (G.2.2.2 (310 + sk_10))]) (rest := []) ⟨hx, hb, hml, hown, hT⟩ (c_x9_howManyAlike l G ad SL4 H_3.size (sk_10) ((show sk_10 < 6 by omega)) (hXl4)) (tV 1 hT m2_236 m2_238 mp_4 m1_12 m2_239 rfl rfl (by decide +kernel) ⟨Nat.le_of_ble_eq_true rfl, Nat.le_of_ble_eq_true rfl⟩) ⟨PcE_blind, va_recv hK hP (ci := 11) (q0 := 57) rfl (ix_at (lt71 (by omega)) (cX_text G ad SL4)), PcE_of hP hK hD hE hS (fun q h => hFc q h) _⟩ rfl rfl hl.1 rfl (lv_room (Nat.le_of_ble_eq_true rfl)) (fk_get fk_cX9_readWord_0 12 rfl) ⟨Nat.zero_le _, Nat.zero_le _⟩) (fun r_10 hw_11 => ?_)
      try dsimp only at hw_11
      refine lv_istore (lv' := [(4, .int (r_10)), (3, .ref (G.2.2.2 (310 + sk_10))), (2, .int ((nI c))), (1, .int (v1)), (0, .ref (ad 57))]) hx hb (fk_get fk_cX9_readWord_0 13 rfl) hl (by decide) rfl (fun ls hl => ?_)
      refine lv_iload hx hb (fk_get fk_cX9_readWord_0 14 rfl) (lv_at hl 0 rfl) ?_
      refine lv_aload_n hx hb (fk_get fk_cX9_readWord_0 15 rfl) rfl (lv_at hl 1 rfl) ?_
      have hFc := va_self hD hS hA
      refine vp_callSi (W.runV (As := []) (rest := [.int (r_10)]) ⟨hx, hb, hml, hown, hT⟩ (c_jslen l G ad SL4 H_3.size (sk_10) ((show sk_10 < 6 by omega)) (hXl4)) (tV 0 hT m3_0 m3_1 m3_2 m1_19 m3_3 rfl rfl (by decide +kernel) ⟨Nat.le_of_ble_eq_true rfl, Nat.le_of_ble_eq_true rfl⟩) ⟨PcE_blind, vk_recv hE.2.2.2.2.1.1 (show sk_10 < 6 by omega) hS, PcE_of hP hK hD hE hS (fun q h => hFc q h) _⟩ rfl rfl hl.1 rfl (lv_room (Nat.le_of_ble_eq_true rfl)) (fk_get fk_cX9_readWord_0 16 rfl) ⟨Nat.zero_le _, Nat.zero_le _⟩) (fun r_12 hw_13 => ?_)
      try dsimp only at hw_13
      refine lv_icmp_ne (tgt := 43) hx hb (fk_get fk_cX9_readWord_0 17 rfl) (by decide) (fun c_14 => ?_) (fun c_14 => ?_)
      · refine lv_iload_n hx hb (fk_get fk_cX9_readWord_0 26 rfl) rfl (lv_at hl 3 rfl) ?_
        refine lv_iload hx hb (fk_get fk_cX9_readWord_0 27 rfl) (lv_at hl 0 rfl) ?_
        refine vp_callSi (W.runS (As := [.int (v1), .int (r_10)]) (rest := []) ⟨hx, hb, hml, hown, hT⟩ (c_jmax l (v1) (r_10) ) (tS 2 hT m3_48 m2_139 m1_18 m2_140 rfl rfl (by decide +kernel) ⟨Nat.le_of_ble_eq_true rfl, Nat.le_of_ble_eq_true rfl⟩) ⟨PcN_blind, PcN_of _ _ _⟩ rfl rfl hl.1 rfl (lv_room (Nat.le_of_ble_eq_true rfl)) (fk_get fk_cX9_readWord_0 28 rfl) ⟨Nat.zero_le _, Nat.zero_le _⟩) (fun r_15 hw_16 => ?_)
        try dsimp only at hw_16
        refine lv_istore_n (lv' := [(1, .int (r_15)), (4, .int (r_10)), (3, .ref (G.2.2.2 (310 + sk_10))), (2, .int ((nI c))), (0, .ref (ad 57))]) hx hb (fk_get fk_cX9_readWord_0 29 rfl) rfl hl (by decide) rfl (fun ls hl => ?_)
        refine lv_iinc (v := (nI (c + 1))) (lv' := [(2, .int ((nI (c + 1)))), (1, .int (r_15)), (4, .int (r_10)), (3, .ref (G.2.2.2 (310 + sk_10))), (0, .ref (ad 57))]) hx hb (fk_get fk_cX9_readWord_0 30 rfl) hl (k := 3) rfl ((nI_1 c)) (by decide) rfl (fun ls hl => ?_)
        refine lv_goto (tgt := 4) hx hb (fk_get fk_cX9_readWord_0 31 rfl) (by decide) ?_
        exact ih (c + 1) (r_15) (SL4) _ _ ls (hXl4) (hFl4) (by omega) (by omega) hP hD hS (lv_sub hl [0, 1, 4] rfl)
      refine lv_aload_n hx hb (fk_get fk_cX9_readWord_0 18 rfl) rfl (lv_at hl 4 rfl) ?_
      refine lv_dup hx hb (fk_get fk_cX9_readWord_0 19 rfl) rfl ?_
      refine va_get (D := G.1) (ci := 11) (v := .int (fF SL4 57 2)) (C := RX9) (T := TX9) (N := 9) hx hb hT inX9 hown hK hP 57 (ix_at (lt71 (by omega)) (cX_text G ad SL4)) rfl 2 (by decide) (hT _ m2_5) (fun _ h9 => h9) rfl (fk_get fk_cX9_readWord_0 20 rfl) ?_
      refine lv_iload hx hb (fk_get fk_cX9_readWord_0 21 rfl) (lv_at hl 0 rfl) ?_
      refine lv_iadd hx hb (fk_get fk_cX9_readWord_0 22 rfl) ?_
      refine va_put (D := G.1) (ci := 11) (v := .int (((fF SL4 57 2) + r_10))) (ty := .int) (C := RX9) (T := TX9) (N := 9) hx hb hT inX9 tyX9 tyX9_ok nmX9 hown hK hP hD hS 57 (ix_at (lt71 (by omega)) (cX_text G ad SL4)) rfl 2 (by decide) (hT _ m2_5) (fun _ h9 => h9) rfl (by decide +kernel) rfl rfl (Nat.le_of_ble_eq_true rfl) (fk_get fk_cX9_readWord_0 23 rfl) (fun H locs hP hD hS => ?_)
      rw [pX_text_2 (S := SL4) (((fF SL4 57 2) + r_10))] at hP hD
      have hX_17 : XI (setF SL4 57 2 (((fF SL4 57 2) + r_10))) := XI.sF hXl4 _ ⟨by omega, by omega, by omega, by omega, by omega, by omega, by omega, by omega⟩
      have hF_18 : Fr (fun j k => (j = 57 ∧ (k = 2 ∨ k = 3 ∨ k = 4 ∨ k = 7 ∨ k = 8)) ∨ ((j = 59 ∨ j = 60) ∧ k = 99)) S (setF SL4 57 2 (((fF SL4 57 2) + r_10))) := Fr.sF hFl4 (by omega)
      refine lv_iload_n hx hb (fk_get fk_cX9_readWord_0 24 rfl) rfl (lv_at hl 2 rfl) ?_
      subst hQ
      have hpost : XI (setF SL4 57 2 (((fF SL4 57 2) + r_10))) ∧ Fr (fun j k => (j = 57 ∧ (k = 2 ∨ k = 3 ∨ k = 4 ∨ k = 7 ∨ k = 8)) ∨ ((j = 59 ∨ j = 60) ∧ k = 99)) S (setF SL4 57 2 (((fF SL4 57 2) + r_10))) ∧ True := by
        exact ⟨hX_17, hF_18, trivial⟩
      exact W.iret (v := (nI c)) hx hb hr (fun t_ ht_ hW_ => ⟨⟨(nI c), (setF SL4 57 2 (((fF SL4 57 2) + r_10))), rfl, hpost, by rw [ht_]; exact hP, va_K.moved hW_.alike hK, hD⟩, hS.F ht_⟩) hS.2.2 (fk_get fk_cX9_readWord_0 25 rfl)
  exact lp_1 (5) (0) (0) (S) _ _ ls (hX) ((Fr.rf : Fr (fun j k => (j = 57 ∧ (k = 2 ∨ k = 3 ∨ k = 4 ∨ k = 7 ∨ k = 8)) ∨ ((j = 59 ∨ j = 60) ∧ k = 99)) S S)) (by omega) (by omega) hP hD hS (lv_sub hl [0, 1, 2] rfl)
