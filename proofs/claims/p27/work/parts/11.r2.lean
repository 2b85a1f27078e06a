set_option maxHeartbeats 4000000 in
set_option maxRecDepth 100000 in
theorem c_isGone (l : Launch) (G : GG) (ad : Nat → Nat) (S : FS) (sz : Nat) (c : Int32) (j : Nat) (ej : c = nI j) (hj : j < 6) : Met l yX12_isGone (Cond.code yX12_isGone cX12_isGone 2 (some .boolean) :: TBL) ({ frames := 3, cells := 0, slots := 0, locals := 90 } : Room) (PcW G (wR G ad S) sz [.ref (ad 0), .int (c)]) (vp_Si (fun (r : Int32) => r = if fA S 1 (12 * j + 7) = 1 then 1 else 0)) 0 0 (fun _ => False) := by
  refine Met.ofW (cc := cX12_isGone) (maxL := 2) (ret := (some .boolean)) (by decide) rfl ?_
  intro p e s m args below meth c₀ s₁ B hml hv
  obtain ⟨rfl, hsz, hP, hK, hD0⟩ := hv
  have hx := B.exec
  have hb := B.bytes
  have hr := B.returns
  have hT : ∀ w ∈ TBL, w.before ([.ref (ad 0), .int (c)] : List Value).toArray s = true := fun w h => atoms_spec (ws := Cond.code yX12_isGone cX12_isGone 2 (some .boolean) :: TBL) B.pre w (List.mem_cons_of_mem _ h)
  have hown : s.vm.findClass "LittleMoreModel" = some m.cls := findClass_of_methodNamed B.named
  have hlocks := B.notSynchronized
  have hD := hD0
  have hP : va_P G.1 vwCl (wR G ad S) s.heap := hP
  have hl := lv_entry ([.ref (ad 0), .int (c)]) (n := 2) (Nat.le_of_ble_eq_true rfl)
  rw [lg_entry_eq]
  generalize (lg_sl ([.ref (ad 0), .int (c)]) ++ List.replicate (2 - (lg_sl ([.ref (ad 0), .int (c)])).length) Slot.unset).toArray = ls at hl ⊢
  have hl : lv_has ls 2 [(0, .ref (ad 0)), (1, .int (c))] := hl
  refine W_abs (fun Q hQ => ?_)
  generalize ([.ref (ad 0), .int (c)] : List Value).toArray = args at hT hQ ⊢
  refine lv_aload_n hx hb (fk_get fk_cX12_isGone_0 0 rfl) rfl (lv_at hl 0 rfl) ?_
  refine lv_iload_n hx hb (fk_get fk_cX12_isGone_0 1 rfl) rfl (lv_at hl 1 rfl) ?_
  refine lv_bipush (v := 7) hx hb (fk_get fk_cX12_isGone_0 2 rfl) (by decide) ?_
  refine vp_callSi (W.runV (As := [.int (c), .int (7)]) (rest := []) ⟨hx, hb, hml, hown, hT⟩ (c_of0 l G ad S s.heap.size (c) (7) (((12 * j) + 7)) (n_add (n_mul (rfl) (ej)) (rfl)) (by omega)) (tV 2 hT m6_119 m6_121 mp_34 m1_17 m6_122 rfl rfl (by decide +kernel) ⟨Nat.le_of_ble_eq_true rfl, Nat.le_of_ble_eq_true rfl⟩) ⟨PcW_blind, va_recv hK hP (ci := 14) (q0 := 0) rfl (ix_at (by decide) (cR_0 G ad S)), PcW_of hP hK hD _⟩ rfl rfl hl.1 rfl (lv_room (Nat.le_of_ble_eq_true rfl)) (fk_get fk_cX12_isGone_0 3 rfl) ⟨Nat.zero_le _, Nat.zero_le _⟩) (fun r_1 hw_2 => ?_)
  try dsimp only at hw_2
  subst hw_2
  refine lv_iconst (v := 1) hx hb (fk_get fk_cX12_isGone_0 4 rfl) (by decide) ?_
  refine lv_icmp_ne (tgt := 15) hx hb (fk_get fk_cX12_isGone_0 5 rfl) (by decide) (fun c_3 => ?_) (fun c_3 => ?_)
  · refine lv_iconst (v := 0) hx hb (fk_get fk_cX12_isGone_0 8 rfl) (by decide) ?_
    subst hQ
    have hpost : (0 : Int32) = if fA S 1 (12 * j + 7) = 1 then 1 else 0 := by
      first | exact is1_t (by assumption) | exact is1_f (by assumption)
    exact W.zret (v := 0) hx hb hr rfl (fun t_ ht_ hW_ => ⟨0, rfl, hpost, ht_⟩) (fun q h => by cases h) (fk_get fk_cX12_isGone_0 9 rfl)
  refine lv_iconst (v := 1) hx hb (fk_get fk_cX12_isGone_0 6 rfl) (by decide) ?_
  refine lv_goto (tgt := 16) hx hb (fk_get fk_cX12_isGone_0 7 rfl) (by decide) ?_
  subst hQ
  have hpost : (1 : Int32) = if fA S 1 (12 * j + 7) = 1 then 1 else 0 := by
    first | exact is1_t (by assumption) | exact is1_f (by assumption)
  exact W.zret (v := 1) hx hb hr rfl (fun t_ ht_ hW_ => ⟨1, rfl, hpost, ht_⟩) (fun q h => by cases h) (fk_get fk_cX12_isGone_0 9 rfl)
set_option maxHeartbeats 4000000 in
set_option maxRecDepth 100000 in
theorem c_knife (l : Launch) (G : GG) (ad : Nat → Nat) (S : FS) (sz : Nat) (n : Int32) : Met l yX12_knife (Cond.code yX12_knife cX12_knife 3 (some .int) :: TBL) ({ frames := 3, cells := 0, slots := 0, locals := 93 } : Room) (PcW G (wR G ad S) sz [.ref (ad 0), .int (n)]) (va_Qi (fun (r : Int32) (S' : FS) => r = (if 0 ≤ n ∧ n ≤ 30 then fF S 0 2 else -2) ∧ S' = (if 0 ≤ n ∧ n ≤ 30 then setF (setF S 0 8 0) 0 2 n else (setF S 0 8 0))) (fun S' t => BW G (va_A (wR G ad S) sz) (wR G ad S') t) (va_A (wR G ad S) sz)) 0 0 (va_A (wR G ad S) sz) := by
  refine Met.ofW (cc := cX12_knife) (maxL := 3) (ret := (some .int)) (by decide) rfl ?_
  intro p e s m args below meth c₀ s₁ B hml hv
  obtain ⟨rfl, hsz, hP, hK, hD0⟩ := hv
  have hx := B.exec
  have hb := B.bytes
  have hr := B.returns
  have hT : ∀ w ∈ TBL, w.before ([.ref (ad 0), .int (n)] : List Value).toArray s = true := fun w h => atoms_spec (ws := Cond.code yX12_knife cX12_knife 3 (some .int) :: TBL) B.pre w (List.mem_cons_of_mem _ h)
  have hown : s.vm.findClass "LittleMoreModel" = some m.cls := findClass_of_methodNamed B.named
  have hlocks := B.notSynchronized
  subst hsz
  have hD := hD0.self (sz := s.heap.size)
  generalize hAe : va_A (wR G ad S) s.heap.size = A at hD ⊢
  have hA : ∀ q : Nat, s.heap.size ≤ q → A q := fun q h => by rw [← hAe]; exact Or.inr h
  have hS : va_S A s.heap s.heap [] := va_S.rf
  have hP : va_P G.1 vwCl (wR G ad S) s.heap := hP
  have hl := lv_entry ([.ref (ad 0), .int (n)]) (n := 3) (Nat.le_of_ble_eq_true rfl)
  rw [lg_entry_eq]
  generalize (lg_sl ([.ref (ad 0), .int (n)]) ++ List.replicate (3 - (lg_sl ([.ref (ad 0), .int (n)])).length) Slot.unset).toArray = ls at hl ⊢
  have hl : lv_has ls 3 [(0, .ref (ad 0)), (1, .int (n))] := hl
  refine W_abs (fun Q hQ => ?_)
  generalize ([.ref (ad 0), .int (n)] : List Value).toArray = args at hT hQ ⊢
  refine lv_aload_n hx hb (fk_get fk_cX12_knife_0 0 rfl) rfl (lv_at hl 0 rfl) ?_
  refine lv_iconst (v := 0) hx hb (fk_get fk_cX12_knife_0 1 rfl) (by decide) ?_
  refine va_put (D := G.1) (ci := 14) (v := .int (0)) (ty := .int) (C := RX12) (T := TX12) (N := 49) hx hb hT inX12 tyX12 tyX12_ok nmX12 hown hK hP hD hS 0 (ix_at (by decide) (cR_0 G ad S)) rfl 8 (by decide) (hT _ m5_109) (fun _ h9 => h9) rfl (by decide +kernel) rfl rfl (Nat.le_of_ble_eq_true rfl) (fk_get fk_cX12_knife_0 2 rfl) (fun H locs hP hD hS => ?_)
  rw [pR_thrown G ad S (0)] at hP hD
  refine lv_iload_n hx hb (fk_get fk_cX12_knife_0 3 rfl) rfl (lv_at hl 1 rfl) ?_
  refine lv_i2l hx hb (fk_get fk_cX12_knife_0 4 rfl) rfl ?_
  refine lv_lconst (v := 0) hx hb (fk_get fk_cX12_knife_0 5 rfl) (by decide) ?_
  refine lv_ldc2 (v := 30) hx hb hown (hT _ m6_175) (fk_get fk_cX12_knife_0 6 rfl) ?_
  refine vp_callSi (W.runS (As := [.long ((n).toInt64), .long (0), .long (30)]) (rest := []) ⟨hx, hb, hml, hown, hT⟩ (c_in l ((n).toInt64) (0) (30) ) (tS 3 hT m6_31 m6_32 m1_17 m6_33 rfl rfl (by decide +kernel) ⟨Nat.le_of_ble_eq_true rfl, Nat.le_of_ble_eq_true rfl⟩) ⟨PcN_blind, PcN_of _ _ _⟩ rfl rfl hl.1 rfl (lv_room (Nat.le_of_ble_eq_true rfl)) (fk_get fk_cX12_knife_0 7 rfl) ⟨Nat.zero_le _, Nat.zero_le _⟩) (fun r_1 hw_2 => ?_)
  try dsimp only at hw_2
  have hw_2 := in_eq hw_2 (n) 0 30 (rfl) (by decide) (by decide)
  refine lv_if_ne (tgt := 20) hx hb (fk_get fk_cX12_knife_0 8 rfl) (by decide) (fun c_3 => ?_) (fun c_3 => ?_)
  · have p_c_3 := if1_t hw_2 c_3
    refine lv_aload_n hx hb (fk_get fk_cX12_knife_0 11 rfl) rfl (lv_at hl 0 rfl) ?_
    refine va_get (D := G.1) (ci := 14) (v := .int ((fF S 0 2))) (C := RX12) (T := TX12) (N := 49) hx hb hT inX12 hown hK hP 0 (ix_at (by decide) (cR_0 G ad (setF S 0 8 (0)))) rfl 2 (by decide) (hT _ m5_103) (fun _ h9 => h9) rfl (fk_get fk_cX12_knife_0 12 rfl) ?_
    refine lv_istore_n (lv' := [(2, .int ((fF S 0 2))), (0, .ref (ad 0)), (1, .int (n))]) hx hb (fk_get fk_cX12_knife_0 13 rfl) rfl hl (by decide) rfl (fun ls hl => ?_)
    refine lv_aload_n hx hb (fk_get fk_cX12_knife_0 14 rfl) rfl (lv_at hl 1 rfl) ?_
    refine lv_iload_n hx hb (fk_get fk_cX12_knife_0 15 rfl) rfl (lv_at hl 2 rfl) ?_
    refine va_put (D := G.1) (ci := 14) (v := .int (n)) (ty := .int) (C := RX12) (T := TX12) (N := 49) hx hb hT inX12 tyX12 tyX12_ok nmX12 hown hK hP hD hS 0 (ix_at (by decide) (cR_0 G ad (setF S 0 8 (0)))) rfl 2 (by decide) (hT _ m5_103) (fun _ h9 => h9) rfl (by decide +kernel) rfl rfl (Nat.le_of_ble_eq_true rfl) (fk_get fk_cX12_knife_0 16 rfl) (fun H locs hP hD hS => ?_)
    rw [pR_off G ad (setF S 0 8 (0)) (n)] at hP hD
    refine lv_iload_n hx hb (fk_get fk_cX12_knife_0 17 rfl) rfl (lv_at hl 0 rfl) ?_
    subst hQ
    have hpost : ((fF S 0 2) : Int32) = (if 0 ≤ n ∧ n ≤ 30 then fF S 0 2 else -2) ∧ (setF (setF S 0 8 (0)) 0 2 (n)) = (if 0 ≤ n ∧ n ≤ 30 then setF (setF S 0 8 0) 0 2 n else (setF S 0 8 0)) := by
      refine ⟨?_, ?_⟩ <;> (repeat (first | rw [if_pos (by assumption)] | rw [if_neg (by assumption)])) <;> first | rfl | assumption
    exact W.iret (v := (fF S 0 2)) hx hb hr (fun t_ ht_ hW_ => ⟨⟨(fF S 0 2), (setF (setF S 0 8 (0)) 0 2 (n)), rfl, hpost, by rw [ht_]; exact hP, va_K.moved hW_.alike hK, hD⟩, hS.F ht_⟩) hS.2.2 (fk_get fk_cX12_knife_0 18 rfl)
  have p_c_3 := if1_f hw_2 c_3
  refine lv_bipush (v := (-2)) hx hb (fk_get fk_cX12_knife_0 9 rfl) (by decide) ?_
  subst hQ
  have hpost : ((-2) : Int32) = (if 0 ≤ n ∧ n ≤ 30 then fF S 0 2 else -2) ∧ (setF S 0 8 (0)) = (if 0 ≤ n ∧ n ≤ 30 then setF (setF S 0 8 0) 0 2 n else (setF S 0 8 0)) := by
    refine ⟨?_, ?_⟩ <;> (repeat (first | rw [if_pos (by assumption)] | rw [if_neg (by assumption)])) <;> first | rfl | assumption
  exact W.iret (v := (-2)) hx hb hr (fun t_ ht_ hW_ => ⟨⟨(-2), (setF S 0 8 (0)), rfl, hpost, by rw [ht_]; exact hP, va_K.moved hW_.alike hK, hD⟩, hS.F ht_⟩) hS.2.2 (fk_get fk_cX12_knife_0 10 rfl)
set_option maxHeartbeats 4000000 in
set_option maxRecDepth 100000 in
theorem c_feed (l : Launch) (G : GG) (ad : Nat → Nat) (S : FS) (sz : Nat) (z : Nat) (sign : Int32) (hz : fF S 0 17 = nI z) (hz1 : z ≤ 100) : Met l yX12_feed (Cond.code yX12_feed cX12_feed 2 (some .int) :: TBL) ({ frames := 3, cells := 0, slots := 0, locals := 93 } : Room) (PcW G (wR G ad S) sz [.ref (ad 0), .int (sign)]) (va_Qi (fun (r : Int32) (S' : FS) => r = (if 0 ≤ sign ∧ sign ≤ 127 then if fF S 0 17 = 100 then -4 else fF S 0 17 + 1 else -2) ∧ S' = (if 0 ≤ sign ∧ sign ≤ 127 then if fF S 0 17 = 100 then (setF S 0 8 0) else setF (setA (setF S 0 8 0) 6 (upd (fA S 6) z sign)) 0 17 (fF S 0 17 + 1) else (setF S 0 8 0))) (fun S' t => BW G (va_A (wR G ad S) sz) (wR G ad S') t) (va_A (wR G ad S) sz)) 0 0 (va_A (wR G ad S) sz) := by
  refine Met.ofW (cc := cX12_feed) (maxL := 2) (ret := (some .int)) (by decide) rfl ?_
  intro p e s m args below meth c₀ s₁ B hml hv
  obtain ⟨rfl, hsz, hP, hK, hD0⟩ := hv
  have hx := B.exec
  have hb := B.bytes
  have hr := B.returns
  have hT : ∀ w ∈ TBL, w.before ([.ref (ad 0), .int (sign)] : List Value).toArray s = true := fun w h => atoms_spec (ws := Cond.code yX12_feed cX12_feed 2 (some .int) :: TBL) B.pre w (List.mem_cons_of_mem _ h)
  have hown : s.vm.findClass "LittleMoreModel" = some m.cls := findClass_of_methodNamed B.named
  have hlocks := B.notSynchronized
  subst hsz
  have hD := hD0.self (sz := s.heap.size)
  generalize hAe : va_A (wR G ad S) s.heap.size = A at hD ⊢
  have hA : ∀ q : Nat, s.heap.size ≤ q → A q := fun q h => by rw [← hAe]; exact Or.inr h
  have hS : va_S A s.heap s.heap [] := va_S.rf
  have hP : va_P G.1 vwCl (wR G ad S) s.heap := hP
  have hl := lv_entry ([.ref (ad 0), .int (sign)]) (n := 2) (Nat.le_of_ble_eq_true rfl)
  rw [lg_entry_eq]
  generalize (lg_sl ([.ref (ad 0), .int (sign)]) ++ List.replicate (2 - (lg_sl ([.ref (ad 0), .int (sign)])).length) Slot.unset).toArray = ls at hl ⊢
  have hl : lv_has ls 2 [(0, .ref (ad 0)), (1, .int (sign))] := hl
  refine W_abs (fun Q hQ => ?_)
  generalize ([.ref (ad 0), .int (sign)] : List Value).toArray = args at hT hQ ⊢
  refine lv_aload_n hx hb (fk_get fk_cX12_feed_0 0 rfl) rfl (lv_at hl 0 rfl) ?_
  refine lv_iconst (v := 0) hx hb (fk_get fk_cX12_feed_0 1 rfl) (by decide) ?_
  refine va_put (D := G.1) (ci := 14) (v := .int (0)) (ty := .int) (C := RX12) (T := TX12) (N := 49) hx hb hT inX12 tyX12 tyX12_ok nmX12 hown hK hP hD hS 0 (ix_at (by decide) (cR_0 G ad S)) rfl 8 (by decide) (hT _ m5_109) (fun _ h9 => h9) rfl (by decide +kernel) rfl rfl (Nat.le_of_ble_eq_true rfl) (fk_get fk_cX12_feed_0 2 rfl) (fun H locs hP hD hS => ?_)
  rw [pR_thrown G ad S (0)] at hP hD
  refine lv_iload_n hx hb (fk_get fk_cX12_feed_0 3 rfl) rfl (lv_at hl 1 rfl) ?_
  refine lv_i2l hx hb (fk_get fk_cX12_feed_0 4 rfl) rfl ?_
  refine lv_lconst (v := 0) hx hb (fk_get fk_cX12_feed_0 5 rfl) (by decide) ?_
  refine lv_ldc2 (v := 127) hx hb hown (hT _ m6_30) (fk_get fk_cX12_feed_0 6 rfl) ?_
  refine vp_callSi (W.runS (As := [.long ((sign).toInt64), .long (0), .long (127)]) (rest := []) ⟨hx, hb, hml, hown, hT⟩ (c_in l ((sign).toInt64) (0) (127) ) (tS 3 hT m6_31 m6_32 m1_17 m6_33 rfl rfl (by decide +kernel) ⟨Nat.le_of_ble_eq_true rfl, Nat.le_of_ble_eq_true rfl⟩) ⟨PcN_blind, PcN_of _ _ _⟩ rfl rfl hl.1 rfl (lv_room (Nat.le_of_ble_eq_true rfl)) (fk_get fk_cX12_feed_0 7 rfl) ⟨Nat.zero_le _, Nat.zero_le _⟩) (fun r_1 hw_2 => ?_)
  try dsimp only at hw_2
  have hw_2 := in_eq hw_2 (sign) 0 127 (rfl) (by decide) (by decide)
  refine lv_if_ne (tgt := 20) hx hb (fk_get fk_cX12_feed_0 8 rfl) (by decide) (fun c_3 => ?_) (fun c_3 => ?_)
  · have p_c_3 := if1_t hw_2 c_3
    refine lv_aload_n hx hb (fk_get fk_cX12_feed_0 11 rfl) rfl (lv_at hl 0 rfl) ?_
    refine va_get (D := G.1) (ci := 14) (v := .int ((fF S 0 17))) (C := RX12) (T := TX12) (N := 49) hx hb hT inX12 hown hK hP 0 (ix_at (by decide) (cR_0 G ad (setF S 0 8 (0)))) rfl 17 (by decide) (hT _ m5_118) (fun _ h9 => h9) rfl (fk_get fk_cX12_feed_0 12 rfl) ?_
    refine lv_bipush (v := 100) hx hb (fk_get fk_cX12_feed_0 13 rfl) (by decide) ?_
    refine lv_icmp_ne (tgt := 32) hx hb (fk_get fk_cX12_feed_0 14 rfl) (by decide) (fun c_4 => ?_) (fun c_4 => ?_)
    · have hz2 : z ≠ 100 := nI_ne (by rw [← hz]; exact c_4)
      refine lv_aload_n hx hb (fk_get fk_cX12_feed_0 17 rfl) rfl (lv_at hl 0 rfl) ?_
      refine va_get (D := G.1) (ci := 14) (v := .ref (ad 6)) (C := RX12) (T := TX12) (N := 49) hx hb hT inX12 hown hK hP 0 (ix_at (by decide) (cR_0 G ad (setF S 0 8 (0)))) rfl 16 (by decide) (hT _ m5_117) (fun _ h9 => h9) rfl (fk_get fk_cX12_feed_0 18 rfl) ?_
      refine lv_aload_n hx hb (fk_get fk_cX12_feed_0 19 rfl) rfl (lv_at hl 0 rfl) ?_
      refine va_get (D := G.1) (ci := 14) (v := .int ((fF S 0 17))) (C := RX12) (T := TX12) (N := 49) hx hb hT inX12 hown hK hP 0 (ix_at (by decide) (cR_0 G ad (setF S 0 8 (0)))) rfl 17 (by decide) (hT _ m5_118) (fun _ h9 => h9) rfl (fk_get fk_cX12_feed_0 20 rfl) ?_
      refine lv_iload_n hx hb (fk_get fk_cX12_feed_0 21 rfl) rfl (lv_at hl 1 rfl) ?_
      refine r_iast hx hb hK hP hD hS 6 0 (ix_at (by decide) (cR_text G ad (setF S 0 8 (0)))) rfl (z) (hz) (by omega) (by decide) (fk_get fk_cX12_feed_0 22 rfl) (fun H locs hP hD hS => ?_)
      rw [pR_A G ad (setF S 0 8 (0)) (by decide) (by decide) (by decide) (cR_text G ad (setF S 0 8 (0))) (upd (fA (setF S 0 8 (0)) 6) (z) (sign))] at hP hD
      refine lv_aload_n hx hb (fk_get fk_cX12_feed_0 23 rfl) rfl (lv_at hl 0 rfl) ?_
      refine lv_dup hx hb (fk_get fk_cX12_feed_0 24 rfl) rfl ?_
      refine va_get (D := G.1) (ci := 14) (v := .int ((fF S 0 17))) (C := RX12) (T := TX12) (N := 49) hx hb hT inX12 hown hK hP 0 (ix_at (by decide) (cR_0 G ad (setA (setF S 0 8 (0)) 6 (upd (fA (setF S 0 8 (0)) 6) (z) (sign))))) rfl 17 (by decide) (hT _ m5_118) (fun _ h9 => h9) rfl (fk_get fk_cX12_feed_0 25 rfl) ?_
      refine lv_iconst (v := 1) hx hb (fk_get fk_cX12_feed_0 26 rfl) (by decide) ?_
      refine lv_iadd hx hb (fk_get fk_cX12_feed_0 27 rfl) ?_
      refine va_put (D := G.1) (ci := 14) (v := .int (((fF S 0 17) + 1))) (ty := .int) (C := RX12) (T := TX12) (N := 49) hx hb hT inX12 tyX12 tyX12_ok nmX12 hown hK hP hD hS 0 (ix_at (by decide) (cR_0 G ad (setA (setF S 0 8 (0)) 6 (upd (fA (setF S 0 8 (0)) 6) (z) (sign))))) rfl 17 (by decide) (hT _ m5_118) (fun _ h9 => h9) rfl (by decide +kernel) rfl rfl (Nat.le_of_ble_eq_true rfl) (fk_get fk_cX12_feed_0 28 rfl) (fun H locs hP hD hS => ?_)
      rw [pR_size G ad (setA (setF S 0 8 (0)) 6 (upd (fA (setF S 0 8 (0)) 6) (z) (sign))) (((fF S 0 17) + 1))] at hP hD
      refine lv_aload_n hx hb (fk_get fk_cX12_feed_0 29 rfl) rfl (lv_at hl 0 rfl) ?_
      refine va_get (D := G.1) (ci := 14) (v := .int (((fF S 0 17) + 1))) (C := RX12) (T := TX12) (N := 49) hx hb hT inX12 hown hK hP 0 (ix_at (by decide) (cR_0 G ad (setF (setA (setF S 0 8 (0)) 6 (upd (fA (setF S 0 8 (0)) 6) (z) (sign))) 0 17 (((fF S 0 17) + 1))))) rfl 17 (by decide) (hT _ m5_118) (fun _ h9 => h9) rfl (fk_get fk_cX12_feed_0 30 rfl) ?_
      subst hQ
      have hpost : (((fF S 0 17) + 1) : Int32) = (if 0 ≤ sign ∧ sign ≤ 127 then if fF S 0 17 = 100 then -4 else fF S 0 17 + 1 else -2) ∧ (setF (setA (setF S 0 8 (0)) 6 (upd (fA (setF S 0 8 (0)) 6) (z) (sign))) 0 17 (((fF S 0 17) + 1))) = (if 0 ≤ sign ∧ sign ≤ 127 then if fF S 0 17 = 100 then (setF S 0 8 0) else setF (setA (setF S 0 8 0) 6 (upd (fA S 6) z sign)) 0 17 (fF S 0 17 + 1) else (setF S 0 8 0)) := by
        refine ⟨?_, ?_⟩ <;> (repeat (first | rw [if_pos (by assumption)] | rw [if_neg (by assumption)])) <;> first | rfl | assumption
      exact W.iret (v := ((fF S 0 17) + 1)) hx hb hr (fun t_ ht_ hW_ => ⟨⟨((fF S 0 17) + 1), (setF (setA (setF S 0 8 (0)) 6 (upd (fA (setF S 0 8 (0)) 6) (z) (sign))) 0 17 (((fF S 0 17) + 1))), rfl, hpost, by rw [ht_]; exact hP, va_K.moved hW_.alike hK, hD⟩, hS.F ht_⟩) hS.2.2 (fk_get fk_cX12_feed_0 31 rfl)
    refine lv_bipush (v := (-4)) hx hb (fk_get fk_cX12_feed_0 15 rfl) (by decide) ?_
    subst hQ
    have hpost : ((-4) : Int32) = (if 0 ≤ sign ∧ sign ≤ 127 then if fF S 0 17 = 100 then -4 else fF S 0 17 + 1 else -2) ∧ (setF S 0 8 (0)) = (if 0 ≤ sign ∧ sign ≤ 127 then if fF S 0 17 = 100 then (setF S 0 8 0) else setF (setA (setF S 0 8 0) 6 (upd (fA S 6) z sign)) 0 17 (fF S 0 17 + 1) else (setF S 0 8 0)) := by
      refine ⟨?_, ?_⟩ <;> (repeat (first | rw [if_pos (by assumption)] | rw [if_neg (by assumption)])) <;> first | rfl | assumption
    exact W.iret (v := (-4)) hx hb hr (fun t_ ht_ hW_ => ⟨⟨(-4), (setF S 0 8 (0)), rfl, hpost, by rw [ht_]; exact hP, va_K.moved hW_.alike hK, hD⟩, hS.F ht_⟩) hS.2.2 (fk_get fk_cX12_feed_0 16 rfl)
  have p_c_3 := if1_f hw_2 c_3
  refine lv_bipush (v := (-2)) hx hb (fk_get fk_cX12_feed_0 9 rfl) (by decide) ?_
  subst hQ
  have hpost : ((-2) : Int32) = (if 0 ≤ sign ∧ sign ≤ 127 then if fF S 0 17 = 100 then -4 else fF S 0 17 + 1 else -2) ∧ (setF S 0 8 (0)) = (if 0 ≤ sign ∧ sign ≤ 127 then if fF S 0 17 = 100 then (setF S 0 8 0) else setF (setA (setF S 0 8 0) 6 (upd (fA S 6) z sign)) 0 17 (fF S 0 17 + 1) else (setF S 0 8 0)) := by
    refine ⟨?_, ?_⟩ <;> (repeat (first | rw [if_pos (by assumption)] | rw [if_neg (by assumption)])) <;> first | rfl | assumption
  exact W.iret (v := (-2)) hx hb hr (fun t_ ht_ hW_ => ⟨⟨(-2), (setF S 0 8 (0)), rfl, hpost, by rw [ht_]; exact hP, va_K.moved hW_.alike hK, hD⟩, hS.F ht_⟩) hS.2.2 (fk_get fk_cX12_feed_0 10 rfl)
set_option maxHeartbeats 4000000 in
set_option maxRecDepth 100000 in
theorem c_see (l : Launch) (G : GG) (ad : Nat → Nat) (S : FS) (sz : Nat) (z : Nat) (c : Int32) (hz : fF S 0 5 = nI z) (hz1 : z ≤ 4) : Met l yX12_see (Cond.code yX12_see cX12_see 2 (some .int) :: TBL) ({ frames := 3, cells := 0, slots := 0, locals := 93 } : Room) (PcW G (wR G ad S) sz [.ref (ad 0), .int (c)]) (va_Qi (fun (r : Int32) (S' : FS) => r = (if c = -1 then 0 else if 0 ≤ c ∧ c ≤ 999 then if fF S 0 5 = 4 then -4 else fF S 0 5 + 1 else -2) ∧ S' = (if c = -1 then setF (setF S 0 8 0) 0 5 0 else if 0 ≤ c ∧ c ≤ 999 then if fF S 0 5 = 4 then (setF S 0 8 0) else setF (setA (setF S 0 8 0) 2 (upd (fA S 2) z c)) 0 5 (fF S 0 5 + 1) else (setF S 0 8 0))) (fun S' t => BW G (va_A (wR G ad S) sz) (wR G ad S') t) (va_A (wR G ad S) sz)) 0 0 (va_A (wR G ad S) sz) := by
  refine Met.ofW (cc := cX12_see) (maxL := 2) (ret := (some .int)) (by decide) rfl ?_
  intro p e s m args below meth c₀ s₁ B hml hv
  obtain ⟨rfl, hsz, hP, hK, hD0⟩ := hv
  have hx := B.exec
  have hb := B.bytes
  have hr := B.returns
  have hT : ∀ w ∈ TBL, w.before ([.ref (ad 0), .int (c)] : List Value).toArray s = true := fun w h => atoms_spec (ws := Cond.code yX12_see cX12_see 2 (some .int) :: TBL) B.pre w (List.mem_cons_of_mem _ h)
  have hown : s.vm.findClass "LittleMoreModel" = some m.cls := findClass_of_methodNamed B.named
  have hlocks := B.notSynchronized
  subst hsz
  have hD := hD0.self (sz := s.heap.size)
  generalize hAe : va_A (wR G ad S) s.heap.size = A at hD ⊢
  have hA : ∀ q : Nat, s.heap.size ≤ q → A q := fun q h => by rw [← hAe]; exact Or.inr h
  have hS : va_S A s.heap s.heap [] := va_S.rf
  have hP : va_P G.1 vwCl (wR G ad S) s.heap := hP
  have hl := lv_entry ([.ref (ad 0), .int (c)]) (n := 2) (Nat.le_of_ble_eq_true rfl)
  rw [lg_entry_eq]
  generalize (lg_sl ([.ref (ad 0), .int (c)]) ++ List.replicate (2 - (lg_sl ([.ref (ad 0), .int (c)])).length) Slot.unset).toArray = ls at hl ⊢
  have hl : lv_has ls 2 [(0, .ref (ad 0)), (1, .int (c))] := hl
  refine W_abs (fun Q hQ => ?_)
  generalize ([.ref (ad 0), .int (c)] : List Value).toArray = args at hT hQ ⊢
  refine lv_aload_n hx hb (fk_get fk_cX12_see_0 0 rfl) rfl (lv_at hl 0 rfl) ?_
  refine lv_iconst (v := 0) hx hb (fk_get fk_cX12_see_0 1 rfl) (by decide) ?_
  refine va_put (D := G.1) (ci := 14) (v := .int (0)) (ty := .int) (C := RX12) (T := TX12) (N := 49) hx hb hT inX12 tyX12 tyX12_ok nmX12 hown hK hP hD hS 0 (ix_at (by decide) (cR_0 G ad S)) rfl 8 (by decide) (hT _ m5_109) (fun _ h9 => h9) rfl (by decide +kernel) rfl rfl (Nat.le_of_ble_eq_true rfl) (fk_get fk_cX12_see_0 2 rfl) (fun H locs hP hD hS => ?_)
  rw [pR_thrown G ad S (0)] at hP hD
  refine lv_iload_n hx hb (fk_get fk_cX12_see_0 3 rfl) rfl (lv_at hl 1 rfl) ?_
  refine lv_iconst (v := (-1)) hx hb (fk_get fk_cX12_see_0 4 rfl) (by decide) ?_
  refine lv_icmp_ne (tgt := 17) hx hb (fk_get fk_cX12_see_0 5 rfl) (by decide) (fun c_1 => ?_) (fun c_1 => ?_)
  · refine lv_iload_n hx hb (fk_get fk_cX12_see_0 11 rfl) rfl (lv_at hl 1 rfl) ?_
    refine lv_i2l hx hb (fk_get fk_cX12_see_0 12 rfl) rfl ?_
    refine lv_lconst (v := 0) hx hb (fk_get fk_cX12_see_0 13 rfl) (by decide) ?_
    refine lv_ldc2 (v := 999) hx hb hown (hT _ m7_35) (fk_get fk_cX12_see_0 14 rfl) ?_
    refine vp_callSi (W.runS (As := [.long ((c).toInt64), .long (0), .long (999)]) (rest := []) ⟨hx, hb, hml, hown, hT⟩ (c_in l ((c).toInt64) (0) (999) ) (tS 3 hT m6_31 m6_32 m1_17 m6_33 rfl rfl (by decide +kernel) ⟨Nat.le_of_ble_eq_true rfl, Nat.le_of_ble_eq_true rfl⟩) ⟨PcN_blind, PcN_of _ _ _⟩ rfl rfl hl.1 rfl (lv_room (Nat.le_of_ble_eq_true rfl)) (fk_get fk_cX12_see_0 15 rfl) ⟨Nat.zero_le _, Nat.zero_le _⟩) (fun r_2 hw_3 => ?_)
    try dsimp only at hw_3
    have hw_3 := in_eq hw_3 (c) 0 999 (rfl) (by decide) (by decide)
    refine lv_if_ne (tgt := 32) hx hb (fk_get fk_cX12_see_0 16 rfl) (by decide) (fun c_4 => ?_) (fun c_4 => ?_)
    · have p_c_4 := if1_t hw_3 c_4
      refine lv_aload_n hx hb (fk_get fk_cX12_see_0 19 rfl) rfl (lv_at hl 0 rfl) ?_
      refine va_get (D := G.1) (ci := 14) (v := .int ((fF S 0 5))) (C := RX12) (T := TX12) (N := 49) hx hb hT inX12 hown hK hP 0 (ix_at (by decide) (cR_0 G ad (setF S 0 8 (0)))) rfl 5 (by decide) (hT _ m5_106) (fun _ h9 => h9) rfl (fk_get fk_cX12_see_0 20 rfl) ?_
      refine lv_iconst (v := 4) hx hb (fk_get fk_cX12_see_0 21 rfl) (by decide) ?_
      refine lv_icmp_ne (tgt := 43) hx hb (fk_get fk_cX12_see_0 22 rfl) (by decide) (fun c_5 => ?_) (fun c_5 => ?_)
      · have hz2 : z ≠ 4 := nI_ne (by rw [← hz]; exact c_5)
        refine lv_aload_n hx hb (fk_get fk_cX12_see_0 25 rfl) rfl (lv_at hl 0 rfl) ?_
        refine va_get (D := G.1) (ci := 14) (v := .ref (ad 2)) (C := RX12) (T := TX12) (N := 49) hx hb hT inX12 hown hK hP 0 (ix_at (by decide) (cR_0 G ad (setF S 0 8 (0)))) rfl 4 (by decide) (hT _ m5_105) (fun _ h9 => h9) rfl (fk_get fk_cX12_see_0 26 rfl) ?_
        refine lv_aload_n hx hb (fk_get fk_cX12_see_0 27 rfl) rfl (lv_at hl 0 rfl) ?_
        refine va_get (D := G.1) (ci := 14) (v := .int ((fF S 0 5))) (C := RX12) (T := TX12) (N := 49) hx hb hT inX12 hown hK hP 0 (ix_at (by decide) (cR_0 G ad (setF S 0 8 (0)))) rfl 5 (by decide) (hT _ m5_106) (fun _ h9 => h9) rfl (fk_get fk_cX12_see_0 28 rfl) ?_
        refine lv_iload_n hx hb (fk_get fk_cX12_see_0 29 rfl) rfl (lv_at hl 1 rfl) ?_
        refine r_iast hx hb hK hP hD hS 2 0 (ix_at (by decide) (cR_seen G ad (setF S 0 8 (0)))) rfl (z) (hz) (by omega) (by decide) (fk_get fk_cX12_see_0 30 rfl) (fun H locs hP hD hS => ?_)
        rw [pR_A G ad (setF S 0 8 (0)) (by decide) (by decide) (by decide) (cR_seen G ad (setF S 0 8 (0))) (upd (fA (setF S 0 8 (0)) 2) (z) (c))] at hP hD
        refine lv_aload_n hx hb (fk_get fk_cX12_see_0 31 rfl) rfl (lv_at hl 0 rfl) ?_
        refine lv_dup hx hb (fk_get fk_cX12_see_1 0 rfl) rfl ?_
        refine va_get (D := G.1) (ci := 14) (v := .int ((fF S 0 5))) (C := RX12) (T := TX12) (N := 49) hx hb hT inX12 hown hK hP 0 (ix_at (by decide) (cR_0 G ad (setA (setF S 0 8 (0)) 2 (upd (fA (setF S 0 8 (0)) 2) (z) (c))))) rfl 5 (by decide) (hT _ m5_106) (fun _ h9 => h9) rfl (fk_get fk_cX12_see_1 1 rfl) ?_
        refine lv_iconst (v := 1) hx hb (fk_get fk_cX12_see_1 2 rfl) (by decide) ?_
        refine lv_iadd hx hb (fk_get fk_cX12_see_1 3 rfl) ?_
        refine va_put (D := G.1) (ci := 14) (v := .int (((fF S 0 5) + 1))) (ty := .int) (C := RX12) (T := TX12) (N := 49) hx hb hT inX12 tyX12 tyX12_ok nmX12 hown hK hP hD hS 0 (ix_at (by decide) (cR_0 G ad (setA (setF S 0 8 (0)) 2 (upd (fA (setF S 0 8 (0)) 2) (z) (c))))) rfl 5 (by decide) (hT _ m5_106) (fun _ h9 => h9) rfl (by decide +kernel) rfl rfl (Nat.le_of_ble_eq_true rfl) (fk_get fk_cX12_see_1 4 rfl) (fun H locs hP hD hS => ?_)
        rw [pR_seenMany G ad (setA (setF S 0 8 (0)) 2 (upd (fA (setF S 0 8 (0)) 2) (z) (c))) (((fF S 0 5) + 1))] at hP hD
        refine lv_aload_n hx hb (fk_get fk_cX12_see_1 5 rfl) rfl (lv_at hl 0 rfl) ?_
        refine va_get (D := G.1) (ci := 14) (v := .int (((fF S 0 5) + 1))) (C := RX12) (T := TX12) (N := 49) hx hb hT inX12 hown hK hP 0 (ix_at (by decide) (cR_0 G ad (setF (setA (setF S 0 8 (0)) 2 (upd (fA (setF S 0 8 (0)) 2) (z) (c))) 0 5 (((fF S 0 5) + 1))))) rfl 5 (by decide) (hT _ m5_106) (fun _ h9 => h9) rfl (fk_get fk_cX12_see_1 6 rfl) ?_
        subst hQ
        have hpost : (((fF S 0 5) + 1) : Int32) = (if c = -1 then 0 else if 0 ≤ c ∧ c ≤ 999 then if fF S 0 5 = 4 then -4 else fF S 0 5 + 1 else -2) ∧ (setF (setA (setF S 0 8 (0)) 2 (upd (fA (setF S 0 8 (0)) 2) (z) (c))) 0 5 (((fF S 0 5) + 1))) = (if c = -1 then setF (setF S 0 8 0) 0 5 0 else if 0 ≤ c ∧ c ≤ 999 then if fF S 0 5 = 4 then (setF S 0 8 0) else setF (setA (setF S 0 8 0) 2 (upd (fA S 2) z c)) 0 5 (fF S 0 5 + 1) else (setF S 0 8 0)) := by
          refine ⟨?_, ?_⟩ <;> (repeat (first | rw [if_pos (by assumption)] | rw [if_neg (by assumption)])) <;> first | rfl | assumption
        exact W.iret (v := ((fF S 0 5) + 1)) hx hb hr (fun t_ ht_ hW_ => ⟨⟨((fF S 0 5) + 1), (setF (setA (setF S 0 8 (0)) 2 (upd (fA (setF S 0 8 (0)) 2) (z) (c))) 0 5 (((fF S 0 5) + 1))), rfl, hpost, by rw [ht_]; exact hP, va_K.moved hW_.alike hK, hD⟩, hS.F ht_⟩) hS.2.2 (fk_get fk_cX12_see_1 7 rfl)
      refine lv_bipush (v := (-4)) hx hb (fk_get fk_cX12_see_0 23 rfl) (by decide) ?_
      subst hQ
      have hpost : ((-4) : Int32) = (if c = -1 then 0 else if 0 ≤ c ∧ c ≤ 999 then if fF S 0 5 = 4 then -4 else fF S 0 5 + 1 else -2) ∧ (setF S 0 8 (0)) = (if c = -1 then setF (setF S 0 8 0) 0 5 0 else if 0 ≤ c ∧ c ≤ 999 then if fF S 0 5 = 4 then (setF S 0 8 0) else setF (setA (setF S 0 8 0) 2 (upd (fA S 2) z c)) 0 5 (fF S 0 5 + 1) else (setF S 0 8 0)) := by
        refine ⟨?_, ?_⟩ <;> (repeat (first | rw [if_pos (by assumption)] | rw [if_neg (by assumption)])) <;> first | rfl | assumption
      exact W.iret (v := (-4)) hx hb hr (fun t_ ht_ hW_ => ⟨⟨(-4), (setF S 0 8 (0)), rfl, hpost, by rw [ht_]; exact hP, va_K.moved hW_.alike hK, hD⟩, hS.F ht_⟩) hS.2.2 (fk_get fk_cX12_see_0 24 rfl)
    have p_c_4 := if1_f hw_3 c_4
    refine lv_bipush (v := (-2)) hx hb (fk_get fk_cX12_see_0 17 rfl) (by decide) ?_
    subst hQ
    have hpost : ((-2) : Int32) = (if c = -1 then 0 else if 0 ≤ c ∧ c ≤ 999 then if fF S 0 5 = 4 then -4 else fF S 0 5 + 1 else -2) ∧ (setF S 0 8 (0)) = (if c = -1 then setF (setF S 0 8 0) 0 5 0 else if 0 ≤ c ∧ c ≤ 999 then if fF S 0 5 = 4 then (setF S 0 8 0) else setF (setA (setF S 0 8 0) 2 (upd (fA S 2) z c)) 0 5 (fF S 0 5 + 1) else (setF S 0 8 0)) := by
      refine ⟨?_, ?_⟩ <;> (repeat (first | rw [if_pos (by assumption)] | rw [if_neg (by assumption)])) <;> first | rfl | assumption
    exact W.iret (v := (-2)) hx hb hr (fun t_ ht_ hW_ => ⟨⟨(-2), (setF S 0 8 (0)), rfl, hpost, by rw [ht_]; exact hP, va_K.moved hW_.alike hK, hD⟩, hS.F ht_⟩) hS.2.2 (fk_get fk_cX12_see_0 18 rfl)
  refine lv_aload_n hx hb (fk_get fk_cX12_see_0 6 rfl) rfl (lv_at hl 0 rfl) ?_
  refine lv_iconst (v := 0) hx hb (fk_get fk_cX12_see_0 7 rfl) (by decide) ?_
  refine va_put (D := G.1) (ci := 14) (v := .int (0)) (ty := .int) (C := RX12) (T := TX12) (N := 49) hx hb hT inX12 tyX12 tyX12_ok nmX12 hown hK hP hD hS 0 (ix_at (by decide) (cR_0 G ad (setF S 0 8 (0)))) rfl 5 (by decide) (hT _ m5_106) (fun _ h9 => h9) rfl (by decide +kernel) rfl rfl (Nat.le_of_ble_eq_true rfl) (fk_get fk_cX12_see_0 8 rfl) (fun H locs hP hD hS => ?_)
  rw [pR_seenMany G ad (setF S 0 8 (0)) (0)] at hP hD
  refine lv_iconst (v := 0) hx hb (fk_get fk_cX12_see_0 9 rfl) (by decide) ?_
  subst hQ
  have hpost : (0 : Int32) = (if c = -1 then 0 else if 0 ≤ c ∧ c ≤ 999 then if fF S 0 5 = 4 then -4 else fF S 0 5 + 1 else -2) ∧ (setF (setF S 0 8 (0)) 0 5 (0)) = (if c = -1 then setF (setF S 0 8 0) 0 5 0 else if 0 ≤ c ∧ c ≤ 999 then if fF S 0 5 = 4 then (setF S 0 8 0) else setF (setA (setF S 0 8 0) 2 (upd (fA S 2) z c)) 0 5 (fF S 0 5 + 1) else (setF S 0 8 0)) := by
    refine ⟨?_, ?_⟩ <;> (repeat (first | rw [if_pos (by assumption)] | rw [if_neg (by assumption)])) <;> first | rfl | assumption
  exact W.iret (v := 0) hx hb hr (fun t_ ht_ hW_ => ⟨⟨0, (setF (setF S 0 8 (0)) 0 5 (0)), rfl, hpost, by rw [ht_]; exact hP, va_K.moved hW_.alike hK, hD⟩, hS.F ht_⟩) hS.2.2 (fk_get fk_cX12_see_0 10 rfl)
set_option maxHeartbeats 4000000 in
set_option maxRecDepth 100000 in
theorem c_book (l : Launch) (G : GG) (ad : Nat → Nat) (S : FS) (sz : Nat) (n z : Nat) (c : Int32) (hn : fF S 0 1 = nI n) (hn6 : n ≤ 6) (hz : fF S 0 7 = nI z) (hz1 : z ≤ 8) : Met l yX12_book (Cond.code yX12_book cX12_book 2 (some .int) :: TBL) ({ frames := 4, cells := 0, slots := 0, locals := 118 } : Room) (PcW G (wR G ad S) sz [.ref (ad 0), .int (c)]) (va_Qi (fun (r : Int32) (S' : FS) => r = (if c = -1 then 0 else if (0 ≤ c ∧ c ≤ fF S 0 1 - 1) then if fF S 0 7 = 8 then -4 else fF S 0 7 + 1 else -1) ∧ S' = (if c = -1 then setF (setF S 0 8 0) 0 7 0 else if (0 ≤ c ∧ c ≤ fF S 0 1 - 1) then if fF S 0 7 = 8 then (setF S 0 8 0) else setF (setA (setF S 0 8 0) 3 (upd (fA S 3) z c)) 0 7 (fF S 0 7 + 1) else (setF S 0 8 0))) (fun S' t => BW G (va_A (wR G ad S) sz) (wR G ad S') t) (va_A (wR G ad S) sz)) 0 0 (va_A (wR G ad S) sz) := by
  refine Met.ofW (cc := cX12_book) (maxL := 2) (ret := (some .int)) (by decide) rfl ?_
  intro p e s m args below meth c₀ s₁ B hml hv
  obtain ⟨rfl, hsz, hP, hK, hD0⟩ := hv
  have hx := B.exec
  have hb := B.bytes
  have hr := B.returns
  have hT : ∀ w ∈ TBL, w.before ([.ref (ad 0), .int (c)] : List Value).toArray s = true := fun w h => atoms_spec (ws := Cond.code yX12_book cX12_book 2 (some .int) :: TBL) B.pre w (List.mem_cons_of_mem _ h)
  have hown : s.vm.findClass "LittleMoreModel" = some m.cls := findClass_of_methodNamed B.named
  have hlocks := B.notSynchronized
  subst hsz
  have hD := hD0.self (sz := s.heap.size)
  generalize hAe : va_A (wR G ad S) s.heap.size = A at hD ⊢
  have hA : ∀ q : Nat, s.heap.size ≤ q → A q := fun q h => by rw [← hAe]; exact Or.inr h
  have hS : va_S A s.heap s.heap [] := va_S.rf
  have hP : va_P G.1 vwCl (wR G ad S) s.heap := hP
  have hl := lv_entry ([.ref (ad 0), .int (c)]) (n := 2) (Nat.le_of_ble_eq_true rfl)
  rw [lg_entry_eq]
  generalize (lg_sl ([.ref (ad 0), .int (c)]) ++ List.replicate (2 - (lg_sl ([.ref (ad 0), .int (c)])).length) Slot.unset).toArray = ls at hl ⊢
  have hl : lv_has ls 2 [(0, .ref (ad 0)), (1, .int (c))] := hl
  refine W_abs (fun Q hQ => ?_)
  generalize ([.ref (ad 0), .int (c)] : List Value).toArray = args at hT hQ ⊢
  refine lv_aload_n hx hb (fk_get fk_cX12_book_0 0 rfl) rfl (lv_at hl 0 rfl) ?_
  refine lv_iconst (v := 0) hx hb (fk_get fk_cX12_book_0 1 rfl) (by decide) ?_
  refine va_put (D := G.1) (ci := 14) (v := .int (0)) (ty := .int) (C := RX12) (T := TX12) (N := 49) hx hb hT inX12 tyX12 tyX12_ok nmX12 hown hK hP hD hS 0 (ix_at (by decide) (cR_0 G ad S)) rfl 8 (by decide) (hT _ m5_109) (fun _ h9 => h9) rfl (by decide +kernel) rfl rfl (Nat.le_of_ble_eq_true rfl) (fk_get fk_cX12_book_0 2 rfl) (fun H locs hP hD hS => ?_)
  rw [pR_thrown G ad S (0)] at hP hD
  refine lv_iload_n hx hb (fk_get fk_cX12_book_0 3 rfl) rfl (lv_at hl 1 rfl) ?_
  refine lv_iconst (v := (-1)) hx hb (fk_get fk_cX12_book_0 4 rfl) (by decide) ?_
  refine lv_icmp_ne (tgt := 17) hx hb (fk_get fk_cX12_book_0 5 rfl) (by decide) (fun c_1 => ?_) (fun c_1 => ?_)
  · refine lv_aload_n hx hb (fk_get fk_cX12_book_0 11 rfl) rfl (lv_at hl 0 rfl) ?_
    refine lv_iload_n hx hb (fk_get fk_cX12_book_0 12 rfl) rfl (lv_at hl 1 rfl) ?_
    refine vp_callSi (W.runV (As := [.int (c)]) (rest := []) ⟨hx, hb, hml, hown, hT⟩ (c_isCustomer l G ad (setF S 0 8 (0)) H.size (c) ) (tV 1 hT m6_110 m6_112 mp_32 m1_17 m6_113 rfl rfl (by decide +kernel) ⟨Nat.le_of_ble_eq_true rfl, Nat.le_of_ble_eq_true rfl⟩) ⟨PcW_blind, va_recv hK hP (ci := 14) (q0 := 0) rfl (ix_at (by decide) (cR_0 G ad (setF S 0 8 (0)))), PcW_of hP hK hD _⟩ rfl rfl hl.1 rfl (lv_room (Nat.le_of_ble_eq_true rfl)) (fk_get fk_cX12_book_0 13 rfl) ⟨Nat.zero_le _, Nat.zero_le _⟩) (fun r_2 hw_3 => ?_)
    try dsimp only at hw_3
    have hw_3 : r_2 = if 0 ≤ c ∧ c ≤ fF S 0 1 - 1 then 1 else 0 := hw_3
    refine lv_if_ne (tgt := 27) hx hb (fk_get fk_cX12_book_0 14 rfl) (by decide) (fun c_4 => ?_) (fun c_4 => ?_)
    · have p_c_4 := if1_t hw_3 c_4
      obtain ⟨hj, ej⟩ := isC_n p_c_4 hn hn6
      refine lv_aload_n hx hb (fk_get fk_cX12_book_0 17 rfl) rfl (lv_at hl 0 rfl) ?_
      refine va_get (D := G.1) (ci := 14) (v := .int ((fF S 0 7))) (C := RX12) (T := TX12) (N := 49) hx hb hT inX12 hown hK hP 0 (ix_at (by decide) (cR_0 G ad (setF S 0 8 (0)))) rfl 7 (by decide) (hT _ m5_108) (fun _ h9 => h9) rfl (fk_get fk_cX12_book_0 18 rfl) ?_
      refine lv_bipush (v := 8) hx hb (fk_get fk_cX12_book_0 19 rfl) (by decide) ?_
      refine lv_icmp_ne (tgt := 39) hx hb (fk_get fk_cX12_book_0 20 rfl) (by decide) (fun c_5 => ?_) (fun c_5 => ?_)
      · have hz2 : z ≠ 8 := nI_ne (by rw [← hz]; exact c_5)
        refine lv_aload_n hx hb (fk_get fk_cX12_book_0 23 rfl) rfl (lv_at hl 0 rfl) ?_
        refine va_get (D := G.1) (ci := 14) (v := .ref (ad 3)) (C := RX12) (T := TX12) (N := 49) hx hb hT inX12 hown hK hP 0 (ix_at (by decide) (cR_0 G ad (setF S 0 8 (0)))) rfl 6 (by decide) (hT _ m5_107) (fun _ h9 => h9) rfl (fk_get fk_cX12_book_0 24 rfl) ?_
        refine lv_aload_n hx hb (fk_get fk_cX12_book_0 25 rfl) rfl (lv_at hl 0 rfl) ?_
        refine va_get (D := G.1) (ci := 14) (v := .int ((fF S 0 7))) (C := RX12) (T := TX12) (N := 49) hx hb hT inX12 hown hK hP 0 (ix_at (by decide) (cR_0 G ad (setF S 0 8 (0)))) rfl 7 (by decide) (hT _ m5_108) (fun _ h9 => h9) rfl (fk_get fk_cX12_book_0 26 rfl) ?_
        refine lv_iload_n hx hb (fk_get fk_cX12_book_0 27 rfl) rfl (lv_at hl 1 rfl) ?_
        refine r_iast hx hb hK hP hD hS 3 0 (ix_at (by decide) (cR_come G ad (setF S 0 8 (0)))) rfl (z) (hz) (by omega) (by decide) (fk_get fk_cX12_book_0 28 rfl) (fun H locs hP hD hS => ?_)
        rw [pR_A G ad (setF S 0 8 (0)) (by decide) (by decide) (by decide) (cR_come G ad (setF S 0 8 (0))) (upd (fA (setF S 0 8 (0)) 3) (z) (c))] at hP hD
        refine lv_aload_n hx hb (fk_get fk_cX12_book_0 29 rfl) rfl (lv_at hl 0 rfl) ?_
        refine lv_dup hx hb (fk_get fk_cX12_book_0 30 rfl) rfl ?_
        refine va_get (D := G.1) (ci := 14) (v := .int ((fF S 0 7))) (C := RX12) (T := TX12) (N := 49) hx hb hT inX12 hown hK hP 0 (ix_at (by decide) (cR_0 G ad (setA (setF S 0 8 (0)) 3 (upd (fA (setF S 0 8 (0)) 3) (z) (c))))) rfl 7 (by decide) (hT _ m5_108) (fun _ h9 => h9) rfl (fk_get fk_cX12_book_0 31 rfl) ?_
        refine lv_iconst (v := 1) hx hb (fk_get fk_cX12_book_1 0 rfl) (by decide) ?_
        refine lv_iadd hx hb (fk_get fk_cX12_book_1 1 rfl) ?_
        refine va_put (D := G.1) (ci := 14) (v := .int (((fF S 0 7) + 1))) (ty := .int) (C := RX12) (T := TX12) (N := 49) hx hb hT inX12 tyX12 tyX12_ok nmX12 hown hK hP hD hS 0 (ix_at (by decide) (cR_0 G ad (setA (setF S 0 8 (0)) 3 (upd (fA (setF S 0 8 (0)) 3) (z) (c))))) rfl 7 (by decide) (hT _ m5_108) (fun _ h9 => h9) rfl (by decide +kernel) rfl rfl (Nat.le_of_ble_eq_true rfl) (fk_get fk_cX12_book_1 2 rfl) (fun H locs hP hD hS => ?_)
        rw [pR_comeMany G ad (setA (setF S 0 8 (0)) 3 (upd (fA (setF S 0 8 (0)) 3) (z) (c))) (((fF S 0 7) + 1))] at hP hD
        refine lv_aload_n hx hb (fk_get fk_cX12_book_1 3 rfl) rfl (lv_at hl 0 rfl) ?_
        refine va_get (D := G.1) (ci := 14) (v := .int (((fF S 0 7) + 1))) (C := RX12) (T := TX12) (N := 49) hx hb hT inX12 hown hK hP 0 (ix_at (by decide) (cR_0 G ad (setF (setA (setF S 0 8 (0)) 3 (upd (fA (setF S 0 8 (0)) 3) (z) (c))) 0 7 (((fF S 0 7) + 1))))) rfl 7 (by decide) (hT _ m5_108) (fun _ h9 => h9) rfl (fk_get fk_cX12_book_1 4 rfl) ?_
        subst hQ
        have hpost : (((fF S 0 7) + 1) : Int32) = (if c = -1 then 0 else if (0 ≤ c ∧ c ≤ fF S 0 1 - 1) then if fF S 0 7 = 8 then -4 else fF S 0 7 + 1 else -1) ∧ (setF (setA (setF S 0 8 (0)) 3 (upd (fA (setF S 0 8 (0)) 3) (z) (c))) 0 7 (((fF S 0 7) + 1))) = (if c = -1 then setF (setF S 0 8 0) 0 7 0 else if (0 ≤ c ∧ c ≤ fF S 0 1 - 1) then if fF S 0 7 = 8 then (setF S 0 8 0) else setF (setA (setF S 0 8 0) 3 (upd (fA S 3) z c)) 0 7 (fF S 0 7 + 1) else (setF S 0 8 0)) := by
          refine ⟨?_, ?_⟩ <;> (repeat (first | rw [if_pos (by assumption)] | rw [if_neg (by assumption)])) <;> first | rfl | assumption
        exact W.iret (v := ((fF S 0 7) + 1)) hx hb hr (fun t_ ht_ hW_ => ⟨⟨((fF S 0 7) + 1), (setF (setA (setF S 0 8 (0)) 3 (upd (fA (setF S 0 8 (0)) 3) (z) (c))) 0 7 (((fF S 0 7) + 1))), rfl, hpost, by rw [ht_]; exact hP, va_K.moved hW_.alike hK, hD⟩, hS.F ht_⟩) hS.2.2 (fk_get fk_cX12_book_1 5 rfl)
      refine lv_bipush (v := (-4)) hx hb (fk_get fk_cX12_book_0 21 rfl) (by decide) ?_
      subst hQ
      have hpost : ((-4) : Int32) = (if c = -1 then 0 else if (0 ≤ c ∧ c ≤ fF S 0 1 - 1) then if fF S 0 7 = 8 then -4 else fF S 0 7 + 1 else -1) ∧ (setF S 0 8 (0)) = (if c = -1 then setF (setF S 0 8 0) 0 7 0 else if (0 ≤ c ∧ c ≤ fF S 0 1 - 1) then if fF S 0 7 = 8 then (setF S 0 8 0) else setF (setA (setF S 0 8 0) 3 (upd (fA S 3) z c)) 0 7 (fF S 0 7 + 1) else (setF S 0 8 0)) := by
        refine ⟨?_, ?_⟩ <;> (repeat (first | rw [if_pos (by assumption)] | rw [if_neg (by assumption)])) <;> first | rfl | assumption
      exact W.iret (v := (-4)) hx hb hr (fun t_ ht_ hW_ => ⟨⟨(-4), (setF S 0 8 (0)), rfl, hpost, by rw [ht_]; exact hP, va_K.moved hW_.alike hK, hD⟩, hS.F ht_⟩) hS.2.2 (fk_get fk_cX12_book_0 22 rfl)
    have p_c_4 := if1_f hw_3 c_4
    refine lv_iconst (v := (-1)) hx hb (fk_get fk_cX12_book_0 15 rfl) (by decide) ?_
    subst hQ
    have hpost : ((-1) : Int32) = (if c = -1 then 0 else if (0 ≤ c ∧ c ≤ fF S 0 1 - 1) then if fF S 0 7 = 8 then -4 else fF S 0 7 + 1 else -1) ∧ (setF S 0 8 (0)) = (if c = -1 then setF (setF S 0 8 0) 0 7 0 else if (0 ≤ c ∧ c ≤ fF S 0 1 - 1) then if fF S 0 7 = 8 then (setF S 0 8 0) else setF (setA (setF S 0 8 0) 3 (upd (fA S 3) z c)) 0 7 (fF S 0 7 + 1) else (setF S 0 8 0)) := by
      refine ⟨?_, ?_⟩ <;> (repeat (first | rw [if_pos (by assumption)] | rw [if_neg (by assumption)])) <;> first | rfl | assumption
    exact W.iret (v := (-1)) hx hb hr (fun t_ ht_ hW_ => ⟨⟨(-1), (setF S 0 8 (0)), rfl, hpost, by rw [ht_]; exact hP, va_K.moved hW_.alike hK, hD⟩, hS.F ht_⟩) hS.2.2 (fk_get fk_cX12_book_0 16 rfl)
  refine lv_aload_n hx hb (fk_get fk_cX12_book_0 6 rfl) rfl (lv_at hl 0 rfl) ?_
  refine lv_iconst (v := 0) hx hb (fk_get fk_cX12_book_0 7 rfl) (by decide) ?_
  refine va_put (D := G.1) (ci := 14) (v := .int (0)) (ty := .int) (C := RX12) (T := TX12) (N := 49) hx hb hT inX12 tyX12 tyX12_ok nmX12 hown hK hP hD hS 0 (ix_at (by decide) (cR_0 G ad (setF S 0 8 (0)))) rfl 7 (by decide) (hT _ m5_108) (fun _ h9 => h9) rfl (by decide +kernel) rfl rfl (Nat.le_of_ble_eq_true rfl) (fk_get fk_cX12_book_0 8 rfl) (fun H locs hP hD hS => ?_)
  rw [pR_comeMany G ad (setF S 0 8 (0)) (0)] at hP hD
  refine lv_iconst (v := 0) hx hb (fk_get fk_cX12_book_0 9 rfl) (by decide) ?_
  subst hQ
  have hpost : (0 : Int32) = (if c = -1 then 0 else if (0 ≤ c ∧ c ≤ fF S 0 1 - 1) then if fF S 0 7 = 8 then -4 else fF S 0 7 + 1 else -1) ∧ (setF (setF S 0 8 (0)) 0 7 (0)) = (if c = -1 then setF (setF S 0 8 0) 0 7 0 else if (0 ≤ c ∧ c ≤ fF S 0 1 - 1) then if fF S 0 7 = 8 then (setF S 0 8 0) else setF (setA (setF S 0 8 0) 3 (upd (fA S 3) z c)) 0 7 (fF S 0 7 + 1) else (setF S 0 8 0)) := by
    refine ⟨?_, ?_⟩ <;> (repeat (first | rw [if_pos (by assumption)] | rw [if_neg (by assumption)])) <;> first | rfl | assumption
  exact W.iret (v := 0) hx hb hr (fun t_ ht_ hW_ => ⟨⟨0, (setF (setF S 0 8 (0)) 0 7 (0)), rfl, hpost, by rw [ht_]; exact hP, va_K.moved hW_.alike hK, hD⟩, hS.F ht_⟩) hS.2.2 (fk_get fk_cX12_book_0 10 rfl)
set_option maxHeartbeats 4000000 in
set_option maxRecDepth 100000 in
theorem c_count (l : Launch) (G : GG) (ad : Nat → Nat) (S : FS) (sz : Nat) (what : Int32) : Met l yX12_count (Cond.code yX12_count cX12_count 2 (some .int) :: TBL) ({ frames := 2, cells := 0, slots := 0, locals := 64 } : Room) (PcW G (wR G ad S) sz [.ref (ad 0), .int (what)]) (va_Qi (fun (r : Int32) (S' : FS) => S' = (setF S 0 8 0) ∧ r = (if what = 0 then fF S 0 1 else if what = 1 then fF S 0 20 else if what = 2 then fF S 0 5 else if what = 3 then fF S 0 7 else if what = 4 then fF S 0 17 else if what = 5 then fF S 0 40 else -2)) (fun S' t => BW G (va_A (wR G ad S) sz) (wR G ad S') t) (va_A (wR G ad S) sz)) 0 0 (va_A (wR G ad S) sz) := by
  refine Met.ofW (cc := cX12_count) (maxL := 2) (ret := (some .int)) (by decide) rfl ?_
  intro p e s m args below meth c₀ s₁ B hml hv
  obtain ⟨rfl, hsz, hP, hK, hD0⟩ := hv
  have hx := B.exec
  have hb := B.bytes
  have hr := B.returns
  have hT : ∀ w ∈ TBL, w.before ([.ref (ad 0), .int (what)] : List Value).toArray s = true := fun w h => atoms_spec (ws := Cond.code yX12_count cX12_count 2 (some .int) :: TBL) B.pre w (List.mem_cons_of_mem _ h)
  have hown : s.vm.findClass "LittleMoreModel" = some m.cls := findClass_of_methodNamed B.named
  have hlocks := B.notSynchronized
  subst hsz
  have hD := hD0.self (sz := s.heap.size)
  generalize hAe : va_A (wR G ad S) s.heap.size = A at hD ⊢
  have hA : ∀ q : Nat, s.heap.size ≤ q → A q := fun q h => by rw [← hAe]; exact Or.inr h
  have hS : va_S A s.heap s.heap [] := va_S.rf
  have hP : va_P G.1 vwCl (wR G ad S) s.heap := hP
  have hl := lv_entry ([.ref (ad 0), .int (what)]) (n := 2) (Nat.le_of_ble_eq_true rfl)
  rw [lg_entry_eq]
  generalize (lg_sl ([.ref (ad 0), .int (what)]) ++ List.replicate (2 - (lg_sl ([.ref (ad 0), .int (what)])).length) Slot.unset).toArray = ls at hl ⊢
  have hl : lv_has ls 2 [(0, .ref (ad 0)), (1, .int (what))] := hl
  refine W_abs (fun Q hQ => ?_)
  generalize ([.ref (ad 0), .int (what)] : List Value).toArray = args at hT hQ ⊢
  refine lv_aload_n hx hb (fk_get fk_cX12_count_0 0 rfl) rfl (lv_at hl 0 rfl) ?_
  refine lv_iconst (v := 0) hx hb (fk_get fk_cX12_count_0 1 rfl) (by decide) ?_
  refine va_put (D := G.1) (ci := 14) (v := .int (0)) (ty := .int) (C := RX12) (T := TX12) (N := 49) hx hb hT inX12 tyX12 tyX12_ok nmX12 hown hK hP hD hS 0 (ix_at (by decide) (cR_0 G ad S)) rfl 8 (by decide) (hT _ m5_109) (fun _ h9 => h9) rfl (by decide +kernel) rfl rfl (Nat.le_of_ble_eq_true rfl) (fk_get fk_cX12_count_0 2 rfl) (fun H locs hP hD hS => ?_)
  rw [pR_thrown G ad S (0)] at hP hD
  refine lv_iload_n hx hb (fk_get fk_cX12_count_0 3 rfl) rfl (lv_at hl 1 rfl) ?_
  by_cases c_1 : what = (0 : Int32)
  · refine lv_tableIn (off := 38) (tgt := 44) hx hb (dk_get dk_cX12_count_0 0 rfl) (by rw [c_1]; decide) (by rw [c_1]; decide) (by rw [c_1]; rfl) (by decide) ?_
    refine lv_aload_n hx hb (fk_get fk_cX12_count_0 4 rfl) rfl (lv_at hl 0 rfl) ?_
    refine va_get (D := G.1) (ci := 14) (v := .int ((fF S 0 1))) (C := RX12) (T := TX12) (N := 49) hx hb hT inX12 hown hK hP 0 (ix_at (by decide) (cR_0 G ad (setF S 0 8 (0)))) rfl 1 (by decide) (hT _ m5_102) (fun _ h9 => h9) rfl (fk_get fk_cX12_count_0 5 rfl) ?_
    subst hQ
    have hpost : (setF S 0 8 (0)) = (setF S 0 8 0) ∧ ((fF S 0 1) : Int32) = (if what = 0 then fF S 0 1 else if what = 1 then fF S 0 20 else if what = 2 then fF S 0 5 else if what = 3 then fF S 0 7 else if what = 4 then fF S 0 17 else if what = 5 then fF S 0 40 else -2) := by
      refine ⟨rfl, ?_⟩ <;> (repeat (first | rw [if_pos (by assumption)] | rw [if_neg (by assumption)])) <;> first | rfl | assumption
    exact W.iret (v := (fF S 0 1)) hx hb hr (fun t_ ht_ hW_ => ⟨⟨(fF S 0 1), (setF S 0 8 (0)), rfl, hpost, by rw [ht_]; exact hP, va_K.moved hW_.alike hK, hD⟩, hS.F ht_⟩) hS.2.2 (fk_get fk_cX12_count_0 6 rfl)
  by_cases c_2 : what = (1 : Int32)
  · refine lv_tableIn (off := 43) (tgt := 49) hx hb (dk_get dk_cX12_count_0 0 rfl) (by rw [c_2]; decide) (by rw [c_2]; decide) (by rw [c_2]; rfl) (by decide) ?_
    refine lv_aload_n hx hb (fk_get fk_cX12_count_0 7 rfl) rfl (lv_at hl 0 rfl) ?_
    refine va_get (D := G.1) (ci := 14) (v := .int ((fF S 0 20))) (C := RX12) (T := TX12) (N := 49) hx hb hT inX12 hown hK hP 0 (ix_at (by decide) (cR_0 G ad (setF S 0 8 (0)))) rfl 20 (by decide) (hT _ m5_121) (fun _ h9 => h9) rfl (fk_get fk_cX12_count_0 8 rfl) ?_
    subst hQ
    have hpost : (setF S 0 8 (0)) = (setF S 0 8 0) ∧ ((fF S 0 20) : Int32) = (if what = 0 then fF S 0 1 else if what = 1 then fF S 0 20 else if what = 2 then fF S 0 5 else if what = 3 then fF S 0 7 else if what = 4 then fF S 0 17 else if what = 5 then fF S 0 40 else -2) := by
      refine ⟨rfl, ?_⟩ <;> (repeat (first | rw [if_pos (by assumption)] | rw [if_neg (by assumption)])) <;> first | rfl | assumption
    exact W.iret (v := (fF S 0 20)) hx hb hr (fun t_ ht_ hW_ => ⟨⟨(fF S 0 20), (setF S 0 8 (0)), rfl, hpost, by rw [ht_]; exact hP, va_K.moved hW_.alike hK, hD⟩, hS.F ht_⟩) hS.2.2 (fk_get fk_cX12_count_0 9 rfl)
  by_cases c_3 : what = (2 : Int32)
  · refine lv_tableIn (off := 48) (tgt := 54) hx hb (dk_get dk_cX12_count_0 0 rfl) (by rw [c_3]; decide) (by rw [c_3]; decide) (by rw [c_3]; rfl) (by decide) ?_
    refine lv_aload_n hx hb (fk_get fk_cX12_count_0 10 rfl) rfl (lv_at hl 0 rfl) ?_
    refine va_get (D := G.1) (ci := 14) (v := .int ((fF S 0 5))) (C := RX12) (T := TX12) (N := 49) hx hb hT inX12 hown hK hP 0 (ix_at (by decide) (cR_0 G ad (setF S 0 8 (0)))) rfl 5 (by decide) (hT _ m5_106) (fun _ h9 => h9) rfl (fk_get fk_cX12_count_0 11 rfl) ?_
    subst hQ
    have hpost : (setF S 0 8 (0)) = (setF S 0 8 0) ∧ ((fF S 0 5) : Int32) = (if what = 0 then fF S 0 1 else if what = 1 then fF S 0 20 else if what = 2 then fF S 0 5 else if what = 3 then fF S 0 7 else if what = 4 then fF S 0 17 else if what = 5 then fF S 0 40 else -2) := by
      refine ⟨rfl, ?_⟩ <;> (repeat (first | rw [if_pos (by assumption)] | rw [if_neg (by assumption)])) <;> first | rfl | assumption
    exact W.iret (v := (fF S 0 5)) hx hb hr (fun t_ ht_ hW_ => ⟨⟨(fF S 0 5), (setF S 0 8 (0)), rfl, hpost, by rw [ht_]; exact hP, va_K.moved hW_.alike hK, hD⟩, hS.F ht_⟩) hS.2.2 (fk_get fk_cX12_count_0 12 rfl)
  by_cases c_4 : what = (3 : Int32)
  · refine lv_tableIn (off := 53) (tgt := 59) hx hb (dk_get dk_cX12_count_0 0 rfl) (by rw [c_4]; decide) (by rw [c_4]; decide) (by rw [c_4]; rfl) (by decide) ?_
    refine lv_aload_n hx hb (fk_get fk_cX12_count_0 13 rfl) rfl (lv_at hl 0 rfl) ?_
    refine va_get (D := G.1) (ci := 14) (v := .int ((fF S 0 7))) (C := RX12) (T := TX12) (N := 49) hx hb hT inX12 hown hK hP 0 (ix_at (by decide) (cR_0 G ad (setF S 0 8 (0)))) rfl 7 (by decide) (hT _ m5_108) (fun _ h9 => h9) rfl (fk_get fk_cX12_count_0 14 rfl) ?_
    subst hQ
    have hpost : (setF S 0 8 (0)) = (setF S 0 8 0) ∧ ((fF S 0 7) : Int32) = (if what = 0 then fF S 0 1 else if what = 1 then fF S 0 20 else if what = 2 then fF S 0 5 else if what = 3 then fF S 0 7 else if what = 4 then fF S 0 17 else if what = 5 then fF S 0 40 else -2) := by
      refine ⟨rfl, ?_⟩ <;> (repeat (first | rw [if_pos (by assumption)] | rw [if_neg (by assumption)])) <;> first | rfl | assumption
    exact W.iret (v := (fF S 0 7)) hx hb hr (fun t_ ht_ hW_ => ⟨⟨(fF S 0 7), (setF S 0 8 (0)), rfl, hpost, by rw [ht_]; exact hP, va_K.moved hW_.alike hK, hD⟩, hS.F ht_⟩) hS.2.2 (fk_get fk_cX12_count_0 15 rfl)
  by_cases c_5 : what = (4 : Int32)
  · refine lv_tableIn (off := 58) (tgt := 64) hx hb (dk_get dk_cX12_count_0 0 rfl) (by rw [c_5]; decide) (by rw [c_5]; decide) (by rw [c_5]; rfl) (by decide) ?_
    refine lv_aload_n hx hb (fk_get fk_cX12_count_0 16 rfl) rfl (lv_at hl 0 rfl) ?_
    refine va_get (D := G.1) (ci := 14) (v := .int ((fF S 0 17))) (C := RX12) (T := TX12) (N := 49) hx hb hT inX12 hown hK hP 0 (ix_at (by decide) (cR_0 G ad (setF S 0 8 (0)))) rfl 17 (by decide) (hT _ m5_118) (fun _ h9 => h9) rfl (fk_get fk_cX12_count_0 17 rfl) ?_
    subst hQ
    have hpost : (setF S 0 8 (0)) = (setF S 0 8 0) ∧ ((fF S 0 17) : Int32) = (if what = 0 then fF S 0 1 else if what = 1 then fF S 0 20 else if what = 2 then fF S 0 5 else if what = 3 then fF S 0 7 else if what = 4 then fF S 0 17 else if what = 5 then fF S 0 40 else -2) := by
      refine ⟨rfl, ?_⟩ <;> (repeat (first | rw [if_pos (by assumption)] | rw [if_neg (by assumption)])) <;> first | rfl | assumption
    exact W.iret (v := (fF S 0 17)) hx hb hr (fun t_ ht_ hW_ => ⟨⟨(fF S 0 17), (setF S 0 8 (0)), rfl, hpost, by rw [ht_]; exact hP, va_K.moved hW_.alike hK, hD⟩, hS.F ht_⟩) hS.2.2 (fk_get fk_cX12_count_0 18 rfl)
  by_cases c_6 : what = (5 : Int32)
  · refine lv_tableIn (off := 63) (tgt := 69) hx hb (dk_get dk_cX12_count_0 0 rfl) (by rw [c_6]; decide) (by rw [c_6]; decide) (by rw [c_6]; rfl) (by decide) ?_
    refine lv_aload_n hx hb (fk_get fk_cX12_count_0 19 rfl) rfl (lv_at hl 0 rfl) ?_
    refine va_get (D := G.1) (ci := 14) (v := .int ((fF S 0 40))) (C := RX12) (T := TX12) (N := 49) hx hb hT inX12 hown hK hP 0 (ix_at (by decide) (cR_0 G ad (setF S 0 8 (0)))) rfl 40 (by decide) (hT _ m5_141) (fun _ h9 => h9) rfl (fk_get fk_cX12_count_0 20 rfl) ?_
    subst hQ
    have hpost : (setF S 0 8 (0)) = (setF S 0 8 0) ∧ ((fF S 0 40) : Int32) = (if what = 0 then fF S 0 1 else if what = 1 then fF S 0 20 else if what = 2 then fF S 0 5 else if what = 3 then fF S 0 7 else if what = 4 then fF S 0 17 else if what = 5 then fF S 0 40 else -2) := by
      refine ⟨rfl, ?_⟩ <;> (repeat (first | rw [if_pos (by assumption)] | rw [if_neg (by assumption)])) <;> first | rfl | assumption
    exact W.iret (v := (fF S 0 40)) hx hb hr (fun t_ ht_ hW_ => ⟨⟨(fF S 0 40), (setF S 0 8 (0)), rfl, hpost, by rw [ht_]; exact hP, va_K.moved hW_.alike hK, hD⟩, hS.F ht_⟩) hS.2.2 (fk_get fk_cX12_count_0 21 rfl)
  have o_7 : (what).toInt < 0 ∨ 5 < (what).toInt := by
    have qc_1 : ¬ (what).toInt = 0 := lv_neT c_1 (by decide)
    have qc_2 : ¬ (what).toInt = 1 := lv_neT c_2 (by decide)
    have qc_3 : ¬ (what).toInt = 2 := lv_neT c_3 (by decide)
    have qc_4 : ¬ (what).toInt = 3 := lv_neT c_4 (by decide)
    have qc_5 : ¬ (what).toInt = 4 := lv_neT c_5 (by decide)
    have qc_6 : ¬ (what).toInt = 5 := lv_neT c_6 (by decide)
    omega
  refine lv_tableOut (tgt := 74) hx hb (dk_get dk_cX12_count_0 0 rfl) o_7 (by decide) ?_
  refine lv_bipush (v := (-2)) hx hb (fk_get fk_cX12_count_0 22 rfl) (by decide) ?_
  subst hQ
  have hpost : (setF S 0 8 (0)) = (setF S 0 8 0) ∧ ((-2) : Int32) = (if what = 0 then fF S 0 1 else if what = 1 then fF S 0 20 else if what = 2 then fF S 0 5 else if what = 3 then fF S 0 7 else if what = 4 then fF S 0 17 else if what = 5 then fF S 0 40 else -2) := by
    refine ⟨rfl, ?_⟩ <;> (repeat (first | rw [if_pos (by assumption)] | rw [if_neg (by assumption)])) <;> first | rfl | assumption
  exact W.iret (v := (-2)) hx hb hr (fun t_ ht_ hW_ => ⟨⟨(-2), (setF S 0 8 (0)), rfl, hpost, by rw [ht_]; exact hP, va_K.moved hW_.alike hK, hD⟩, hS.F ht_⟩) hS.2.2 (fk_get fk_cX12_count_0 23 rfl)
set_option maxHeartbeats 4000000 in
set_option maxRecDepth 100000 in
theorem c_above (l : Launch) (kind : Int32) : Met l yX12_above (Cond.code yX12_above cX12_above 1 (some .int) :: TBL) ({ frames := 2, cells := 0, slots := 0, locals := 64 } : Room) (PcN [.int (kind)]) (vp_Si (fun (r : Int32) => r = AB kind)) 0 0 (fun _ => False) := by
  refine Met.ofW (cc := cX12_above) (maxL := 1) (ret := (some .int)) (by decide) rfl ?_
  intro p e s m args below meth c₀ s₁ B hml hv
  obtain ⟨rfl, -⟩ := hv
  have hx := B.exec
  have hb := B.bytes
  have hr := B.returns
  have hT : ∀ w ∈ TBL, w.before ([.int (kind)] : List Value).toArray s = true := fun w h => atoms_spec (ws := Cond.code yX12_above cX12_above 1 (some .int) :: TBL) B.pre w (List.mem_cons_of_mem _ h)
  have hown : s.vm.findClass "LittleMoreModel" = some m.cls := findClass_of_methodNamed B.named
  have hlocks := B.notSynchronized
  have hl := lv_entry ([.int (kind)]) (n := 1) (Nat.le_of_ble_eq_true rfl)
  rw [lg_entry_eq]
  generalize (lg_sl ([.int (kind)]) ++ List.replicate (1 - (lg_sl ([.int (kind)])).length) Slot.unset).toArray = ls at hl ⊢
  have hl : lv_has ls 1 [(0, .int (kind))] := hl
  refine W_abs (fun Q hQ => ?_)
  generalize ([.int (kind)] : List Value).toArray = args at hT hQ ⊢
  refine lv_iload_n hx hb (fk_get fk_cX12_above_0 0 rfl) rfl (lv_at hl 0 rfl) ?_
  refine lv_if_ne (tgt := 8) hx hb (fk_get fk_cX12_above_0 1 rfl) (by decide) (fun c_1 => ?_) (fun c_1 => ?_)
  · refine lv_iload_n hx hb (fk_get fk_cX12_above_0 4 rfl) rfl (lv_at hl 0 rfl) ?_
    refine lv_iconst (v := 4) hx hb (fk_get fk_cX12_above_0 5 rfl) (by decide) ?_
    refine lv_icmp_ge (tgt := 17) hx hb (fk_get fk_cX12_above_0 6 rfl) (by decide) (fun c_2 => ?_) (fun c_2 => ?_)
    · refine lv_iload_n hx hb (fk_get fk_cX12_above_0 9 rfl) rfl (lv_at hl 0 rfl) ?_
      refine lv_iconst (v := 3) hx hb (fk_get fk_cX12_above_0 10 rfl) (by decide) ?_
      refine lv_isub hx hb (fk_get fk_cX12_above_0 11 rfl) ?_
      subst hQ
      have hpost : ((kind - 3) : Int32) = AB kind := by
        unfold AB
        first | (rw [if_pos (by assumption)]; done) | (rw [if_neg (by assumption), if_pos (Int32.not_le.mp (by assumption))]; done) | (rw [if_neg (by assumption), if_neg (Int32.not_lt.mpr (by assumption))]; done)
      exact W.iret (v := (kind - 3)) hx hb hr (fun t_ ht_ hW_ => ⟨(kind - 3), rfl, hpost, ht_⟩) (fun q h => by cases h) (fk_get fk_cX12_above_0 12 rfl)
    refine lv_iconst (v := 0) hx hb (fk_get fk_cX12_above_0 7 rfl) (by decide) ?_
    refine lv_goto (tgt := 20) hx hb (fk_get fk_cX12_above_0 8 rfl) (by decide) ?_
    subst hQ
    have hpost : (0 : Int32) = AB kind := by
      unfold AB
      first | (rw [if_pos (by assumption)]; done) | (rw [if_neg (by assumption), if_pos (Int32.not_le.mp (by assumption))]; done) | (rw [if_neg (by assumption), if_neg (Int32.not_lt.mpr (by assumption))]; done)
    exact W.iret (v := 0) hx hb hr (fun t_ ht_ hW_ => ⟨0, rfl, hpost, ht_⟩) (fun q h => by cases h) (fk_get fk_cX12_above_0 12 rfl)
  refine lv_iconst (v := (-1)) hx hb (fk_get fk_cX12_above_0 2 rfl) (by decide) ?_
  refine lv_goto (tgt := 20) hx hb (fk_get fk_cX12_above_0 3 rfl) (by decide) ?_
  subst hQ
  have hpost : ((-1) : Int32) = AB kind := by
    unfold AB
    first | (rw [if_pos (by assumption)]; done) | (rw [if_neg (by assumption), if_pos (Int32.not_le.mp (by assumption))]; done) | (rw [if_neg (by assumption), if_neg (Int32.not_lt.mpr (by assumption))]; done)
  exact W.iret (v := (-1)) hx hb hr (fun t_ ht_ hW_ => ⟨(-1), rfl, hpost, ht_⟩) (fun q h => by cases h) (fk_get fk_cX12_above_0 12 rfl)
set_option maxHeartbeats 4000000 in
set_option maxRecDepth 100000 in
theorem c_may (l : Launch) (what n : Int32) : Met l yX12_may (Cond.code yX12_may cX12_may 2 (some .boolean) :: TBL) ({ frames := 3, cells := 0, slots := 0, locals := 93 } : Room) (PcN [.int (what), .int (n)]) (vp_Si (fun (r : Int32) => r = if (if what = 0 then 10 ≤ n ∧ n ≤ 99 else if what = 1 then 0 ≤ n ∧ n ≤ 20 else if what = 2 then 0 ≤ n ∧ n ≤ 99 else 0 ≤ n ∧ n ≤ 1) then 1 else 0)) 0 0 (fun _ => False) := by
  refine Met.ofW (cc := cX12_may) (maxL := 2) (ret := (some .boolean)) (by decide) rfl ?_
  intro p e s m args below meth c₀ s₁ B hml hv
  obtain ⟨rfl, -⟩ := hv
  have hx := B.exec
  have hb := B.bytes
  have hr := B.returns
  have hT : ∀ w ∈ TBL, w.before ([.int (what), .int (n)] : List Value).toArray s = true := fun w h => atoms_spec (ws := Cond.code yX12_may cX12_may 2 (some .boolean) :: TBL) B.pre w (List.mem_cons_of_mem _ h)
  have hown : s.vm.findClass "LittleMoreModel" = some m.cls := findClass_of_methodNamed B.named
  have hlocks := B.notSynchronized
  have hl := lv_entry ([.int (what), .int (n)]) (n := 2) (Nat.le_of_ble_eq_true rfl)
  rw [lg_entry_eq]
  generalize (lg_sl ([.int (what), .int (n)]) ++ List.replicate (2 - (lg_sl ([.int (what), .int (n)])).length) Slot.unset).toArray = ls at hl ⊢
  have hl : lv_has ls 2 [(0, .int (what)), (1, .int (n))] := hl
  refine W_abs (fun Q hQ => ?_)
  generalize ([.int (what), .int (n)] : List Value).toArray = args at hT hQ ⊢
  refine lv_iload_n hx hb (fk_get fk_cX12_may_0 0 rfl) rfl (lv_at hl 0 rfl) ?_
  by_cases c_1 : what = (0 : Int32)
  · refine lv_tableIn (off := 27) (tgt := 28) hx hb (dk_get dk_cX12_may_0 0 rfl) (by rw [c_1]; decide) (by rw [c_1]; decide) (by rw [c_1]; rfl) (by decide) ?_
    refine lv_iload_n hx hb (fk_get fk_cX12_may_0 1 rfl) rfl (lv_at hl 1 rfl) ?_
    refine lv_i2l hx hb (fk_get fk_cX12_may_0 2 rfl) rfl ?_
    refine lv_ldc2 (v := 10) hx hb hown (hT _ m6_100) (fk_get fk_cX12_may_0 3 rfl) ?_
    refine lv_ldc2 (v := 99) hx hb hown (hT _ m6_101) (fk_get fk_cX12_may_0 4 rfl) ?_
    refine vp_callSi (W.runS (As := [.long ((n).toInt64), .long (10), .long (99)]) (rest := []) ⟨hx, hb, hml, hown, hT⟩ (c_in l ((n).toInt64) (10) (99) ) (tS 3 hT m6_31 m6_32 m1_17 m6_33 rfl rfl (by decide +kernel) ⟨Nat.le_of_ble_eq_true rfl, Nat.le_of_ble_eq_true rfl⟩) ⟨PcN_blind, PcN_of _ _ _⟩ rfl rfl hl.1 rfl (lv_room (Nat.le_of_ble_eq_true rfl)) (fk_get fk_cX12_may_0 5 rfl) ⟨Nat.zero_le _, Nat.zero_le _⟩) (fun r_2 hw_3 => ?_)
    try dsimp only at hw_3
    have hw_3 := in_eq hw_3 (n) 10 99 (rfl) (by decide) (by decide)
    subst hQ
    have hpost : (r_2 : Int32) = if (if what = 0 then 10 ≤ n ∧ n ≤ 99 else if what = 1 then 0 ≤ n ∧ n ≤ 20 else if what = 2 then 0 ≤ n ∧ n ≤ 99 else 0 ≤ n ∧ n ≤ 1) then 1 else 0 := by
      refine (by assumption : _ = _).trans ?_
      congr 1
      apply propext
      first | (rw [if_pos (by assumption)]; done) | (rw [if_neg (by assumption), if_pos (by assumption)]; done) | (rw [if_neg (by assumption), if_neg (by assumption), if_pos (by assumption)]; done) | (rw [if_neg (by assumption), if_neg (by assumption), if_neg (by assumption)]; done)
    exact W.zret (v := r_2) hx hb hr (nar_b (if1_01 hw_3)) (fun t_ ht_ hW_ => ⟨r_2, rfl, hpost, ht_⟩) (fun q h => by cases h) (fk_get fk_cX12_may_0 6 rfl)
  by_cases c_4 : what = (1 : Int32)
  · refine lv_tableIn (off := 39) (tgt := 40) hx hb (dk_get dk_cX12_may_0 0 rfl) (by rw [c_4]; decide) (by rw [c_4]; decide) (by rw [c_4]; rfl) (by decide) ?_
    refine lv_iload_n hx hb (fk_get fk_cX12_may_0 7 rfl) rfl (lv_at hl 1 rfl) ?_
    refine lv_i2l hx hb (fk_get fk_cX12_may_0 8 rfl) rfl ?_
    refine lv_lconst (v := 0) hx hb (fk_get fk_cX12_may_0 9 rfl) (by decide) ?_
    refine lv_ldc2 (v := 20) hx hb hown (hT _ m6_166) (fk_get fk_cX12_may_0 10 rfl) ?_
    refine vp_callSi (W.runS (As := [.long ((n).toInt64), .long (0), .long (20)]) (rest := []) ⟨hx, hb, hml, hown, hT⟩ (c_in l ((n).toInt64) (0) (20) ) (tS 3 hT m6_31 m6_32 m1_17 m6_33 rfl rfl (by decide +kernel) ⟨Nat.le_of_ble_eq_true rfl, Nat.le_of_ble_eq_true rfl⟩) ⟨PcN_blind, PcN_of _ _ _⟩ rfl rfl hl.1 rfl (lv_room (Nat.le_of_ble_eq_true rfl)) (fk_get fk_cX12_may_0 11 rfl) ⟨Nat.zero_le _, Nat.zero_le _⟩) (fun r_5 hw_6 => ?_)
    try dsimp only at hw_6
    have hw_6 := in_eq hw_6 (n) 0 20 (rfl) (by decide) (by decide)
    subst hQ
    have hpost : (r_5 : Int32) = if (if what = 0 then 10 ≤ n ∧ n ≤ 99 else if what = 1 then 0 ≤ n ∧ n ≤ 20 else if what = 2 then 0 ≤ n ∧ n ≤ 99 else 0 ≤ n ∧ n ≤ 1) then 1 else 0 := by
      refine (by assumption : _ = _).trans ?_
      congr 1
      apply propext
      first | (rw [if_pos (by assumption)]; done) | (rw [if_neg (by assumption), if_pos (by assumption)]; done) | (rw [if_neg (by assumption), if_neg (by assumption), if_pos (by assumption)]; done) | (rw [if_neg (by assumption), if_neg (by assumption), if_neg (by assumption)]; done)
    exact W.zret (v := r_5) hx hb hr (nar_b (if1_01 hw_6)) (fun t_ ht_ hW_ => ⟨r_5, rfl, hpost, ht_⟩) (fun q h => by cases h) (fk_get fk_cX12_may_0 12 rfl)
  by_cases c_7 : what = (2 : Int32)
  · refine lv_tableIn (off := 49) (tgt := 50) hx hb (dk_get dk_cX12_may_0 0 rfl) (by rw [c_7]; decide) (by rw [c_7]; decide) (by rw [c_7]; rfl) (by decide) ?_
    refine lv_iload_n hx hb (fk_get fk_cX12_may_0 13 rfl) rfl (lv_at hl 1 rfl) ?_
    refine lv_i2l hx hb (fk_get fk_cX12_may_0 14 rfl) rfl ?_
    refine lv_lconst (v := 0) hx hb (fk_get fk_cX12_may_0 15 rfl) (by decide) ?_
    refine lv_ldc2 (v := 99) hx hb hown (hT _ m6_101) (fk_get fk_cX12_may_0 16 rfl) ?_
    refine vp_callSi (W.runS (As := [.long ((n).toInt64), .long (0), .long (99)]) (rest := []) ⟨hx, hb, hml, hown, hT⟩ (c_in l ((n).toInt64) (0) (99) ) (tS 3 hT m6_31 m6_32 m1_17 m6_33 rfl rfl (by decide +kernel) ⟨Nat.le_of_ble_eq_true rfl, Nat.le_of_ble_eq_true rfl⟩) ⟨PcN_blind, PcN_of _ _ _⟩ rfl rfl hl.1 rfl (lv_room (Nat.le_of_ble_eq_true rfl)) (fk_get fk_cX12_may_0 17 rfl) ⟨Nat.zero_le _, Nat.zero_le _⟩) (fun r_8 hw_9 => ?_)
    try dsimp only at hw_9
    have hw_9 := in_eq hw_9 (n) 0 99 (rfl) (by decide) (by decide)
    subst hQ
    have hpost : (r_8 : Int32) = if (if what = 0 then 10 ≤ n ∧ n ≤ 99 else if what = 1 then 0 ≤ n ∧ n ≤ 20 else if what = 2 then 0 ≤ n ∧ n ≤ 99 else 0 ≤ n ∧ n ≤ 1) then 1 else 0 := by
      refine (by assumption : _ = _).trans ?_
      congr 1
      apply propext
      first | (rw [if_pos (by assumption)]; done) | (rw [if_neg (by assumption), if_pos (by assumption)]; done) | (rw [if_neg (by assumption), if_neg (by assumption), if_pos (by assumption)]; done) | (rw [if_neg (by assumption), if_neg (by assumption), if_neg (by assumption)]; done)
    exact W.zret (v := r_8) hx hb hr (nar_b (if1_01 hw_9)) (fun t_ ht_ hW_ => ⟨r_8, rfl, hpost, ht_⟩) (fun q h => by cases h) (fk_get fk_cX12_may_0 18 rfl)
  have o_10 : (what).toInt < 0 ∨ 2 < (what).toInt := by
    have qc_1 : ¬ (what).toInt = 0 := lv_neT c_1 (by decide)
    have qc_4 : ¬ (what).toInt = 1 := lv_neT c_4 (by decide)
    have qc_7 : ¬ (what).toInt = 2 := lv_neT c_7 (by decide)
    omega
  refine lv_tableOut (tgt := 60) hx hb (dk_get dk_cX12_may_0 0 rfl) o_10 (by decide) ?_
  refine lv_iload_n hx hb (fk_get fk_cX12_may_0 19 rfl) rfl (lv_at hl 1 rfl) ?_
  refine lv_i2l hx hb (fk_get fk_cX12_may_0 20 rfl) rfl ?_
  refine lv_lconst (v := 0) hx hb (fk_get fk_cX12_may_0 21 rfl) (by decide) ?_
  refine lv_lconst (v := 1) hx hb (fk_get fk_cX12_may_0 22 rfl) (by decide) ?_
  refine vp_callSi (W.runS (As := [.long ((n).toInt64), .long (0), .long (1)]) (rest := []) ⟨hx, hb, hml, hown, hT⟩ (c_in l ((n).toInt64) (0) (1) ) (tS 3 hT m6_31 m6_32 m1_17 m6_33 rfl rfl (by decide +kernel) ⟨Nat.le_of_ble_eq_true rfl, Nat.le_of_ble_eq_true rfl⟩) ⟨PcN_blind, PcN_of _ _ _⟩ rfl rfl hl.1 rfl (lv_room (Nat.le_of_ble_eq_true rfl)) (fk_get fk_cX12_may_0 23 rfl) ⟨Nat.zero_le _, Nat.zero_le _⟩) (fun r_11 hw_12 => ?_)
  try dsimp only at hw_12
  have hw_12 := in_eq hw_12 (n) 0 1 (rfl) (by decide) (by decide)
  subst hQ
  have hpost : (r_11 : Int32) = if (if what = 0 then 10 ≤ n ∧ n ≤ 99 else if what = 1 then 0 ≤ n ∧ n ≤ 20 else if what = 2 then 0 ≤ n ∧ n ≤ 99 else 0 ≤ n ∧ n ≤ 1) then 1 else 0 := by
    refine (by assumption : _ = _).trans ?_
    congr 1
    apply propext
    first | (rw [if_pos (by assumption)]; done) | (rw [if_neg (by assumption), if_pos (by assumption)]; done) | (rw [if_neg (by assumption), if_neg (by assumption), if_pos (by assumption)]; done) | (rw [if_neg (by assumption), if_neg (by assumption), if_neg (by assumption)]; done)
  exact W.zret (v := r_11) hx hb hr (nar_b (if1_01 hw_12)) (fun t_ ht_ hW_ => ⟨r_11, rfl, hpost, ht_⟩) (fun q h => by cases h) (fk_get fk_cX12_may_0 24 rfl)
set_option maxHeartbeats 4000000 in
set_option maxRecDepth 100000 in
theorem c_set (l : Launch) (G : GG) (ad : Nat → Nat) (S : FS) (sz : Nat) (n : Nat) (c what n_ : Int32) (hn : fF S 0 1 = nI n) (hn6 : n ≤ 6) : Met l yX12_set (Cond.code yX12_set cX12_set 6 (some .int) :: TBL) ({ frames := 4, cells := 0, slots := 0, locals := 118 } : Room) (PcW G (wR G ad S) sz [.ref (ad 0), .int (c), .int (what), .int (n_)]) (va_Qi (fun (r : Int32) (S' : FS) => r = (if (0 ≤ c ∧ c ≤ fF S 0 1 - 1) then if 0 ≤ what ∧ what ≤ 3 then if (if what = 0 then 10 ≤ n_ ∧ n_ ≤ 99 else if what = 1 then 0 ≤ n_ ∧ n_ ≤ 20 else if what = 2 then 0 ≤ n_ ∧ n_ ≤ 99 else 0 ≤ n_ ∧ n_ ≤ 1) then fA S 1 (12 * c.toNatClampNeg + slw what) else -2 else -1 else -1) ∧ S' = (if (0 ≤ c ∧ c ≤ fF S 0 1 - 1) then if 0 ≤ what ∧ what ≤ 3 then if (if what = 0 then 10 ≤ n_ ∧ n_ ≤ 99 else if what = 1 then 0 ≤ n_ ∧ n_ ≤ 20 else if what = 2 then 0 ≤ n_ ∧ n_ ≤ 99 else 0 ≤ n_ ∧ n_ ≤ 1) then setA (setF S 0 8 0) 1 (upd (fA S 1) (12 * c.toNatClampNeg + slw what) n_) else (setF S 0 8 0) else (setF S 0 8 0) else (setF S 0 8 0))) (fun S' t => BW G (va_A (wR G ad S) sz) (wR G ad S') t) (va_A (wR G ad S) sz)) 0 0 (va_A (wR G ad S) sz) := by
  refine Met.ofW (cc := cX12_set) (maxL := 6) (ret := (some .int)) (by decide) rfl ?_
  intro p e s m args below meth c₀ s₁ B hml hv
  obtain ⟨rfl, hsz, hP, hK, hD0⟩ := hv
  have hx := B.exec
  have hb := B.bytes
  have hr := B.returns
  have hT : ∀ w ∈ TBL, w.before ([.ref (ad 0), .int (c), .int (what), .int (n_)] : List Value).toArray s = true := fun w h => atoms_spec (ws := Cond.code yX12_set cX12_set 6 (some .int) :: TBL) B.pre w (List.mem_cons_of_mem _ h)
  have hown : s.vm.findClass "LittleMoreModel" = some m.cls := findClass_of_methodNamed B.named
  have hlocks := B.notSynchronized
  subst hsz
  have hD := hD0.self (sz := s.heap.size)
  generalize hAe : va_A (wR G ad S) s.heap.size = A at hD ⊢
  have hA : ∀ q : Nat, s.heap.size ≤ q → A q := fun q h => by rw [← hAe]; exact Or.inr h
  have hS : va_S A s.heap s.heap [] := va_S.rf
  have hP : va_P G.1 vwCl (wR G ad S) s.heap := hP
  have hl := lv_entry ([.ref (ad 0), .int (c), .int (what), .int (n_)]) (n := 6) (Nat.le_of_ble_eq_true rfl)
  rw [lg_entry_eq]
  generalize (lg_sl ([.ref (ad 0), .int (c), .int (what), .int (n_)]) ++ List.replicate (6 - (lg_sl ([.ref (ad 0), .int (c), .int (what), .int (n_)])).length) Slot.unset).toArray = ls at hl ⊢
  have hl : lv_has ls 6 [(0, .ref (ad 0)), (1, .int (c)), (2, .int (what)), (3, .int (n_))] := hl
  refine W_abs (fun Q hQ => ?_)
  generalize ([.ref (ad 0), .int (c), .int (what), .int (n_)] : List Value).toArray = args at hT hQ ⊢
  refine lv_aload_n hx hb (fk_get fk_cX12_set_0 0 rfl) rfl (lv_at hl 0 rfl) ?_
  refine lv_iconst (v := 0) hx hb (fk_get fk_cX12_set_0 1 rfl) (by decide) ?_
  refine va_put (D := G.1) (ci := 14) (v := .int (0)) (ty := .int) (C := RX12) (T := TX12) (N := 49) hx hb hT inX12 tyX12 tyX12_ok nmX12 hown hK hP hD hS 0 (ix_at (by decide) (cR_0 G ad S)) rfl 8 (by decide) (hT _ m5_109) (fun _ h9 => h9) rfl (by decide +kernel) rfl rfl (Nat.le_of_ble_eq_true rfl) (fk_get fk_cX12_set_0 2 rfl) (fun H locs hP hD hS => ?_)
  rw [pR_thrown G ad S (0)] at hP hD
  refine lv_aload_n hx hb (fk_get fk_cX12_set_0 3 rfl) rfl (lv_at hl 0 rfl) ?_
  refine lv_iload_n hx hb (fk_get fk_cX12_set_0 4 rfl) rfl (lv_at hl 1 rfl) ?_
  refine vp_callSi (W.runV (As := [.int (c)]) (rest := []) ⟨hx, hb, hml, hown, hT⟩ (c_isCustomer l G ad (setF S 0 8 (0)) H.size (c) ) (tV 1 hT m6_110 m6_112 mp_32 m1_17 m6_113 rfl rfl (by decide +kernel) ⟨Nat.le_of_ble_eq_true rfl, Nat.le_of_ble_eq_true rfl⟩) ⟨PcW_blind, va_recv hK hP (ci := 14) (q0 := 0) rfl (ix_at (by decide) (cR_0 G ad (setF S 0 8 (0)))), PcW_of hP hK hD _⟩ rfl rfl hl.1 rfl (lv_room (Nat.le_of_ble_eq_true rfl)) (fk_get fk_cX12_set_0 5 rfl) ⟨Nat.zero_le _, Nat.zero_le _⟩) (fun r_1 hw_2 => ?_)
  try dsimp only at hw_2
  have hw_2 : r_1 = if 0 ≤ c ∧ c ≤ fF S 0 1 - 1 then 1 else 0 := hw_2
  refine lv_if_eq (tgt := 25) hx hb (fk_get fk_cX12_set_0 6 rfl) (by decide) (fun c_3 => ?_) (fun c_3 => ?_)
  · have p_c_3 := if1_f hw_2 c_3
    refine lv_iconst (v := (-1)) hx hb (fk_get fk_cX12_set_0 13 rfl) (by decide) ?_
    subst hQ
    have hpost : ((-1) : Int32) = (if (0 ≤ c ∧ c ≤ fF S 0 1 - 1) then if 0 ≤ what ∧ what ≤ 3 then if (if what = 0 then 10 ≤ n_ ∧ n_ ≤ 99 else if what = 1 then 0 ≤ n_ ∧ n_ ≤ 20 else if what = 2 then 0 ≤ n_ ∧ n_ ≤ 99 else 0 ≤ n_ ∧ n_ ≤ 1) then fA S 1 (12 * c.toNatClampNeg + slw what) else -2 else -1 else -1) ∧ (setF S 0 8 (0)) = (if (0 ≤ c ∧ c ≤ fF S 0 1 - 1) then if 0 ≤ what ∧ what ≤ 3 then if (if what = 0 then 10 ≤ n_ ∧ n_ ≤ 99 else if what = 1 then 0 ≤ n_ ∧ n_ ≤ 20 else if what = 2 then 0 ≤ n_ ∧ n_ ≤ 99 else 0 ≤ n_ ∧ n_ ≤ 1) then setA (setF S 0 8 0) 1 (upd (fA S 1) (12 * c.toNatClampNeg + slw what) n_) else (setF S 0 8 0) else (setF S 0 8 0) else (setF S 0 8 0)) := by
      first
      | (refine ⟨?_, ?_⟩ <;> (repeat (first | rw [if_pos (by assumption)] | rw [if_neg (by assumption)])) <;> first | rfl | (rw [show slw what = 2 from if_pos (by assumption)]; first | assumption | rfl) | (rw [show slw what = 3 from (if_neg (by assumption)).trans (if_pos (by assumption))]; first | assumption | rfl) | (rw [show slw what = 4 from (if_neg (by assumption)).trans ((if_neg (by assumption)).trans (if_pos (by assumption)))]; first | assumption | rfl) | (rw [show slw what = 7 from (if_neg (by assumption)).trans ((if_neg (by assumption)).trans (if_neg (by assumption)))]; first | assumption | rfl))
    exact W.iret (v := (-1)) hx hb hr (fun t_ ht_ hW_ => ⟨⟨(-1), (setF S 0 8 (0)), rfl, hpost, by rw [ht_]; exact hP, va_K.moved hW_.alike hK, hD⟩, hS.F ht_⟩) hS.2.2 (fk_get fk_cX12_set_0 14 rfl)
  have p_c_3 := if1_t hw_2 c_3
  obtain ⟨hj, ej⟩ := isC_n p_c_3 hn hn6
  refine lv_iload_n hx hb (fk_get fk_cX12_set_0 7 rfl) rfl (lv_at hl 2 rfl) ?_
  refine lv_i2l hx hb (fk_get fk_cX12_set_0 8 rfl) rfl ?_
  refine lv_lconst (v := 0) hx hb (fk_get fk_cX12_set_0 9 rfl) (by decide) ?_
  refine lv_ldc2 (v := 3) hx hb hown (hT _ m6_162) (fk_get fk_cX12_set_0 10 rfl) ?_
  refine vp_callSi (W.runS (As := [.long ((what).toInt64), .long (0), .long (3)]) (rest := []) ⟨hx, hb, hml, hown, hT⟩ (c_in l ((what).toInt64) (0) (3) ) (tS 3 hT m6_31 m6_32 m1_17 m6_33 rfl rfl (by decide +kernel) ⟨Nat.le_of_ble_eq_true rfl, Nat.le_of_ble_eq_true rfl⟩) ⟨PcN_blind, PcN_of _ _ _⟩ rfl rfl hl.1 rfl (lv_room (Nat.le_of_ble_eq_true rfl)) (fk_get fk_cX12_set_0 11 rfl) ⟨Nat.zero_le _, Nat.zero_le _⟩) (fun r_4 hw_5 => ?_)
  try dsimp only at hw_5
  have hw_5 := in_eq hw_5 (what) 0 3 (rfl) (by decide) (by decide)
  refine lv_if_ne (tgt := 27) hx hb (fk_get fk_cX12_set_0 12 rfl) (by decide) (fun c_6 => ?_) (fun c_6 => ?_)
  · have p_c_6 := if1_t hw_5 c_6
    refine lv_iload_n hx hb (fk_get fk_cX12_set_0 15 rfl) rfl (lv_at hl 2 rfl) ?_
    refine lv_iload_n hx hb (fk_get fk_cX12_set_0 16 rfl) rfl (lv_at hl 3 rfl) ?_
    refine vp_callSi (W.runS (As := [.int (what), .int (n_)]) (rest := []) ⟨hx, hb, hml, hown, hT⟩ (c_may l (what) (n_) ) (tS 2 hT m6_163 m6_164 m1_17 m6_165 rfl rfl (by decide +kernel) ⟨Nat.le_of_ble_eq_true rfl, Nat.le_of_ble_eq_true rfl⟩) ⟨PcN_blind, PcN_of _ _ _⟩ rfl rfl hl.1 rfl (lv_room (Nat.le_of_ble_eq_true rfl)) (fk_get fk_cX12_set_0 17 rfl) ⟨Nat.zero_le _, Nat.zero_le _⟩) (fun r_7 hw_8 => ?_)
    try dsimp only at hw_8
    refine lv_if_ne (tgt := 38) hx hb (fk_get fk_cX12_set_0 18 rfl) (by decide) (fun c_9 => ?_) (fun c_9 => ?_)
    · have p_c_9 := if1_t hw_8 c_9
      refine lv_iload_n hx hb (fk_get fk_cX12_set_0 21 rfl) rfl (lv_at hl 2 rfl) ?_
      refine lv_if_ne (tgt := 46) hx hb (fk_get fk_cX12_set_0 22 rfl) (by decide) (fun c_10 => ?_) (fun c_10 => ?_)
      · refine lv_iload_n hx hb (fk_get fk_cX12_set_0 25 rfl) rfl (lv_at hl 2 rfl) ?_
        refine lv_iconst (v := 1) hx hb (fk_get fk_cX12_set_0 26 rfl) (by decide) ?_
        refine lv_icmp_ne (tgt := 55) hx hb (fk_get fk_cX12_set_0 27 rfl) (by decide) (fun c_11 => ?_) (fun c_11 => ?_)
        · refine lv_iload_n hx hb (fk_get fk_cX12_set_0 30 rfl) rfl (lv_at hl 2 rfl) ?_
          refine lv_iconst (v := 2) hx hb (fk_get fk_cX12_set_0 31 rfl) (by decide) ?_
          refine lv_icmp_ne (tgt := 64) hx hb (fk_get fk_cX12_set_1 0 rfl) (by decide) (fun c_12 => ?_) (fun c_12 => ?_)
          · refine lv_bipush (v := 7) hx hb (fk_get fk_cX12_set_1 3 rfl) (by decide) ?_
            refine lv_istore (lv' := [(4, .int (7)), (0, .ref (ad 0)), (1, .int (c)), (2, .int (what)), (3, .int (n_))]) hx hb (fk_get fk_cX12_set_1 4 rfl) hl (by decide) rfl (fun ls hl => ?_)
            refine lv_aload_n hx hb (fk_get fk_cX12_set_1 5 rfl) rfl (lv_at hl 1 rfl) ?_
            refine lv_iload_n hx hb (fk_get fk_cX12_set_1 6 rfl) rfl (lv_at hl 2 rfl) ?_
            refine lv_iload hx hb (fk_get fk_cX12_set_1 7 rfl) (lv_at hl 0 rfl) ?_
            refine vp_callSi (W.runV (As := [.int (c), .int (7)]) (rest := []) ⟨hx, hb, hml, hown, hT⟩ (c_of0 l G ad (setF S 0 8 (0)) H.size (c) (7) (((12 * c.toNatClampNeg) + 7)) (n_add (n_mul (rfl) (ej)) (rfl)) (by omega)) (tV 2 hT m6_119 m6_121 mp_34 m1_17 m6_122 rfl rfl (by decide +kernel) ⟨Nat.le_of_ble_eq_true rfl, Nat.le_of_ble_eq_true rfl⟩) ⟨PcW_blind, va_recv hK hP (ci := 14) (q0 := 0) rfl (ix_at (by decide) (cR_0 G ad (setF S 0 8 (0)))), PcW_of hP hK hD _⟩ rfl rfl hl.1 rfl (lv_room (Nat.le_of_ble_eq_true rfl)) (fk_get fk_cX12_set_1 8 rfl) ⟨Nat.zero_le _, Nat.zero_le _⟩) (fun r_13 hw_14 => ?_)
            try dsimp only at hw_14
            have e_ := hw_14
            refine lv_istore (lv' := [(5, .int (r_13)), (4, .int (7)), (0, .ref (ad 0)), (1, .int (c)), (2, .int (what)), (3, .int (n_))]) hx hb (fk_get fk_cX12_set_1 9 rfl) hl (by decide) rfl (fun ls hl => ?_)
            refine lv_aload_n hx hb (fk_get fk_cX12_set_1 10 rfl) rfl (lv_at hl 2 rfl) ?_
            refine lv_iload_n hx hb (fk_get fk_cX12_set_1 11 rfl) rfl (lv_at hl 3 rfl) ?_
            refine lv_iload hx hb (fk_get fk_cX12_set_1 12 rfl) (lv_at hl 1 rfl) ?_
            refine lv_iload_n hx hb (fk_get fk_cX12_set_1 13 rfl) rfl (lv_at hl 5 rfl) ?_
            have hFc := va_self hD hS hA
            refine va_callv (va_runV (As := [.int (c), .int (7), .int (n_)]) (rest := []) ⟨hx, hb, hml, hown, hT⟩ (c_put l G ad (setF S 0 8 (0)) H.size (c) (7) (n_) (((12 * c.toNatClampNeg) + 7)) (n_add (n_mul (rfl) (ej)) (rfl)) (by omega)) (tV 3 hT m6_102 m6_104 mp_31 m1_17 m6_105 rfl rfl (by decide +kernel) ⟨Nat.le_of_ble_eq_true rfl, Nat.le_of_ble_eq_true rfl⟩) ⟨PcW_blind, va_recv hK hP (ci := 14) (q0 := 0) rfl (ix_at (by decide) (cR_0 G ad (setF S 0 8 (0)))), PcW_of hP hK hD _⟩ rfl rfl hl.1 rfl (lv_room (Nat.le_of_ble_eq_true rfl)) (fk_get fk_cX12_set_1 14 rfl) ⟨Nat.zero_le _, Nat.zero_le _⟩) hS (fun q _ h => hFc q h) hFc (fun S_17 t_ H locs ht_ hvm_ hw_16 hB_ hz_ hk_ hS => ?_)
            obtain ⟨hP, -, hD1_⟩ := hB_
            rw [ht_] at hP
            have hD : va_D A (wR G ad S_17) := hD1_.weaken (fun k q _ h => hFc q.1 h)
            try dsimp only at hw_16
            subst hw_16
            refine lv_iload hx hb (fk_get fk_cX12_set_1 15 rfl) (lv_at hl 0 rfl) ?_
            subst hQ
            have hpost : (r_13 : Int32) = (if (0 ≤ c ∧ c ≤ fF S 0 1 - 1) then if 0 ≤ what ∧ what ≤ 3 then if (if what = 0 then 10 ≤ n_ ∧ n_ ≤ 99 else if what = 1 then 0 ≤ n_ ∧ n_ ≤ 20 else if what = 2 then 0 ≤ n_ ∧ n_ ≤ 99 else 0 ≤ n_ ∧ n_ ≤ 1) then fA S 1 (12 * c.toNatClampNeg + slw what) else -2 else -1 else -1) ∧ (setA (setF S 0 8 (0)) 1 (upd (fA (setF S 0 8 (0)) 1) (((12 * c.toNatClampNeg) + 7)) (n_))) = (if (0 ≤ c ∧ c ≤ fF S 0 1 - 1) then if 0 ≤ what ∧ what ≤ 3 then if (if what = 0 then 10 ≤ n_ ∧ n_ ≤ 99 else if what = 1 then 0 ≤ n_ ∧ n_ ≤ 20 else if what = 2 then 0 ≤ n_ ∧ n_ ≤ 99 else 0 ≤ n_ ∧ n_ ≤ 1) then setA (setF S 0 8 0) 1 (upd (fA S 1) (12 * c.toNatClampNeg + slw what) n_) else (setF S 0 8 0) else (setF S 0 8 0) else (setF S 0 8 0)) := by
              first
              | (refine ⟨?_, ?_⟩ <;> (repeat (first | rw [if_pos (by assumption)] | rw [if_neg (by assumption)])) <;> first | rfl | (rw [show slw what = 2 from if_pos (by assumption)]; first | assumption | rfl) | (rw [show slw what = 3 from (if_neg (by assumption)).trans (if_pos (by assumption))]; first | assumption | rfl) | (rw [show slw what = 4 from (if_neg (by assumption)).trans ((if_neg (by assumption)).trans (if_pos (by assumption)))]; first | assumption | rfl) | (rw [show slw what = 7 from (if_neg (by assumption)).trans ((if_neg (by assumption)).trans (if_neg (by assumption)))]; first | assumption | rfl))
            exact W.iret (v := r_13) hx hb hr (fun t_ ht_ hW_ => ⟨⟨r_13, (setA (setF S 0 8 (0)) 1 (upd (fA (setF S 0 8 (0)) 1) (((12 * c.toNatClampNeg) + 7)) (n_))), rfl, hpost, by rw [ht_]; exact hP, va_K.moved hW_.alike hK, hD⟩, hS.F ht_⟩) hS.2.2 (fk_get fk_cX12_set_1 16 rfl)
          refine lv_iconst (v := 4) hx hb (fk_get fk_cX12_set_1 1 rfl) (by decide) ?_
          refine lv_goto (tgt := 66) hx hb (fk_get fk_cX12_set_1 2 rfl) (by decide) ?_
          refine lv_istore (lv' := [(4, .int (4)), (0, .ref (ad 0)), (1, .int (c)), (2, .int (what)), (3, .int (n_))]) hx hb (fk_get fk_cX12_set_1 4 rfl) hl (by decide) rfl (fun ls hl => ?_)
          refine lv_aload_n hx hb (fk_get fk_cX12_set_1 5 rfl) rfl (lv_at hl 1 rfl) ?_
          refine lv_iload_n hx hb (fk_get fk_cX12_set_1 6 rfl) rfl (lv_at hl 2 rfl) ?_
          refine lv_iload hx hb (fk_get fk_cX12_set_1 7 rfl) (lv_at hl 0 rfl) ?_
          refine vp_callSi (W.runV (As := [.int (c), .int (4)]) (rest := []) ⟨hx, hb, hml, hown, hT⟩ (c_of0 l G ad (setF S 0 8 (0)) H.size (c) (4) (((12 * c.toNatClampNeg) + 4)) (n_add (n_mul (rfl) (ej)) (rfl)) (by omega)) (tV 2 hT m6_119 m6_121 mp_34 m1_17 m6_122 rfl rfl (by decide +kernel) ⟨Nat.le_of_ble_eq_true rfl, Nat.le_of_ble_eq_true rfl⟩) ⟨PcW_blind, va_recv hK hP (ci := 14) (q0 := 0) rfl (ix_at (by decide) (cR_0 G ad (setF S 0 8 (0)))), PcW_of hP hK hD _⟩ rfl rfl hl.1 rfl (lv_room (Nat.le_of_ble_eq_true rfl)) (fk_get fk_cX12_set_1 8 rfl) ⟨Nat.zero_le _, Nat.zero_le _⟩) (fun r_18 hw_19 => ?_)
          try dsimp only at hw_19
          have e_ := hw_19
          refine lv_istore (lv' := [(5, .int (r_18)), (4, .int (4)), (0, .ref (ad 0)), (1, .int (c)), (2, .int (what)), (3, .int (n_))]) hx hb (fk_get fk_cX12_set_1 9 rfl) hl (by decide) rfl (fun ls hl => ?_)
          refine lv_aload_n hx hb (fk_get fk_cX12_set_1 10 rfl) rfl (lv_at hl 2 rfl) ?_
          refine lv_iload_n hx hb (fk_get fk_cX12_set_1 11 rfl) rfl (lv_at hl 3 rfl) ?_
          refine lv_iload hx hb (fk_get fk_cX12_set_1 12 rfl) (lv_at hl 1 rfl) ?_
          refine lv_iload_n hx hb (fk_get fk_cX12_set_1 13 rfl) rfl (lv_at hl 5 rfl) ?_
          have hFc := va_self hD hS hA
          refine va_callv (va_runV (As := [.int (c), .int (4), .int (n_)]) (rest := []) ⟨hx, hb, hml, hown, hT⟩ (c_put l G ad (setF S 0 8 (0)) H.size (c) (4) (n_) (((12 * c.toNatClampNeg) + 4)) (n_add (n_mul (rfl) (ej)) (rfl)) (by omega)) (tV 3 hT m6_102 m6_104 mp_31 m1_17 m6_105 rfl rfl (by decide +kernel) ⟨Nat.le_of_ble_eq_true rfl, Nat.le_of_ble_eq_true rfl⟩) ⟨PcW_blind, va_recv hK hP (ci := 14) (q0 := 0) rfl (ix_at (by decide) (cR_0 G ad (setF S 0 8 (0)))), PcW_of hP hK hD _⟩ rfl rfl hl.1 rfl (lv_room (Nat.le_of_ble_eq_true rfl)) (fk_get fk_cX12_set_1 14 rfl) ⟨Nat.zero_le _, Nat.zero_le _⟩) hS (fun q _ h => hFc q h) hFc (fun S_22 t_ H locs ht_ hvm_ hw_21 hB_ hz_ hk_ hS => ?_)
          obtain ⟨hP, -, hD1_⟩ := hB_
          rw [ht_] at hP
          have hD : va_D A (wR G ad S_22) := hD1_.weaken (fun k q _ h => hFc q.1 h)
          try dsimp only at hw_21
          subst hw_21
          refine lv_iload hx hb (fk_get fk_cX12_set_1 15 rfl) (lv_at hl 0 rfl) ?_
          subst hQ
          have hpost : (r_18 : Int32) = (if (0 ≤ c ∧ c ≤ fF S 0 1 - 1) then if 0 ≤ what ∧ what ≤ 3 then if (if what = 0 then 10 ≤ n_ ∧ n_ ≤ 99 else if what = 1 then 0 ≤ n_ ∧ n_ ≤ 20 else if what = 2 then 0 ≤ n_ ∧ n_ ≤ 99 else 0 ≤ n_ ∧ n_ ≤ 1) then fA S 1 (12 * c.toNatClampNeg + slw what) else -2 else -1 else -1) ∧ (setA (setF S 0 8 (0)) 1 (upd (fA (setF S 0 8 (0)) 1) (((12 * c.toNatClampNeg) + 4)) (n_))) = (if (0 ≤ c ∧ c ≤ fF S 0 1 - 1) then if 0 ≤ what ∧ what ≤ 3 then if (if what = 0 then 10 ≤ n_ ∧ n_ ≤ 99 else if what = 1 then 0 ≤ n_ ∧ n_ ≤ 20 else if what = 2 then 0 ≤ n_ ∧ n_ ≤ 99 else 0 ≤ n_ ∧ n_ ≤ 1) then setA (setF S 0 8 0) 1 (upd (fA S 1) (12 * c.toNatClampNeg + slw what) n_) else (setF S 0 8 0) else (setF S 0 8 0) else (setF S 0 8 0)) := by
            first
            | (refine ⟨?_, ?_⟩ <;> (repeat (first | rw [if_pos (by assumption)] | rw [if_neg (by assumption)])) <;> first | rfl | (rw [show slw what = 2 from if_pos (by assumption)]; first | assumption | rfl) | (rw [show slw what = 3 from (if_neg (by assumption)).trans (if_pos (by assumption))]; first | assumption | rfl) | (rw [show slw what = 4 from (if_neg (by assumption)).trans ((if_neg (by assumption)).trans (if_pos (by assumption)))]; first | assumption | rfl) | (rw [show slw what = 7 from (if_neg (by assumption)).trans ((if_neg (by assumption)).trans (if_neg (by assumption)))]; first | assumption | rfl))
          exact W.iret (v := r_18) hx hb hr (fun t_ ht_ hW_ => ⟨⟨r_18, (setA (setF S 0 8 (0)) 1 (upd (fA (setF S 0 8 (0)) 1) (((12 * c.toNatClampNeg) + 4)) (n_))), rfl, hpost, by rw [ht_]; exact hP, va_K.moved hW_.alike hK, hD⟩, hS.F ht_⟩) hS.2.2 (fk_get fk_cX12_set_1 16 rfl)
        refine lv_iconst (v := 3) hx hb (fk_get fk_cX12_set_0 28 rfl) (by decide) ?_
        refine lv_goto (tgt := 66) hx hb (fk_get fk_cX12_set_0 29 rfl) (by decide) ?_
        refine lv_istore (lv' := [(4, .int (3)), (0, .ref (ad 0)), (1, .int (c)), (2, .int (what)), (3, .int (n_))]) hx hb (fk_get fk_cX12_set_1 4 rfl) hl (by decide) rfl (fun ls hl => ?_)
        refine lv_aload_n hx hb (fk_get fk_cX12_set_1 5 rfl) rfl (lv_at hl 1 rfl) ?_
        refine lv_iload_n hx hb (fk_get fk_cX12_set_1 6 rfl) rfl (lv_at hl 2 rfl) ?_
        refine lv_iload hx hb (fk_get fk_cX12_set_1 7 rfl) (lv_at hl 0 rfl) ?_
        refine vp_callSi (W.runV (As := [.int (c), .int (3)]) (rest := []) ⟨hx, hb, hml, hown, hT⟩ (c_of0 l G ad (setF S 0 8 (0)) H.size (c) (3) (((12 * c.toNatClampNeg) + 3)) (n_add (n_mul (rfl) (ej)) (rfl)) (by omega)) (tV 2 hT m6_119 m6_121 mp_34 m1_17 m6_122 rfl rfl (by decide +kernel) ⟨Nat.le_of_ble_eq_true rfl, Nat.le_of_ble_eq_true rfl⟩) ⟨PcW_blind, va_recv hK hP (ci := 14) (q0 := 0) rfl (ix_at (by decide) (cR_0 G ad (setF S 0 8 (0)))), PcW_of hP hK hD _⟩ rfl rfl hl.1 rfl (lv_room (Nat.le_of_ble_eq_true rfl)) (fk_get fk_cX12_set_1 8 rfl) ⟨Nat.zero_le _, Nat.zero_le _⟩) (fun r_23 hw_24 => ?_)
        try dsimp only at hw_24
        have e_ := hw_24
        refine lv_istore (lv' := [(5, .int (r_23)), (4, .int (3)), (0, .ref (ad 0)), (1, .int (c)), (2, .int (what)), (3, .int (n_))]) hx hb (fk_get fk_cX12_set_1 9 rfl) hl (by decide) rfl (fun ls hl => ?_)
        refine lv_aload_n hx hb (fk_get fk_cX12_set_1 10 rfl) rfl (lv_at hl 2 rfl) ?_
        refine lv_iload_n hx hb (fk_get fk_cX12_set_1 11 rfl) rfl (lv_at hl 3 rfl) ?_
        refine lv_iload hx hb (fk_get fk_cX12_set_1 12 rfl) (lv_at hl 1 rfl) ?_
        refine lv_iload_n hx hb (fk_get fk_cX12_set_1 13 rfl) rfl (lv_at hl 5 rfl) ?_
        have hFc := va_self hD hS hA
        refine va_callv (va_runV (As := [.int (c), .int (3), .int (n_)]) (rest := []) ⟨hx, hb, hml, hown, hT⟩ (c_put l G ad (setF S 0 8 (0)) H.size (c) (3) (n_) (((12 * c.toNatClampNeg) + 3)) (n_add (n_mul (rfl) (ej)) (rfl)) (by omega)) (tV 3 hT m6_102 m6_104 mp_31 m1_17 m6_105 rfl rfl (by decide +kernel) ⟨Nat.le_of_ble_eq_true rfl, Nat.le_of_ble_eq_true rfl⟩) ⟨PcW_blind, va_recv hK hP (ci := 14) (q0 := 0) rfl (ix_at (by decide) (cR_0 G ad (setF S 0 8 (0)))), PcW_of hP hK hD _⟩ rfl rfl hl.1 rfl (lv_room (Nat.le_of_ble_eq_true rfl)) (fk_get fk_cX12_set_1 14 rfl) ⟨Nat.zero_le _, Nat.zero_le _⟩) hS (fun q _ h => hFc q h) hFc (fun S_27 t_ H locs ht_ hvm_ hw_26 hB_ hz_ hk_ hS => ?_)
        obtain ⟨hP, -, hD1_⟩ := hB_
        rw [ht_] at hP
        have hD : va_D A (wR G ad S_27) := hD1_.weaken (fun k q _ h => hFc q.1 h)
        try dsimp only at hw_26
        subst hw_26
        refine lv_iload hx hb (fk_get fk_cX12_set_1 15 rfl) (lv_at hl 0 rfl) ?_
        subst hQ
        have hpost : (r_23 : Int32) = (if (0 ≤ c ∧ c ≤ fF S 0 1 - 1) then if 0 ≤ what ∧ what ≤ 3 then if (if what = 0 then 10 ≤ n_ ∧ n_ ≤ 99 else if what = 1 then 0 ≤ n_ ∧ n_ ≤ 20 else if what = 2 then 0 ≤ n_ ∧ n_ ≤ 99 else 0 ≤ n_ ∧ n_ ≤ 1) then fA S 1 (12 * c.toNatClampNeg + slw what) else -2 else -1 else -1) ∧ (setA (setF S 0 8 (0)) 1 (upd (fA (setF S 0 8 (0)) 1) (((12 * c.toNatClampNeg) + 3)) (n_))) = (if (0 ≤ c ∧ c ≤ fF S 0 1 - 1) then if 0 ≤ what ∧ what ≤ 3 then if (if what = 0 then 10 ≤ n_ ∧ n_ ≤ 99 else if what = 1 then 0 ≤ n_ ∧ n_ ≤ 20 else if what = 2 then 0 ≤ n_ ∧ n_ ≤ 99 else 0 ≤ n_ ∧ n_ ≤ 1) then setA (setF S 0 8 0) 1 (upd (fA S 1) (12 * c.toNatClampNeg + slw what) n_) else (setF S 0 8 0) else (setF S 0 8 0) else (setF S 0 8 0)) := by
          first
          | (refine ⟨?_, ?_⟩ <;> (repeat (first | rw [if_pos (by assumption)] | rw [if_neg (by assumption)])) <;> first | rfl | (rw [show slw what = 2 from if_pos (by assumption)]; first | assumption | rfl) | (rw [show slw what = 3 from (if_neg (by assumption)).trans (if_pos (by assumption))]; first | assumption | rfl) | (rw [show slw what = 4 from (if_neg (by assumption)).trans ((if_neg (by assumption)).trans (if_pos (by assumption)))]; first | assumption | rfl) | (rw [show slw what = 7 from (if_neg (by assumption)).trans ((if_neg (by assumption)).trans (if_neg (by assumption)))]; first | assumption | rfl))
        exact W.iret (v := r_23) hx hb hr (fun t_ ht_ hW_ => ⟨⟨r_23, (setA (setF S 0 8 (0)) 1 (upd (fA (setF S 0 8 (0)) 1) (((12 * c.toNatClampNeg) + 3)) (n_))), rfl, hpost, by rw [ht_]; exact hP, va_K.moved hW_.alike hK, hD⟩, hS.F ht_⟩) hS.2.2 (fk_get fk_cX12_set_1 16 rfl)
      refine lv_iconst (v := 2) hx hb (fk_get fk_cX12_set_0 23 rfl) (by decide) ?_
      refine lv_goto (tgt := 66) hx hb (fk_get fk_cX12_set_0 24 rfl) (by decide) ?_
      refine lv_istore (lv' := [(4, .int (2)), (0, .ref (ad 0)), (1, .int (c)), (2, .int (what)), (3, .int (n_))]) hx hb (fk_get fk_cX12_set_1 4 rfl) hl (by decide) rfl (fun ls hl => ?_)
      refine lv_aload_n hx hb (fk_get fk_cX12_set_1 5 rfl) rfl (lv_at hl 1 rfl) ?_
      refine lv_iload_n hx hb (fk_get fk_cX12_set_1 6 rfl) rfl (lv_at hl 2 rfl) ?_
      refine lv_iload hx hb (fk_get fk_cX12_set_1 7 rfl) (lv_at hl 0 rfl) ?_
      refine vp_callSi (W.runV (As := [.int (c), .int (2)]) (rest := []) ⟨hx, hb, hml, hown, hT⟩ (c_of0 l G ad (setF S 0 8 (0)) H.size (c) (2) (((12 * c.toNatClampNeg) + 2)) (n_add (n_mul (rfl) (ej)) (rfl)) (by omega)) (tV 2 hT m6_119 m6_121 mp_34 m1_17 m6_122 rfl rfl (by decide +kernel) ⟨Nat.le_of_ble_eq_true rfl, Nat.le_of_ble_eq_true rfl⟩) ⟨PcW_blind, va_recv hK hP (ci := 14) (q0 := 0) rfl (ix_at (by decide) (cR_0 G ad (setF S 0 8 (0)))), PcW_of hP hK hD _⟩ rfl rfl hl.1 rfl (lv_room (Nat.le_of_ble_eq_true rfl)) (fk_get fk_cX12_set_1 8 rfl) ⟨Nat.zero_le _, Nat.zero_le _⟩) (fun r_28 hw_29 => ?_)
      try dsimp only at hw_29
      have e_ := hw_29
      refine lv_istore (lv' := [(5, .int (r_28)), (4, .int (2)), (0, .ref (ad 0)), (1, .int (c)), (2, .int (what)), (3, .int (n_))]) hx hb (fk_get fk_cX12_set_1 9 rfl) hl (by decide) rfl (fun ls hl => ?_)
      refine lv_aload_n hx hb (fk_get fk_cX12_set_1 10 rfl) rfl (lv_at hl 2 rfl) ?_
      refine lv_iload_n hx hb (fk_get fk_cX12_set_1 11 rfl) rfl (lv_at hl 3 rfl) ?_
      refine lv_iload hx hb (fk_get fk_cX12_set_1 12 rfl) (lv_at hl 1 rfl) ?_
      refine lv_iload_n hx hb (fk_get fk_cX12_set_1 13 rfl) rfl (lv_at hl 5 rfl) ?_
      have hFc := va_self hD hS hA
      refine va_callv (va_runV (As := [.int (c), .int (2), .int (n_)]) (rest := []) ⟨hx, hb, hml, hown, hT⟩ (c_put l G ad (setF S 0 8 (0)) H.size (c) (2) (n_) (((12 * c.toNatClampNeg) + 2)) (n_add (n_mul (rfl) (ej)) (rfl)) (by omega)) (tV 3 hT m6_102 m6_104 mp_31 m1_17 m6_105 rfl rfl (by decide +kernel) ⟨Nat.le_of_ble_eq_true rfl, Nat.le_of_ble_eq_true rfl⟩) ⟨PcW_blind, va_recv hK hP (ci := 14) (q0 := 0) rfl (ix_at (by decide) (cR_0 G ad (setF S 0 8 (0)))), PcW_of hP hK hD _⟩ rfl rfl hl.1 rfl (lv_room (Nat.le_of_ble_eq_true rfl)) (fk_get fk_cX12_set_1 14 rfl) ⟨Nat.zero_le _, Nat.zero_le _⟩) hS (fun q _ h => hFc q h) hFc (fun S_32 t_ H locs ht_ hvm_ hw_31 hB_ hz_ hk_ hS => ?_)
      obtain ⟨hP, -, hD1_⟩ := hB_
      rw [ht_] at hP
      have hD : va_D A (wR G ad S_32) := hD1_.weaken (fun k q _ h => hFc q.1 h)
      try dsimp only at hw_31
      subst hw_31
      refine lv_iload hx hb (fk_get fk_cX12_set_1 15 rfl) (lv_at hl 0 rfl) ?_
      subst hQ
      have hpost : (r_28 : Int32) = (if (0 ≤ c ∧ c ≤ fF S 0 1 - 1) then if 0 ≤ what ∧ what ≤ 3 then if (if what = 0 then 10 ≤ n_ ∧ n_ ≤ 99 else if what = 1 then 0 ≤ n_ ∧ n_ ≤ 20 else if what = 2 then 0 ≤ n_ ∧ n_ ≤ 99 else 0 ≤ n_ ∧ n_ ≤ 1) then fA S 1 (12 * c.toNatClampNeg + slw what) else -2 else -1 else -1) ∧ (setA (setF S 0 8 (0)) 1 (upd (fA (setF S 0 8 (0)) 1) (((12 * c.toNatClampNeg) + 2)) (n_))) = (if (0 ≤ c ∧ c ≤ fF S 0 1 - 1) then if 0 ≤ what ∧ what ≤ 3 then if (if what = 0 then 10 ≤ n_ ∧ n_ ≤ 99 else if what = 1 then 0 ≤ n_ ∧ n_ ≤ 20 else if what = 2 then 0 ≤ n_ ∧ n_ ≤ 99 else 0 ≤ n_ ∧ n_ ≤ 1) then setA (setF S 0 8 0) 1 (upd (fA S 1) (12 * c.toNatClampNeg + slw what) n_) else (setF S 0 8 0) else (setF S 0 8 0) else (setF S 0 8 0)) := by
        first
        | (refine ⟨?_, ?_⟩ <;> (repeat (first | rw [if_pos (by assumption)] | rw [if_neg (by assumption)])) <;> first | rfl | (rw [show slw what = 2 from if_pos (by assumption)]; first | assumption | rfl) | (rw [show slw what = 3 from (if_neg (by assumption)).trans (if_pos (by assumption))]; first | assumption | rfl) | (rw [show slw what = 4 from (if_neg (by assumption)).trans ((if_neg (by assumption)).trans (if_pos (by assumption)))]; first | assumption | rfl) | (rw [show slw what = 7 from (if_neg (by assumption)).trans ((if_neg (by assumption)).trans (if_neg (by assumption)))]; first | assumption | rfl))
      exact W.iret (v := r_28) hx hb hr (fun t_ ht_ hW_ => ⟨⟨r_28, (setA (setF S 0 8 (0)) 1 (upd (fA (setF S 0 8 (0)) 1) (((12 * c.toNatClampNeg) + 2)) (n_))), rfl, hpost, by rw [ht_]; exact hP, va_K.moved hW_.alike hK, hD⟩, hS.F ht_⟩) hS.2.2 (fk_get fk_cX12_set_1 16 rfl)
    have p_c_9 := if1_f hw_8 c_9
    refine lv_bipush (v := (-2)) hx hb (fk_get fk_cX12_set_0 19 rfl) (by decide) ?_
    subst hQ
    have hpost : ((-2) : Int32) = (if (0 ≤ c ∧ c ≤ fF S 0 1 - 1) then if 0 ≤ what ∧ what ≤ 3 then if (if what = 0 then 10 ≤ n_ ∧ n_ ≤ 99 else if what = 1 then 0 ≤ n_ ∧ n_ ≤ 20 else if what = 2 then 0 ≤ n_ ∧ n_ ≤ 99 else 0 ≤ n_ ∧ n_ ≤ 1) then fA S 1 (12 * c.toNatClampNeg + slw what) else -2 else -1 else -1) ∧ (setF S 0 8 (0)) = (if (0 ≤ c ∧ c ≤ fF S 0 1 - 1) then if 0 ≤ what ∧ what ≤ 3 then if (if what = 0 then 10 ≤ n_ ∧ n_ ≤ 99 else if what = 1 then 0 ≤ n_ ∧ n_ ≤ 20 else if what = 2 then 0 ≤ n_ ∧ n_ ≤ 99 else 0 ≤ n_ ∧ n_ ≤ 1) then setA (setF S 0 8 0) 1 (upd (fA S 1) (12 * c.toNatClampNeg + slw what) n_) else (setF S 0 8 0) else (setF S 0 8 0) else (setF S 0 8 0)) := by
      first
      | (refine ⟨?_, ?_⟩ <;> (repeat (first | rw [if_pos (by assumption)] | rw [if_neg (by assumption)])) <;> first | rfl | (rw [show slw what = 2 from if_pos (by assumption)]; first | assumption | rfl) | (rw [show slw what = 3 from (if_neg (by assumption)).trans (if_pos (by assumption))]; first | assumption | rfl) | (rw [show slw what = 4 from (if_neg (by assumption)).trans ((if_neg (by assumption)).trans (if_pos (by assumption)))]; first | assumption | rfl) | (rw [show slw what = 7 from (if_neg (by assumption)).trans ((if_neg (by assumption)).trans (if_neg (by assumption)))]; first | assumption | rfl))
    exact W.iret (v := (-2)) hx hb hr (fun t_ ht_ hW_ => ⟨⟨(-2), (setF S 0 8 (0)), rfl, hpost, by rw [ht_]; exact hP, va_K.moved hW_.alike hK, hD⟩, hS.F ht_⟩) hS.2.2 (fk_get fk_cX12_set_0 20 rfl)
  have p_c_6 := if1_f hw_5 c_6
  refine lv_iconst (v := (-1)) hx hb (fk_get fk_cX12_set_0 13 rfl) (by decide) ?_
  subst hQ
  have hpost : ((-1) : Int32) = (if (0 ≤ c ∧ c ≤ fF S 0 1 - 1) then if 0 ≤ what ∧ what ≤ 3 then if (if what = 0 then 10 ≤ n_ ∧ n_ ≤ 99 else if what = 1 then 0 ≤ n_ ∧ n_ ≤ 20 else if what = 2 then 0 ≤ n_ ∧ n_ ≤ 99 else 0 ≤ n_ ∧ n_ ≤ 1) then fA S 1 (12 * c.toNatClampNeg + slw what) else -2 else -1 else -1) ∧ (setF S 0 8 (0)) = (if (0 ≤ c ∧ c ≤ fF S 0 1 - 1) then if 0 ≤ what ∧ what ≤ 3 then if (if what = 0 then 10 ≤ n_ ∧ n_ ≤ 99 else if what = 1 then 0 ≤ n_ ∧ n_ ≤ 20 else if what = 2 then 0 ≤ n_ ∧ n_ ≤ 99 else 0 ≤ n_ ∧ n_ ≤ 1) then setA (setF S 0 8 0) 1 (upd (fA S 1) (12 * c.toNatClampNeg + slw what) n_) else (setF S 0 8 0) else (setF S 0 8 0) else (setF S 0 8 0)) := by
    first
    | (refine ⟨?_, ?_⟩ <;> (repeat (first | rw [if_pos (by assumption)] | rw [if_neg (by assumption)])) <;> first | rfl | (rw [show slw what = 2 from if_pos (by assumption)]; first | assumption | rfl) | (rw [show slw what = 3 from (if_neg (by assumption)).trans (if_pos (by assumption))]; first | assumption | rfl) | (rw [show slw what = 4 from (if_neg (by assumption)).trans ((if_neg (by assumption)).trans (if_pos (by assumption)))]; first | assumption | rfl) | (rw [show slw what = 7 from (if_neg (by assumption)).trans ((if_neg (by assumption)).trans (if_neg (by assumption)))]; first | assumption | rfl))
  exact W.iret (v := (-1)) hx hb hr (fun t_ ht_ hW_ => ⟨⟨(-1), (setF S 0 8 (0)), rfl, hpost, by rw [ht_]; exact hP, va_K.moved hW_.alike hK, hD⟩, hS.F ht_⟩) hS.2.2 (fk_get fk_cX12_set_0 14 rfl)
set_option maxHeartbeats 4000000 in
set_option maxRecDepth 100000 in
theorem c_row (l : Launch) (G : GG) (ad : Nat → Nat) (S : FS) (sz : Nat) (n : Nat) (c part n_ : Int32) (hn : fF S 0 1 = nI n) (hn6 : n ≤ 6) : Met l yX12_row (Cond.code yX12_row cX12_row 5 (some .int) :: TBL) ({ frames := 4, cells := 0, slots := 0, locals := 118 } : Room) (PcW G (wR G ad S) sz [.ref (ad 0), .int (c), .int (part), .int (n_)]) (va_Qi (fun (r : Int32) (S' : FS) => r = (if (0 ≤ c ∧ c ≤ fF S 0 1 - 1) then if 0 ≤ part ∧ part ≤ 3 then if 0 ≤ n_ ∧ n_ ≤ 9 then if fA S 1 (12 * c.toNatClampNeg + 0) = 6 then fA S 1 (12 * c.toNatClampNeg + (8 + part.toNatClampNeg)) else -3 else -2 else -1 else -1) ∧ S' = (if (0 ≤ c ∧ c ≤ fF S 0 1 - 1) then if 0 ≤ part ∧ part ≤ 3 then if 0 ≤ n_ ∧ n_ ≤ 9 then if fA S 1 (12 * c.toNatClampNeg + 0) = 6 then setA (setF S 0 8 0) 1 (upd (fA S 1) (12 * c.toNatClampNeg + (8 + part.toNatClampNeg)) n_) else (setF S 0 8 0) else (setF S 0 8 0) else (setF S 0 8 0) else (setF S 0 8 0))) (fun S' t => BW G (va_A (wR G ad S) sz) (wR G ad S') t) (va_A (wR G ad S) sz)) 0 0 (va_A (wR G ad S) sz) := by
  refine Met.ofW (cc := cX12_row) (maxL := 5) (ret := (some .int)) (by decide) rfl ?_
  intro p e s m args below meth c₀ s₁ B hml hv
  obtain ⟨rfl, hsz, hP, hK, hD0⟩ := hv
  have hx := B.exec
  have hb := B.bytes
  have hr := B.returns
  have hT : ∀ w ∈ TBL, w.before ([.ref (ad 0), .int (c), .int (part), .int (n_)] : List Value).toArray s = true := fun w h => atoms_spec (ws := Cond.code yX12_row cX12_row 5 (some .int) :: TBL) B.pre w (List.mem_cons_of_mem _ h)
  have hown : s.vm.findClass "LittleMoreModel" = some m.cls := findClass_of_methodNamed B.named
  have hlocks := B.notSynchronized
  subst hsz
  have hD := hD0.self (sz := s.heap.size)
  generalize hAe : va_A (wR G ad S) s.heap.size = A at hD ⊢
  have hA : ∀ q : Nat, s.heap.size ≤ q → A q := fun q h => by rw [← hAe]; exact Or.inr h
  have hS : va_S A s.heap s.heap [] := va_S.rf
  have hP : va_P G.1 vwCl (wR G ad S) s.heap := hP
  have hl := lv_entry ([.ref (ad 0), .int (c), .int (part), .int (n_)]) (n := 5) (Nat.le_of_ble_eq_true rfl)
  rw [lg_entry_eq]
  generalize (lg_sl ([.ref (ad 0), .int (c), .int (part), .int (n_)]) ++ List.replicate (5 - (lg_sl ([.ref (ad 0), .int (c), .int (part), .int (n_)])).length) Slot.unset).toArray = ls at hl ⊢
  have hl : lv_has ls 5 [(0, .ref (ad 0)), (1, .int (c)), (2, .int (part)), (3, .int (n_))] := hl
  refine W_abs (fun Q hQ => ?_)
  generalize ([.ref (ad 0), .int (c), .int (part), .int (n_)] : List Value).toArray = args at hT hQ ⊢
  refine lv_aload_n hx hb (fk_get fk_cX12_row_0 0 rfl) rfl (lv_at hl 0 rfl) ?_
  refine lv_iconst (v := 0) hx hb (fk_get fk_cX12_row_0 1 rfl) (by decide) ?_
  refine va_put (D := G.1) (ci := 14) (v := .int (0)) (ty := .int) (C := RX12) (T := TX12) (N := 49) hx hb hT inX12 tyX12 tyX12_ok nmX12 hown hK hP hD hS 0 (ix_at (by decide) (cR_0 G ad S)) rfl 8 (by decide) (hT _ m5_109) (fun _ h9 => h9) rfl (by decide +kernel) rfl rfl (Nat.le_of_ble_eq_true rfl) (fk_get fk_cX12_row_0 2 rfl) (fun H locs hP hD hS => ?_)
  rw [pR_thrown G ad S (0)] at hP hD
  refine lv_aload_n hx hb (fk_get fk_cX12_row_0 3 rfl) rfl (lv_at hl 0 rfl) ?_
  refine lv_iload_n hx hb (fk_get fk_cX12_row_0 4 rfl) rfl (lv_at hl 1 rfl) ?_
  refine vp_callSi (W.runV (As := [.int (c)]) (rest := []) ⟨hx, hb, hml, hown, hT⟩ (c_isCustomer l G ad (setF S 0 8 (0)) H.size (c) ) (tV 1 hT m6_110 m6_112 mp_32 m1_17 m6_113 rfl rfl (by decide +kernel) ⟨Nat.le_of_ble_eq_true rfl, Nat.le_of_ble_eq_true rfl⟩) ⟨PcW_blind, va_recv hK hP (ci := 14) (q0 := 0) rfl (ix_at (by decide) (cR_0 G ad (setF S 0 8 (0)))), PcW_of hP hK hD _⟩ rfl rfl hl.1 rfl (lv_room (Nat.le_of_ble_eq_true rfl)) (fk_get fk_cX12_row_0 5 rfl) ⟨Nat.zero_le _, Nat.zero_le _⟩) (fun r_1 hw_2 => ?_)
  try dsimp only at hw_2
  have hw_2 : r_1 = if 0 ≤ c ∧ c ≤ fF S 0 1 - 1 then 1 else 0 := hw_2
  refine lv_if_eq (tgt := 25) hx hb (fk_get fk_cX12_row_0 6 rfl) (by decide) (fun c_3 => ?_) (fun c_3 => ?_)
  · have p_c_3 := if1_f hw_2 c_3
    refine lv_iconst (v := (-1)) hx hb (fk_get fk_cX12_row_0 13 rfl) (by decide) ?_
    subst hQ
    have hpost : ((-1) : Int32) = (if (0 ≤ c ∧ c ≤ fF S 0 1 - 1) then if 0 ≤ part ∧ part ≤ 3 then if 0 ≤ n_ ∧ n_ ≤ 9 then if fA S 1 (12 * c.toNatClampNeg + 0) = 6 then fA S 1 (12 * c.toNatClampNeg + (8 + part.toNatClampNeg)) else -3 else -2 else -1 else -1) ∧ (setF S 0 8 (0)) = (if (0 ≤ c ∧ c ≤ fF S 0 1 - 1) then if 0 ≤ part ∧ part ≤ 3 then if 0 ≤ n_ ∧ n_ ≤ 9 then if fA S 1 (12 * c.toNatClampNeg + 0) = 6 then setA (setF S 0 8 0) 1 (upd (fA S 1) (12 * c.toNatClampNeg + (8 + part.toNatClampNeg)) n_) else (setF S 0 8 0) else (setF S 0 8 0) else (setF S 0 8 0) else (setF S 0 8 0)) := by
      refine ⟨?_, ?_⟩ <;> (repeat (first | rw [if_pos (by assumption)] | rw [if_neg (by assumption)])) <;> first | rfl | assumption
    exact W.iret (v := (-1)) hx hb hr (fun t_ ht_ hW_ => ⟨⟨(-1), (setF S 0 8 (0)), rfl, hpost, by rw [ht_]; exact hP, va_K.moved hW_.alike hK, hD⟩, hS.F ht_⟩) hS.2.2 (fk_get fk_cX12_row_0 14 rfl)
  have p_c_3 := if1_t hw_2 c_3
  obtain ⟨hj, ej⟩ := isC_n p_c_3 hn hn6
  refine lv_iload_n hx hb (fk_get fk_cX12_row_0 7 rfl) rfl (lv_at hl 2 rfl) ?_
  refine lv_i2l hx hb (fk_get fk_cX12_row_0 8 rfl) rfl ?_
  refine lv_lconst (v := 0) hx hb (fk_get fk_cX12_row_0 9 rfl) (by decide) ?_
  refine lv_ldc2 (v := 3) hx hb hown (hT _ m6_162) (fk_get fk_cX12_row_0 10 rfl) ?_
  refine vp_callSi (W.runS (As := [.long ((part).toInt64), .long (0), .long (3)]) (rest := []) ⟨hx, hb, hml, hown, hT⟩ (c_in l ((part).toInt64) (0) (3) ) (tS 3 hT m6_31 m6_32 m1_17 m6_33 rfl rfl (by decide +kernel) ⟨Nat.le_of_ble_eq_true rfl, Nat.le_of_ble_eq_true rfl⟩) ⟨PcN_blind, PcN_of _ _ _⟩ rfl rfl hl.1 rfl (lv_room (Nat.le_of_ble_eq_true rfl)) (fk_get fk_cX12_row_0 11 rfl) ⟨Nat.zero_le _, Nat.zero_le _⟩) (fun r_4 hw_5 => ?_)
  try dsimp only at hw_5
  have hw_5 := in_eq hw_5 (part) 0 3 (rfl) (by decide) (by decide)
  refine lv_if_ne (tgt := 27) hx hb (fk_get fk_cX12_row_0 12 rfl) (by decide) (fun c_6 => ?_) (fun c_6 => ?_)
  · have p_c_6 := if1_t hw_5 c_6
    obtain ⟨hp3, ep⟩ := in_n (b := 3) p_c_6 (by decide)
    refine lv_iload_n hx hb (fk_get fk_cX12_row_0 15 rfl) rfl (lv_at hl 3 rfl) ?_
    refine lv_i2l hx hb (fk_get fk_cX12_row_0 16 rfl) rfl ?_
    refine lv_lconst (v := 0) hx hb (fk_get fk_cX12_row_0 17 rfl) (by decide) ?_
    refine lv_ldc2 (v := 9) hx hb hown (hT _ m6_99) (fk_get fk_cX12_row_0 18 rfl) ?_
    refine vp_callSi (W.runS (As := [.long ((n_).toInt64), .long (0), .long (9)]) (rest := []) ⟨hx, hb, hml, hown, hT⟩ (c_in l ((n_).toInt64) (0) (9) ) (tS 3 hT m6_31 m6_32 m1_17 m6_33 rfl rfl (by decide +kernel) ⟨Nat.le_of_ble_eq_true rfl, Nat.le_of_ble_eq_true rfl⟩) ⟨PcN_blind, PcN_of _ _ _⟩ rfl rfl hl.1 rfl (lv_room (Nat.le_of_ble_eq_true rfl)) (fk_get fk_cX12_row_0 19 rfl) ⟨Nat.zero_le _, Nat.zero_le _⟩) (fun r_7 hw_8 => ?_)
    try dsimp only at hw_8
    have hw_8 := in_eq hw_8 (n_) 0 9 (rfl) (by decide) (by decide)
    refine lv_if_ne (tgt := 42) hx hb (fk_get fk_cX12_row_0 20 rfl) (by decide) (fun c_9 => ?_) (fun c_9 => ?_)
    · have p_c_9 := if1_t hw_8 c_9
      refine lv_aload_n hx hb (fk_get fk_cX12_row_0 23 rfl) rfl (lv_at hl 0 rfl) ?_
      refine lv_iload_n hx hb (fk_get fk_cX12_row_0 24 rfl) rfl (lv_at hl 1 rfl) ?_
      refine lv_iconst (v := 0) hx hb (fk_get fk_cX12_row_0 25 rfl) (by decide) ?_
      refine vp_callSi (W.runV (As := [.int (c), .int (0)]) (rest := []) ⟨hx, hb, hml, hown, hT⟩ (c_of0 l G ad (setF S 0 8 (0)) H.size (c) (0) (((12 * c.toNatClampNeg) + 0)) (n_add (n_mul (rfl) (ej)) (rfl)) (by omega)) (tV 2 hT m6_119 m6_121 mp_34 m1_17 m6_122 rfl rfl (by decide +kernel) ⟨Nat.le_of_ble_eq_true rfl, Nat.le_of_ble_eq_true rfl⟩) ⟨PcW_blind, va_recv hK hP (ci := 14) (q0 := 0) rfl (ix_at (by decide) (cR_0 G ad (setF S 0 8 (0)))), PcW_of hP hK hD _⟩ rfl rfl hl.1 rfl (lv_room (Nat.le_of_ble_eq_true rfl)) (fk_get fk_cX12_row_0 26 rfl) ⟨Nat.zero_le _, Nat.zero_le _⟩) (fun r_10 hw_11 => ?_)
      try dsimp only at hw_11
      have hw_11 : r_10 = fA S 1 (12 * c.toNatClampNeg + 0) := hw_11
      subst hw_11
      refine lv_bipush (v := 6) hx hb (fk_get fk_cX12_row_0 27 rfl) (by decide) ?_
      refine lv_icmp_eq (tgt := 56) hx hb (fk_get fk_cX12_row_0 28 rfl) (by decide) (fun c_12 => ?_) (fun c_12 => ?_)
      · refine lv_aload_n hx hb (fk_get fk_cX12_row_0 31 rfl) rfl (lv_at hl 0 rfl) ?_
        refine lv_iload_n hx hb (fk_get fk_cX12_row_1 0 rfl) rfl (lv_at hl 1 rfl) ?_
        refine lv_bipush (v := 8) hx hb (fk_get fk_cX12_row_1 1 rfl) (by decide) ?_
        refine lv_iload_n hx hb (fk_get fk_cX12_row_1 2 rfl) rfl (lv_at hl 2 rfl) ?_
        refine lv_iadd hx hb (fk_get fk_cX12_row_1 3 rfl) ?_
        refine vp_callSi (W.runV (As := [.int (c), .int ((8 + part))]) (rest := []) ⟨hx, hb, hml, hown, hT⟩ (c_of0 l G ad (setF S 0 8 (0)) H.size (c) ((8 + part)) (((12 * c.toNatClampNeg) + (8 + part.toNatClampNeg))) (n_add (n_mul (rfl) (ej)) (n_add (rfl) (ep))) (by omega)) (tV 2 hT m6_119 m6_121 mp_34 m1_17 m6_122 rfl rfl (by decide +kernel) ⟨Nat.le_of_ble_eq_true rfl, Nat.le_of_ble_eq_true rfl⟩) ⟨PcW_blind, va_recv hK hP (ci := 14) (q0 := 0) rfl (ix_at (by decide) (cR_0 G ad (setF S 0 8 (0)))), PcW_of hP hK hD _⟩ rfl rfl hl.1 rfl (lv_room (Nat.le_of_ble_eq_true rfl)) (fk_get fk_cX12_row_1 4 rfl) ⟨Nat.zero_le _, Nat.zero_le _⟩) (fun r_13 hw_14 => ?_)
        try dsimp only at hw_14
        have hw_14 : r_13 = fA S 1 (12 * c.toNatClampNeg + (8 + part.toNatClampNeg)) := hw_14
        subst hw_14
        refine lv_istore (lv' := [(4, .int (fA S 1 (12 * c.toNatClampNeg + (8 + part.toNatClampNeg)))), (0, .ref (ad 0)), (1, .int (c)), (2, .int (part)), (3, .int (n_))]) hx hb (fk_get fk_cX12_row_1 5 rfl) hl (by decide) rfl (fun ls hl => ?_)
        refine lv_aload_n hx hb (fk_get fk_cX12_row_1 6 rfl) rfl (lv_at hl 1 rfl) ?_
        refine lv_iload_n hx hb (fk_get fk_cX12_row_1 7 rfl) rfl (lv_at hl 2 rfl) ?_
        refine lv_bipush (v := 8) hx hb (fk_get fk_cX12_row_1 8 rfl) (by decide) ?_
        refine lv_iload_n hx hb (fk_get fk_cX12_row_1 9 rfl) rfl (lv_at hl 3 rfl) ?_
        refine lv_iadd hx hb (fk_get fk_cX12_row_1 10 rfl) ?_
        refine lv_iload_n hx hb (fk_get fk_cX12_row_1 11 rfl) rfl (lv_at hl 4 rfl) ?_
        have hFc := va_self hD hS hA
        refine va_callv (va_runV (As := [.int (c), .int ((8 + part)), .int (n_)]) (rest := []) ⟨hx, hb, hml, hown, hT⟩ (c_put l G ad (setF S 0 8 (0)) H.size (c) ((8 + part)) (n_) (((12 * c.toNatClampNeg) + (8 + part.toNatClampNeg))) (n_add (n_mul (rfl) (ej)) (n_add (rfl) (ep))) (by omega)) (tV 3 hT m6_102 m6_104 mp_31 m1_17 m6_105 rfl rfl (by decide +kernel) ⟨Nat.le_of_ble_eq_true rfl, Nat.le_of_ble_eq_true rfl⟩) ⟨PcW_blind, va_recv hK hP (ci := 14) (q0 := 0) rfl (ix_at (by decide) (cR_0 G ad (setF S 0 8 (0)))), PcW_of hP hK hD _⟩ rfl rfl hl.1 rfl (lv_room (Nat.le_of_ble_eq_true rfl)) (fk_get fk_cX12_row_1 12 rfl) ⟨Nat.zero_le _, Nat.zero_le _⟩) hS (fun q _ h => hFc q h) hFc (fun S_17 t_ H locs ht_ hvm_ hw_16 hB_ hz_ hk_ hS => ?_)
        obtain ⟨hP, -, hD1_⟩ := hB_
        rw [ht_] at hP
        have hD : va_D A (wR G ad S_17) := hD1_.weaken (fun k q _ h => hFc q.1 h)
        try dsimp only at hw_16
        subst hw_16
        refine lv_iload hx hb (fk_get fk_cX12_row_1 13 rfl) (lv_at hl 0 rfl) ?_
        subst hQ
        have hpost : (fA S 1 (12 * c.toNatClampNeg + (8 + part.toNatClampNeg)) : Int32) = (if (0 ≤ c ∧ c ≤ fF S 0 1 - 1) then if 0 ≤ part ∧ part ≤ 3 then if 0 ≤ n_ ∧ n_ ≤ 9 then if fA S 1 (12 * c.toNatClampNeg + 0) = 6 then fA S 1 (12 * c.toNatClampNeg + (8 + part.toNatClampNeg)) else -3 else -2 else -1 else -1) ∧ (setA (setF S 0 8 (0)) 1 (upd (fA (setF S 0 8 (0)) 1) (((12 * c.toNatClampNeg) + (8 + part.toNatClampNeg))) (n_))) = (if (0 ≤ c ∧ c ≤ fF S 0 1 - 1) then if 0 ≤ part ∧ part ≤ 3 then if 0 ≤ n_ ∧ n_ ≤ 9 then if fA S 1 (12 * c.toNatClampNeg + 0) = 6 then setA (setF S 0 8 0) 1 (upd (fA S 1) (12 * c.toNatClampNeg + (8 + part.toNatClampNeg)) n_) else (setF S 0 8 0) else (setF S 0 8 0) else (setF S 0 8 0) else (setF S 0 8 0)) := by
          refine ⟨?_, ?_⟩ <;> (repeat (first | rw [if_pos (by assumption)] | rw [if_neg (by assumption)])) <;> first | rfl | assumption
        exact W.iret (v := fA S 1 (12 * c.toNatClampNeg + (8 + part.toNatClampNeg))) hx hb hr (fun t_ ht_ hW_ => ⟨⟨fA S 1 (12 * c.toNatClampNeg + (8 + part.toNatClampNeg)), (setA (setF S 0 8 (0)) 1 (upd (fA (setF S 0 8 (0)) 1) (((12 * c.toNatClampNeg) + (8 + part.toNatClampNeg))) (n_))), rfl, hpost, by rw [ht_]; exact hP, va_K.moved hW_.alike hK, hD⟩, hS.F ht_⟩) hS.2.2 (fk_get fk_cX12_row_1 14 rfl)
      refine lv_bipush (v := (-3)) hx hb (fk_get fk_cX12_row_0 29 rfl) (by decide) ?_
      subst hQ
      have hpost : ((-3) : Int32) = (if (0 ≤ c ∧ c ≤ fF S 0 1 - 1) then if 0 ≤ part ∧ part ≤ 3 then if 0 ≤ n_ ∧ n_ ≤ 9 then if fA S 1 (12 * c.toNatClampNeg + 0) = 6 then fA S 1 (12 * c.toNatClampNeg + (8 + part.toNatClampNeg)) else -3 else -2 else -1 else -1) ∧ (setF S 0 8 (0)) = (if (0 ≤ c ∧ c ≤ fF S 0 1 - 1) then if 0 ≤ part ∧ part ≤ 3 then if 0 ≤ n_ ∧ n_ ≤ 9 then if fA S 1 (12 * c.toNatClampNeg + 0) = 6 then setA (setF S 0 8 0) 1 (upd (fA S 1) (12 * c.toNatClampNeg + (8 + part.toNatClampNeg)) n_) else (setF S 0 8 0) else (setF S 0 8 0) else (setF S 0 8 0) else (setF S 0 8 0)) := by
        refine ⟨?_, ?_⟩ <;> (repeat (first | rw [if_pos (by assumption)] | rw [if_neg (by assumption)])) <;> first | rfl | assumption
      exact W.iret (v := (-3)) hx hb hr (fun t_ ht_ hW_ => ⟨⟨(-3), (setF S 0 8 (0)), rfl, hpost, by rw [ht_]; exact hP, va_K.moved hW_.alike hK, hD⟩, hS.F ht_⟩) hS.2.2 (fk_get fk_cX12_row_0 30 rfl)
    have p_c_9 := if1_f hw_8 c_9
    refine lv_bipush (v := (-2)) hx hb (fk_get fk_cX12_row_0 21 rfl) (by decide) ?_
    subst hQ
    have hpost : ((-2) : Int32) = (if (0 ≤ c ∧ c ≤ fF S 0 1 - 1) then if 0 ≤ part ∧ part ≤ 3 then if 0 ≤ n_ ∧ n_ ≤ 9 then if fA S 1 (12 * c.toNatClampNeg + 0) = 6 then fA S 1 (12 * c.toNatClampNeg + (8 + part.toNatClampNeg)) else -3 else -2 else -1 else -1) ∧ (setF S 0 8 (0)) = (if (0 ≤ c ∧ c ≤ fF S 0 1 - 1) then if 0 ≤ part ∧ part ≤ 3 then if 0 ≤ n_ ∧ n_ ≤ 9 then if fA S 1 (12 * c.toNatClampNeg + 0) = 6 then setA (setF S 0 8 0) 1 (upd (fA S 1) (12 * c.toNatClampNeg + (8 + part.toNatClampNeg)) n_) else (setF S 0 8 0) else (setF S 0 8 0) else (setF S 0 8 0) else (setF S 0 8 0)) := by
      refine ⟨?_, ?_⟩ <;> (repeat (first | rw [if_pos (by assumption)] | rw [if_neg (by assumption)])) <;> first | rfl | assumption
    exact W.iret (v := (-2)) hx hb hr (fun t_ ht_ hW_ => ⟨⟨(-2), (setF S 0 8 (0)), rfl, hpost, by rw [ht_]; exact hP, va_K.moved hW_.alike hK, hD⟩, hS.F ht_⟩) hS.2.2 (fk_get fk_cX12_row_0 22 rfl)
  have p_c_6 := if1_f hw_5 c_6
  refine lv_iconst (v := (-1)) hx hb (fk_get fk_cX12_row_0 13 rfl) (by decide) ?_
  subst hQ
  have hpost : ((-1) : Int32) = (if (0 ≤ c ∧ c ≤ fF S 0 1 - 1) then if 0 ≤ part ∧ part ≤ 3 then if 0 ≤ n_ ∧ n_ ≤ 9 then if fA S 1 (12 * c.toNatClampNeg + 0) = 6 then fA S 1 (12 * c.toNatClampNeg + (8 + part.toNatClampNeg)) else -3 else -2 else -1 else -1) ∧ (setF S 0 8 (0)) = (if (0 ≤ c ∧ c ≤ fF S 0 1 - 1) then if 0 ≤ part ∧ part ≤ 3 then if 0 ≤ n_ ∧ n_ ≤ 9 then if fA S 1 (12 * c.toNatClampNeg + 0) = 6 then setA (setF S 0 8 0) 1 (upd (fA S 1) (12 * c.toNatClampNeg + (8 + part.toNatClampNeg)) n_) else (setF S 0 8 0) else (setF S 0 8 0) else (setF S 0 8 0) else (setF S 0 8 0)) := by
    refine ⟨?_, ?_⟩ <;> (repeat (first | rw [if_pos (by assumption)] | rw [if_neg (by assumption)])) <;> first | rfl | assumption
  exact W.iret (v := (-1)) hx hb hr (fun t_ ht_ hW_ => ⟨⟨(-1), (setF S 0 8 (0)), rfl, hpost, by rw [ht_]; exact hP, va_K.moved hW_.alike hK, hD⟩, hS.F ht_⟩) hS.2.2 (fk_get fk_cX12_row_0 14 rfl)
set_option maxHeartbeats 4000000 in
set_option maxRecDepth 100000 in
theorem c_taken (l : Launch) (G : GG) (ad : Nat → Nat) (S : FS) (sz : Nat) (n : Nat) (c k : Int32) (hn : fF S 0 1 = nI n) (hn6 : n ≤ 6) : Met l yX12_taken (Cond.code yX12_taken cX12_taken 5 (some .int) :: TBL) ({ frames := 4, cells := 0, slots := 0, locals := 118 } : Room) (PcW G (wR G ad S) sz [.ref (ad 0), .int (c), .int (k)]) (va_Qi (fun (r : Int32) (S' : FS) => S' = (setF S 0 8 0) ∧ ∀ dd : Decidable (TK (fA S 1 (12 * c.toNatClampNeg + 0)) k), r = (if 0 ≤ k ∧ k ≤ 6 then if (0 ≤ c ∧ c ≤ fF S 0 1 - 1) then if TK (fA S 1 (12 * c.toNatClampNeg + 0)) k then fA S 1 (12 * c.toNatClampNeg + 0) else -12 else -11 else -2)) (fun S' t => BW G (va_A (wR G ad S) sz) (wR G ad S') t) (va_A (wR G ad S) sz)) 0 0 (va_A (wR G ad S) sz) := by
  refine Met.ofW (cc := cX12_taken) (maxL := 5) (ret := (some .int)) (by decide) rfl ?_
  intro p e s m args below meth c₀ s₁ B hml hv
  obtain ⟨rfl, hsz, hP, hK, hD0⟩ := hv
  have hx := B.exec
  have hb := B.bytes
  have hr := B.returns
  have hT : ∀ w ∈ TBL, w.before ([.ref (ad 0), .int (c), .int (k)] : List Value).toArray s = true := fun w h => atoms_spec (ws := Cond.code yX12_taken cX12_taken 5 (some .int) :: TBL) B.pre w (List.mem_cons_of_mem _ h)
  have hown : s.vm.findClass "LittleMoreModel" = some m.cls := findClass_of_methodNamed B.named
  have hlocks := B.notSynchronized
  subst hsz
  have hD := hD0.self (sz := s.heap.size)
  generalize hAe : va_A (wR G ad S) s.heap.size = A at hD ⊢
  have hA : ∀ q : Nat, s.heap.size ≤ q → A q := fun q h => by rw [← hAe]; exact Or.inr h
  have hS : va_S A s.heap s.heap [] := va_S.rf
  have hP : va_P G.1 vwCl (wR G ad S) s.heap := hP
  have hl := lv_entry ([.ref (ad 0), .int (c), .int (k)]) (n := 5) (Nat.le_of_ble_eq_true rfl)
  rw [lg_entry_eq]
  generalize (lg_sl ([.ref (ad 0), .int (c), .int (k)]) ++ List.replicate (5 - (lg_sl ([.ref (ad 0), .int (c), .int (k)])).length) Slot.unset).toArray = ls at hl ⊢
  have hl : lv_has ls 5 [(0, .ref (ad 0)), (1, .int (c)), (2, .int (k))] := hl
  refine W_abs (fun Q hQ => ?_)
  generalize ([.ref (ad 0), .int (c), .int (k)] : List Value).toArray = args at hT hQ ⊢
  refine lv_aload_n hx hb (fk_get fk_cX12_taken_0 0 rfl) rfl (lv_at hl 0 rfl) ?_
  refine lv_iconst (v := 0) hx hb (fk_get fk_cX12_taken_0 1 rfl) (by decide) ?_
  refine va_put (D := G.1) (ci := 14) (v := .int (0)) (ty := .int) (C := RX12) (T := TX12) (N := 49) hx hb hT inX12 tyX12 tyX12_ok nmX12 hown hK hP hD hS 0 (ix_at (by decide) (cR_0 G ad S)) rfl 8 (by decide) (hT _ m5_109) (fun _ h9 => h9) rfl (by decide +kernel) rfl rfl (Nat.le_of_ble_eq_true rfl) (fk_get fk_cX12_taken_0 2 rfl) (fun H locs hP hD hS => ?_)
  rw [pR_thrown G ad S (0)] at hP hD
  refine lv_iload_n hx hb (fk_get fk_cX12_taken_0 3 rfl) rfl (lv_at hl 2 rfl) ?_
  refine lv_i2l hx hb (fk_get fk_cX12_taken_0 4 rfl) rfl ?_
  refine lv_lconst (v := 0) hx hb (fk_get fk_cX12_taken_0 5 rfl) (by decide) ?_
  refine lv_ldc2 (v := 6) hx hb hown (hT _ m6_98) (fk_get fk_cX12_taken_0 6 rfl) ?_
  refine vp_callSi (W.runS (As := [.long ((k).toInt64), .long (0), .long (6)]) (rest := []) ⟨hx, hb, hml, hown, hT⟩ (c_in l ((k).toInt64) (0) (6) ) (tS 3 hT m6_31 m6_32 m1_17 m6_33 rfl rfl (by decide +kernel) ⟨Nat.le_of_ble_eq_true rfl, Nat.le_of_ble_eq_true rfl⟩) ⟨PcN_blind, PcN_of _ _ _⟩ rfl rfl hl.1 rfl (lv_room (Nat.le_of_ble_eq_true rfl)) (fk_get fk_cX12_taken_0 7 rfl) ⟨Nat.zero_le _, Nat.zero_le _⟩) (fun r_1 hw_2 => ?_)
  try dsimp only at hw_2
  have hw_2 := in_eq hw_2 (k) 0 6 (rfl) (by decide) (by decide)
  refine lv_if_ne (tgt := 20) hx hb (fk_get fk_cX12_taken_0 8 rfl) (by decide) (fun c_3 => ?_) (fun c_3 => ?_)
  · have p_c_3 := if1_t hw_2 c_3
    refine lv_aload_n hx hb (fk_get fk_cX12_taken_0 11 rfl) rfl (lv_at hl 0 rfl) ?_
    refine lv_iload_n hx hb (fk_get fk_cX12_taken_0 12 rfl) rfl (lv_at hl 1 rfl) ?_
    refine vp_callSi (W.runV (As := [.int (c)]) (rest := []) ⟨hx, hb, hml, hown, hT⟩ (c_isCustomer l G ad (setF S 0 8 (0)) H.size (c) ) (tV 1 hT m6_110 m6_112 mp_32 m1_17 m6_113 rfl rfl (by decide +kernel) ⟨Nat.le_of_ble_eq_true rfl, Nat.le_of_ble_eq_true rfl⟩) ⟨PcW_blind, va_recv hK hP (ci := 14) (q0 := 0) rfl (ix_at (by decide) (cR_0 G ad (setF S 0 8 (0)))), PcW_of hP hK hD _⟩ rfl rfl hl.1 rfl (lv_room (Nat.le_of_ble_eq_true rfl)) (fk_get fk_cX12_taken_0 13 rfl) ⟨Nat.zero_le _, Nat.zero_le _⟩) (fun r_4 hw_5 => ?_)
    try dsimp only at hw_5
    have hw_5 : r_4 = if 0 ≤ c ∧ c ≤ fF S 0 1 - 1 then 1 else 0 := hw_5
    refine lv_if_ne (tgt := 31) hx hb (fk_get fk_cX12_taken_0 14 rfl) (by decide) (fun c_6 => ?_) (fun c_6 => ?_)
    · have p_c_6 := if1_t hw_5 c_6
      obtain ⟨hj, ej⟩ := isC_n p_c_6 hn hn6
      refine lv_aload_n hx hb (fk_get fk_cX12_taken_0 17 rfl) rfl (lv_at hl 0 rfl) ?_
      refine lv_iload_n hx hb (fk_get fk_cX12_taken_0 18 rfl) rfl (lv_at hl 1 rfl) ?_
      refine lv_iconst (v := 0) hx hb (fk_get fk_cX12_taken_0 19 rfl) (by decide) ?_
      refine vp_callSi (W.runV (As := [.int (c), .int (0)]) (rest := []) ⟨hx, hb, hml, hown, hT⟩ (c_of0 l G ad (setF S 0 8 (0)) H.size (c) (0) (((12 * c.toNatClampNeg) + 0)) (n_add (n_mul (rfl) (ej)) (rfl)) (by omega)) (tV 2 hT m6_119 m6_121 mp_34 m1_17 m6_122 rfl rfl (by decide +kernel) ⟨Nat.le_of_ble_eq_true rfl, Nat.le_of_ble_eq_true rfl⟩) ⟨PcW_blind, va_recv hK hP (ci := 14) (q0 := 0) rfl (ix_at (by decide) (cR_0 G ad (setF S 0 8 (0)))), PcW_of hP hK hD _⟩ rfl rfl hl.1 rfl (lv_room (Nat.le_of_ble_eq_true rfl)) (fk_get fk_cX12_taken_0 20 rfl) ⟨Nat.zero_le _, Nat.zero_le _⟩) (fun r_7 hw_8 => ?_)
      try dsimp only at hw_8
      have hw_8 : r_7 = fA S 1 (12 * c.toNatClampNeg + 0) := hw_8
      subst hw_8
      refine lv_istore_n (lv' := [(3, .int (fA S 1 (12 * c.toNatClampNeg + 0))), (0, .ref (ad 0)), (1, .int (c)), (2, .int (k))]) hx hb (fk_get fk_cX12_taken_0 21 rfl) rfl hl (by decide) rfl (fun ls hl => ?_)
      refine lv_iload_n hx hb (fk_get fk_cX12_taken_0 22 rfl) rfl (lv_at hl 0 rfl) ?_
      refine lv_iload_n hx hb (fk_get fk_cX12_taken_0 23 rfl) rfl (lv_at hl 3 rfl) ?_
      refine lv_icmp_eq (tgt := 69) hx hb (fk_get fk_cX12_taken_0 24 rfl) (by decide) (fun c_9 => ?_) (fun c_9 => ?_)
      · refine lv_iconst (v := 1) hx hb (fk_get fk_cX12_taken_1 5 rfl) (by decide) ?_
        refine lv_goto (tgt := 74) hx hb (fk_get fk_cX12_taken_1 6 rfl) (by decide) ?_
        refine lv_istore (lv' := [(4, .int (1)), (3, .int (fA S 1 (12 * c.toNatClampNeg + 0))), (0, .ref (ad 0)), (1, .int (c)), (2, .int (k))]) hx hb (fk_get fk_cX12_taken_1 8 rfl) hl (by decide) rfl (fun ls hl => ?_)
        refine lv_iload hx hb (fk_get fk_cX12_taken_1 9 rfl) (lv_at hl 0 rfl) ?_
        refine lv_if_eq (tgt := 85) hx hb (fk_get fk_cX12_taken_1 10 rfl) (by decide) (fun c_10 => absurd c_10 ((by decide))) (fun _ => ?_)
        refine lv_iload_n hx hb (fk_get fk_cX12_taken_1 11 rfl) rfl (lv_at hl 1 rfl) ?_
        refine lv_goto (tgt := 87) hx hb (fk_get fk_cX12_taken_1 12 rfl) (by decide) ?_
        subst hQ
        have hpost : (setF S 0 8 (0)) = (setF S 0 8 0) ∧ ∀ dd : Decidable (TK (fA S 1 (12 * c.toNatClampNeg + 0)) k), (fA S 1 (12 * c.toNatClampNeg + 0) : Int32) = (if 0 ≤ k ∧ k ≤ 6 then if (0 ≤ c ∧ c ≤ fF S 0 1 - 1) then if TK (fA S 1 (12 * c.toNatClampNeg + 0)) k then fA S 1 (12 * c.toNatClampNeg + 0) else -12 else -11 else -2) := by
          refine ⟨rfl, fun dd => ?_⟩
          (repeat (first | rw [if_pos (by assumption)] | rw [if_neg (by assumption)]))
          try first | (rw [if_pos (show TK _ _ from Or.inl (by assumption))]; done) | (rw [if_pos (show TK _ _ from Or.inr (Or.inl (by assumption)))]; done) | (rw [if_pos (show TK _ _ from Or.inr (Or.inr ⟨Int32.not_le.mp (by assumption), by assumption⟩))]; done) | (rw [if_neg (fun h => h.elim (fun h => absurd h (by assumption)) (fun h => h.elim (fun h => absurd h (by assumption)) (fun h => absurd (Int32.not_le.mpr h.1) (fun z => z (by assumption)))))]; done) | (rw [if_neg (fun h => h.elim (fun h => absurd h (by assumption)) (fun h => h.elim (fun h => absurd h (by assumption)) (fun h => absurd h.2 (by assumption))))]; done)
        exact W.iret (v := fA S 1 (12 * c.toNatClampNeg + 0)) hx hb hr (fun t_ ht_ hW_ => ⟨⟨fA S 1 (12 * c.toNatClampNeg + 0), (setF S 0 8 (0)), rfl, hpost, by rw [ht_]; exact hP, va_K.moved hW_.alike hK, hD⟩, hS.F ht_⟩) hS.2.2 (fk_get fk_cX12_taken_1 14 rfl)
      refine lv_iload_n hx hb (fk_get fk_cX12_taken_0 25 rfl) rfl (lv_at hl 0 rfl) ?_
      refine vp_callSi (W.runS (As := [.int (fA S 1 (12 * c.toNatClampNeg + 0))]) (rest := []) ⟨hx, hb, hml, hown, hT⟩ (c_above l (fA S 1 (12 * c.toNatClampNeg + 0)) ) (tS 1 hT m7_144 m7_145 m1_17 m7_146 rfl rfl (by decide +kernel) ⟨Nat.le_of_ble_eq_true rfl, Nat.le_of_ble_eq_true rfl⟩) ⟨PcN_blind, PcN_of _ _ _⟩ rfl rfl hl.1 rfl (lv_room (Nat.le_of_ble_eq_true rfl)) (fk_get fk_cX12_taken_0 26 rfl) ⟨Nat.zero_le _, Nat.zero_le _⟩) (fun r_11 hw_12 => ?_)
      try dsimp only at hw_12
      subst hw_12
      refine lv_iload_n hx hb (fk_get fk_cX12_taken_0 27 rfl) rfl (lv_at hl 3 rfl) ?_
      refine lv_icmp_eq (tgt := 69) hx hb (fk_get fk_cX12_taken_0 28 rfl) (by decide) (fun c_13 => ?_) (fun c_13 => ?_)
      · refine lv_iconst (v := 1) hx hb (fk_get fk_cX12_taken_1 5 rfl) (by decide) ?_
        refine lv_goto (tgt := 74) hx hb (fk_get fk_cX12_taken_1 6 rfl) (by decide) ?_
        refine lv_istore (lv' := [(4, .int (1)), (3, .int (fA S 1 (12 * c.toNatClampNeg + 0))), (0, .ref (ad 0)), (1, .int (c)), (2, .int (k))]) hx hb (fk_get fk_cX12_taken_1 8 rfl) hl (by decide) rfl (fun ls hl => ?_)
        refine lv_iload hx hb (fk_get fk_cX12_taken_1 9 rfl) (lv_at hl 0 rfl) ?_
        refine lv_if_eq (tgt := 85) hx hb (fk_get fk_cX12_taken_1 10 rfl) (by decide) (fun c_14 => absurd c_14 ((by decide))) (fun _ => ?_)
        refine lv_iload_n hx hb (fk_get fk_cX12_taken_1 11 rfl) rfl (lv_at hl 1 rfl) ?_
        refine lv_goto (tgt := 87) hx hb (fk_get fk_cX12_taken_1 12 rfl) (by decide) ?_
        subst hQ
        have hpost : (setF S 0 8 (0)) = (setF S 0 8 0) ∧ ∀ dd : Decidable (TK (fA S 1 (12 * c.toNatClampNeg + 0)) k), (fA S 1 (12 * c.toNatClampNeg + 0) : Int32) = (if 0 ≤ k ∧ k ≤ 6 then if (0 ≤ c ∧ c ≤ fF S 0 1 - 1) then if TK (fA S 1 (12 * c.toNatClampNeg + 0)) k then fA S 1 (12 * c.toNatClampNeg + 0) else -12 else -11 else -2) := by
          refine ⟨rfl, fun dd => ?_⟩
          (repeat (first | rw [if_pos (by assumption)] | rw [if_neg (by assumption)]))
          try first | (rw [if_pos (show TK _ _ from Or.inl (by assumption))]; done) | (rw [if_pos (show TK _ _ from Or.inr (Or.inl (by assumption)))]; done) | (rw [if_pos (show TK _ _ from Or.inr (Or.inr ⟨Int32.not_le.mp (by assumption), by assumption⟩))]; done) | (rw [if_neg (fun h => h.elim (fun h => absurd h (by assumption)) (fun h => h.elim (fun h => absurd h (by assumption)) (fun h => absurd (Int32.not_le.mpr h.1) (fun z => z (by assumption)))))]; done) | (rw [if_neg (fun h => h.elim (fun h => absurd h (by assumption)) (fun h => h.elim (fun h => absurd h (by assumption)) (fun h => absurd h.2 (by assumption))))]; done)
        exact W.iret (v := fA S 1 (12 * c.toNatClampNeg + 0)) hx hb hr (fun t_ ht_ hW_ => ⟨⟨fA S 1 (12 * c.toNatClampNeg + 0), (setF S 0 8 (0)), rfl, hpost, by rw [ht_]; exact hP, va_K.moved hW_.alike hK, hD⟩, hS.F ht_⟩) hS.2.2 (fk_get fk_cX12_taken_1 14 rfl)
      refine lv_iload_n hx hb (fk_get fk_cX12_taken_0 29 rfl) rfl (lv_at hl 0 rfl) ?_
      refine vp_callSi (W.runS (As := [.int (fA S 1 (12 * c.toNatClampNeg + 0))]) (rest := []) ⟨hx, hb, hml, hown, hT⟩ (c_above l (fA S 1 (12 * c.toNatClampNeg + 0)) ) (tS 1 hT m7_144 m7_145 m1_17 m7_146 rfl rfl (by decide +kernel) ⟨Nat.le_of_ble_eq_true rfl, Nat.le_of_ble_eq_true rfl⟩) ⟨PcN_blind, PcN_of _ _ _⟩ rfl rfl hl.1 rfl (lv_room (Nat.le_of_ble_eq_true rfl)) (fk_get fk_cX12_taken_0 30 rfl) ⟨Nat.zero_le _, Nat.zero_le _⟩) (fun r_15 hw_16 => ?_)
      try dsimp only at hw_16
      subst hw_16
      refine lv_if_le (tgt := 73) hx hb (fk_get fk_cX12_taken_0 31 rfl) (by decide) (fun c_17 => ?_) (fun c_17 => ?_)
      · refine lv_iconst (v := 0) hx hb (fk_get fk_cX12_taken_1 7 rfl) (by decide) ?_
        refine lv_istore (lv' := [(4, .int (0)), (3, .int (fA S 1 (12 * c.toNatClampNeg + 0))), (0, .ref (ad 0)), (1, .int (c)), (2, .int (k))]) hx hb (fk_get fk_cX12_taken_1 8 rfl) hl (by decide) rfl (fun ls hl => ?_)
        refine lv_iload hx hb (fk_get fk_cX12_taken_1 9 rfl) (lv_at hl 0 rfl) ?_
        refine lv_if_eq (tgt := 85) hx hb (fk_get fk_cX12_taken_1 10 rfl) (by decide) (fun _ => ?_) (fun c_18 => absurd ((by decide)) c_18)
        refine lv_bipush (v := (-12)) hx hb (fk_get fk_cX12_taken_1 13 rfl) (by decide) ?_
        subst hQ
        have hpost : (setF S 0 8 (0)) = (setF S 0 8 0) ∧ ∀ dd : Decidable (TK (fA S 1 (12 * c.toNatClampNeg + 0)) k), ((-12) : Int32) = (if 0 ≤ k ∧ k ≤ 6 then if (0 ≤ c ∧ c ≤ fF S 0 1 - 1) then if TK (fA S 1 (12 * c.toNatClampNeg + 0)) k then fA S 1 (12 * c.toNatClampNeg + 0) else -12 else -11 else -2) := by
          refine ⟨rfl, fun dd => ?_⟩
          (repeat (first | rw [if_pos (by assumption)] | rw [if_neg (by assumption)]))
          try first | (rw [if_pos (show TK _ _ from Or.inl (by assumption))]; done) | (rw [if_pos (show TK _ _ from Or.inr (Or.inl (by assumption)))]; done) | (rw [if_pos (show TK _ _ from Or.inr (Or.inr ⟨Int32.not_le.mp (by assumption), by assumption⟩))]; done) | (rw [if_neg (fun h => h.elim (fun h => absurd h (by assumption)) (fun h => h.elim (fun h => absurd h (by assumption)) (fun h => absurd (Int32.not_le.mpr h.1) (fun z => z (by assumption)))))]; done) | (rw [if_neg (fun h => h.elim (fun h => absurd h (by assumption)) (fun h => h.elim (fun h => absurd h (by assumption)) (fun h => absurd h.2 (by assumption))))]; done)
        exact W.iret (v := (-12)) hx hb hr (fun t_ ht_ hW_ => ⟨⟨(-12), (setF S 0 8 (0)), rfl, hpost, by rw [ht_]; exact hP, va_K.moved hW_.alike hK, hD⟩, hS.F ht_⟩) hS.2.2 (fk_get fk_cX12_taken_1 14 rfl)
      refine lv_iload_n hx hb (fk_get fk_cX12_taken_1 0 rfl) rfl (lv_at hl 0 rfl) ?_
      refine vp_callSi (W.runS (As := [.int (fA S 1 (12 * c.toNatClampNeg + 0))]) (rest := []) ⟨hx, hb, hml, hown, hT⟩ (c_above l (fA S 1 (12 * c.toNatClampNeg + 0)) ) (tS 1 hT m7_144 m7_145 m1_17 m7_146 rfl rfl (by decide +kernel) ⟨Nat.le_of_ble_eq_true rfl, Nat.le_of_ble_eq_true rfl⟩) ⟨PcN_blind, PcN_of _ _ _⟩ rfl rfl hl.1 rfl (lv_room (Nat.le_of_ble_eq_true rfl)) (fk_get fk_cX12_taken_1 1 rfl) ⟨Nat.zero_le _, Nat.zero_le _⟩) (fun r_19 hw_20 => ?_)
      try dsimp only at hw_20
      subst hw_20
      refine vp_callSi (W.runS (As := [.int (AB (fA S 1 (12 * c.toNatClampNeg + 0)))]) (rest := []) ⟨hx, hb, hml, hown, hT⟩ (c_above l (AB (fA S 1 (12 * c.toNatClampNeg + 0))) ) (tS 1 hT m7_144 m7_145 m1_17 m7_146 rfl rfl (by decide +kernel) ⟨Nat.le_of_ble_eq_true rfl, Nat.le_of_ble_eq_true rfl⟩) ⟨PcN_blind, PcN_of _ _ _⟩ rfl rfl hl.1 rfl (lv_room (Nat.le_of_ble_eq_true rfl)) (fk_get fk_cX12_taken_1 2 rfl) ⟨Nat.zero_le _, Nat.zero_le _⟩) (fun r_21 hw_22 => ?_)
      try dsimp only at hw_22
      subst hw_22
      refine lv_iload_n hx hb (fk_get fk_cX12_taken_1 3 rfl) rfl (lv_at hl 3 rfl) ?_
      refine lv_icmp_ne (tgt := 73) hx hb (fk_get fk_cX12_taken_1 4 rfl) (by decide) (fun c_23 => ?_) (fun c_23 => ?_)
      · refine lv_iconst (v := 0) hx hb (fk_get fk_cX12_taken_1 7 rfl) (by decide) ?_
        refine lv_istore (lv' := [(4, .int (0)), (3, .int (fA S 1 (12 * c.toNatClampNeg + 0))), (0, .ref (ad 0)), (1, .int (c)), (2, .int (k))]) hx hb (fk_get fk_cX12_taken_1 8 rfl) hl (by decide) rfl (fun ls hl => ?_)
        refine lv_iload hx hb (fk_get fk_cX12_taken_1 9 rfl) (lv_at hl 0 rfl) ?_
        refine lv_if_eq (tgt := 85) hx hb (fk_get fk_cX12_taken_1 10 rfl) (by decide) (fun _ => ?_) (fun c_24 => absurd ((by decide)) c_24)
        refine lv_bipush (v := (-12)) hx hb (fk_get fk_cX12_taken_1 13 rfl) (by decide) ?_
        subst hQ
        have hpost : (setF S 0 8 (0)) = (setF S 0 8 0) ∧ ∀ dd : Decidable (TK (fA S 1 (12 * c.toNatClampNeg + 0)) k), ((-12) : Int32) = (if 0 ≤ k ∧ k ≤ 6 then if (0 ≤ c ∧ c ≤ fF S 0 1 - 1) then if TK (fA S 1 (12 * c.toNatClampNeg + 0)) k then fA S 1 (12 * c.toNatClampNeg + 0) else -12 else -11 else -2) := by
          refine ⟨rfl, fun dd => ?_⟩
          (repeat (first | rw [if_pos (by assumption)] | rw [if_neg (by assumption)]))
          try first | (rw [if_pos (show TK _ _ from Or.inl (by assumption))]; done) | (rw [if_pos (show TK _ _ from Or.inr (Or.inl (by assumption)))]; done) | (rw [if_pos (show TK _ _ from Or.inr (Or.inr ⟨Int32.not_le.mp (by assumption), by assumption⟩))]; done) | (rw [if_neg (fun h => h.elim (fun h => absurd h (by assumption)) (fun h => h.elim (fun h => absurd h (by assumption)) (fun h => absurd (Int32.not_le.mpr h.1) (fun z => z (by assumption)))))]; done) | (rw [if_neg (fun h => h.elim (fun h => absurd h (by assumption)) (fun h => h.elim (fun h => absurd h (by assumption)) (fun h => absurd h.2 (by assumption))))]; done)
        exact W.iret (v := (-12)) hx hb hr (fun t_ ht_ hW_ => ⟨⟨(-12), (setF S 0 8 (0)), rfl, hpost, by rw [ht_]; exact hP, va_K.moved hW_.alike hK, hD⟩, hS.F ht_⟩) hS.2.2 (fk_get fk_cX12_taken_1 14 rfl)
      refine lv_iconst (v := 1) hx hb (fk_get fk_cX12_taken_1 5 rfl) (by decide) ?_
      refine lv_goto (tgt := 74) hx hb (fk_get fk_cX12_taken_1 6 rfl) (by decide) ?_
      refine lv_istore (lv' := [(4, .int (1)), (3, .int (fA S 1 (12 * c.toNatClampNeg + 0))), (0, .ref (ad 0)), (1, .int (c)), (2, .int (k))]) hx hb (fk_get fk_cX12_taken_1 8 rfl) hl (by decide) rfl (fun ls hl => ?_)
      refine lv_iload hx hb (fk_get fk_cX12_taken_1 9 rfl) (lv_at hl 0 rfl) ?_
      refine lv_if_eq (tgt := 85) hx hb (fk_get fk_cX12_taken_1 10 rfl) (by decide) (fun c_25 => absurd c_25 ((by decide))) (fun _ => ?_)
      refine lv_iload_n hx hb (fk_get fk_cX12_taken_1 11 rfl) rfl (lv_at hl 1 rfl) ?_
      refine lv_goto (tgt := 87) hx hb (fk_get fk_cX12_taken_1 12 rfl) (by decide) ?_
      subst hQ
      have hpost : (setF S 0 8 (0)) = (setF S 0 8 0) ∧ ∀ dd : Decidable (TK (fA S 1 (12 * c.toNatClampNeg + 0)) k), (fA S 1 (12 * c.toNatClampNeg + 0) : Int32) = (if 0 ≤ k ∧ k ≤ 6 then if (0 ≤ c ∧ c ≤ fF S 0 1 - 1) then if TK (fA S 1 (12 * c.toNatClampNeg + 0)) k then fA S 1 (12 * c.toNatClampNeg + 0) else -12 else -11 else -2) := by
        refine ⟨rfl, fun dd => ?_⟩
        (repeat (first | rw [if_pos (by assumption)] | rw [if_neg (by assumption)]))
        try first | (rw [if_pos (show TK _ _ from Or.inl (by assumption))]; done) | (rw [if_pos (show TK _ _ from Or.inr (Or.inl (by assumption)))]; done) | (rw [if_pos (show TK _ _ from Or.inr (Or.inr ⟨Int32.not_le.mp (by assumption), by assumption⟩))]; done) | (rw [if_neg (fun h => h.elim (fun h => absurd h (by assumption)) (fun h => h.elim (fun h => absurd h (by assumption)) (fun h => absurd (Int32.not_le.mpr h.1) (fun z => z (by assumption)))))]; done) | (rw [if_neg (fun h => h.elim (fun h => absurd h (by assumption)) (fun h => h.elim (fun h => absurd h (by assumption)) (fun h => absurd h.2 (by assumption))))]; done)
      exact W.iret (v := fA S 1 (12 * c.toNatClampNeg + 0)) hx hb hr (fun t_ ht_ hW_ => ⟨⟨fA S 1 (12 * c.toNatClampNeg + 0), (setF S 0 8 (0)), rfl, hpost, by rw [ht_]; exact hP, va_K.moved hW_.alike hK, hD⟩, hS.F ht_⟩) hS.2.2 (fk_get fk_cX12_taken_1 14 rfl)
    have p_c_6 := if1_f hw_5 c_6
    refine lv_bipush (v := (-11)) hx hb (fk_get fk_cX12_taken_0 15 rfl) (by decide) ?_
    subst hQ
    have hpost : (setF S 0 8 (0)) = (setF S 0 8 0) ∧ ∀ dd : Decidable (TK (fA S 1 (12 * c.toNatClampNeg + 0)) k), ((-11) : Int32) = (if 0 ≤ k ∧ k ≤ 6 then if (0 ≤ c ∧ c ≤ fF S 0 1 - 1) then if TK (fA S 1 (12 * c.toNatClampNeg + 0)) k then fA S 1 (12 * c.toNatClampNeg + 0) else -12 else -11 else -2) := by
      refine ⟨rfl, fun dd => ?_⟩
      (repeat (first | rw [if_pos (by assumption)] | rw [if_neg (by assumption)]))
      try first | (rw [if_pos (show TK _ _ from Or.inl (by assumption))]; done) | (rw [if_pos (show TK _ _ from Or.inr (Or.inl (by assumption)))]; done) | (rw [if_pos (show TK _ _ from Or.inr (Or.inr ⟨Int32.not_le.mp (by assumption), by assumption⟩))]; done) | (rw [if_neg (fun h => h.elim (fun h => absurd h (by assumption)) (fun h => h.elim (fun h => absurd h (by assumption)) (fun h => absurd (Int32.not_le.mpr h.1) (fun z => z (by assumption)))))]; done) | (rw [if_neg (fun h => h.elim (fun h => absurd h (by assumption)) (fun h => h.elim (fun h => absurd h (by assumption)) (fun h => absurd h.2 (by assumption))))]; done)
    exact W.iret (v := (-11)) hx hb hr (fun t_ ht_ hW_ => ⟨⟨(-11), (setF S 0 8 (0)), rfl, hpost, by rw [ht_]; exact hP, va_K.moved hW_.alike hK, hD⟩, hS.F ht_⟩) hS.2.2 (fk_get fk_cX12_taken_0 16 rfl)
  have p_c_3 := if1_f hw_2 c_3
  refine lv_bipush (v := (-2)) hx hb (fk_get fk_cX12_taken_0 9 rfl) (by decide) ?_
  subst hQ
  have hpost : (setF S 0 8 (0)) = (setF S 0 8 0) ∧ ∀ dd : Decidable (TK (fA S 1 (12 * c.toNatClampNeg + 0)) k), ((-2) : Int32) = (if 0 ≤ k ∧ k ≤ 6 then if (0 ≤ c ∧ c ≤ fF S 0 1 - 1) then if TK (fA S 1 (12 * c.toNatClampNeg + 0)) k then fA S 1 (12 * c.toNatClampNeg + 0) else -12 else -11 else -2) := by
    refine ⟨rfl, fun dd => ?_⟩
    (repeat (first | rw [if_pos (by assumption)] | rw [if_neg (by assumption)]))
    try first | (rw [if_pos (show TK _ _ from Or.inl (by assumption))]; done) | (rw [if_pos (show TK _ _ from Or.inr (Or.inl (by assumption)))]; done) | (rw [if_pos (show TK _ _ from Or.inr (Or.inr ⟨Int32.not_le.mp (by assumption), by assumption⟩))]; done) | (rw [if_neg (fun h => h.elim (fun h => absurd h (by assumption)) (fun h => h.elim (fun h => absurd h (by assumption)) (fun h => absurd (Int32.not_le.mpr h.1) (fun z => z (by assumption)))))]; done) | (rw [if_neg (fun h => h.elim (fun h => absurd h (by assumption)) (fun h => h.elim (fun h => absurd h (by assumption)) (fun h => absurd h.2 (by assumption))))]; done)
  exact W.iret (v := (-2)) hx hb hr (fun t_ ht_ hW_ => ⟨⟨(-2), (setF S 0 8 (0)), rfl, hpost, by rw [ht_]; exact hP, va_K.moved hW_.alike hK, hD⟩, hS.F ht_⟩) hS.2.2 (fk_get fk_cX12_taken_0 10 rfl)
set_option maxHeartbeats 4000000 in
set_option maxRecDepth 100000 in
theorem c_customer (l : Launch) (G : GG) (ad : Nat → Nat) (S : FS) (sz : Nat) (n : Nat) (kind v wants : Int32) (hn : fF S 0 1 = nI n) (hn6 : n ≤ 6) : Met l yX12_customer (Cond.code yX12_customer cX12_customer 5 (some .int) :: TBL) ({ frames := 3, cells := 0, slots := 0, locals := 93 } : Room) (PcW G (wR G ad S) sz [.ref (ad 0), .int (kind), .int (v), .int (wants)]) (va_Qi (fun (r : Int32) (S' : FS) => r = (if 0 ≤ kind ∧ kind ≤ 6 then if 0 ≤ v ∧ v ≤ 9 then if 10 ≤ wants ∧ wants ≤ 99 then if fF S 0 1 = 6 then -4 else fF S 0 1 else -2 else -2 else -1) ∧ S' = (if 0 ≤ kind ∧ kind ≤ 6 then if 0 ≤ v ∧ v ≤ 9 then if 10 ≤ wants ∧ wants ≤ 99 then if fF S 0 1 = 6 then (setF S 0 8 0) else setF (setA (setF S 0 8 0) 1 (cs (fA S 1) n kind v wants)) 0 1 (nI (n + 1)) else (setF S 0 8 0) else (setF S 0 8 0) else (setF S 0 8 0))) (fun S' t => BW G (va_A (wR G ad S) sz) (wR G ad S') t) (va_A (wR G ad S) sz)) 0 0 (va_A (wR G ad S) sz) := by
  refine Met.ofW (cc := cX12_customer) (maxL := 5) (ret := (some .int)) (by decide) rfl ?_
  intro p e s m args below meth c₀ s₁ B hml hv
  obtain ⟨rfl, hsz, hP, hK, hD0⟩ := hv
  have hx := B.exec
  have hb := B.bytes
  have hr := B.returns
  have hT : ∀ w ∈ TBL, w.before ([.ref (ad 0), .int (kind), .int (v), .int (wants)] : List Value).toArray s = true := fun w h => atoms_spec (ws := Cond.code yX12_customer cX12_customer 5 (some .int) :: TBL) B.pre w (List.mem_cons_of_mem _ h)
  have hown : s.vm.findClass "LittleMoreModel" = some m.cls := findClass_of_methodNamed B.named
  have hlocks := B.notSynchronized
  subst hsz
  have hD := hD0.self (sz := s.heap.size)
  generalize hAe : va_A (wR G ad S) s.heap.size = A at hD ⊢
  have hA : ∀ q : Nat, s.heap.size ≤ q → A q := fun q h => by rw [← hAe]; exact Or.inr h
  have hS : va_S A s.heap s.heap [] := va_S.rf
  have hP : va_P G.1 vwCl (wR G ad S) s.heap := hP
  have hl := lv_entry ([.ref (ad 0), .int (kind), .int (v), .int (wants)]) (n := 5) (Nat.le_of_ble_eq_true rfl)
  rw [lg_entry_eq]
  generalize (lg_sl ([.ref (ad 0), .int (kind), .int (v), .int (wants)]) ++ List.replicate (5 - (lg_sl ([.ref (ad 0), .int (kind), .int (v), .int (wants)])).length) Slot.unset).toArray = ls at hl ⊢
  have hl : lv_has ls 5 [(0, .ref (ad 0)), (1, .int (kind)), (2, .int (v)), (3, .int (wants))] := hl
  refine W_abs (fun Q hQ => ?_)
  generalize ([.ref (ad 0), .int (kind), .int (v), .int (wants)] : List Value).toArray = args at hT hQ ⊢
  refine lv_aload_n hx hb (fk_get fk_cX12_customer_0 0 rfl) rfl (lv_at hl 0 rfl) ?_
  refine lv_iconst (v := 0) hx hb (fk_get fk_cX12_customer_0 1 rfl) (by decide) ?_
  refine va_put (D := G.1) (ci := 14) (v := .int (0)) (ty := .int) (C := RX12) (T := TX12) (N := 49) hx hb hT inX12 tyX12 tyX12_ok nmX12 hown hK hP hD hS 0 (ix_at (by decide) (cR_0 G ad S)) rfl 8 (by decide) (hT _ m5_109) (fun _ h9 => h9) rfl (by decide +kernel) rfl rfl (Nat.le_of_ble_eq_true rfl) (fk_get fk_cX12_customer_0 2 rfl) (fun H locs hP hD hS => ?_)
  rw [pR_thrown G ad S (0)] at hP hD
  refine lv_iload_n hx hb (fk_get fk_cX12_customer_0 3 rfl) rfl (lv_at hl 1 rfl) ?_
  refine lv_i2l hx hb (fk_get fk_cX12_customer_0 4 rfl) rfl ?_
  refine lv_lconst (v := 0) hx hb (fk_get fk_cX12_customer_0 5 rfl) (by decide) ?_
  refine lv_ldc2 (v := 6) hx hb hown (hT _ m6_98) (fk_get fk_cX12_customer_0 6 rfl) ?_
  refine vp_callSi (W.runS (As := [.long ((kind).toInt64), .long (0), .long (6)]) (rest := []) ⟨hx, hb, hml, hown, hT⟩ (c_in l ((kind).toInt64) (0) (6) ) (tS 3 hT m6_31 m6_32 m1_17 m6_33 rfl rfl (by decide +kernel) ⟨Nat.le_of_ble_eq_true rfl, Nat.le_of_ble_eq_true rfl⟩) ⟨PcN_blind, PcN_of _ _ _⟩ rfl rfl hl.1 rfl (lv_room (Nat.le_of_ble_eq_true rfl)) (fk_get fk_cX12_customer_0 7 rfl) ⟨Nat.zero_le _, Nat.zero_le _⟩) (fun r_1 hw_2 => ?_)
  try dsimp only at hw_2
  have hw_2 := in_eq hw_2 (kind) 0 6 (rfl) (by decide) (by decide)
  refine lv_if_ne (tgt := 19) hx hb (fk_get fk_cX12_customer_0 8 rfl) (by decide) (fun c_3 => ?_) (fun c_3 => ?_)
  · have p_c_3 := if1_t hw_2 c_3
    refine lv_iload_n hx hb (fk_get fk_cX12_customer_0 11 rfl) rfl (lv_at hl 2 rfl) ?_
    refine lv_i2l hx hb (fk_get fk_cX12_customer_0 12 rfl) rfl ?_
    refine lv_lconst (v := 0) hx hb (fk_get fk_cX12_customer_0 13 rfl) (by decide) ?_
    refine lv_ldc2 (v := 9) hx hb hown (hT _ m6_99) (fk_get fk_cX12_customer_0 14 rfl) ?_
    refine vp_callSi (W.runS (As := [.long ((v).toInt64), .long (0), .long (9)]) (rest := []) ⟨hx, hb, hml, hown, hT⟩ (c_in l ((v).toInt64) (0) (9) ) (tS 3 hT m6_31 m6_32 m1_17 m6_33 rfl rfl (by decide +kernel) ⟨Nat.le_of_ble_eq_true rfl, Nat.le_of_ble_eq_true rfl⟩) ⟨PcN_blind, PcN_of _ _ _⟩ rfl rfl hl.1 rfl (lv_room (Nat.le_of_ble_eq_true rfl)) (fk_get fk_cX12_customer_0 15 rfl) ⟨Nat.zero_le _, Nat.zero_le _⟩) (fun r_4 hw_5 => ?_)
    try dsimp only at hw_5
    have hw_5 := in_eq hw_5 (v) 0 9 (rfl) (by decide) (by decide)
    refine lv_if_eq (tgt := 45) hx hb (fk_get fk_cX12_customer_0 16 rfl) (by decide) (fun c_6 => ?_) (fun c_6 => ?_)
    · have p_c_6 := if1_f hw_5 c_6
      refine lv_bipush (v := (-2)) hx hb (fk_get fk_cX12_customer_0 23 rfl) (by decide) ?_
      subst hQ
      have hpost : ((-2) : Int32) = (if 0 ≤ kind ∧ kind ≤ 6 then if 0 ≤ v ∧ v ≤ 9 then if 10 ≤ wants ∧ wants ≤ 99 then if fF S 0 1 = 6 then -4 else fF S 0 1 else -2 else -2 else -1) ∧ (setF S 0 8 (0)) = (if 0 ≤ kind ∧ kind ≤ 6 then if 0 ≤ v ∧ v ≤ 9 then if 10 ≤ wants ∧ wants ≤ 99 then if fF S 0 1 = 6 then (setF S 0 8 0) else setF (setA (setF S 0 8 0) 1 (cs (fA S 1) n kind v wants)) 0 1 (nI (n + 1)) else (setF S 0 8 0) else (setF S 0 8 0) else (setF S 0 8 0)) := by
        refine ⟨?_, ?_⟩ <;> (repeat (first | rw [if_pos (by assumption)] | rw [if_neg (by assumption)])) <;> first | rfl | (rw [show fF SL 0 1 = fF S 0 1 by rw [hSL]; rfl]; exact Int32.add_sub_cancel _ _) | (rw [show fF SL 0 1 = nI n by rw [hSL]; exact hn, nI_1, hSL]; simp only [setA_setA, fA_setA, if_true]; rfl)
      exact W.iret (v := (-2)) hx hb hr (fun t_ ht_ hW_ => ⟨⟨(-2), (setF S 0 8 (0)), rfl, hpost, by rw [ht_]; exact hP, va_K.moved hW_.alike hK, hD⟩, hS.F ht_⟩) hS.2.2 (fk_get fk_cX12_customer_0 24 rfl)
    have p_c_6 := if1_t hw_5 c_6
    refine lv_iload_n hx hb (fk_get fk_cX12_customer_0 17 rfl) rfl (lv_at hl 3 rfl) ?_
    refine lv_i2l hx hb (fk_get fk_cX12_customer_0 18 rfl) rfl ?_
    refine lv_ldc2 (v := 10) hx hb hown (hT _ m6_100) (fk_get fk_cX12_customer_0 19 rfl) ?_
    refine lv_ldc2 (v := 99) hx hb hown (hT _ m6_101) (fk_get fk_cX12_customer_0 20 rfl) ?_
    refine vp_callSi (W.runS (As := [.long ((wants).toInt64), .long (10), .long (99)]) (rest := []) ⟨hx, hb, hml, hown, hT⟩ (c_in l ((wants).toInt64) (10) (99) ) (tS 3 hT m6_31 m6_32 m1_17 m6_33 rfl rfl (by decide +kernel) ⟨Nat.le_of_ble_eq_true rfl, Nat.le_of_ble_eq_true rfl⟩) ⟨PcN_blind, PcN_of _ _ _⟩ rfl rfl hl.1 rfl (lv_room (Nat.le_of_ble_eq_true rfl)) (fk_get fk_cX12_customer_0 21 rfl) ⟨Nat.zero_le _, Nat.zero_le _⟩) (fun r_7 hw_8 => ?_)
    try dsimp only at hw_8
    have hw_8 := in_eq hw_8 (wants) 10 99 (rfl) (by decide) (by decide)
    refine lv_if_ne (tgt := 48) hx hb (fk_get fk_cX12_customer_0 22 rfl) (by decide) (fun c_9 => ?_) (fun c_9 => ?_)
    · have p_c_9 := if1_t hw_8 c_9
      refine lv_aload_n hx hb (fk_get fk_cX12_customer_0 25 rfl) rfl (lv_at hl 0 rfl) ?_
      refine va_get (D := G.1) (ci := 14) (v := .int ((fF S 0 1))) (C := RX12) (T := TX12) (N := 49) hx hb hT inX12 hown hK hP 0 (ix_at (by decide) (cR_0 G ad (setF S 0 8 (0)))) rfl 1 (by decide) (hT _ m5_102) (fun _ h9 => h9) rfl (fk_get fk_cX12_customer_0 26 rfl) ?_
      refine lv_bipush (v := 6) hx hb (fk_get fk_cX12_customer_0 27 rfl) (by decide) ?_
      refine lv_icmp_ne (tgt := 60) hx hb (fk_get fk_cX12_customer_0 28 rfl) (by decide) (fun c_10 => ?_) (fun c_10 => ?_)
      · have hn2 : n ≠ 6 := nI_ne (by rw [← hn]; exact c_10)
        refine lv_iconst (v := 0) hx hb (fk_get fk_cX12_customer_0 31 rfl) (by decide) ?_
        refine lv_istore (lv' := [(4, .int (0)), (0, .ref (ad 0)), (1, .int (kind)), (2, .int (v)), (3, .int (wants))]) hx hb (fk_get fk_cX12_customer_1 0 rfl) hl (by decide) rfl (fun ls hl => ?_)
        have lp_11 : ∀ (fu : Nat) (k : Nat) (SL : FS) (H_13 : Heap) (locs_14 : List Loc) (ls : Array Slot),  (k ≤ 12) → (12 < k + fu) → (SL = setA (setF S 0 8 0) 1 (zs (fA S 1) n k)) → va_P G.1 vwCl (wR G ad SL) H_13 → va_D A (wR G ad SL) → va_S A s.heap H_13 locs_14 → lv_has ls 5 [(4, .int ((nI k))), (0, .ref (ad 0)), (1, .int (kind)), (2, .int (v)), (3, .int (wants))] → W p l e ({ frames := 3, cells := 0, slots := 0, locals := 93 } : Room) s m args below meth c₀ H_13 locs_14 0 0 Q (F0 m 63 ls []) := by
          intro fu
          induction fu with
          | zero =>
            intro k SL H_13 locs_14 ls hk hf hSL hP hD hS hl
            exact absurd hf (by omega)
          | succ fu ih =>
            intro k SL H_13 locs_14 ls hk hf hSL hP hD hS hl
            refine lv_iload hx hb (fk_get fk_cX12_customer_1 1 rfl) (lv_at hl 0 rfl) ?_
            refine lv_bipush (v := 12) hx hb (fk_get fk_cX12_customer_1 2 rfl) (by decide) ?_
            refine lv_icmp_ge (tgt := 87) hx hb (fk_get fk_cX12_customer_1 3 rfl) (by decide) (fun c_15 => ?_) (fun c_15 => ?_)
            · have hge : 12 ≤ k := (nI_leI (a := 12) (b := k) (by omega) (by omega)).mp c_15
              obtain rfl : k = 12 := by omega
              refine lv_aload_n hx hb (fk_get fk_cX12_customer_1 12 rfl) rfl (lv_at hl 1 rfl) ?_
              refine lv_aload_n hx hb (fk_get fk_cX12_customer_1 13 rfl) rfl (lv_at hl 1 rfl) ?_
              refine va_get (D := G.1) (ci := 14) (v := .int ((fF SL 0 1))) (C := RX12) (T := TX12) (N := 49) hx hb hT inX12 hown hK hP 0 (ix_at (by decide) (cR_0 G ad SL)) rfl 1 (by decide) (hT _ m5_102) (fun _ h9 => h9) rfl (fk_get fk_cX12_customer_1 14 rfl) ?_
              refine lv_iconst (v := 0) hx hb (fk_get fk_cX12_customer_1 15 rfl) (by decide) ?_
              refine lv_iload_n hx hb (fk_get fk_cX12_customer_1 16 rfl) rfl (lv_at hl 2 rfl) ?_
              have hFc := va_self hD hS hA
              refine va_callv (va_runV (As := [.int ((fF SL 0 1)), .int (0), .int (kind)]) (rest := []) ⟨hx, hb, hml, hown, hT⟩ (c_put l G ad SL H_13.size ((fF SL 0 1)) (0) (kind) (((12 * n) + 0)) (n_add (n_mul (rfl) ((show fF SL 0 1 = nI n by rw [hSL]; exact hn))) (rfl)) (by omega)) (tV 3 hT m6_102 m6_104 mp_31 m1_17 m6_105 rfl rfl (by decide +kernel) ⟨Nat.le_of_ble_eq_true rfl, Nat.le_of_ble_eq_true rfl⟩) ⟨PcW_blind, va_recv hK hP (ci := 14) (q0 := 0) rfl (ix_at (by decide) (cR_0 G ad SL)), PcW_of hP hK hD _⟩ rfl rfl hl.1 rfl (lv_room (Nat.le_of_ble_eq_true rfl)) (fk_get fk_cX12_customer_1 17 rfl) ⟨Nat.zero_le _, Nat.zero_le _⟩) hS (fun q _ h => hFc q h) hFc (fun S_18 t_ H locs ht_ hvm_ hw_17 hB_ hz_ hk_ hS => ?_)
              obtain ⟨hP, -, hD1_⟩ := hB_
              rw [ht_] at hP
              have hD : va_D A (wR G ad S_18) := hD1_.weaken (fun k q _ h => hFc q.1 h)
              try dsimp only at hw_17
              subst hw_17
              refine lv_aload_n hx hb (fk_get fk_cX12_customer_1 18 rfl) rfl (lv_at hl 1 rfl) ?_
              refine lv_aload_n hx hb (fk_get fk_cX12_customer_1 19 rfl) rfl (lv_at hl 1 rfl) ?_
              refine va_get (D := G.1) (ci := 14) (v := .int ((fF SL 0 1))) (C := RX12) (T := TX12) (N := 49) hx hb hT inX12 hown hK hP 0 (ix_at (by decide) (cR_0 G ad (setA SL 1 (upd (fA SL 1) (((12 * n) + 0)) (kind))))) rfl 1 (by decide) (hT _ m5_102) (fun _ h9 => h9) rfl (fk_get fk_cX12_customer_1 20 rfl) ?_
              refine lv_iconst (v := 1) hx hb (fk_get fk_cX12_customer_1 21 rfl) (by decide) ?_
              refine lv_iload_n hx hb (fk_get fk_cX12_customer_1 22 rfl) rfl (lv_at hl 3 rfl) ?_
              have hFc := va_self hD hS hA
              refine va_callv (va_runV (As := [.int ((fF SL 0 1)), .int (1), .int (v)]) (rest := []) ⟨hx, hb, hml, hown, hT⟩ (c_put l G ad (setA SL 1 (upd (fA SL 1) (((12 * n) + 0)) (kind))) H.size ((fF SL 0 1)) (1) (v) (((12 * n) + 1)) (n_add (n_mul (rfl) ((show fF SL 0 1 = nI n by rw [hSL]; exact hn))) (rfl)) (by omega)) (tV 3 hT m6_102 m6_104 mp_31 m1_17 m6_105 rfl rfl (by decide +kernel) ⟨Nat.le_of_ble_eq_true rfl, Nat.le_of_ble_eq_true rfl⟩) ⟨PcW_blind, va_recv hK hP (ci := 14) (q0 := 0) rfl (ix_at (by decide) (cR_0 G ad (setA SL 1 (upd (fA SL 1) (((12 * n) + 0)) (kind))))), PcW_of hP hK hD _⟩ rfl rfl hl.1 rfl (lv_room (Nat.le_of_ble_eq_true rfl)) (fk_get fk_cX12_customer_1 23 rfl) ⟨Nat.zero_le _, Nat.zero_le _⟩) hS (fun q _ h => hFc q h) hFc (fun S_21 t_ H locs ht_ hvm_ hw_20 hB_ hz_ hk_ hS => ?_)
              obtain ⟨hP, -, hD1_⟩ := hB_
              rw [ht_] at hP
              have hD : va_D A (wR G ad S_21) := hD1_.weaken (fun k q _ h => hFc q.1 h)
              try dsimp only at hw_20
              subst hw_20
              refine lv_aload_n hx hb (fk_get fk_cX12_customer_1 24 rfl) rfl (lv_at hl 1 rfl) ?_
              refine lv_aload_n hx hb (fk_get fk_cX12_customer_1 25 rfl) rfl (lv_at hl 1 rfl) ?_
              refine va_get (D := G.1) (ci := 14) (v := .int ((fF SL 0 1))) (C := RX12) (T := TX12) (N := 49) hx hb hT inX12 hown hK hP 0 (ix_at (by decide) (cR_0 G ad (setA (setA SL 1 (upd (fA SL 1) (((12 * n) + 0)) (kind))) 1 (upd (fA (setA SL 1 (upd (fA SL 1) (((12 * n) + 0)) (kind))) 1) (((12 * n) + 1)) (v))))) rfl 1 (by decide) (hT _ m5_102) (fun _ h9 => h9) rfl (fk_get fk_cX12_customer_1 26 rfl) ?_
              refine lv_iconst (v := 2) hx hb (fk_get fk_cX12_customer_1 27 rfl) (by decide) ?_
              refine lv_iload_n hx hb (fk_get fk_cX12_customer_1 28 rfl) rfl (lv_at hl 4 rfl) ?_
              have hFc := va_self hD hS hA
              refine va_callv (va_runV (As := [.int ((fF SL 0 1)), .int (2), .int (wants)]) (rest := []) ⟨hx, hb, hml, hown, hT⟩ (c_put l G ad (setA (setA SL 1 (upd (fA SL 1) (((12 * n) + 0)) (kind))) 1 (upd (fA (setA SL 1 (upd (fA SL 1) (((12 * n) + 0)) (kind))) 1) (((12 * n) + 1)) (v))) H.size ((fF SL 0 1)) (2) (wants) (((12 * n) + 2)) (n_add (n_mul (rfl) ((show fF SL 0 1 = nI n by rw [hSL]; exact hn))) (rfl)) (by omega)) (tV 3 hT m6_102 m6_104 mp_31 m1_17 m6_105 rfl rfl (by decide +kernel) ⟨Nat.le_of_ble_eq_true rfl, Nat.le_of_ble_eq_true rfl⟩) ⟨PcW_blind, va_recv hK hP (ci := 14) (q0 := 0) rfl (ix_at (by decide) (cR_0 G ad (setA (setA SL 1 (upd (fA SL 1) (((12 * n) + 0)) (kind))) 1 (upd (fA (setA SL 1 (upd (fA SL 1) (((12 * n) + 0)) (kind))) 1) (((12 * n) + 1)) (v))))), PcW_of hP hK hD _⟩ rfl rfl hl.1 rfl (lv_room (Nat.le_of_ble_eq_true rfl)) (fk_get fk_cX12_customer_1 29 rfl) ⟨Nat.zero_le _, Nat.zero_le _⟩) hS (fun q _ h => hFc q h) hFc (fun S_24 t_ H locs ht_ hvm_ hw_23 hB_ hz_ hk_ hS => ?_)
              obtain ⟨hP, -, hD1_⟩ := hB_
              rw [ht_] at hP
              have hD : va_D A (wR G ad S_24) := hD1_.weaken (fun k q _ h => hFc q.1 h)
              try dsimp only at hw_23
              subst hw_23
              refine lv_aload_n hx hb (fk_get fk_cX12_customer_1 30 rfl) rfl (lv_at hl 1 rfl) ?_
              refine lv_aload_n hx hb (fk_get fk_cX12_customer_1 31 rfl) rfl (lv_at hl 1 rfl) ?_
              refine va_get (D := G.1) (ci := 14) (v := .int ((fF SL 0 1))) (C := RX12) (T := TX12) (N := 49) hx hb hT inX12 hown hK hP 0 (ix_at (by decide) (cR_0 G ad (setA (setA (setA SL 1 (upd (fA SL 1) (((12 * n) + 0)) (kind))) 1 (upd (fA (setA SL 1 (upd (fA SL 1) (((12 * n) + 0)) (kind))) 1) (((12 * n) + 1)) (v))) 1 (upd (fA (setA (setA SL 1 (upd (fA SL 1) (((12 * n) + 0)) (kind))) 1 (upd (fA (setA SL 1 (upd (fA SL 1) (((12 * n) + 0)) (kind))) 1) (((12 * n) + 1)) (v))) 1) (((12 * n) + 2)) (wants))))) rfl 1 (by decide) (hT _ m5_102) (fun _ h9 => h9) rfl (fk_get fk_cX12_customer_2 0 rfl) ?_
              refine lv_iconst (v := 3) hx hb (fk_get fk_cX12_customer_2 1 rfl) (by decide) ?_
              refine lv_iconst (v := 3) hx hb (fk_get fk_cX12_customer_2 2 rfl) (by decide) ?_
              have hFc := va_self hD hS hA
              refine va_callv (va_runV (As := [.int ((fF SL 0 1)), .int (3), .int (3)]) (rest := []) ⟨hx, hb, hml, hown, hT⟩ (c_put l G ad (setA (setA (setA SL 1 (upd (fA SL 1) (((12 * n) + 0)) (kind))) 1 (upd (fA (setA SL 1 (upd (fA SL 1) (((12 * n) + 0)) (kind))) 1) (((12 * n) + 1)) (v))) 1 (upd (fA (setA (setA SL 1 (upd (fA SL 1) (((12 * n) + 0)) (kind))) 1 (upd (fA (setA SL 1 (upd (fA SL 1) (((12 * n) + 0)) (kind))) 1) (((12 * n) + 1)) (v))) 1) (((12 * n) + 2)) (wants))) H.size ((fF SL 0 1)) (3) (3) (((12 * n) + 3)) (n_add (n_mul (rfl) ((show fF SL 0 1 = nI n by rw [hSL]; exact hn))) (rfl)) (by omega)) (tV 3 hT m6_102 m6_104 mp_31 m1_17 m6_105 rfl rfl (by decide +kernel) ⟨Nat.le_of_ble_eq_true rfl, Nat.le_of_ble_eq_true rfl⟩) ⟨PcW_blind, va_recv hK hP (ci := 14) (q0 := 0) rfl (ix_at (by decide) (cR_0 G ad (setA (setA (setA SL 1 (upd (fA SL 1) (((12 * n) + 0)) (kind))) 1 (upd (fA (setA SL 1 (upd (fA SL 1) (((12 * n) + 0)) (kind))) 1) (((12 * n) + 1)) (v))) 1 (upd (fA (setA (setA SL 1 (upd (fA SL 1) (((12 * n) + 0)) (kind))) 1 (upd (fA (setA SL 1 (upd (fA SL 1) (((12 * n) + 0)) (kind))) 1) (((12 * n) + 1)) (v))) 1) (((12 * n) + 2)) (wants))))), PcW_of hP hK hD _⟩ rfl rfl hl.1 rfl (lv_room (Nat.le_of_ble_eq_true rfl)) (fk_get fk_cX12_customer_2 3 rfl) ⟨Nat.zero_le _, Nat.zero_le _⟩) hS (fun q _ h => hFc q h) hFc (fun S_27 t_ H locs ht_ hvm_ hw_26 hB_ hz_ hk_ hS => ?_)
              obtain ⟨hP, -, hD1_⟩ := hB_
              rw [ht_] at hP
              have hD : va_D A (wR G ad S_27) := hD1_.weaken (fun k q _ h => hFc q.1 h)
              try dsimp only at hw_26
              subst hw_26
              refine lv_aload_n hx hb (fk_get fk_cX12_customer_2 4 rfl) rfl (lv_at hl 1 rfl) ?_
              refine lv_dup hx hb (fk_get fk_cX12_customer_2 5 rfl) rfl ?_
              refine va_get (D := G.1) (ci := 14) (v := .int ((fF SL 0 1))) (C := RX12) (T := TX12) (N := 49) hx hb hT inX12 hown hK hP 0 (ix_at (by decide) (cR_0 G ad (setA (setA (setA (setA SL 1 (upd (fA SL 1) (((12 * n) + 0)) (kind))) 1 (upd (fA (setA SL 1 (upd (fA SL 1) (((12 * n) + 0)) (kind))) 1) (((12 * n) + 1)) (v))) 1 (upd (fA (setA (setA SL 1 (upd (fA SL 1) (((12 * n) + 0)) (kind))) 1 (upd (fA (setA SL 1 (upd (fA SL 1) (((12 * n) + 0)) (kind))) 1) (((12 * n) + 1)) (v))) 1) (((12 * n) + 2)) (wants))) 1 (upd (fA (setA (setA (setA SL 1 (upd (fA SL 1) (((12 * n) + 0)) (kind))) 1 (upd (fA (setA SL 1 (upd (fA SL 1) (((12 * n) + 0)) (kind))) 1) (((12 * n) + 1)) (v))) 1 (upd (fA (setA (setA SL 1 (upd (fA SL 1) (((12 * n) + 0)) (kind))) 1 (upd (fA (setA SL 1 (upd (fA SL 1) (((12 * n) + 0)) (kind))) 1) (((12 * n) + 1)) (v))) 1) (((12 * n) + 2)) (wants))) 1) (((12 * n) + 3)) (3))))) rfl 1 (by decide) (hT _ m5_102) (fun _ h9 => h9) rfl (fk_get fk_cX12_customer_2 6 rfl) ?_
              refine lv_iconst (v := 1) hx hb (fk_get fk_cX12_customer_2 7 rfl) (by decide) ?_
              refine lv_iadd hx hb (fk_get fk_cX12_customer_2 8 rfl) ?_
              refine va_put (D := G.1) (ci := 14) (v := .int (((fF SL 0 1) + 1))) (ty := .int) (C := RX12) (T := TX12) (N := 49) hx hb hT inX12 tyX12 tyX12_ok nmX12 hown hK hP hD hS 0 (ix_at (by decide) (cR_0 G ad (setA (setA (setA (setA SL 1 (upd (fA SL 1) (((12 * n) + 0)) (kind))) 1 (upd (fA (setA SL 1 (upd (fA SL 1) (((12 * n) + 0)) (kind))) 1) (((12 * n) + 1)) (v))) 1 (upd (fA (setA (setA SL 1 (upd (fA SL 1) (((12 * n) + 0)) (kind))) 1 (upd (fA (setA SL 1 (upd (fA SL 1) (((12 * n) + 0)) (kind))) 1) (((12 * n) + 1)) (v))) 1) (((12 * n) + 2)) (wants))) 1 (upd (fA (setA (setA (setA SL 1 (upd (fA SL 1) (((12 * n) + 0)) (kind))) 1 (upd (fA (setA SL 1 (upd (fA SL 1) (((12 * n) + 0)) (kind))) 1) (((12 * n) + 1)) (v))) 1 (upd (fA (setA (setA SL 1 (upd (fA SL 1) (((12 * n) + 0)) (kind))) 1 (upd (fA (setA SL 1 (upd (fA SL 1) (((12 * n) + 0)) (kind))) 1) (((12 * n) + 1)) (v))) 1) (((12 * n) + 2)) (wants))) 1) (((12 * n) + 3)) (3))))) rfl 1 (by decide) (hT _ m5_102) (fun _ h9 => h9) rfl (by decide +kernel) rfl rfl (Nat.le_of_ble_eq_true rfl) (fk_get fk_cX12_customer_2 9 rfl) (fun H locs hP hD hS => ?_)
              rw [pR_customers G ad (setA (setA (setA (setA SL 1 (upd (fA SL 1) (((12 * n) + 0)) (kind))) 1 (upd (fA (setA SL 1 (upd (fA SL 1) (((12 * n) + 0)) (kind))) 1) (((12 * n) + 1)) (v))) 1 (upd (fA (setA (setA SL 1 (upd (fA SL 1) (((12 * n) + 0)) (kind))) 1 (upd (fA (setA SL 1 (upd (fA SL 1) (((12 * n) + 0)) (kind))) 1) (((12 * n) + 1)) (v))) 1) (((12 * n) + 2)) (wants))) 1 (upd (fA (setA (setA (setA SL 1 (upd (fA SL 1) (((12 * n) + 0)) (kind))) 1 (upd (fA (setA SL 1 (upd (fA SL 1) (((12 * n) + 0)) (kind))) 1) (((12 * n) + 1)) (v))) 1 (upd (fA (setA (setA SL 1 (upd (fA SL 1) (((12 * n) + 0)) (kind))) 1 (upd (fA (setA SL 1 (upd (fA SL 1) (((12 * n) + 0)) (kind))) 1) (((12 * n) + 1)) (v))) 1) (((12 * n) + 2)) (wants))) 1) (((12 * n) + 3)) (3))) (((fF SL 0 1) + 1))] at hP hD
              refine lv_aload_n hx hb (fk_get fk_cX12_customer_2 10 rfl) rfl (lv_at hl 1 rfl) ?_
              refine va_get (D := G.1) (ci := 14) (v := .int (((fF SL 0 1) + 1))) (C := RX12) (T := TX12) (N := 49) hx hb hT inX12 hown hK hP 0 (ix_at (by decide) (cR_0 G ad (setF (setA (setA (setA (setA SL 1 (upd (fA SL 1) (((12 * n) + 0)) (kind))) 1 (upd (fA (setA SL 1 (upd (fA SL 1) (((12 * n) + 0)) (kind))) 1) (((12 * n) + 1)) (v))) 1 (upd (fA (setA (setA SL 1 (upd (fA SL 1) (((12 * n) + 0)) (kind))) 1 (upd (fA (setA SL 1 (upd (fA SL 1) (((12 * n) + 0)) (kind))) 1) (((12 * n) + 1)) (v))) 1) (((12 * n) + 2)) (wants))) 1 (upd (fA (setA (setA (setA SL 1 (upd (fA SL 1) (((12 * n) + 0)) (kind))) 1 (upd (fA (setA SL 1 (upd (fA SL 1) (((12 * n) + 0)) (kind))) 1) (((12 * n) + 1)) (v))) 1 (upd (fA (setA (setA SL 1 (upd (fA SL 1) (((12 * n) + 0)) (kind))) 1 (upd (fA (setA SL 1 (upd (fA SL 1) (((12 * n) + 0)) (kind))) 1) (((12 * n) + 1)) (v))) 1) (((12 * n) + 2)) (wants))) 1) (((12 * n) + 3)) (3))) 0 1 (((fF SL 0 1) + 1))))) rfl 1 (by decide) (hT _ m5_102) (fun _ h9 => h9) rfl (fk_get fk_cX12_customer_2 11 rfl) ?_
              refine lv_iconst (v := 1) hx hb (fk_get fk_cX12_customer_2 12 rfl) (by decide) ?_
              refine lv_isub hx hb (fk_get fk_cX12_customer_2 13 rfl) ?_
              subst hQ
              have hpost : ((((fF SL 0 1) + 1) - 1) : Int32) = (if 0 ≤ kind ∧ kind ≤ 6 then if 0 ≤ v ∧ v ≤ 9 then if 10 ≤ wants ∧ wants ≤ 99 then if fF S 0 1 = 6 then -4 else fF S 0 1 else -2 else -2 else -1) ∧ (setF (setA (setA (setA (setA SL 1 (upd (fA SL 1) (((12 * n) + 0)) (kind))) 1 (upd (fA (setA SL 1 (upd (fA SL 1) (((12 * n) + 0)) (kind))) 1) (((12 * n) + 1)) (v))) 1 (upd (fA (setA (setA SL 1 (upd (fA SL 1) (((12 * n) + 0)) (kind))) 1 (upd (fA (setA SL 1 (upd (fA SL 1) (((12 * n) + 0)) (kind))) 1) (((12 * n) + 1)) (v))) 1) (((12 * n) + 2)) (wants))) 1 (upd (fA (setA (setA (setA SL 1 (upd (fA SL 1) (((12 * n) + 0)) (kind))) 1 (upd (fA (setA SL 1 (upd (fA SL 1) (((12 * n) + 0)) (kind))) 1) (((12 * n) + 1)) (v))) 1 (upd (fA (setA (setA SL 1 (upd (fA SL 1) (((12 * n) + 0)) (kind))) 1 (upd (fA (setA SL 1 (upd (fA SL 1) (((12 * n) + 0)) (kind))) 1) (((12 * n) + 1)) (v))) 1) (((12 * n) + 2)) (wants))) 1) (((12 * n) + 3)) (3))) 0 1 (((fF SL 0 1) + 1))) = (if 0 ≤ kind ∧ kind ≤ 6 then if 0 ≤ v ∧ v ≤ 9 then if 10 ≤ wants ∧ wants ≤ 99 then if fF S 0 1 = 6 then (setF S 0 8 0) else setF (setA (setF S 0 8 0) 1 (cs (fA S 1) n kind v wants)) 0 1 (nI (n + 1)) else (setF S 0 8 0) else (setF S 0 8 0) else (setF S 0 8 0)) := by
                refine ⟨?_, ?_⟩ <;> (repeat (first | rw [if_pos (by assumption)] | rw [if_neg (by assumption)])) <;> first | rfl | (rw [show fF SL 0 1 = fF S 0 1 by rw [hSL]; rfl]; exact Int32.add_sub_cancel _ _) | (rw [show fF SL 0 1 = nI n by rw [hSL]; exact hn, nI_1, hSL]; simp only [setA_setA, fA_setA, if_true]; rfl)
              exact W.iret (v := (((fF SL 0 1) + 1) - 1)) hx hb hr (fun t_ ht_ hW_ => ⟨⟨(((fF SL 0 1) + 1) - 1), (setF (setA (setA (setA (setA SL 1 (upd (fA SL 1) (((12 * n) + 0)) (kind))) 1 (upd (fA (setA SL 1 (upd (fA SL 1) (((12 * n) + 0)) (kind))) 1) (((12 * n) + 1)) (v))) 1 (upd (fA (setA (setA SL 1 (upd (fA SL 1) (((12 * n) + 0)) (kind))) 1 (upd (fA (setA SL 1 (upd (fA SL 1) (((12 * n) + 0)) (kind))) 1) (((12 * n) + 1)) (v))) 1) (((12 * n) + 2)) (wants))) 1 (upd (fA (setA (setA (setA SL 1 (upd (fA SL 1) (((12 * n) + 0)) (kind))) 1 (upd (fA (setA SL 1 (upd (fA SL 1) (((12 * n) + 0)) (kind))) 1) (((12 * n) + 1)) (v))) 1 (upd (fA (setA (setA SL 1 (upd (fA SL 1) (((12 * n) + 0)) (kind))) 1 (upd (fA (setA SL 1 (upd (fA SL 1) (((12 * n) + 0)) (kind))) 1) (((12 * n) + 1)) (v))) 1) (((12 * n) + 2)) (wants))) 1) (((12 * n) + 3)) (3))) 0 1 (((fF SL 0 1) + 1))), rfl, hpost, by rw [ht_]; exact hP, va_K.moved hW_.alike hK, hD⟩, hS.F ht_⟩) hS.2.2 (fk_get fk_cX12_customer_2 14 rfl)
            have hlt : k < 12 := Nat.lt_of_not_le (fun z => c_15 ((nI_leI (a := 12) (b := k) (by omega) (by omega)).mpr z))
            refine lv_aload_n hx hb (fk_get fk_cX12_customer_1 4 rfl) rfl (lv_at hl 1 rfl) ?_
            refine lv_aload_n hx hb (fk_get fk_cX12_customer_1 5 rfl) rfl (lv_at hl 1 rfl) ?_
            refine va_get (D := G.1) (ci := 14) (v := .int ((fF SL 0 1))) (C := RX12) (T := TX12) (N := 49) hx hb hT inX12 hown hK hP 0 (ix_at (by decide) (cR_0 G ad SL)) rfl 1 (by decide) (hT _ m5_102) (fun _ h9 => h9) rfl (fk_get fk_cX12_customer_1 6 rfl) ?_
            refine lv_iload hx hb (fk_get fk_cX12_customer_1 7 rfl) (lv_at hl 0 rfl) ?_
            refine lv_iconst (v := 0) hx hb (fk_get fk_cX12_customer_1 8 rfl) (by decide) ?_
            have hFc := va_self hD hS hA
            refine va_callv (va_runV (As := [.int ((fF SL 0 1)), .int ((nI k)), .int (0)]) (rest := []) ⟨hx, hb, hml, hown, hT⟩ (c_put l G ad SL H_13.size ((fF SL 0 1)) ((nI k)) (0) (((12 * n) + k)) (n_add (n_mul (rfl) ((show fF SL 0 1 = nI n by rw [hSL]; exact hn))) (rfl)) (by omega)) (tV 3 hT m6_102 m6_104 mp_31 m1_17 m6_105 rfl rfl (by decide +kernel) ⟨Nat.le_of_ble_eq_true rfl, Nat.le_of_ble_eq_true rfl⟩) ⟨PcW_blind, va_recv hK hP (ci := 14) (q0 := 0) rfl (ix_at (by decide) (cR_0 G ad SL)), PcW_of hP hK hD _⟩ rfl rfl hl.1 rfl (lv_room (Nat.le_of_ble_eq_true rfl)) (fk_get fk_cX12_customer_1 9 rfl) ⟨Nat.zero_le _, Nat.zero_le _⟩) hS (fun q _ h => hFc q h) hFc (fun S_30 t_ H locs ht_ hvm_ hw_29 hB_ hz_ hk_ hS => ?_)
            obtain ⟨hP, -, hD1_⟩ := hB_
            rw [ht_] at hP
            have hD : va_D A (wR G ad S_30) := hD1_.weaken (fun k q _ h => hFc q.1 h)
            try dsimp only at hw_29
            subst hw_29
            refine lv_iinc (v := (nI (k + 1))) (lv' := [(4, .int ((nI (k + 1)))), (0, .ref (ad 0)), (1, .int (kind)), (2, .int (v)), (3, .int (wants))]) hx hb (fk_get fk_cX12_customer_1 10 rfl) hl (k := 0) rfl ((nI_1 k)) (by decide) rfl (fun ls hl => ?_)
            refine lv_goto (tgt := 63) hx hb (fk_get fk_cX12_customer_1 11 rfl) (by decide) ?_
            exact ih (k + 1) (setA SL 1 (upd (fA SL 1) (((12 * n) + k)) (0))) _ _ ls (by omega) (by omega) (by rw [hSL]; exact zs_step _ _ n k) hP hD hS (lv_sub hl [0, 1, 2, 3, 4] rfl)
        exact lp_11 (13) (0) (setF S 0 8 (0)) _ _ ls (by omega) (by omega) (zs_0 _ n) hP hD hS (lv_sub hl [0, 1, 2, 3, 4] rfl)
      refine lv_bipush (v := (-4)) hx hb (fk_get fk_cX12_customer_0 29 rfl) (by decide) ?_
      subst hQ
      have hpost : ((-4) : Int32) = (if 0 ≤ kind ∧ kind ≤ 6 then if 0 ≤ v ∧ v ≤ 9 then if 10 ≤ wants ∧ wants ≤ 99 then if fF S 0 1 = 6 then -4 else fF S 0 1 else -2 else -2 else -1) ∧ (setF S 0 8 (0)) = (if 0 ≤ kind ∧ kind ≤ 6 then if 0 ≤ v ∧ v ≤ 9 then if 10 ≤ wants ∧ wants ≤ 99 then if fF S 0 1 = 6 then (setF S 0 8 0) else setF (setA (setF S 0 8 0) 1 (cs (fA S 1) n kind v wants)) 0 1 (nI (n + 1)) else (setF S 0 8 0) else (setF S 0 8 0) else (setF S 0 8 0)) := by
        refine ⟨?_, ?_⟩ <;> (repeat (first | rw [if_pos (by assumption)] | rw [if_neg (by assumption)])) <;> first | rfl | (rw [show fF SL 0 1 = fF S 0 1 by rw [hSL]; rfl]; exact Int32.add_sub_cancel _ _) | (rw [show fF SL 0 1 = nI n by rw [hSL]; exact hn, nI_1, hSL]; simp only [setA_setA, fA_setA, if_true]; rfl)
      exact W.iret (v := (-4)) hx hb hr (fun t_ ht_ hW_ => ⟨⟨(-4), (setF S 0 8 (0)), rfl, hpost, by rw [ht_]; exact hP, va_K.moved hW_.alike hK, hD⟩, hS.F ht_⟩) hS.2.2 (fk_get fk_cX12_customer_0 30 rfl)
    have p_c_9 := if1_f hw_8 c_9
    refine lv_bipush (v := (-2)) hx hb (fk_get fk_cX12_customer_0 23 rfl) (by decide) ?_
    subst hQ
    have hpost : ((-2) : Int32) = (if 0 ≤ kind ∧ kind ≤ 6 then if 0 ≤ v ∧ v ≤ 9 then if 10 ≤ wants ∧ wants ≤ 99 then if fF S 0 1 = 6 then -4 else fF S 0 1 else -2 else -2 else -1) ∧ (setF S 0 8 (0)) = (if 0 ≤ kind ∧ kind ≤ 6 then if 0 ≤ v ∧ v ≤ 9 then if 10 ≤ wants ∧ wants ≤ 99 then if fF S 0 1 = 6 then (setF S 0 8 0) else setF (setA (setF S 0 8 0) 1 (cs (fA S 1) n kind v wants)) 0 1 (nI (n + 1)) else (setF S 0 8 0) else (setF S 0 8 0) else (setF S 0 8 0)) := by
      refine ⟨?_, ?_⟩ <;> (repeat (first | rw [if_pos (by assumption)] | rw [if_neg (by assumption)])) <;> first | rfl | (rw [show fF SL 0 1 = fF S 0 1 by rw [hSL]; rfl]; exact Int32.add_sub_cancel _ _) | (rw [show fF SL 0 1 = nI n by rw [hSL]; exact hn, nI_1, hSL]; simp only [setA_setA, fA_setA, if_true]; rfl)
    exact W.iret (v := (-2)) hx hb hr (fun t_ ht_ hW_ => ⟨⟨(-2), (setF S 0 8 (0)), rfl, hpost, by rw [ht_]; exact hP, va_K.moved hW_.alike hK, hD⟩, hS.F ht_⟩) hS.2.2 (fk_get fk_cX12_customer_0 24 rfl)
  have p_c_3 := if1_f hw_2 c_3
  refine lv_iconst (v := (-1)) hx hb (fk_get fk_cX12_customer_0 9 rfl) (by decide) ?_
  subst hQ
  have hpost : ((-1) : Int32) = (if 0 ≤ kind ∧ kind ≤ 6 then if 0 ≤ v ∧ v ≤ 9 then if 10 ≤ wants ∧ wants ≤ 99 then if fF S 0 1 = 6 then -4 else fF S 0 1 else -2 else -2 else -1) ∧ (setF S 0 8 (0)) = (if 0 ≤ kind ∧ kind ≤ 6 then if 0 ≤ v ∧ v ≤ 9 then if 10 ≤ wants ∧ wants ≤ 99 then if fF S 0 1 = 6 then (setF S 0 8 0) else setF (setA (setF S 0 8 0) 1 (cs (fA S 1) n kind v wants)) 0 1 (nI (n + 1)) else (setF S 0 8 0) else (setF S 0 8 0) else (setF S 0 8 0)) := by
    refine ⟨?_, ?_⟩ <;> (repeat (first | rw [if_pos (by assumption)] | rw [if_neg (by assumption)])) <;> first | rfl | (rw [show fF SL 0 1 = fF S 0 1 by rw [hSL]; rfl]; exact Int32.add_sub_cancel _ _) | (rw [show fF SL 0 1 = nI n by rw [hSL]; exact hn, nI_1, hSL]; simp only [setA_setA, fA_setA, if_true]; rfl)
  exact W.iret (v := (-1)) hx hb hr (fun t_ ht_ hW_ => ⟨⟨(-1), (setF S 0 8 (0)), rfl, hpost, by rw [ht_]; exact hP, va_K.moved hW_.alike hK, hD⟩, hS.F ht_⟩) hS.2.2 (fk_get fk_cX12_customer_0 10 rfl)
