set_option maxHeartbeats 800000 in
set_option maxRecDepth 100000 in
theorem c_jchk15 (l : Launch) (x y : Int32) (h0 : ¬ x < 0) (h1 : x < y) : Met l yJ15_checkIndex_7cf53 (Cond.code yJ15_checkIndex_7cf53 cJ15_checkIndex_7cf53 2 (some .int) :: TBL) ({ frames := 3, cells := 0, slots := 0, locals := 90 } : Room) (PcN [.int (x), .int (y)]) (vp_Si (fun (r : Int32) => r = x)) 0 0 (fun _ => False) := by
  refine va_MetF (cc := cJ15_checkIndex_7cf53) (maxL := 2) (ret := (some .int)) (by decide +kernel) rfl ?_
  intro p e s m args below meth c₀ s₁ B hml hv
  obtain ⟨rfl, -⟩ := hv
  have hx := B.exec
  have hb := B.bytes
  have hr := B.returns
  have hT : ∀ w ∈ TBL, w.before ([.int (x), .int (y)] : List Value).toArray s = true := fun w h => atoms_spec (ws := Cond.code yJ15_checkIndex_7cf53 cJ15_checkIndex_7cf53 2 (some .int) :: TBL) B.pre w (List.mem_cons_of_mem _ h)
  have hown : s.vm.findClass "java/util/Objects" = some m.cls := findClass_of_methodNamed B.named
  have hlocks := B.notSynchronized
  have hl := lv_entry ([.int (x), .int (y)]) (n := 2) (Nat.le_of_ble_eq_true rfl)
  rw [lg_entry_eq]
  generalize (lg_sl ([.int (x), .int (y)]) ++ List.replicate (2 - (lg_sl ([.int (x), .int (y)])).length) Slot.unset).toArray = ls at hl ⊢
  have hl : lv_has ls 2 [(0, .int (x)), (1, .int (y))] := hl
  refine W_abs (fun Q hQ => ?_)
  generalize ([.int (x), .int (y)] : List Value).toArray = args at hT hQ ⊢
  refine lv_iload_n hx hb (fk_get fk_cJ15_checkIndex_7cf53_0 0 rfl) rfl (lv_at hl 0 rfl) ?_
  refine lv_iload_n hx hb (fk_get fk_cJ15_checkIndex_7cf53_0 1 rfl) rfl (lv_at hl 1 rfl) ?_
  refine lv_null hx hb (fk_get fk_cJ15_checkIndex_7cf53_0 2 rfl) ?_
  refine vp_callSi (W.runS (As := [.int (x), .int (y), .null]) (rest := []) ⟨hx, hb, hml, hown, hT⟩ (c_jchkN l (x) (y) (by first | assumption | omega) (by first | assumption | omega)) (tS 3 hT m5_51 m3_27 m1_21 m3_28 rfl rfl (by decide +kernel) ⟨Nat.le_of_ble_eq_true rfl, Nat.le_of_ble_eq_true rfl⟩) ⟨PcN_blind, PcN_of _ _ _⟩ rfl rfl hl.1 rfl (lv_room (Nat.le_of_ble_eq_true rfl)) (fk_get fk_cJ15_checkIndex_7cf53_0 3 rfl) ⟨Nat.zero_le _, Nat.zero_le _⟩) (fun r_1 hw_2 => ?_)
  try dsimp only at hw_2
  subst hQ
  have hpost : (r_1 : Int32) = x := by
    assumption
  exact W.iret (v := r_1) hx hb hr (fun t_ ht_ hW_ => ⟨r_1, rfl, hpost, ht_⟩) (fun q h => by cases h) (fk_get fk_cJ15_checkIndex_7cf53_0 4 rfl)
set_option maxHeartbeats 800000 in
set_option maxRecDepth 100000 in
theorem c_jelem (l : Launch) (G : GG) (ad : Nat → Nat) (S : FS) (sz : Nat) (pl nz z iz : Nat) (hLB : LB S pl nz z) (hi : iz < z) (hX : XI S) : Met l yJx4a65c_elementData_915e3 (Cond.code yJx4a65c_elementData_915e3 cJx4a65c_elementData_915e3 2 (some (.object "java/lang/Object")) :: TBL) ({ frames := 2, cells := 0, slots := 0, locals := 64 } : Room) (PcE G (wX G ad S) sz [.ref (ad 61), .int ((nI iz))]) (va_Sq (fun (r : Option Nat) => ∃ jb, jb < 256 ∧ el S iz = some jb ∧ r = some (G.2.2.2 jb))) 0 0 (fun _ => False) := by
  refine va_MetF (cc := cJx4a65c_elementData_915e3) (maxL := 2) (ret := (some (.object "java/lang/Object"))) (by decide +kernel) rfl ?_
  intro p e s m args below meth c₀ s₁ B hml hv
  obtain ⟨rfl, hsz, hP, hK, hD0, hE⟩ := hv
  have hx := B.exec
  have hb := B.bytes
  have hr := B.returns
  have hT : ∀ w ∈ TBL, w.before ([.ref (ad 61), .int ((nI iz))] : List Value).toArray s = true := fun w h => atoms_spec (ws := Cond.code yJx4a65c_elementData_915e3 cJx4a65c_elementData_915e3 2 (some (.object "java/lang/Object")) :: TBL) B.pre w (List.mem_cons_of_mem _ h)
  have hown : s.vm.findClass "java/util/ArrayList" = some m.cls := findClass_of_methodNamed B.named
  have hlocks := B.notSynchronized
  have hD := hD0
  subst hsz
  have hFc : ∀ q, va_A (wX G ad S) s.heap.size q → va_A (wX G ad S) s.heap.size q := fun _ h => h
  have hS : va_S (va_A (wX G ad S) s.heap.size) s.heap s.heap [] := va_S.rf
  have hP : va_P G.1 vwCl (wX G ad S) s.heap := hP
  have hl := lv_entry ([.ref (ad 61), .int ((nI iz))]) (n := 2) (Nat.le_of_ble_eq_true rfl)
  rw [lg_entry_eq]
  generalize (lg_sl ([.ref (ad 61), .int ((nI iz))]) ++ List.replicate (2 - (lg_sl ([.ref (ad 61), .int ((nI iz))])).length) Slot.unset).toArray = ls at hl ⊢
  have hl : lv_has ls 2 [(0, .ref (ad 61)), (1, .int ((nI iz)))] := hl
  refine W_abs (fun Q hQ => ?_)
  generalize ([.ref (ad 61), .int ((nI iz))] : List Value).toArray = args at hT hQ ⊢
  have hzn := hLB.2.2.2.2.2.2.2.2.1
  have hn64 := hLB.2.2.2.2.2.2.1
  refine lv_aload_n hx hb (fk_get fk_cJx4a65c_elementData_915e3_0 0 rfl) rfl (lv_at hl 0 rfl) ?_
  refine va_get (D := G.1) (ci := 1) (v := .ref (ad pl)) (C := RJx4a65c) (T := TJx4a65c) (N := 3) hx hb hT inJx4a65c hown hK hP 61 (ix_at (lt71 (by omega)) (cX_lstB (show fR S 61 1 = some pl from (hLB).1))) rfl 1 (by decide) (hT _ m2_52) (fun _ h9 => h9) rfl (fk_get fk_cJx4a65c_elementData_915e3_0 1 rfl) ?_
  refine lv_iload_n hx hb (fk_get fk_cJx4a65c_elementData_915e3_0 2 rfl) rfl (lv_at hl 1 rfl) ?_
  obtain ⟨jb_5, hb_5, eb_5⟩ := (hLB).2.2.2.2.2.2.2.2.2 iz (by omega)
  refine va_aldq hx hb hK hP pl 6 (ix_at (hLB).2.2.1 (cX_obsn (show LB S pl nz z from hLB))) rfl (by rw [show ((nI iz) : Int32) = nI iz from rfl]; exact vp_in_nI (by have := (hLB).2.2.2.2.2.2.2.2.1; omega) (by have := (hLB).2.2.2.2.2.2.1; omega)) (fk_get fk_cJx4a65c_elementData_915e3_0 3 rfl) ?_
  rw [show ((nI iz) : Int32).toNatClampNeg = iz from by rw [show ((nI iz) : Int32) = nI iz from rfl]; exact nI_clamp (by have := (hLB).2.2.2.2.2.2.1; have := (hLB).2.2.2.2.2.2.2.2.1; omega), eb_5]
  rw [show va_rf ((some jb_5).map G.2.2.2) = .ref (G.2.2.2 jb_5) from rfl]
  subst hQ
  have hpost : ∃ jb, jb < 256 ∧ el S iz = some jb ∧ ((some (G.2.2.2 jb_5)) : Option Nat) = some (G.2.2.2 jb) := by
    exact ⟨jb_5, hb_5, (el_B hLB.1).trans eb_5, rfl⟩
  exact W.aret hx hb hr (Or.inl ⟨_, rfl⟩) (Or.inr ⟨_, rfl⟩) (fun t_ ht_ hW_ => ⟨(some (G.2.2.2 jb_5)), rfl, hpost, ht_⟩) (fun q h => by cases h) (fk_get fk_cJx4a65c_elementData_915e3_0 4 rfl)
set_option maxHeartbeats 800000 in
set_option maxRecDepth 100000 in
theorem c_jget (l : Launch) (G : GG) (ad : Nat → Nat) (S : FS) (sz : Nat) (pl nz z iz : Nat) (hLB : LB S pl nz z) (hi : iz < z) (hX : XI S) : Met l yJx4a65c_get_915e3 (Cond.code yJx4a65c_get_915e3 cJx4a65c_get_915e3 2 (some (.object "java/lang/Object")) :: TBL) ({ frames := 4, cells := 0, slots := 0, locals := 115 } : Room) (PcE G (wX G ad S) sz [.ref (ad 61), .int ((nI iz))]) (va_Sq (fun (r : Option Nat) => ∃ jb, jb < 256 ∧ el S iz = some jb ∧ r = some (G.2.2.2 jb))) 0 0 (fun _ => False) := by
  refine va_MetF (cc := cJx4a65c_get_915e3) (maxL := 2) (ret := (some (.object "java/lang/Object"))) (by decide +kernel) rfl ?_
  intro p e s m args below meth c₀ s₁ B hml hv
  obtain ⟨rfl, hsz, hP, hK, hD0, hE⟩ := hv
  have hx := B.exec
  have hb := B.bytes
  have hr := B.returns
  have hT : ∀ w ∈ TBL, w.before ([.ref (ad 61), .int ((nI iz))] : List Value).toArray s = true := fun w h => atoms_spec (ws := Cond.code yJx4a65c_get_915e3 cJx4a65c_get_915e3 2 (some (.object "java/lang/Object")) :: TBL) B.pre w (List.mem_cons_of_mem _ h)
  have hown : s.vm.findClass "java/util/ArrayList" = some m.cls := findClass_of_methodNamed B.named
  have hlocks := B.notSynchronized
  have hD := hD0
  subst hsz
  have hFc : ∀ q, va_A (wX G ad S) s.heap.size q → va_A (wX G ad S) s.heap.size q := fun _ h => h
  have hS : va_S (va_A (wX G ad S) s.heap.size) s.heap s.heap [] := va_S.rf
  have hP : va_P G.1 vwCl (wX G ad S) s.heap := hP
  have hl := lv_entry ([.ref (ad 61), .int ((nI iz))]) (n := 2) (Nat.le_of_ble_eq_true rfl)
  rw [lg_entry_eq]
  generalize (lg_sl ([.ref (ad 61), .int ((nI iz))]) ++ List.replicate (2 - (lg_sl ([.ref (ad 61), .int ((nI iz))])).length) Slot.unset).toArray = ls at hl ⊢
  have hl : lv_has ls 2 [(0, .ref (ad 61)), (1, .int ((nI iz)))] := hl
  refine W_abs (fun Q hQ => ?_)
  generalize ([.ref (ad 61), .int ((nI iz))] : List Value).toArray = args at hT hQ ⊢
  have hzn := hLB.2.2.2.2.2.2.2.2.1
  have hn64 := hLB.2.2.2.2.2.2.1
  refine lv_iload_n hx hb (fk_get fk_cJx4a65c_get_915e3_0 0 rfl) rfl (lv_at hl 1 rfl) ?_
  refine lv_aload_n hx hb (fk_get fk_cJx4a65c_get_915e3_0 1 rfl) rfl (lv_at hl 0 rfl) ?_
  refine va_get (D := G.1) (ci := 1) (v := .int (fF S 61 2)) (C := RJx4a65c) (T := TJx4a65c) (N := 3) hx hb hT inJx4a65c hown hK hP 61 (ix_at (lt71 (by omega)) (cX_lstB (show fR S 61 1 = some pl from (hLB).1))) rfl 2 (by decide) (hT _ m2_53) (fun _ h9 => h9) rfl (fk_get fk_cJx4a65c_get_915e3_0 2 rfl) ?_
  rw [(show fF S 61 2 = nI z from (hLB).2.2.2.2.2.2.2.1)]
  refine vp_callSi (W.runS (As := [.int ((nI iz)), .int ((nI z))]) (rest := []) ⟨hx, hb, hml, hown, hT⟩ (c_jchk15 l ((nI iz)) ((nI z)) (nI_pos (by omega)) (nI_lt hi (by omega))) (tS 2 hT m5_48 m5_49 m1_29 m5_50 rfl rfl (by decide +kernel) ⟨Nat.le_of_ble_eq_true rfl, Nat.le_of_ble_eq_true rfl⟩) ⟨PcN_blind, PcN_of _ _ _⟩ rfl rfl hl.1 rfl (lv_room (Nat.le_of_ble_eq_true rfl)) (fk_get fk_cJx4a65c_get_915e3_0 3 rfl) ⟨Nat.zero_le _, Nat.zero_le _⟩) (fun r_1 hw_2 => ?_)
  try dsimp only at hw_2
  refine lv_pop hx hb (fk_get fk_cJx4a65c_get_915e3_0 4 rfl) rfl ?_
  refine lv_aload_n hx hb (fk_get fk_cJx4a65c_get_915e3_0 5 rfl) rfl (lv_at hl 0 rfl) ?_
  refine lv_iload_n hx hb (fk_get fk_cJx4a65c_get_915e3_0 6 rfl) rfl (lv_at hl 1 rfl) ?_
  refine va_csq (W.runV (As := [.int ((nI iz))]) (rest := []) ⟨hx, hb, hml, hown, hT⟩ (c_jelem l G ad S s.heap.size (pl) (nz) (z) (iz) (hLB) (by first | assumption | omega) (hX)) (tV 1 hT m5_52 m5_53 m5_54 m1_15 m5_55 rfl rfl (by decide +kernel) ⟨Nat.le_of_ble_eq_true rfl, Nat.le_of_ble_eq_true rfl⟩) ⟨PcE_blind, va_recv hK hP (ci := 1) (q0 := 61) rfl (ix_at (lt71 (by omega)) (cX_lstB (show fR S 61 1 = some pl from (hLB).1))), PcE_of hP hK hD hE hS (fun q h => hFc q h) _⟩ rfl rfl hl.1 rfl (lv_room (Nat.le_of_ble_eq_true rfl)) (fk_get fk_cJx4a65c_get_915e3_0 7 rfl) ⟨Nat.zero_le _, Nat.zero_le _⟩) (fun r_3 hw_4 => ?_)
  try dsimp only at hw_4
  obtain ⟨jb_11, hb_11, eb_11, rfl⟩ := hw_4
  rw [show va_rf (some (G.2.2.2 jb_11)) = .ref (G.2.2.2 jb_11) from rfl]
  subst hQ
  have hpost : ∃ jb, jb < 256 ∧ el S iz = some jb ∧ ((some (G.2.2.2 jb_11)) : Option Nat) = some (G.2.2.2 jb) := by
    exact ⟨jb_11, hb_11, eb_11, rfl⟩
  exact W.aret hx hb hr (Or.inl ⟨_, rfl⟩) (Or.inr ⟨_, rfl⟩) (fun t_ ht_ hW_ => ⟨(some (G.2.2.2 jb_11)), rfl, hpost, ht_⟩) (fun q h => by cases h) (fk_get fk_cJx4a65c_get_915e3_0 8 rfl)
theorem tr_nat {x : Int32} {z : Nat} (hz : z < 2 ^ 31) (h0 : ¬ x < 0) (h1 : x < nI z) : ∃ iz, iz < z ∧ x = nI iz := by
  obtain ⟨j, hj, rfl⟩ := nI_of (x := x) h0
  exact ⟨j, ci_lt hj hz h1, rfl⟩
set_option maxHeartbeats 800000 in
set_option maxRecDepth 100000 in
theorem c_x11_traceA (l : Launch) (G : GG) (ad : Nat → Nat) (S : FS) (sz : Nat) (x : Int32) (hLA : LA S) (hX : XI S) : Met l yX11_trace (Cond.code yX11_trace cX11_trace 2 (some .int) :: TBL) ({ frames := 12, cells := 0, slots := 0, locals := 400 } : Room) (PcE G (wX G ad S) sz [.ref (ad 0), .int (x)]) (vp_Si (fun (r : Int32) => (r = -1 ∧ (x < 0 ∨ 20 ≤ x ∨ nI 0 ≤ x)) ∨ ∃ iz jb, x = nI iz ∧ ¬ 20 ≤ x ∧ iz < 0 ∧ jb < 256 ∧ el S iz = some jb ∧ r = vb_c jb)) 0 0 (fun _ => False) := by
  refine Met.ofW (cc := cX11_trace) (maxL := 2) (ret := (some .int)) (by decide) rfl ?_
  intro p e s m args below meth c₀ s₁ B hml hv
  obtain ⟨rfl, hsz, hP, hK, hD0, hE⟩ := hv
  have hx := B.exec
  have hb := B.bytes
  have hr := B.returns
  have hT : ∀ w ∈ TBL, w.before ([.ref (ad 0), .int (x)] : List Value).toArray s = true := fun w h => atoms_spec (ws := Cond.code yX11_trace cX11_trace 2 (some .int) :: TBL) B.pre w (List.mem_cons_of_mem _ h)
  have hown : s.vm.findClass "LittleMore" = some m.cls := findClass_of_methodNamed B.named
  have hlocks := B.notSynchronized
  have hD := hD0
  subst hsz
  have hFc : ∀ q, va_A (wX G ad S) s.heap.size q → va_A (wX G ad S) s.heap.size q := fun _ h => h
  have hS : va_S (va_A (wX G ad S) s.heap.size) s.heap s.heap [] := va_S.rf
  have hP : va_P G.1 vwCl (wX G ad S) s.heap := hP
  have hl := lv_entry ([.ref (ad 0), .int (x)]) (n := 2) (Nat.le_of_ble_eq_true rfl)
  rw [lg_entry_eq]
  generalize (lg_sl ([.ref (ad 0), .int (x)]) ++ List.replicate (2 - (lg_sl ([.ref (ad 0), .int (x)])).length) Slot.unset).toArray = ls at hl ⊢
  have hl : lv_has ls 2 [(0, .ref (ad 0)), (1, .int (x))] := hl
  refine W_abs (fun Q hQ => ?_)
  generalize ([.ref (ad 0), .int (x)] : List Value).toArray = args at hT hQ ⊢
  refine lv_iload_n hx hb (fk_get fk_cX11_trace_0 0 rfl) rfl (lv_at hl 1 rfl) ?_
  refine lv_if_lt (tgt := 21) hx hb (fk_get fk_cX11_trace_0 1 rfl) (by decide) (fun c_1 => ?_) (fun c_1 => ?_)
  · refine lv_iconst (v := (-1)) hx hb (fk_get fk_cX11_trace_0 10 rfl) (by decide) ?_
    subst hQ
    have hpost : (((-1) : Int32) = -1 ∧ (x < 0 ∨ 20 ≤ x ∨ nI 0 ≤ x)) ∨ ∃ iz jb, x = nI iz ∧ ¬ 20 ≤ x ∧ iz < 0 ∧ jb < 256 ∧ el S iz = some jb ∧ ((-1) : Int32) = vb_c jb := by
      first | exact Or.inl ⟨rfl, Or.inl (by assumption)⟩ | exact Or.inl ⟨rfl, Or.inr (Or.inl (by assumption))⟩ | exact Or.inl ⟨rfl, Or.inr (Or.inr (Int32.not_lt.mp (by assumption)))⟩ | exact Or.inl ⟨rfl, Or.inr (Or.inr (Int32.not_lt.mp (show ¬ x < nI 0 by assumption)))⟩
    exact W.iret (v := (-1)) hx hb hr (fun t_ ht_ hW_ => ⟨(-1), rfl, hpost, ht_⟩) (fun q h => by cases h) (fk_get fk_cX11_trace_0 11 rfl)
  refine lv_iload_n hx hb (fk_get fk_cX11_trace_0 2 rfl) rfl (lv_at hl 1 rfl) ?_
  refine lv_bipush (v := 20) hx hb (fk_get fk_cX11_trace_0 3 rfl) (by decide) ?_
  refine lv_icmp_ge (tgt := 21) hx hb (fk_get fk_cX11_trace_0 4 rfl) (by decide) (fun c_2 => ?_) (fun c_2 => ?_)
  · refine lv_iconst (v := (-1)) hx hb (fk_get fk_cX11_trace_0 10 rfl) (by decide) ?_
    subst hQ
    have hpost : (((-1) : Int32) = -1 ∧ (x < 0 ∨ 20 ≤ x ∨ nI 0 ≤ x)) ∨ ∃ iz jb, x = nI iz ∧ ¬ 20 ≤ x ∧ iz < 0 ∧ jb < 256 ∧ el S iz = some jb ∧ ((-1) : Int32) = vb_c jb := by
      first | exact Or.inl ⟨rfl, Or.inl (by assumption)⟩ | exact Or.inl ⟨rfl, Or.inr (Or.inl (by assumption))⟩ | exact Or.inl ⟨rfl, Or.inr (Or.inr (Int32.not_lt.mp (by assumption)))⟩ | exact Or.inl ⟨rfl, Or.inr (Or.inr (Int32.not_lt.mp (show ¬ x < nI 0 by assumption)))⟩
    exact W.iret (v := (-1)) hx hb hr (fun t_ ht_ hW_ => ⟨(-1), rfl, hpost, ht_⟩) (fun q h => by cases h) (fk_get fk_cX11_trace_0 11 rfl)
  refine lv_iload_n hx hb (fk_get fk_cX11_trace_0 5 rfl) rfl (lv_at hl 1 rfl) ?_
  refine lv_aload_n hx hb (fk_get fk_cX11_trace_0 6 rfl) rfl (lv_at hl 0 rfl) ?_
  refine va_get (D := G.1) (ci := 13) (v := .ref (ad 61)) (C := RX11) (T := TX11) (N := 11) hx hb hT inX11 hown hK hP 0 (ix_at (lt71 (by omega)) (cX_0 G ad S)) rfl 5 (by decide) (hT _ m2_74) (fun _ h9 => h9) rfl (fk_get fk_cX11_trace_0 7 rfl) ?_
  refine vp_callSi (W.runV (As := []) (rest := [.int (x)]) ⟨hx, hb, hml, hown, hT⟩ (c_jsize l G ad S s.heap.size  (hX)) (tV 0 hT m5_40 m5_41 m5_42 m1_15 m5_43 rfl rfl (by decide +kernel) ⟨Nat.le_of_ble_eq_true rfl, Nat.le_of_ble_eq_true rfl⟩) ⟨PcW_blind, va_recv hK hP (ci := 1) (q0 := 61) rfl (ix_at (lt71 (by omega)) (cX_lstA (show fR S 61 1 = none from (hLA).1))), PcW_of hP hK hD _⟩ rfl rfl hl.1 rfl (lv_room (Nat.le_of_ble_eq_true rfl)) (fk_get fk_cX11_trace_0 8 rfl) ⟨Nat.zero_le _, Nat.zero_le _⟩) (fun r_3 hw_4 => ?_)
  try dsimp only at hw_4
  have e_ := (hw_4).trans hLA.2
  subst e_
  refine lv_icmp_lt (tgt := 23) hx hb (fk_get fk_cX11_trace_0 9 rfl) (by decide) (fun c_5 => absurd c_5 ((show ¬ x < nI 0 by assumption))) (fun _ => ?_)
  refine lv_iconst (v := (-1)) hx hb (fk_get fk_cX11_trace_0 10 rfl) (by decide) ?_
  subst hQ
  have hpost : (((-1) : Int32) = -1 ∧ (x < 0 ∨ 20 ≤ x ∨ nI 0 ≤ x)) ∨ ∃ iz jb, x = nI iz ∧ ¬ 20 ≤ x ∧ iz < 0 ∧ jb < 256 ∧ el S iz = some jb ∧ ((-1) : Int32) = vb_c jb := by
    first | exact Or.inl ⟨rfl, Or.inl (by assumption)⟩ | exact Or.inl ⟨rfl, Or.inr (Or.inl (by assumption))⟩ | exact Or.inl ⟨rfl, Or.inr (Or.inr (Int32.not_lt.mp (by assumption)))⟩ | exact Or.inl ⟨rfl, Or.inr (Or.inr (Int32.not_lt.mp (show ¬ x < nI 0 by assumption)))⟩
  exact W.iret (v := (-1)) hx hb hr (fun t_ ht_ hW_ => ⟨(-1), rfl, hpost, ht_⟩) (fun q h => by cases h) (fk_get fk_cX11_trace_0 11 rfl)
set_option maxHeartbeats 800000 in
set_option maxRecDepth 100000 in
theorem c_x11_traceB (l : Launch) (G : GG) (ad : Nat → Nat) (S : FS) (sz : Nat) (pl nz z : Nat) (x : Int32) (hLB : LB S pl nz z) (hX : XI S) : Met l yX11_trace (Cond.code yX11_trace cX11_trace 2 (some .int) :: TBL) ({ frames := 12, cells := 0, slots := 0, locals := 400 } : Room) (PcE G (wX G ad S) sz [.ref (ad 0), .int (x)]) (vp_Si (fun (r : Int32) => (r = -1 ∧ (x < 0 ∨ 20 ≤ x ∨ nI z ≤ x)) ∨ ∃ iz jb, x = nI iz ∧ ¬ 20 ≤ x ∧ iz < z ∧ jb < 256 ∧ el S iz = some jb ∧ r = vb_c jb)) 0 0 (fun _ => False) := by
  refine Met.ofW (cc := cX11_trace) (maxL := 2) (ret := (some .int)) (by decide) rfl ?_
  intro p e s m args below meth c₀ s₁ B hml hv
  obtain ⟨rfl, hsz, hP, hK, hD0, hE⟩ := hv
  have hx := B.exec
  have hb := B.bytes
  have hr := B.returns
  have hT : ∀ w ∈ TBL, w.before ([.ref (ad 0), .int (x)] : List Value).toArray s = true := fun w h => atoms_spec (ws := Cond.code yX11_trace cX11_trace 2 (some .int) :: TBL) B.pre w (List.mem_cons_of_mem _ h)
  have hown : s.vm.findClass "LittleMore" = some m.cls := findClass_of_methodNamed B.named
  have hlocks := B.notSynchronized
  have hD := hD0
  subst hsz
  have hFc : ∀ q, va_A (wX G ad S) s.heap.size q → va_A (wX G ad S) s.heap.size q := fun _ h => h
  have hS : va_S (va_A (wX G ad S) s.heap.size) s.heap s.heap [] := va_S.rf
  have hP : va_P G.1 vwCl (wX G ad S) s.heap := hP
  have hl := lv_entry ([.ref (ad 0), .int (x)]) (n := 2) (Nat.le_of_ble_eq_true rfl)
  rw [lg_entry_eq]
  generalize (lg_sl ([.ref (ad 0), .int (x)]) ++ List.replicate (2 - (lg_sl ([.ref (ad 0), .int (x)])).length) Slot.unset).toArray = ls at hl ⊢
  have hl : lv_has ls 2 [(0, .ref (ad 0)), (1, .int (x))] := hl
  refine W_abs (fun Q hQ => ?_)
  generalize ([.ref (ad 0), .int (x)] : List Value).toArray = args at hT hQ ⊢
  have hzn := hLB.2.2.2.2.2.2.2.2.1
  have hn64 := hLB.2.2.2.2.2.2.1
  refine lv_iload_n hx hb (fk_get fk_cX11_trace_0 0 rfl) rfl (lv_at hl 1 rfl) ?_
  refine lv_if_lt (tgt := 21) hx hb (fk_get fk_cX11_trace_0 1 rfl) (by decide) (fun c_1 => ?_) (fun c_1 => ?_)
  · refine lv_iconst (v := (-1)) hx hb (fk_get fk_cX11_trace_0 10 rfl) (by decide) ?_
    subst hQ
    have hpost : (((-1) : Int32) = -1 ∧ (x < 0 ∨ 20 ≤ x ∨ nI z ≤ x)) ∨ ∃ iz jb, x = nI iz ∧ ¬ 20 ≤ x ∧ iz < z ∧ jb < 256 ∧ el S iz = some jb ∧ ((-1) : Int32) = vb_c jb := by
      first | exact Or.inl ⟨rfl, Or.inl (by assumption)⟩ | exact Or.inl ⟨rfl, Or.inr (Or.inl (by assumption))⟩ | exact Or.inl ⟨rfl, Or.inr (Or.inr (Int32.not_lt.mp (by assumption)))⟩ | exact Or.inr ⟨iy, jb_28, rfl, by assumption, hiz, hb_28, eb_28, by assumption⟩
    exact W.iret (v := (-1)) hx hb hr (fun t_ ht_ hW_ => ⟨(-1), rfl, hpost, ht_⟩) (fun q h => by cases h) (fk_get fk_cX11_trace_0 11 rfl)
  refine lv_iload_n hx hb (fk_get fk_cX11_trace_0 2 rfl) rfl (lv_at hl 1 rfl) ?_
  refine lv_bipush (v := 20) hx hb (fk_get fk_cX11_trace_0 3 rfl) (by decide) ?_
  refine lv_icmp_ge (tgt := 21) hx hb (fk_get fk_cX11_trace_0 4 rfl) (by decide) (fun c_2 => ?_) (fun c_2 => ?_)
  · refine lv_iconst (v := (-1)) hx hb (fk_get fk_cX11_trace_0 10 rfl) (by decide) ?_
    subst hQ
    have hpost : (((-1) : Int32) = -1 ∧ (x < 0 ∨ 20 ≤ x ∨ nI z ≤ x)) ∨ ∃ iz jb, x = nI iz ∧ ¬ 20 ≤ x ∧ iz < z ∧ jb < 256 ∧ el S iz = some jb ∧ ((-1) : Int32) = vb_c jb := by
      first | exact Or.inl ⟨rfl, Or.inl (by assumption)⟩ | exact Or.inl ⟨rfl, Or.inr (Or.inl (by assumption))⟩ | exact Or.inl ⟨rfl, Or.inr (Or.inr (Int32.not_lt.mp (by assumption)))⟩ | exact Or.inr ⟨iy, jb_28, rfl, by assumption, hiz, hb_28, eb_28, by assumption⟩
    exact W.iret (v := (-1)) hx hb hr (fun t_ ht_ hW_ => ⟨(-1), rfl, hpost, ht_⟩) (fun q h => by cases h) (fk_get fk_cX11_trace_0 11 rfl)
  refine lv_iload_n hx hb (fk_get fk_cX11_trace_0 5 rfl) rfl (lv_at hl 1 rfl) ?_
  refine lv_aload_n hx hb (fk_get fk_cX11_trace_0 6 rfl) rfl (lv_at hl 0 rfl) ?_
  refine va_get (D := G.1) (ci := 13) (v := .ref (ad 61)) (C := RX11) (T := TX11) (N := 11) hx hb hT inX11 hown hK hP 0 (ix_at (lt71 (by omega)) (cX_0 G ad S)) rfl 5 (by decide) (hT _ m2_74) (fun _ h9 => h9) rfl (fk_get fk_cX11_trace_0 7 rfl) ?_
  refine vp_callSi (W.runV (As := []) (rest := [.int (x)]) ⟨hx, hb, hml, hown, hT⟩ (c_jsize l G ad S s.heap.size  (hX)) (tV 0 hT m5_40 m5_41 m5_42 m1_15 m5_43 rfl rfl (by decide +kernel) ⟨Nat.le_of_ble_eq_true rfl, Nat.le_of_ble_eq_true rfl⟩) ⟨PcW_blind, va_recv hK hP (ci := 1) (q0 := 61) rfl (ix_at (lt71 (by omega)) (cX_lstB (show fR S 61 1 = some pl from (hLB).1))), PcW_of hP hK hD _⟩ rfl rfl hl.1 rfl (lv_room (Nat.le_of_ble_eq_true rfl)) (fk_get fk_cX11_trace_0 8 rfl) ⟨Nat.zero_le _, Nat.zero_le _⟩) (fun r_3 hw_4 => ?_)
  try dsimp only at hw_4
  have e_ := (hw_4).trans hLB.2.2.2.2.2.2.2.1
  subst e_
  refine lv_icmp_lt (tgt := 23) hx hb (fk_get fk_cX11_trace_0 9 rfl) (by decide) (fun c_5 => ?_) (fun c_5 => ?_)
  · obtain ⟨iy, hiz, rfl⟩ := tr_nat (by omega) (by assumption) c_5
    refine lv_aload_n hx hb (fk_get fk_cX11_trace_0 12 rfl) rfl (lv_at hl 0 rfl) ?_
    refine va_get (D := G.1) (ci := 13) (v := .ref (ad 61)) (C := RX11) (T := TX11) (N := 11) hx hb hT inX11 hown hK hP 0 (ix_at (lt71 (by omega)) (cX_0 G ad S)) rfl 5 (by decide) (hT _ m2_74) (fun _ h9 => h9) rfl (fk_get fk_cX11_trace_0 13 rfl) ?_
    refine lv_iload_n hx hb (fk_get fk_cX11_trace_0 14 rfl) rfl (lv_at hl 1 rfl) ?_
    refine va_csq (W.runV (As := [.int ((nI iy))]) (rest := []) ⟨hx, hb, hml, hown, hT⟩ (c_jget l G ad S s.heap.size (pl) (nz) (z) (iy) (hLB) (by first | assumption | omega) (hX)) (tV 1 hT m5_44 m5_45 m5_46 m1_15 m5_47 rfl rfl (by decide +kernel) ⟨Nat.le_of_ble_eq_true rfl, Nat.le_of_ble_eq_true rfl⟩) ⟨PcE_blind, va_recv hK hP (ci := 1) (q0 := 61) rfl (ix_at (lt71 (by omega)) (cX_lstB (show fR S 61 1 = some pl from (hLB).1))), PcE_of hP hK hD hE hS (fun q h => hFc q h) _⟩ rfl rfl hl.1 rfl (lv_room (Nat.le_of_ble_eq_true rfl)) (fk_get fk_cX11_trace_0 15 rfl) ⟨Nat.zero_le _, Nat.zero_le _⟩) (fun r_6 hw_7 => ?_)
    try dsimp only at hw_7
    obtain ⟨jb_28, hb_28, eb_28, rfl⟩ := hw_7
    rw [show va_rf (some (G.2.2.2 jb_28)) = .ref (G.2.2.2 jb_28) from rfl]
    refine va_castE hx hb hown (hT _ m5_56) (box_cell hE hS hb_28) (fk_get fk_cX11_trace_0 16 rfl) ?_
    refine vp_callSi (W.runV (As := []) (rest := []) ⟨hx, hb, hml, hown, hT⟩ (c_jintValue l G ad S s.heap.size (jb_28) (hb_28) (hX)) (tV 0 hT m5_57 m5_58 m5_59 m1_26 m5_60 rfl rfl (by decide +kernel) ⟨Nat.le_of_ble_eq_true rfl, Nat.le_of_ble_eq_true rfl⟩) ⟨PcE_blind, box_cell hE hS hb_28, PcE_of hP hK hD hE hS (fun q h => hFc q h) _⟩ rfl rfl hl.1 rfl (lv_room (Nat.le_of_ble_eq_true rfl)) (fk_get fk_cX11_trace_0 17 rfl) ⟨Nat.zero_le _, Nat.zero_le _⟩) (fun r_8 hw_9 => ?_)
    try dsimp only at hw_9
    subst hQ
    have hpost : ((r_8 : Int32) = -1 ∧ ((nI iy) < 0 ∨ 20 ≤ (nI iy) ∨ nI z ≤ (nI iy))) ∨ ∃ iz jb, (nI iy) = nI iz ∧ ¬ 20 ≤ (nI iy) ∧ iz < z ∧ jb < 256 ∧ el S iz = some jb ∧ (r_8 : Int32) = vb_c jb := by
      first | exact Or.inl ⟨rfl, Or.inl (by assumption)⟩ | exact Or.inl ⟨rfl, Or.inr (Or.inl (by assumption))⟩ | exact Or.inl ⟨rfl, Or.inr (Or.inr (Int32.not_lt.mp (by assumption)))⟩ | exact Or.inr ⟨iy, jb_28, rfl, by assumption, hiz, hb_28, eb_28, by assumption⟩
    exact W.iret (v := r_8) hx hb hr (fun t_ ht_ hW_ => ⟨r_8, rfl, hpost, ht_⟩) (fun q h => by cases h) (fk_get fk_cX11_trace_0 18 rfl)
  refine lv_iconst (v := (-1)) hx hb (fk_get fk_cX11_trace_0 10 rfl) (by decide) ?_
  subst hQ
  have hpost : (((-1) : Int32) = -1 ∧ (x < 0 ∨ 20 ≤ x ∨ nI z ≤ x)) ∨ ∃ iz jb, x = nI iz ∧ ¬ 20 ≤ x ∧ iz < z ∧ jb < 256 ∧ el S iz = some jb ∧ ((-1) : Int32) = vb_c jb := by
    first | exact Or.inl ⟨rfl, Or.inl (by assumption)⟩ | exact Or.inl ⟨rfl, Or.inr (Or.inl (by assumption))⟩ | exact Or.inl ⟨rfl, Or.inr (Or.inr (Int32.not_lt.mp (by assumption)))⟩ | exact Or.inr ⟨iy, jb_28, rfl, by assumption, hiz, hb_28, eb_28, by assumption⟩
  exact W.iret (v := (-1)) hx hb hr (fun t_ ht_ hW_ => ⟨(-1), rfl, hpost, ht_⟩) (fun q h => by cases h) (fk_get fk_cX11_trace_0 11 rfl)
theorem c_x11_trace (l : Launch) (G : GG) (ad : Nat → Nat) (S : FS) (sz : Nat) (z : Nat) (x : Int32) (hzz : fF S 61 2 = nI z) (hz64 : z ≤ 64) (hX : XI S) : Met l yX11_trace (Cond.code yX11_trace cX11_trace 2 (some .int) :: TBL) ({ frames := 12, cells := 0, slots := 0, locals := 400 } : Room) (PcE G (wX G ad S) sz [.ref (ad 0), .int (x)]) (vp_Si (fun (r : Int32) => (r = -1 ∧ (x < 0 ∨ 20 ≤ x ∨ nI z ≤ x)) ∨ ∃ iz jb, x = nI iz ∧ ¬ 20 ≤ x ∧ iz < z ∧ jb < 256 ∧ el S iz = some jb ∧ r = vb_c jb)) 0 0 (fun _ => False) := by
  rcases (XI.list hX).ab with hA | ⟨pl, nz, z', hB⟩
  · have e : z = 0 := ad_eq (by omega) (by omega) (hA.2.symm.trans hzz)
    subst e
    exact c_x11_traceA l G ad S sz x hA hX
  · have e : z = z' := ad_eq (by have := hB.2.2.2.2.2.2.2.2.1; have := hB.2.2.2.2.2.2.1; omega) (by omega) (hB.2.2.2.2.2.2.2.1.symm.trans hzz)
    subst e
    exact c_x11_traceB l G ad S sz pl nz z x hB hX
