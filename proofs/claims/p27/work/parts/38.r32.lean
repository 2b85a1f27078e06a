set_option maxHeartbeats 800000 in
set_option maxRecDepth 100000 in
theorem c_x5_portion (l : Launch) (G : GG) (ad : Nat → Nat) (S : FS) (sz : Nat) (kq i : Nat) (hi : i < 71 + fC S) (hpk : pk i = 7) : Met l yX5_portion (Cond.code yX5_portion cX5_portion 2 (some .int) :: TBL) ({ frames := 2, cells := 0, slots := 0, locals := 64 } : Room) (PcW G (wX G ad S) sz [.ref (ad kq), .ref (ad i)]) (vp_Si (fun (r : Int32) => r = fF S i 4)) 0 0 (fun _ => False) := by
  refine Met.ofW (cc := cX5_portion) (maxL := 2) (ret := (some .int)) (by decide) rfl ?_
  intro p e s m args below meth c₀ s₁ B hml hv
  obtain ⟨rfl, hsz, hP, hK, hD0⟩ := hv
  have hx := B.exec
  have hb := B.bytes
  have hr := B.returns
  have hT : ∀ w ∈ TBL, w.before ([.ref (ad kq), .ref (ad i)] : List Value).toArray s = true := fun w h => atoms_spec (ws := Cond.code yX5_portion cX5_portion 2 (some .int) :: TBL) B.pre w (List.mem_cons_of_mem _ h)
  have hown : s.vm.findClass "LittleMore$Kind" = some m.cls := findClass_of_methodNamed B.named
  have hlocks := B.notSynchronized
  have hD := hD0
  have hP : va_P G.1 vwCl (wX G ad S) s.heap := hP
  have hl := lv_entry ([.ref (ad kq), .ref (ad i)]) (n := 2) (Nat.le_of_ble_eq_true rfl)
  rw [lg_entry_eq]
  generalize (lg_sl ([.ref (ad kq), .ref (ad i)]) ++ List.replicate (2 - (lg_sl ([.ref (ad kq), .ref (ad i)])).length) Slot.unset).toArray = ls at hl ⊢
  have hl : lv_has ls 2 [(0, .ref (ad kq)), (1, .ref (ad i))] := hl
  refine W_abs (fun Q hQ => ?_)
  generalize ([.ref (ad kq), .ref (ad i)] : List Value).toArray = args at hT hQ ⊢
  refine lv_aload_n hx hb (fk_get fk_cX5_portion_0 0 rfl) rfl (lv_at hl 1 rfl) ?_
  refine va_get (D := G.1) (ci := 5) (v := .int ((fF S (i) 4))) (C := RX3) (T := TX3) (N := 10) hx hb hT inX3 hown hK hP (i) (ix_at hi (cX_cust (hpk))) rfl 4 (by decide) (hT _ m1_154) (fun _ h9 => h9) rfl (fk_get fk_cX5_portion_0 1 rfl) ?_
  subst hQ
  have hpost : ((fF S (i) 4) : Int32) = fF S i 4 := by
    rfl
  exact W.iret (v := (fF S (i) 4)) hx hb hr (fun t_ ht_ hW_ => ⟨(fF S (i) 4), rfl, hpost, ht_⟩) (fun q h => by cases h) (fk_get fk_cX5_portion_0 2 rfl)
set_option maxHeartbeats 800000 in
set_option maxRecDepth 100000 in
theorem c_x5_patience (l : Launch) (G : GG) (ad : Nat → Nat) (S : FS) (sz : Nat) (kq i : Nat) (hi : i < 71 + fC S) (hpk : pk i = 7) : Met l yX5_patience (Cond.code yX5_patience cX5_patience 2 (some .int) :: TBL) ({ frames := 2, cells := 0, slots := 0, locals := 64 } : Room) (PcW G (wX G ad S) sz [.ref (ad kq), .ref (ad i)]) (vp_Si (fun (r : Int32) => r = fF S i 3)) 0 0 (fun _ => False) := by
  refine Met.ofW (cc := cX5_patience) (maxL := 2) (ret := (some .int)) (by decide) rfl ?_
  intro p e s m args below meth c₀ s₁ B hml hv
  obtain ⟨rfl, hsz, hP, hK, hD0⟩ := hv
  have hx := B.exec
  have hb := B.bytes
  have hr := B.returns
  have hT : ∀ w ∈ TBL, w.before ([.ref (ad kq), .ref (ad i)] : List Value).toArray s = true := fun w h => atoms_spec (ws := Cond.code yX5_patience cX5_patience 2 (some .int) :: TBL) B.pre w (List.mem_cons_of_mem _ h)
  have hown : s.vm.findClass "LittleMore$Kind" = some m.cls := findClass_of_methodNamed B.named
  have hlocks := B.notSynchronized
  have hD := hD0
  have hP : va_P G.1 vwCl (wX G ad S) s.heap := hP
  have hl := lv_entry ([.ref (ad kq), .ref (ad i)]) (n := 2) (Nat.le_of_ble_eq_true rfl)
  rw [lg_entry_eq]
  generalize (lg_sl ([.ref (ad kq), .ref (ad i)]) ++ List.replicate (2 - (lg_sl ([.ref (ad kq), .ref (ad i)])).length) Slot.unset).toArray = ls at hl ⊢
  have hl : lv_has ls 2 [(0, .ref (ad kq)), (1, .ref (ad i))] := hl
  refine W_abs (fun Q hQ => ?_)
  generalize ([.ref (ad kq), .ref (ad i)] : List Value).toArray = args at hT hQ ⊢
  refine lv_aload_n hx hb (fk_get fk_cX5_patience_0 0 rfl) rfl (lv_at hl 1 rfl) ?_
  refine va_get (D := G.1) (ci := 5) (v := .int ((fF S (i) 3))) (C := RX3) (T := TX3) (N := 10) hx hb hT inX3 hown hK hP (i) (ix_at hi (cX_cust (hpk))) rfl 3 (by decide) (hT _ m1_149) (fun _ h9 => h9) rfl (fk_get fk_cX5_patience_0 1 rfl) ?_
  subst hQ
  have hpost : ((fF S (i) 3) : Int32) = fF S i 3 := by
    rfl
  exact W.iret (v := (fF S (i) 3)) hx hb hr (fun t_ ht_ hW_ => ⟨(fF S (i) 3), rfl, hpost, ht_⟩) (fun q h => by cases h) (fk_get fk_cX5_patience_0 2 rfl)
set_option maxHeartbeats 800000 in
set_option maxRecDepth 100000 in
theorem c_x0_portion (l : Launch) (G : GG) (ad : Nat → Nat) (S : FS) (sz : Nat) (kq i : Nat) (hi : i < 71 + fC S) (hpk : pk i = 7) : Met l yX0_portion (Cond.code yX0_portion cX0_portion 2 (some .int) :: TBL) ({ frames := 2, cells := 0, slots := 0, locals := 64 } : Room) (PcW G (wX G ad S) sz [.ref (ad kq), .ref (ad i)]) (vp_Si (fun (r : Int32) => r = fF S i 4 / 2)) 0 0 (fun _ => False) := by
  refine Met.ofW (cc := cX0_portion) (maxL := 2) (ret := (some .int)) (by decide) rfl ?_
  intro p e s m args below meth c₀ s₁ B hml hv
  obtain ⟨rfl, hsz, hP, hK, hD0⟩ := hv
  have hx := B.exec
  have hb := B.bytes
  have hr := B.returns
  have hT : ∀ w ∈ TBL, w.before ([.ref (ad kq), .ref (ad i)] : List Value).toArray s = true := fun w h => atoms_spec (ws := Cond.code yX0_portion cX0_portion 2 (some .int) :: TBL) B.pre w (List.mem_cons_of_mem _ h)
  have hown : s.vm.findClass "LittleMore$Child" = some m.cls := findClass_of_methodNamed B.named
  have hlocks := B.notSynchronized
  have hD := hD0
  have hP : va_P G.1 vwCl (wX G ad S) s.heap := hP
  have hl := lv_entry ([.ref (ad kq), .ref (ad i)]) (n := 2) (Nat.le_of_ble_eq_true rfl)
  rw [lg_entry_eq]
  generalize (lg_sl ([.ref (ad kq), .ref (ad i)]) ++ List.replicate (2 - (lg_sl ([.ref (ad kq), .ref (ad i)])).length) Slot.unset).toArray = ls at hl ⊢
  have hl : lv_has ls 2 [(0, .ref (ad kq)), (1, .ref (ad i))] := hl
  refine W_abs (fun Q hQ => ?_)
  generalize ([.ref (ad kq), .ref (ad i)] : List Value).toArray = args at hT hQ ⊢
  refine lv_aload_n hx hb (fk_get fk_cX0_portion_0 0 rfl) rfl (lv_at hl 1 rfl) ?_
  refine va_get (D := G.1) (ci := 5) (v := .int ((fF S (i) 4))) (C := RX3) (T := TX3) (N := 10) hx hb hT inX3 hown hK hP (i) (ix_at hi (cX_cust (hpk))) rfl 4 (by decide) (hT _ m1_155) (fun _ h9 => h9) rfl (fk_get fk_cX0_portion_0 1 rfl) ?_
  refine lv_iconst (v := 2) hx hb (fk_get fk_cX0_portion_0 2 rfl) (by decide) ?_
  refine lv_idiv hx hb (fk_get fk_cX0_portion_0 3 rfl) (by decide) ?_
  subst hQ
  have hpost : (((fF S (i) 4) / 2) : Int32) = fF S i 4 / 2 := by
    rfl
  exact W.iret (v := ((fF S (i) 4) / 2)) hx hb hr (fun t_ ht_ hW_ => ⟨((fF S (i) 4) / 2), rfl, hpost, ht_⟩) (fun q h => by cases h) (fk_get fk_cX0_portion_0 4 rfl)
set_option maxHeartbeats 800000 in
set_option maxRecDepth 100000 in
theorem c_x0_patience (l : Launch) (G : GG) (ad : Nat → Nat) (S : FS) (sz : Nat) (kq i : Nat) (hi : i < 71 + fC S) (hpk : pk i = 7) : Met l yX0_patience (Cond.code yX0_patience cX0_patience 2 (some .int) :: TBL) ({ frames := 2, cells := 0, slots := 0, locals := 64 } : Room) (PcW G (wX G ad S) sz [.ref (ad kq), .ref (ad i)]) (vp_Si (fun (r : Int32) => r = 99)) 0 0 (fun _ => False) := by
  refine Met.ofW (cc := cX0_patience) (maxL := 2) (ret := (some .int)) (by decide) rfl ?_
  intro p e s m args below meth c₀ s₁ B hml hv
  obtain ⟨rfl, hsz, hP, hK, hD0⟩ := hv
  have hx := B.exec
  have hb := B.bytes
  have hr := B.returns
  have hT : ∀ w ∈ TBL, w.before ([.ref (ad kq), .ref (ad i)] : List Value).toArray s = true := fun w h => atoms_spec (ws := Cond.code yX0_patience cX0_patience 2 (some .int) :: TBL) B.pre w (List.mem_cons_of_mem _ h)
  have hown : s.vm.findClass "LittleMore$Child" = some m.cls := findClass_of_methodNamed B.named
  have hlocks := B.notSynchronized
  have hD := hD0
  have hP : va_P G.1 vwCl (wX G ad S) s.heap := hP
  have hl := lv_entry ([.ref (ad kq), .ref (ad i)]) (n := 2) (Nat.le_of_ble_eq_true rfl)
  rw [lg_entry_eq]
  generalize (lg_sl ([.ref (ad kq), .ref (ad i)]) ++ List.replicate (2 - (lg_sl ([.ref (ad kq), .ref (ad i)])).length) Slot.unset).toArray = ls at hl ⊢
  have hl : lv_has ls 2 [(0, .ref (ad kq)), (1, .ref (ad i))] := hl
  refine W_abs (fun Q hQ => ?_)
  generalize ([.ref (ad kq), .ref (ad i)] : List Value).toArray = args at hT hQ ⊢
  refine lv_bipush (v := 99) hx hb (fk_get fk_cX0_patience_0 0 rfl) (by decide) ?_
  subst hQ
  have hpost : (99 : Int32) = 99 := by
    rfl
  exact W.iret (v := 99) hx hb hr (fun t_ ht_ hW_ => ⟨99, rfl, hpost, ht_⟩) (fun q h => by cases h) (fk_get fk_cX0_patience_0 1 rfl)
set_option maxHeartbeats 800000 in
set_option maxRecDepth 100000 in
theorem c_x4_patience (l : Launch) (G : GG) (ad : Nat → Nat) (S : FS) (sz : Nat) (kq i : Nat) (hi : i < 71 + fC S) (hpk : pk i = 7) : Met l yX4_patience (Cond.code yX4_patience cX4_patience 2 (some .int) :: TBL) ({ frames := 2, cells := 0, slots := 0, locals := 64 } : Room) (PcW G (wX G ad S) sz [.ref (ad kq), .ref (ad i)]) (vp_Si (fun (r : Int32) => r = fF S i 3 * 2)) 0 0 (fun _ => False) := by
  refine Met.ofW (cc := cX4_patience) (maxL := 2) (ret := (some .int)) (by decide) rfl ?_
  intro p e s m args below meth c₀ s₁ B hml hv
  obtain ⟨rfl, hsz, hP, hK, hD0⟩ := hv
  have hx := B.exec
  have hb := B.bytes
  have hr := B.returns
  have hT : ∀ w ∈ TBL, w.before ([.ref (ad kq), .ref (ad i)] : List Value).toArray s = true := fun w h => atoms_spec (ws := Cond.code yX4_patience cX4_patience 2 (some .int) :: TBL) B.pre w (List.mem_cons_of_mem _ h)
  have hown : s.vm.findClass "LittleMore$Gentle" = some m.cls := findClass_of_methodNamed B.named
  have hlocks := B.notSynchronized
  have hD := hD0
  have hP : va_P G.1 vwCl (wX G ad S) s.heap := hP
  have hl := lv_entry ([.ref (ad kq), .ref (ad i)]) (n := 2) (Nat.le_of_ble_eq_true rfl)
  rw [lg_entry_eq]
  generalize (lg_sl ([.ref (ad kq), .ref (ad i)]) ++ List.replicate (2 - (lg_sl ([.ref (ad kq), .ref (ad i)])).length) Slot.unset).toArray = ls at hl ⊢
  have hl : lv_has ls 2 [(0, .ref (ad kq)), (1, .ref (ad i))] := hl
  refine W_abs (fun Q hQ => ?_)
  generalize ([.ref (ad kq), .ref (ad i)] : List Value).toArray = args at hT hQ ⊢
  refine lv_aload_n hx hb (fk_get fk_cX4_patience_0 0 rfl) rfl (lv_at hl 1 rfl) ?_
  refine va_get (D := G.1) (ci := 5) (v := .int ((fF S (i) 3))) (C := RX3) (T := TX3) (N := 10) hx hb hT inX3 hown hK hP (i) (ix_at hi (cX_cust (hpk))) rfl 3 (by decide) (hT _ m1_148) (fun _ h9 => h9) rfl (fk_get fk_cX4_patience_0 1 rfl) ?_
  refine lv_iconst (v := 2) hx hb (fk_get fk_cX4_patience_0 2 rfl) (by decide) ?_
  refine lv_imul hx hb (fk_get fk_cX4_patience_0 3 rfl) ?_
  subst hQ
  have hpost : (((fF S (i) 3) * 2) : Int32) = fF S i 3 * 2 := by
    rfl
  exact W.iret (v := ((fF S (i) 3) * 2)) hx hb hr (fun t_ ht_ hW_ => ⟨((fF S (i) 3) * 2), rfl, hpost, ht_⟩) (fun q h => by cases h) (fk_get fk_cX4_patience_0 4 rfl)
set_option maxHeartbeats 800000 in
set_option maxRecDepth 100000 in
theorem c_x8_patience (l : Launch) (G : GG) (ad : Nat → Nat) (S : FS) (sz : Nat) (kq i : Nat) (hi : i < 71 + fC S) (hpk : pk i = 7) : Met l yX8_patience (Cond.code yX8_patience cX8_patience 2 (some .int) :: TBL) ({ frames := 2, cells := 0, slots := 0, locals := 64 } : Room) (PcW G (wX G ad S) sz [.ref (ad kq), .ref (ad i)]) (vp_Si (fun (r : Int32) => r = fF S i 3 / 2)) 0 0 (fun _ => False) := by
  refine Met.ofW (cc := cX8_patience) (maxL := 2) (ret := (some .int)) (by decide) rfl ?_
  intro p e s m args below meth c₀ s₁ B hml hv
  obtain ⟨rfl, hsz, hP, hK, hD0⟩ := hv
  have hx := B.exec
  have hb := B.bytes
  have hr := B.returns
  have hT : ∀ w ∈ TBL, w.before ([.ref (ad kq), .ref (ad i)] : List Value).toArray s = true := fun w h => atoms_spec (ws := Cond.code yX8_patience cX8_patience 2 (some .int) :: TBL) B.pre w (List.mem_cons_of_mem _ h)
  have hown : s.vm.findClass "LittleMore$Strict" = some m.cls := findClass_of_methodNamed B.named
  have hlocks := B.notSynchronized
  have hD := hD0
  have hP : va_P G.1 vwCl (wX G ad S) s.heap := hP
  have hl := lv_entry ([.ref (ad kq), .ref (ad i)]) (n := 2) (Nat.le_of_ble_eq_true rfl)
  rw [lg_entry_eq]
  generalize (lg_sl ([.ref (ad kq), .ref (ad i)]) ++ List.replicate (2 - (lg_sl ([.ref (ad kq), .ref (ad i)])).length) Slot.unset).toArray = ls at hl ⊢
  have hl : lv_has ls 2 [(0, .ref (ad kq)), (1, .ref (ad i))] := hl
  refine W_abs (fun Q hQ => ?_)
  generalize ([.ref (ad kq), .ref (ad i)] : List Value).toArray = args at hT hQ ⊢
  refine lv_aload_n hx hb (fk_get fk_cX8_patience_0 0 rfl) rfl (lv_at hl 1 rfl) ?_
  refine va_get (D := G.1) (ci := 5) (v := .int ((fF S (i) 3))) (C := RX3) (T := TX3) (N := 10) hx hb hT inX3 hown hK hP (i) (ix_at hi (cX_cust (hpk))) rfl 3 (by decide) (hT _ m1_150) (fun _ h9 => h9) rfl (fk_get fk_cX8_patience_0 1 rfl) ?_
  refine lv_iconst (v := 2) hx hb (fk_get fk_cX8_patience_0 2 rfl) (by decide) ?_
  refine lv_idiv hx hb (fk_get fk_cX8_patience_0 3 rfl) (by decide) ?_
  subst hQ
  have hpost : (((fF S (i) 3) / 2) : Int32) = fF S i 3 / 2 := by
    rfl
  exact W.iret (v := ((fF S (i) 3) / 2)) hx hb hr (fun t_ ht_ hW_ => ⟨((fF S (i) 3) / 2), rfl, hpost, ht_⟩) (fun q h => by cases h) (fk_get fk_cX8_patience_0 4 rfl)
set_option maxHeartbeats 800000 in
set_option maxRecDepth 100000 in
theorem c_x5_leaves (l : Launch) (G : GG) (ad : Nat → Nat) (S : FS) (sz : Nat) (kq i : Nat) (hi : i < 71 + fC S) (hpk : pk i = 7) : Met l yX5_leaves (Cond.code yX5_leaves cX5_leaves 2 (some .boolean) :: TBL) ({ frames := 2, cells := 0, slots := 0, locals := 64 } : Room) (PcW G (wX G ad S) sz [.ref (ad kq), .ref (ad i)]) (vp_Si (fun (r : Int32) => r = 0)) 0 0 (fun _ => False) := by
  refine Met.ofW (cc := cX5_leaves) (maxL := 2) (ret := (some .boolean)) (by decide) rfl ?_
  intro p e s m args below meth c₀ s₁ B hml hv
  obtain ⟨rfl, hsz, hP, hK, hD0⟩ := hv
  have hx := B.exec
  have hb := B.bytes
  have hr := B.returns
  have hT : ∀ w ∈ TBL, w.before ([.ref (ad kq), .ref (ad i)] : List Value).toArray s = true := fun w h => atoms_spec (ws := Cond.code yX5_leaves cX5_leaves 2 (some .boolean) :: TBL) B.pre w (List.mem_cons_of_mem _ h)
  have hown : s.vm.findClass "LittleMore$Kind" = some m.cls := findClass_of_methodNamed B.named
  have hlocks := B.notSynchronized
  have hD := hD0
  have hP : va_P G.1 vwCl (wX G ad S) s.heap := hP
  have hl := lv_entry ([.ref (ad kq), .ref (ad i)]) (n := 2) (Nat.le_of_ble_eq_true rfl)
  rw [lg_entry_eq]
  generalize (lg_sl ([.ref (ad kq), .ref (ad i)]) ++ List.replicate (2 - (lg_sl ([.ref (ad kq), .ref (ad i)])).length) Slot.unset).toArray = ls at hl ⊢
  have hl : lv_has ls 2 [(0, .ref (ad kq)), (1, .ref (ad i))] := hl
  refine W_abs (fun Q hQ => ?_)
  generalize ([.ref (ad kq), .ref (ad i)] : List Value).toArray = args at hT hQ ⊢
  refine lv_iconst (v := 0) hx hb (fk_get fk_cX5_leaves_0 0 rfl) (by decide) ?_
  subst hQ
  have hpost : (0 : Int32) = 0 := by
    rfl
  exact W.zret (v := 0) hx hb hr rfl (fun t_ ht_ hW_ => ⟨0, rfl, hpost, ht_⟩) (fun q h => by cases h) (fk_get fk_cX5_leaves_0 1 rfl)
set_option maxHeartbeats 800000 in
set_option maxRecDepth 100000 in
theorem c_x6_leaves (l : Launch) (G : GG) (ad : Nat → Nat) (S : FS) (sz : Nat) (kq i : Nat) (hi : i < 71 + fC S) (hpk : pk i = 7) : Met l yX6_leaves (Cond.code yX6_leaves cX6_leaves 2 (some .boolean) :: TBL) ({ frames := 2, cells := 0, slots := 0, locals := 64 } : Room) (PcW G (wX G ad S) sz [.ref (ad kq), .ref (ad i)]) (vp_Si (fun (r : Int32) => r = if 3 ≤ fF S i 7 then 1 else 0)) 0 0 (fun _ => False) := by
  refine Met.ofW (cc := cX6_leaves) (maxL := 2) (ret := (some .boolean)) (by decide) rfl ?_
  intro p e s m args below meth c₀ s₁ B hml hv
  obtain ⟨rfl, hsz, hP, hK, hD0⟩ := hv
  have hx := B.exec
  have hb := B.bytes
  have hr := B.returns
  have hT : ∀ w ∈ TBL, w.before ([.ref (ad kq), .ref (ad i)] : List Value).toArray s = true := fun w h => atoms_spec (ws := Cond.code yX6_leaves cX6_leaves 2 (some .boolean) :: TBL) B.pre w (List.mem_cons_of_mem _ h)
  have hown : s.vm.findClass "LittleMore$Leaving" = some m.cls := findClass_of_methodNamed B.named
  have hlocks := B.notSynchronized
  have hD := hD0
  have hP : va_P G.1 vwCl (wX G ad S) s.heap := hP
  have hl := lv_entry ([.ref (ad kq), .ref (ad i)]) (n := 2) (Nat.le_of_ble_eq_true rfl)
  rw [lg_entry_eq]
  generalize (lg_sl ([.ref (ad kq), .ref (ad i)]) ++ List.replicate (2 - (lg_sl ([.ref (ad kq), .ref (ad i)])).length) Slot.unset).toArray = ls at hl ⊢
  have hl : lv_has ls 2 [(0, .ref (ad kq)), (1, .ref (ad i))] := hl
  refine W_abs (fun Q hQ => ?_)
  generalize ([.ref (ad kq), .ref (ad i)] : List Value).toArray = args at hT hQ ⊢
  refine lv_aload_n hx hb (fk_get fk_cX6_leaves_0 0 rfl) rfl (lv_at hl 1 rfl) ?_
  refine va_get (D := G.1) (ci := 5) (v := .int ((fF S (i) 7))) (C := RX3) (T := TX3) (N := 10) hx hb hT inX3 hown hK hP (i) (ix_at hi (cX_cust (hpk))) rfl 7 (by decide) (hT _ m1_170) (fun _ h9 => h9) rfl (fk_get fk_cX6_leaves_0 1 rfl) ?_
  refine lv_iconst (v := 3) hx hb (fk_get fk_cX6_leaves_0 2 rfl) (by decide) ?_
  refine lv_icmp_lt (tgt := 12) hx hb (fk_get fk_cX6_leaves_0 3 rfl) (by decide) (fun c_1 => ?_) (fun c_1 => ?_)
  · refine lv_iconst (v := 0) hx hb (fk_get fk_cX6_leaves_0 6 rfl) (by decide) ?_
    subst hQ
    have hpost : (0 : Int32) = if 3 ≤ fF S i 7 then 1 else 0 := by
      first | exact is1_t (Int32.not_lt.mp (by assumption)) | exact is1_f (fun q => absurd (show fF S i 7 < 3 by assumption) (Int32.not_lt.mpr q))
    exact W.zret (v := 0) hx hb hr rfl (fun t_ ht_ hW_ => ⟨0, rfl, hpost, ht_⟩) (fun q h => by cases h) (fk_get fk_cX6_leaves_0 7 rfl)
  refine lv_iconst (v := 1) hx hb (fk_get fk_cX6_leaves_0 4 rfl) (by decide) ?_
  refine lv_goto (tgt := 13) hx hb (fk_get fk_cX6_leaves_0 5 rfl) (by decide) ?_
  subst hQ
  have hpost : (1 : Int32) = if 3 ≤ fF S i 7 then 1 else 0 := by
    first | exact is1_t (Int32.not_lt.mp (by assumption)) | exact is1_f (fun q => absurd (show fF S i 7 < 3 by assumption) (Int32.not_lt.mpr q))
  exact W.zret (v := 1) hx hb hr rfl (fun t_ ht_ hW_ => ⟨1, rfl, hpost, ht_⟩) (fun q h => by cases h) (fk_get fk_cX6_leaves_0 7 rfl)
set_option maxHeartbeats 800000 in
set_option maxRecDepth 100000 in
theorem c_x8_portion (l : Launch) (G : GG) (ad : Nat → Nat) (S : FS) (sz : Nat) (kq i : Nat) (hi : i < 71 + fC S) (hpk : pk i = 7) : Met l yX8_portion (Cond.code yX8_portion cX8_portion 2 (some .int) :: TBL) ({ frames := 3, cells := 0, slots := 0, locals := 89 } : Room) (PcW G (wX G ad S) sz [.ref (ad kq), .ref (ad i)]) (vp_Si (fun (r : Int32) => r = if 1 < fF S i 4 - fF S i 6 then fF S i 4 - fF S i 6 else 1)) 0 0 (fun _ => False) := by
  refine Met.ofW (cc := cX8_portion) (maxL := 2) (ret := (some .int)) (by decide) rfl ?_
  intro p e s m args below meth c₀ s₁ B hml hv
  obtain ⟨rfl, hsz, hP, hK, hD0⟩ := hv
  have hx := B.exec
  have hb := B.bytes
  have hr := B.returns
  have hT : ∀ w ∈ TBL, w.before ([.ref (ad kq), .ref (ad i)] : List Value).toArray s = true := fun w h => atoms_spec (ws := Cond.code yX8_portion cX8_portion 2 (some .int) :: TBL) B.pre w (List.mem_cons_of_mem _ h)
  have hown : s.vm.findClass "LittleMore$Strict" = some m.cls := findClass_of_methodNamed B.named
  have hlocks := B.notSynchronized
  have hD := hD0
  have hP : va_P G.1 vwCl (wX G ad S) s.heap := hP
  have hl := lv_entry ([.ref (ad kq), .ref (ad i)]) (n := 2) (Nat.le_of_ble_eq_true rfl)
  rw [lg_entry_eq]
  generalize (lg_sl ([.ref (ad kq), .ref (ad i)]) ++ List.replicate (2 - (lg_sl ([.ref (ad kq), .ref (ad i)])).length) Slot.unset).toArray = ls at hl ⊢
  have hl : lv_has ls 2 [(0, .ref (ad kq)), (1, .ref (ad i))] := hl
  refine W_abs (fun Q hQ => ?_)
  generalize ([.ref (ad kq), .ref (ad i)] : List Value).toArray = args at hT hQ ⊢
  refine lv_iconst (v := 1) hx hb (fk_get fk_cX8_portion_0 0 rfl) (by decide) ?_
  refine lv_aload_n hx hb (fk_get fk_cX8_portion_0 1 rfl) rfl (lv_at hl 1 rfl) ?_
  refine va_get (D := G.1) (ci := 5) (v := .int ((fF S (i) 4))) (C := RX3) (T := TX3) (N := 10) hx hb hT inX3 hown hK hP (i) (ix_at hi (cX_cust (hpk))) rfl 4 (by decide) (hT _ m1_156) (fun _ h9 => h9) rfl (fk_get fk_cX8_portion_0 2 rfl) ?_
  refine lv_aload_n hx hb (fk_get fk_cX8_portion_0 3 rfl) rfl (lv_at hl 1 rfl) ?_
  refine va_get (D := G.1) (ci := 5) (v := .int ((fF S (i) 6))) (C := RX3) (T := TX3) (N := 10) hx hb hT inX3 hown hK hP (i) (ix_at hi (cX_cust (hpk))) rfl 6 (by decide) (hT _ m1_164) (fun _ h9 => h9) rfl (fk_get fk_cX8_portion_0 4 rfl) ?_
  refine lv_isub hx hb (fk_get fk_cX8_portion_0 5 rfl) ?_
  refine vp_callSi (W.runS (As := [.int (1), .int (((fF S (i) 4) - (fF S (i) 6)))]) (rest := []) ⟨hx, hb, hml, hown, hT⟩ (c_jmax l (1) (((fF S (i) 4) - (fF S (i) 6))) ) (tS 2 hT m2_154 m2_139 m1_18 m2_140 rfl rfl (by decide +kernel) ⟨Nat.le_of_ble_eq_true rfl, Nat.le_of_ble_eq_true rfl⟩) ⟨PcN_blind, PcN_of _ _ _⟩ rfl rfl hl.1 rfl (lv_room (Nat.le_of_ble_eq_true rfl)) (fk_get fk_cX8_portion_0 6 rfl) ⟨Nat.zero_le _, Nat.zero_le _⟩) (fun r_1 hw_2 => ?_)
  try dsimp only at hw_2
  subst hQ
  have hpost : (r_1 : Int32) = if 1 < fF S i 4 - fF S i 6 then fF S i 4 - fF S i 6 else 1 := by
    assumption
  exact W.iret (v := r_1) hx hb hr (fun t_ ht_ hW_ => ⟨r_1, rfl, hpost, ht_⟩) (fun q h => by cases h) (fk_get fk_cX8_portion_0 7 rfl)
set_option maxHeartbeats 800000 in
set_option maxRecDepth 100000 in
theorem c_x1_compares (l : Launch) (a_ w_ b_ : Int32) : Met l yX1_compares (Cond.code yX1_compares cX1_compares 3 (some .boolean) :: TBL) ({ frames := 2, cells := 0, slots := 0, locals := 64 } : Room) (PcN [.int (a_), .int (w_), .int (b_)]) (vp_Si (fun (r : Int32) => r = if (if w_ = 0 then a_ < b_ else if w_ = 1 then a_ = b_ else b_ < a_) then 1 else 0)) 0 0 (fun _ => False) := by
  refine Met.ofW (cc := cX1_compares) (maxL := 3) (ret := (some .boolean)) (by decide) rfl ?_
  intro p e s m args below meth c₀ s₁ B hml hv
  obtain ⟨rfl, -⟩ := hv
  have hx := B.exec
  have hb := B.bytes
  have hr := B.returns
  have hT : ∀ w ∈ TBL, w.before ([.int (a_), .int (w_), .int (b_)] : List Value).toArray s = true := fun w h => atoms_spec (ws := Cond.code yX1_compares cX1_compares 3 (some .boolean) :: TBL) B.pre w (List.mem_cons_of_mem _ h)
  have hown : s.vm.findClass "LittleMore$Counter" = some m.cls := findClass_of_methodNamed B.named
  have hlocks := B.notSynchronized
  have hl := lv_entry ([.int (a_), .int (w_), .int (b_)]) (n := 3) (Nat.le_of_ble_eq_true rfl)
  rw [lg_entry_eq]
  generalize (lg_sl ([.int (a_), .int (w_), .int (b_)]) ++ List.replicate (3 - (lg_sl ([.int (a_), .int (w_), .int (b_)])).length) Slot.unset).toArray = ls at hl ⊢
  have hl : lv_has ls 3 [(0, .int (a_)), (1, .int (w_)), (2, .int (b_))] := hl
  refine W_abs (fun Q hQ => ?_)
  generalize ([.int (a_), .int (w_), .int (b_)] : List Value).toArray = args at hT hQ ⊢
  refine lv_iload_n hx hb (fk_get fk_cX1_compares_0 0 rfl) rfl (lv_at hl 1 rfl) ?_
  by_cases c_1 : w_ = (0 : Int32)
  · refine lv_lookup (off := 27) (tgt := 28) hx hb (dk_get dk_cX1_compares_0 0 rfl) (by decide) (by rw [c_1]; decide) (by decide) ?_
    refine lv_iload_n hx hb (fk_get fk_cX1_compares_0 1 rfl) rfl (lv_at hl 0 rfl) ?_
    refine lv_iload_n hx hb (fk_get fk_cX1_compares_0 2 rfl) rfl (lv_at hl 2 rfl) ?_
    refine lv_icmp_ge (tgt := 37) hx hb (fk_get fk_cX1_compares_0 3 rfl) (by decide) (fun c_2 => ?_) (fun c_2 => ?_)
    · refine lv_iconst (v := 0) hx hb (fk_get fk_cX1_compares_0 6 rfl) (by decide) ?_
      subst hQ
      have hpost : (0 : Int32) = if (if w_ = 0 then a_ < b_ else if w_ = 1 then a_ = b_ else b_ < a_) then 1 else 0 := by
        first | exact is1_t (by first | (rw [if_pos (by assumption)]; assumption) | (rw [if_pos (by assumption)]; exact Int32.not_le.mp (by assumption)) | (rw [if_neg (by assumption), if_pos (by assumption)]; assumption) | (rw [if_neg (by assumption), if_neg (by assumption)]; assumption) | (rw [if_neg (by assumption), if_neg (by assumption)]; exact Int32.not_le.mp (by assumption))) | exact is1_f (by first | (rw [if_pos (by assumption)]; exact Int32.not_lt.mpr (by assumption)) | (rw [if_pos (by assumption)]; assumption) | (rw [if_neg (by assumption), if_pos (by assumption)]; assumption) | (rw [if_neg (by assumption), if_neg (by assumption)]; exact Int32.not_lt.mpr (by assumption)))
      exact W.zret (v := 0) hx hb hr rfl (fun t_ ht_ hW_ => ⟨0, rfl, hpost, ht_⟩) (fun q h => by cases h) (fk_get fk_cX1_compares_0 7 rfl)
    refine lv_iconst (v := 1) hx hb (fk_get fk_cX1_compares_0 4 rfl) (by decide) ?_
    refine lv_goto (tgt := 38) hx hb (fk_get fk_cX1_compares_0 5 rfl) (by decide) ?_
    subst hQ
    have hpost : (1 : Int32) = if (if w_ = 0 then a_ < b_ else if w_ = 1 then a_ = b_ else b_ < a_) then 1 else 0 := by
      first | exact is1_t (by first | (rw [if_pos (by assumption)]; assumption) | (rw [if_pos (by assumption)]; exact Int32.not_le.mp (by assumption)) | (rw [if_neg (by assumption), if_pos (by assumption)]; assumption) | (rw [if_neg (by assumption), if_neg (by assumption)]; assumption) | (rw [if_neg (by assumption), if_neg (by assumption)]; exact Int32.not_le.mp (by assumption))) | exact is1_f (by first | (rw [if_pos (by assumption)]; exact Int32.not_lt.mpr (by assumption)) | (rw [if_pos (by assumption)]; assumption) | (rw [if_neg (by assumption), if_pos (by assumption)]; assumption) | (rw [if_neg (by assumption), if_neg (by assumption)]; exact Int32.not_lt.mpr (by assumption)))
    exact W.zret (v := 1) hx hb hr rfl (fun t_ ht_ hW_ => ⟨1, rfl, hpost, ht_⟩) (fun q h => by cases h) (fk_get fk_cX1_compares_0 7 rfl)
  by_cases c_3 : w_ = (1 : Int32)
  · refine lv_lookup (off := 38) (tgt := 39) hx hb (dk_get dk_cX1_compares_0 0 rfl) (by decide) (by rw [c_3]; decide) (by decide) ?_
    refine lv_iload_n hx hb (fk_get fk_cX1_compares_0 8 rfl) rfl (lv_at hl 0 rfl) ?_
    refine lv_iload_n hx hb (fk_get fk_cX1_compares_0 9 rfl) rfl (lv_at hl 2 rfl) ?_
    refine lv_icmp_ne (tgt := 48) hx hb (fk_get fk_cX1_compares_0 10 rfl) (by decide) (fun c_4 => ?_) (fun c_4 => ?_)
    · refine lv_iconst (v := 0) hx hb (fk_get fk_cX1_compares_0 13 rfl) (by decide) ?_
      subst hQ
      have hpost : (0 : Int32) = if (if w_ = 0 then a_ < b_ else if w_ = 1 then a_ = b_ else b_ < a_) then 1 else 0 := by
        first | exact is1_t (by first | (rw [if_pos (by assumption)]; assumption) | (rw [if_pos (by assumption)]; exact Int32.not_le.mp (by assumption)) | (rw [if_neg (by assumption), if_pos (by assumption)]; assumption) | (rw [if_neg (by assumption), if_neg (by assumption)]; assumption) | (rw [if_neg (by assumption), if_neg (by assumption)]; exact Int32.not_le.mp (by assumption))) | exact is1_f (by first | (rw [if_pos (by assumption)]; exact Int32.not_lt.mpr (by assumption)) | (rw [if_pos (by assumption)]; assumption) | (rw [if_neg (by assumption), if_pos (by assumption)]; assumption) | (rw [if_neg (by assumption), if_neg (by assumption)]; exact Int32.not_lt.mpr (by assumption)))
      exact W.zret (v := 0) hx hb hr rfl (fun t_ ht_ hW_ => ⟨0, rfl, hpost, ht_⟩) (fun q h => by cases h) (fk_get fk_cX1_compares_0 14 rfl)
    refine lv_iconst (v := 1) hx hb (fk_get fk_cX1_compares_0 11 rfl) (by decide) ?_
    refine lv_goto (tgt := 49) hx hb (fk_get fk_cX1_compares_0 12 rfl) (by decide) ?_
    subst hQ
    have hpost : (1 : Int32) = if (if w_ = 0 then a_ < b_ else if w_ = 1 then a_ = b_ else b_ < a_) then 1 else 0 := by
      first | exact is1_t (by first | (rw [if_pos (by assumption)]; assumption) | (rw [if_pos (by assumption)]; exact Int32.not_le.mp (by assumption)) | (rw [if_neg (by assumption), if_pos (by assumption)]; assumption) | (rw [if_neg (by assumption), if_neg (by assumption)]; assumption) | (rw [if_neg (by assumption), if_neg (by assumption)]; exact Int32.not_le.mp (by assumption))) | exact is1_f (by first | (rw [if_pos (by assumption)]; exact Int32.not_lt.mpr (by assumption)) | (rw [if_pos (by assumption)]; assumption) | (rw [if_neg (by assumption), if_pos (by assumption)]; assumption) | (rw [if_neg (by assumption), if_neg (by assumption)]; exact Int32.not_lt.mpr (by assumption)))
    exact W.zret (v := 1) hx hb hr rfl (fun t_ ht_ hW_ => ⟨1, rfl, hpost, ht_⟩) (fun q h => by cases h) (fk_get fk_cX1_compares_0 14 rfl)
  refine lv_lookup (off := 49) (tgt := 50) hx hb (dk_get dk_cX1_compares_0 0 rfl) (by decide) (by rw [lv_osw c_1 (by decide), lv_osw c_3 (by decide)]; rfl) (by decide) ?_
  refine lv_iload_n hx hb (fk_get fk_cX1_compares_0 15 rfl) rfl (lv_at hl 0 rfl) ?_
  refine lv_iload_n hx hb (fk_get fk_cX1_compares_0 16 rfl) rfl (lv_at hl 2 rfl) ?_
  refine lv_icmp_le (tgt := 59) hx hb (fk_get fk_cX1_compares_0 17 rfl) (by decide) (fun c_5 => ?_) (fun c_5 => ?_)
  · refine lv_iconst (v := 0) hx hb (fk_get fk_cX1_compares_0 20 rfl) (by decide) ?_
    subst hQ
    have hpost : (0 : Int32) = if (if w_ = 0 then a_ < b_ else if w_ = 1 then a_ = b_ else b_ < a_) then 1 else 0 := by
      first | exact is1_t (by first | (rw [if_pos (by assumption)]; assumption) | (rw [if_pos (by assumption)]; exact Int32.not_le.mp (by assumption)) | (rw [if_neg (by assumption), if_pos (by assumption)]; assumption) | (rw [if_neg (by assumption), if_neg (by assumption)]; assumption) | (rw [if_neg (by assumption), if_neg (by assumption)]; exact Int32.not_le.mp (by assumption))) | exact is1_f (by first | (rw [if_pos (by assumption)]; exact Int32.not_lt.mpr (by assumption)) | (rw [if_pos (by assumption)]; assumption) | (rw [if_neg (by assumption), if_pos (by assumption)]; assumption) | (rw [if_neg (by assumption), if_neg (by assumption)]; exact Int32.not_lt.mpr (by assumption)))
    exact W.zret (v := 0) hx hb hr rfl (fun t_ ht_ hW_ => ⟨0, rfl, hpost, ht_⟩) (fun q h => by cases h) (fk_get fk_cX1_compares_0 21 rfl)
  refine lv_iconst (v := 1) hx hb (fk_get fk_cX1_compares_0 18 rfl) (by decide) ?_
  refine lv_goto (tgt := 60) hx hb (fk_get fk_cX1_compares_0 19 rfl) (by decide) ?_
  subst hQ
  have hpost : (1 : Int32) = if (if w_ = 0 then a_ < b_ else if w_ = 1 then a_ = b_ else b_ < a_) then 1 else 0 := by
    first | exact is1_t (by first | (rw [if_pos (by assumption)]; assumption) | (rw [if_pos (by assumption)]; exact Int32.not_le.mp (by assumption)) | (rw [if_neg (by assumption), if_pos (by assumption)]; assumption) | (rw [if_neg (by assumption), if_neg (by assumption)]; assumption) | (rw [if_neg (by assumption), if_neg (by assumption)]; exact Int32.not_le.mp (by assumption))) | exact is1_f (by first | (rw [if_pos (by assumption)]; exact Int32.not_lt.mpr (by assumption)) | (rw [if_pos (by assumption)]; assumption) | (rw [if_neg (by assumption), if_pos (by assumption)]; assumption) | (rw [if_neg (by assumption), if_neg (by assumption)]; exact Int32.not_lt.mpr (by assumption)))
  exact W.zret (v := 1) hx hb hr rfl (fun t_ ht_ hW_ => ⟨1, rfl, hpost, ht_⟩) (fun q h => by cases h) (fk_get fk_cX1_compares_0 21 rfl)
