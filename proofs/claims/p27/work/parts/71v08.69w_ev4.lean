set_option maxHeartbeats 800000 in
set_option maxRecDepth 100000 in
theorem c_jfloorMod4E (l : Launch) (x : Nat) (a_ b_ : Int32) (ha4 : a_ = nI x) (hx4 : x < 1000000) (hb4 : b_ = 4) : Met l yJ9_floorMod_7cf53 (Cond.code yJ9_floorMod_7cf53 cJ9_floorMod_7cf53 3 (some .int) :: TBL) ({ frames := 2, cells := 0, slots := 0, locals := 64 } : Room) (PcN [.int (a_), .int (b_)]) (vp_Si (fun (r : Int32) => r = nI (x % 4))) 0 0 (fun _ => False) := by
  refine va_MetF (cc := cJ9_floorMod_7cf53) (maxL := 3) (ret := (some .int)) (by decide +kernel) rfl ?_
  intro p e s m args below meth c₀ s₁ B hml hv
  obtain ⟨rfl, -⟩ := hv
  have hx := B.exec
  have hb := B.bytes
  have hr := B.returns
  have hT : ∀ w ∈ TBL, w.before ([.int (a_), .int (b_)] : List Value).toArray s = true := fun w h => atoms_spec (ws := Cond.code yJ9_floorMod_7cf53 cJ9_floorMod_7cf53 3 (some .int) :: TBL) B.pre w (List.mem_cons_of_mem _ h)
  have hown : s.vm.findClass "java/lang/Math" = some m.cls := findClass_of_methodNamed B.named
  have hlocks := B.notSynchronized
  have hl := lv_entry ([.int (a_), .int (b_)]) (n := 3) (Nat.le_of_ble_eq_true rfl)
  rw [lg_entry_eq]
  generalize (lg_sl ([.int (a_), .int (b_)]) ++ List.replicate (3 - (lg_sl ([.int (a_), .int (b_)])).length) Slot.unset).toArray = ls at hl ⊢
  have hl : lv_has ls 3 [(0, .int (a_)), (1, .int (b_))] := hl
  refine W_abs (fun Q hQ => ?_)
  generalize ([.int (a_), .int (b_)] : List Value).toArray = args at hT hQ ⊢
  refine lv_iload_n hx hb (fk_get fk_cJ9_floorMod_7cf53_0 0 rfl) rfl (lv_at hl 0 rfl) ?_
  refine lv_iload_n hx hb (fk_get fk_cJ9_floorMod_7cf53_0 1 rfl) rfl (lv_at hl 1 rfl) ?_
  refine lv_irem hx hb (fk_get fk_cJ9_floorMod_7cf53_0 2 rfl) (by rw [hb4]; decide) ?_
  refine lv_istore_n (lv' := [(2, .int ((a_ - a_ / b_ * b_))), (0, .int (a_)), (1, .int (b_))]) hx hb (fk_get fk_cJ9_floorMod_7cf53_0 3 rfl) rfl hl (by decide) rfl (fun ls hl => ?_)
  refine lv_iload_n hx hb (fk_get fk_cJ9_floorMod_7cf53_0 4 rfl) rfl (lv_at hl 1 rfl) ?_
  refine lv_iload_n hx hb (fk_get fk_cJ9_floorMod_7cf53_0 5 rfl) rfl (lv_at hl 2 rfl) ?_
  refine lv_ixor hx hb (fk_get fk_cJ9_floorMod_7cf53_0 6 rfl) ?_
  refine lv_if_ge (tgt := 18) hx hb (fk_get fk_cJ9_floorMod_7cf53_0 7 rfl) (by decide) (fun c_1 => ?_) (fun c_1 => ?_)
  · refine lv_iload_n hx hb (fk_get fk_cJ9_floorMod_7cf53_0 14 rfl) rfl (lv_at hl 0 rfl) ?_
    subst hQ
    have hpost : ((a_ - a_ / b_ * b_) : Int32) = nI (x % 4) := by
      first | exact fm_y ha4 hb4 hx4 | exact absurd (show 0 ≤ a_ ^^^ b_ by rw [ha4, hb4]; exact x4_nn hx4) (by assumption)
    exact W.iret (v := (a_ - a_ / b_ * b_)) hx hb hr (fun t_ ht_ hW_ => ⟨(a_ - a_ / b_ * b_), rfl, hpost, ht_⟩) (fun q h => by cases h) (fk_get fk_cJ9_floorMod_7cf53_0 15 rfl)
  refine lv_iload_n hx hb (fk_get fk_cJ9_floorMod_7cf53_0 8 rfl) rfl (lv_at hl 0 rfl) ?_
  refine lv_if_eq (tgt := 18) hx hb (fk_get fk_cJ9_floorMod_7cf53_0 9 rfl) (by decide) (fun c_2 => ?_) (fun c_2 => ?_)
  · refine lv_iload_n hx hb (fk_get fk_cJ9_floorMod_7cf53_0 14 rfl) rfl (lv_at hl 0 rfl) ?_
    subst hQ
    have hpost : ((a_ - a_ / b_ * b_) : Int32) = nI (x % 4) := by
      first | exact fm_y ha4 hb4 hx4 | exact absurd (show 0 ≤ a_ ^^^ b_ by rw [ha4, hb4]; exact x4_nn hx4) (by assumption)
    exact W.iret (v := (a_ - a_ / b_ * b_)) hx hb hr (fun t_ ht_ hW_ => ⟨(a_ - a_ / b_ * b_), rfl, hpost, ht_⟩) (fun q h => by cases h) (fk_get fk_cJ9_floorMod_7cf53_0 15 rfl)
  refine lv_iload_n hx hb (fk_get fk_cJ9_floorMod_7cf53_0 10 rfl) rfl (lv_at hl 0 rfl) ?_
  refine lv_iload_n hx hb (fk_get fk_cJ9_floorMod_7cf53_0 11 rfl) rfl (lv_at hl 2 rfl) ?_
  refine lv_iadd hx hb (fk_get fk_cJ9_floorMod_7cf53_0 12 rfl) ?_
  subst hQ
  have hpost : (((a_ - a_ / b_ * b_) + b_) : Int32) = nI (x % 4) := by
    first | exact fm_y ha4 hb4 hx4 | exact absurd (show 0 ≤ a_ ^^^ b_ by rw [ha4, hb4]; exact x4_nn hx4) (by assumption)
  exact W.iret (v := ((a_ - a_ / b_ * b_) + b_)) hx hb hr (fun t_ ht_ hW_ => ⟨((a_ - a_ / b_ * b_) + b_), rfl, hpost, ht_⟩) (fun q h => by cases h) (fk_get fk_cJ9_floorMod_7cf53_0 13 rfl)
set_option maxHeartbeats 800000 in
set_option maxRecDepth 100000 in
theorem c_x2_portionE (l : Launch) (G : GG) (ad : Nat → Nat) (S : FS) (sz : Nat) (q i : Nat) (hq : q < 7) (hpk : pk i = 7) (hX : XI S) : Met l yX2_portion (Cond.code yX2_portion cX2_portion 2 (some .int) :: TBL) ({ frames := 4, cells := 0, slots := 0, locals := 114 } : Room) (PcW G (wX G ad S) sz [.ref (ad (2 + q)), .ref (ad i)]) (vp_Si (fun (r : Int32) => r = mx 1 (mx 1 (fF S i 4 - fF S i 6) - 2))) 0 0 (fun _ => False) := by
  refine Met.ofW (cc := cX2_portion) (maxL := 2) (ret := (some .int)) (by decide) rfl ?_
  intro p e s m args below meth c₀ s₁ B hml hv
  obtain ⟨rfl, hsz, hP, hK, hD0⟩ := hv
  have hx := B.exec
  have hb := B.bytes
  have hr := B.returns
  have hT : ∀ w ∈ TBL, w.before ([.ref (ad (2 + q)), .ref (ad i)] : List Value).toArray s = true := fun w h => atoms_spec (ws := Cond.code yX2_portion cX2_portion 2 (some .int) :: TBL) B.pre w (List.mem_cons_of_mem _ h)
  have hown : s.vm.findClass "LittleMore$Counting" = some m.cls := findClass_of_methodNamed B.named
  have hlocks := B.notSynchronized
  have hD := hD0
  have hP : va_P G.1 vwCl (wX G ad S) s.heap := hP
  have hl := lv_entry ([.ref (ad (2 + q)), .ref (ad i)]) (n := 2) (Nat.le_of_ble_eq_true rfl)
  rw [lg_entry_eq]
  generalize (lg_sl ([.ref (ad (2 + q)), .ref (ad i)]) ++ List.replicate (2 - (lg_sl ([.ref (ad (2 + q)), .ref (ad i)])).length) Slot.unset).toArray = ls at hl ⊢
  have hl : lv_has ls 2 [(0, .ref (ad (2 + q))), (1, .ref (ad i))] := hl
  refine W_abs (fun Q hQ => ?_)
  generalize ([.ref (ad (2 + q)), .ref (ad i)] : List Value).toArray = args at hT hQ ⊢
  have hb_i := pk7 hpk
  obtain ⟨r_k, hr_k⟩ := kcl_at hq
  refine lv_iconst (v := 1) hx hb (fk_get fk_cX2_portion_0 0 rfl) (by decide) ?_
  refine lv_aload_n hx hb (fk_get fk_cX2_portion_0 1 rfl) rfl (lv_at hl 0 rfl) ?_
  refine lv_aload_n hx hb (fk_get fk_cX2_portion_0 2 rfl) rfl (lv_at hl 1 rfl) ?_
  refine vp_callSi (va_Run.run (va_runSU (C := r_k.1) (As := [.ref (ad i)]) (rest := [.int (1)]) (hK.1 (kcl q) r_k hr_k).2 ⟨hx, hb, hml, hown, hT⟩ (c_x8_portion l G ad S s.heap.size (2 + q) (i) ((lt71 (by omega))) (hpk)) (tSU 1 hT m2_151 m7_181 m1_82 m2_152 m1_3 m2_153 rfl rfl (by decide +kernel) ⟨Nat.le_of_ble_eq_true rfl, Nat.le_of_ble_eq_true rfl⟩) ⟨PcW_blind, va_recv hK hP hr_k (ix_at (lt71 (by omega)) (cX_knd hq)), PcW_of hP hK hD _⟩ rfl rfl hl.1 rfl (lv_room (Nat.le_of_ble_eq_true rfl)) (fk_get fk_cX2_portion_0 3 rfl) ⟨Nat.zero_le _, Nat.zero_le _⟩)) (fun r_1 hw_2 => ?_)
  try dsimp only at hw_2
  rw [mx_m] at hw_2
  subst hw_2
  refine lv_iconst (v := 2) hx hb (fk_get fk_cX2_portion_0 4 rfl) (by decide) ?_
  refine lv_isub hx hb (fk_get fk_cX2_portion_0 5 rfl) ?_
  refine vp_callSi (W.runS (As := [.int (1), .int (((mx 1 (fF S i 4 - fF S i 6)) - 2))]) (rest := []) ⟨hx, hb, hml, hown, hT⟩ (c_jmax l (1) (((mx 1 (fF S i 4 - fF S i 6)) - 2)) ) (tS 2 hT m2_155 m2_139 m1_18 m2_140 rfl rfl (by decide +kernel) ⟨Nat.le_of_ble_eq_true rfl, Nat.le_of_ble_eq_true rfl⟩) ⟨PcN_blind, PcN_of _ _ _⟩ rfl rfl hl.1 rfl (lv_room (Nat.le_of_ble_eq_true rfl)) (fk_get fk_cX2_portion_0 6 rfl) ⟨Nat.zero_le _, Nat.zero_le _⟩) (fun r_3 hw_4 => ?_)
  try dsimp only at hw_4
  rw [mx_m] at hw_4
  subst hw_4
  subst hQ
  have hpost : ((mx 1 (mx 1 (fF S i 4 - fF S i 6) - 2)) : Int32) = mx 1 (mx 1 (fF S i 4 - fF S i 6) - 2) := by
    rfl
  exact W.iret (v := (mx 1 (mx 1 (fF S i 4 - fF S i 6) - 2))) hx hb hr (fun t_ ht_ hW_ => ⟨(mx 1 (mx 1 (fF S i 4 - fF S i 6) - 2)), rfl, hpost, ht_⟩) (fun q h => by cases h) (fk_get fk_cX2_portion_0 7 rfl)
set_option maxHeartbeats 800000 in
set_option maxRecDepth 100000 in
theorem c_x2_patienceE (l : Launch) (G : GG) (ad : Nat → Nat) (S : FS) (sz : Nat) (q i : Nat) (hq : q < 7) (hpk : pk i = 7) (hX : XI S) : Met l yX2_patience (Cond.code yX2_patience cX2_patience 2 (some .int) :: TBL) ({ frames := 3, cells := 0, slots := 0, locals := 89 } : Room) (PcW G (wX G ad S) sz [.ref (ad (2 + q)), .ref (ad i)]) (vp_Si (fun (r : Int32) => r = mx 0 (fF S i 3 / 2 - fF S i 6))) 0 0 (fun _ => False) := by
  refine Met.ofW (cc := cX2_patience) (maxL := 2) (ret := (some .int)) (by decide) rfl ?_
  intro p e s m args below meth c₀ s₁ B hml hv
  obtain ⟨rfl, hsz, hP, hK, hD0⟩ := hv
  have hx := B.exec
  have hb := B.bytes
  have hr := B.returns
  have hT : ∀ w ∈ TBL, w.before ([.ref (ad (2 + q)), .ref (ad i)] : List Value).toArray s = true := fun w h => atoms_spec (ws := Cond.code yX2_patience cX2_patience 2 (some .int) :: TBL) B.pre w (List.mem_cons_of_mem _ h)
  have hown : s.vm.findClass "LittleMore$Counting" = some m.cls := findClass_of_methodNamed B.named
  have hlocks := B.notSynchronized
  have hD := hD0
  have hP : va_P G.1 vwCl (wX G ad S) s.heap := hP
  have hl := lv_entry ([.ref (ad (2 + q)), .ref (ad i)]) (n := 2) (Nat.le_of_ble_eq_true rfl)
  rw [lg_entry_eq]
  generalize (lg_sl ([.ref (ad (2 + q)), .ref (ad i)]) ++ List.replicate (2 - (lg_sl ([.ref (ad (2 + q)), .ref (ad i)])).length) Slot.unset).toArray = ls at hl ⊢
  have hl : lv_has ls 2 [(0, .ref (ad (2 + q))), (1, .ref (ad i))] := hl
  refine W_abs (fun Q hQ => ?_)
  generalize ([.ref (ad (2 + q)), .ref (ad i)] : List Value).toArray = args at hT hQ ⊢
  have hb_i := pk7 hpk
  obtain ⟨r_k, hr_k⟩ := kcl_at hq
  refine lv_iconst (v := 0) hx hb (fk_get fk_cX2_patience_0 0 rfl) (by decide) ?_
  refine lv_aload_n hx hb (fk_get fk_cX2_patience_0 1 rfl) rfl (lv_at hl 0 rfl) ?_
  refine lv_aload_n hx hb (fk_get fk_cX2_patience_0 2 rfl) rfl (lv_at hl 1 rfl) ?_
  refine vp_callSi (va_Run.run (va_runSU (C := r_k.1) (As := [.ref (ad i)]) (rest := [.int (0)]) (hK.1 (kcl q) r_k hr_k).2 ⟨hx, hb, hml, hown, hT⟩ (c_x8_patience l G ad S s.heap.size (2 + q) (i) ((lt71 (by omega))) (hpk)) (tSU 1 hT m2_177 m7_183 m1_82 m2_178 m1_3 m2_179 rfl rfl (by decide +kernel) ⟨Nat.le_of_ble_eq_true rfl, Nat.le_of_ble_eq_true rfl⟩) ⟨PcW_blind, va_recv hK hP hr_k (ix_at (lt71 (by omega)) (cX_knd hq)), PcW_of hP hK hD _⟩ rfl rfl hl.1 rfl (lv_room (Nat.le_of_ble_eq_true rfl)) (fk_get fk_cX2_patience_0 3 rfl) ⟨Nat.zero_le _, Nat.zero_le _⟩)) (fun r_1 hw_2 => ?_)
  try dsimp only at hw_2
  subst hw_2
  refine lv_aload_n hx hb (fk_get fk_cX2_patience_0 4 rfl) rfl (lv_at hl 1 rfl) ?_
  refine va_get (D := G.1) (ci := 5) (v := .int (fF S i 6)) (C := RX3) (T := TX3) (N := 10) hx hb hT inX3 hown hK hP i (ix_at (lt71 (by omega)) (cX_cust hpk)) rfl 6 (by decide) (hT _ m1_165) (fun _ h9 => h9) rfl (fk_get fk_cX2_patience_0 5 rfl) ?_
  refine lv_isub hx hb (fk_get fk_cX2_patience_0 6 rfl) ?_
  refine vp_callSi (W.runS (As := [.int (0), .int (((fF S i 3 / 2) - (fF S i 6)))]) (rest := []) ⟨hx, hb, hml, hown, hT⟩ (c_jmax l (0) (((fF S i 3 / 2) - (fF S i 6))) ) (tS 2 hT m2_155 m2_139 m1_18 m2_140 rfl rfl (by decide +kernel) ⟨Nat.le_of_ble_eq_true rfl, Nat.le_of_ble_eq_true rfl⟩) ⟨PcN_blind, PcN_of _ _ _⟩ rfl rfl hl.1 rfl (lv_room (Nat.le_of_ble_eq_true rfl)) (fk_get fk_cX2_patience_0 7 rfl) ⟨Nat.zero_le _, Nat.zero_le _⟩) (fun r_3 hw_4 => ?_)
  try dsimp only at hw_4
  rw [mx_m] at hw_4
  subst hw_4
  subst hQ
  have hpost : ((mx 0 (fF S i 3 / 2 - fF S i 6)) : Int32) = mx 0 (fF S i 3 / 2 - fF S i 6) := by
    rfl
  exact W.iret (v := (mx 0 (fF S i 3 / 2 - fF S i 6))) hx hb hr (fun t_ ht_ hW_ => ⟨(mx 0 (fF S i 3 / 2 - fF S i 6)), rfl, hpost, ht_⟩) (fun q h => by cases h) (fk_get fk_cX2_patience_0 8 rfl)
set_option maxHeartbeats 800000 in
set_option maxRecDepth 100000 in
theorem c_x10_portionE (l : Launch) (G : GG) (ad : Nat → Nat) (S : FS) (sz : Nat) (q i x : Nat) (hq : q < 7) (hpk : pk i = 7) (hx8 : fF S i 8 = nI x) (hx30 : x < 1000000) (hX : XI S) : Met l yX10_portion (Cond.code yX10_portion cX10_portion 2 (some .int) :: TBL) ({ frames := 3, cells := 0, slots := 0, locals := 90 } : Room) (PcW G (wX G ad S) sz [.ref (ad (2 + q)), .ref (ad i)]) (vp_Si (fun (r : Int32) => r = fF S i 4 / 2 + fA S (i + 18) (x % 4))) 0 0 (fun _ => False) := by
  refine Met.ofW (cc := cX10_portion) (maxL := 2) (ret := (some .int)) (by decide) rfl ?_
  intro p e s m args below meth c₀ s₁ B hml hv
  obtain ⟨rfl, hsz, hP, hK, hD0⟩ := hv
  have hx := B.exec
  have hb := B.bytes
  have hr := B.returns
  have hT : ∀ w ∈ TBL, w.before ([.ref (ad (2 + q)), .ref (ad i)] : List Value).toArray s = true := fun w h => atoms_spec (ws := Cond.code yX10_portion cX10_portion 2 (some .int) :: TBL) B.pre w (List.mem_cons_of_mem _ h)
  have hown : s.vm.findClass "LittleMore$Told" = some m.cls := findClass_of_methodNamed B.named
  have hlocks := B.notSynchronized
  have hD := hD0
  have hP : va_P G.1 vwCl (wX G ad S) s.heap := hP
  have hl := lv_entry ([.ref (ad (2 + q)), .ref (ad i)]) (n := 2) (Nat.le_of_ble_eq_true rfl)
  rw [lg_entry_eq]
  generalize (lg_sl ([.ref (ad (2 + q)), .ref (ad i)]) ++ List.replicate (2 - (lg_sl ([.ref (ad (2 + q)), .ref (ad i)])).length) Slot.unset).toArray = ls at hl ⊢
  have hl : lv_has ls 2 [(0, .ref (ad (2 + q))), (1, .ref (ad i))] := hl
  refine W_abs (fun Q hQ => ?_)
  generalize ([.ref (ad (2 + q)), .ref (ad i)] : List Value).toArray = args at hT hQ ⊢
  have hb_i := pk7 hpk
  obtain ⟨r_k, hr_k⟩ := kcl_at hq
  refine lv_aload_n hx hb (fk_get fk_cX10_portion_0 0 rfl) rfl (lv_at hl 0 rfl) ?_
  refine lv_aload_n hx hb (fk_get fk_cX10_portion_0 1 rfl) rfl (lv_at hl 1 rfl) ?_
  refine vp_callSi (va_Run.run (va_runSU (C := r_k.1) (As := [.ref (ad i)]) (rest := []) (hK.1 (kcl q) r_k hr_k).2 ⟨hx, hb, hml, hown, hT⟩ (c_x0_portion l G ad S s.heap.size (2 + q) (i) ((lt71 (by omega))) (hpk)) (tSU 1 hT m2_162 m7_182 m1_98 m2_146 m1_5 m2_147 rfl rfl (by decide +kernel) ⟨Nat.le_of_ble_eq_true rfl, Nat.le_of_ble_eq_true rfl⟩) ⟨PcW_blind, va_recv hK hP hr_k (ix_at (lt71 (by omega)) (cX_knd hq)), PcW_of hP hK hD _⟩ rfl rfl hl.1 rfl (lv_room (Nat.le_of_ble_eq_true rfl)) (fk_get fk_cX10_portion_0 2 rfl) ⟨Nat.zero_le _, Nat.zero_le _⟩)) (fun r_1 hw_2 => ?_)
  try dsimp only at hw_2
  subst hw_2
  refine lv_aload_n hx hb (fk_get fk_cX10_portion_0 3 rfl) rfl (lv_at hl 1 rfl) ?_
  refine va_get (D := G.1) (ci := 5) (v := .ref (ad (i + 18))) (C := RX3) (T := TX3) (N := 10) hx hb hT inX3 hown hK hP i (ix_at (lt71 (by omega)) (cX_cust hpk)) rfl 1 (by decide) (hT _ m1_141) (fun _ h9 => h9) rfl (fk_get fk_cX10_portion_0 4 rfl) ?_
  refine lv_aload_n hx hb (fk_get fk_cX10_portion_0 5 rfl) rfl (lv_at hl 1 rfl) ?_
  refine va_get (D := G.1) (ci := 5) (v := .int (fF S i 8)) (C := RX3) (T := TX3) (N := 10) hx hb hT inX3 hown hK hP i (ix_at (lt71 (by omega)) (cX_cust hpk)) rfl 8 (by decide) (hT _ m1_174) (fun _ h9 => h9) rfl (fk_get fk_cX10_portion_0 6 rfl) ?_
  refine lv_iconst (v := 4) hx hb (fk_get fk_cX10_portion_0 7 rfl) (by decide) ?_
  refine vp_callSi (W.runS (As := [.int ((fF S i 8)), .int (4)]) (rest := [.ref (ad (i + 18)), .int ((fF S i 4 / 2))]) ⟨hx, hb, hml, hown, hT⟩ (c_jfloorMod4E l (x) ((fF S i 8)) (4) (hx8) (hx30) (rfl)) (tS 2 hT m2_163 m2_164 m1_18 m2_165 rfl rfl (by decide +kernel) ⟨Nat.le_of_ble_eq_true rfl, Nat.le_of_ble_eq_true rfl⟩) ⟨PcN_blind, PcN_of _ _ _⟩ rfl rfl hl.1 rfl (lv_room (Nat.le_of_ble_eq_true rfl)) (fk_get fk_cX10_portion_0 8 rfl) ⟨Nat.zero_le _, Nat.zero_le _⟩) (fun r_3 hw_4 => ?_)
  try dsimp only at hw_4
  subst hw_4
  refine r_iald (f := fA S (i + 18)) hx hb hK hP (i + 18) 0 (ix_at (lt71 (by omega)) (cX_arr (Or.inl ⟨rfl, rfl, Or.inr (pk_e7 hpk)⟩))) rfl (j := ((x % 4))) (rfl) (by omega) (by decide) (fk_get fk_cX10_portion_0 9 rfl) ?_
  refine lv_iadd hx hb (fk_get fk_cX10_portion_0 10 rfl) ?_
  subst hQ
  have hpost : (((fF S i 4 / 2) + (fA S (i + 18) ((x % 4)))) : Int32) = fF S i 4 / 2 + fA S (i + 18) (x % 4) := by
    rfl
  exact W.iret (v := ((fF S i 4 / 2) + (fA S (i + 18) ((x % 4))))) hx hb hr (fun t_ ht_ hW_ => ⟨((fF S i 4 / 2) + (fA S (i + 18) ((x % 4)))), rfl, hpost, ht_⟩) (fun q h => by cases h) (fk_get fk_cX10_portion_0 11 rfl)
/-- a customer's kind, the shop's counter with its clauses -/
def CuC (S : FS) (h i q pz : Nat) (τ : Nat → Int32) (C : Cls) : Prop := CuX S h i q pz (lstW 2 5 C) (lstW 3 1 C) (cds C) ∧ SAYS cdA τ C
theorem mo_x {S : FS} {h i q : Nat} {τ : Nat → Int32} {C : Cls} (hs : SAYS cdA τ C) : moX (fF S (9 + h) 6) (fF S i 5) (List.foldl (sx (ECX S i q)) (0, 0) (cds C)).2 = moF (fF S (9 + h) 6) τ C (fF S i 0) (gX S i q) := by
  rw [fold_cds (τ := τ) C 0 (fun c hc x hx => by
    obtain ⟨q, h1, -⟩ := hs c hc x hx
    exact ⟨q, h1⟩)]
  rfl
theorem CuC.fr {P : Nat → Nat → Prop} {S S' : FS} {h i q pz : Nat} {τ : Nat → Int32} {C : Cls} (k : CuC S h i q pz τ C) (hi : i < 71) (hh : h < 3) (f : Fr P S S') (n1 : ¬ P i 2) (n2 : ¬ P (9 + h) 7) (n3 : ∀ j k, 71 ≤ j → ¬ P j k) : CuC S' h i q pz τ C := by
  obtain ⟨⟨a, b, c, d, e⟩, hs⟩ := k
  refine ⟨⟨(f.R (lt71 hi) n1).trans a, b, (f.R (lt71 (by omega)) n2).trans c, d.fr f n3, ?_⟩, hs⟩
  exact e.keep d f n3
set_option maxHeartbeats 800000 in
set_option maxRecDepth 100000 in
theorem c_x7_moreF (l : Launch) (G : GG) (ad : Nat → Nat) (S : FS) (sz : Nat) (h i q pz : Nat) (τ : Nat → Int32) (C : Cls) (hh : h < 3) (hpk : pk i = 7) (hcu : CuC S h i q pz τ C) (hX : XI S) : Met l yX7_moreFor (Cond.code yX7_moreFor cX7_moreFor 2 (some .int) :: TBL) ({ frames := 4, cells := 0, slots := 0, locals := 121 } : Room) (PcW G (wX G ad S) sz [.ref (ad (9 + h)), .ref (ad i)]) (vp_Si (fun (r : Int32) => r = (moF (fF S (9 + h) 6) τ C (fF S i 0) (gX S i q)))) 0 0 (fun _ => False) := by
  refine Met.ofW (cc := cX7_moreFor) (maxL := 2) (ret := (some .int)) (by decide) rfl ?_
  intro p e s m args below meth c₀ s₁ B hml hv
  obtain ⟨rfl, hsz, hP, hK, hD0⟩ := hv
  have hx := B.exec
  have hb := B.bytes
  have hr := B.returns
  have hT : ∀ w ∈ TBL, w.before ([.ref (ad (9 + h)), .ref (ad i)] : List Value).toArray s = true := fun w h => atoms_spec (ws := Cond.code yX7_moreFor cX7_moreFor 2 (some .int) :: TBL) B.pre w (List.mem_cons_of_mem _ h)
  have hown : s.vm.findClass "LittleMore$Shop" = some m.cls := findClass_of_methodNamed B.named
  have hlocks := B.notSynchronized
  have hD := hD0
  have hP : va_P G.1 vwCl (wX G ad S) s.heap := hP
  have hl := lv_entry ([.ref (ad (9 + h)), .ref (ad i)]) (n := 2) (Nat.le_of_ble_eq_true rfl)
  rw [lg_entry_eq]
  generalize (lg_sl ([.ref (ad (9 + h)), .ref (ad i)]) ++ List.replicate (2 - (lg_sl ([.ref (ad (9 + h)), .ref (ad i)])).length) Slot.unset).toArray = ls at hl ⊢
  have hl : lv_has ls 2 [(0, .ref (ad (9 + h))), (1, .ref (ad i))] := hl
  refine W_abs (fun Q hQ => ?_)
  generalize ([.ref (ad (9 + h)), .ref (ad i)] : List Value).toArray = args at hT hQ ⊢
  have hb_i := pk7 hpk
  obtain ⟨hcx, hsay⟩ := id hcu
  obtain ⟨hkq, hq, hpz, hcok, hctx⟩ := id hcx
  refine lv_iconst (v := 0) hx hb (fk_get fk_cX7_moreFor_0 0 rfl) (by decide) ?_
  refine lv_aload_n hx hb (fk_get fk_cX7_moreFor_0 1 rfl) rfl (lv_at hl 0 rfl) ?_
  refine va_get (D := G.1) (ci := 9) (v := .int (fF S (9 + h) 6)) (C := RX7) (T := TX7) (N := 8) hx hb hT inX7 hown hK hP (9 + h) (ix_at (lt71 (by omega)) (cX_shop (pk_shop hh))) rfl 6 (by decide) (hT _ m1_214) (fun _ h9 => h9) rfl (fk_get fk_cX7_moreFor_0 2 rfl) ?_
  refine lv_aload_n hx hb (fk_get fk_cX7_moreFor_0 3 rfl) rfl (lv_at hl 1 rfl) ?_
  refine va_get (D := G.1) (ci := 5) (v := .int (fF S i 5)) (C := RX3) (T := TX3) (N := 10) hx hb hT inX3 hown hK hP i (ix_at (lt71 (by omega)) (cX_cust hpk)) rfl 5 (by decide) (hT _ m1_161) (fun _ h9 => h9) rfl (fk_get fk_cX7_moreFor_0 4 rfl) ?_
  refine lv_iadd hx hb (fk_get fk_cX7_moreFor_0 5 rfl) ?_
  refine lv_aload_n hx hb (fk_get fk_cX7_moreFor_0 6 rfl) rfl (lv_at hl 0 rfl) ?_
  refine va_get (D := G.1) (ci := 9) (v := va_rf ((fR S (9 + h) 7).map ad)) (C := RX7) (T := TX7) (N := 8) hx hb hT inX7 hown hK hP (9 + h) (ix_at (lt71 (by omega)) (cX_shop (pk_shop hh))) rfl 7 (by decide) (hT _ m1_216) (fun _ h9 => h9) rfl (fk_get fk_cX7_moreFor_0 7 rfl) ?_
  rw [show va_rf ((fR S (9 + h) 7).map ad) = .ref (ad pz) from by rw [hpz]; rfl]
  refine lv_aload_n hx hb (fk_get fk_cX7_moreFor_0 8 rfl) rfl (lv_at hl 1 rfl) ?_
  refine vp_callSi (W.runV (As := [.ref (ad i)]) (rest := [.int (((fF S (9 + h) 6) + (fF S i 5))), .int (0)]) ⟨hx, hb, hml, hown, hT⟩ (c_x1_addedE l G ad S s.heap.size (pz) (i) (q) ((lstW 2 5 C)) ((lstW 3 1 C)) ((cds C)) (hcok) (by first | assumption | omega) (by first | assumption | omega) (by first | assumption | omega) (hpk) (hX)) (tV 1 hT m2_128 m2_129 m2_130 m1_10 m2_131 rfl rfl (by decide +kernel) ⟨Nat.le_of_ble_eq_true rfl, Nat.le_of_ble_eq_true rfl⟩) ⟨PcW_blind, va_recv hK hP (ci := 3) (q0 := pz) rfl (ix_at (hcok).2.1 (cX_ctr (hcok).1 (hcok).2.2.1)), PcW_of hP hK hD _⟩ rfl rfl hl.1 rfl (lv_room (Nat.le_of_ble_eq_true rfl)) (fk_get fk_cX7_moreFor_0 9 rfl) ⟨Nat.zero_le _, Nat.zero_le _⟩) (fun r_1 hw_2 => ?_)
  try dsimp only at hw_2
  subst hw_2
  refine lv_iadd hx hb (fk_get fk_cX7_moreFor_0 10 rfl) ?_
  refine vp_callSi (W.runS (As := [.int (0), .int ((((fF S (9 + h) 6) + (fF S i 5)) + (((cds C).foldl (sx (ECX S i q)) (0, 0)).2)))]) (rest := []) ⟨hx, hb, hml, hown, hT⟩ (c_jmax l (0) ((((fF S (9 + h) 6) + (fF S i 5)) + (((cds C).foldl (sx (ECX S i q)) (0, 0)).2))) ) (tS 2 hT m2_138 m2_139 m1_18 m2_140 rfl rfl (by decide +kernel) ⟨Nat.le_of_ble_eq_true rfl, Nat.le_of_ble_eq_true rfl⟩) ⟨PcN_blind, PcN_of _ _ _⟩ rfl rfl hl.1 rfl (lv_room (Nat.le_of_ble_eq_true rfl)) (fk_get fk_cX7_moreFor_0 11 rfl) ⟨Nat.zero_le _, Nat.zero_le _⟩) (fun r_3 hw_4 => ?_)
  try dsimp only at hw_4
  subst hQ
  have hpost : (r_3 : Int32) = (moF (fF S (9 + h) 6) τ C (fF S i 0) (gX S i q)) := by
    rw [← mo_x hsay]
    first | assumption | rfl
  exact W.iret (v := r_3) hx hb hr (fun t_ ht_ hW_ => ⟨r_3, rfl, hpost, ht_⟩) (fun q h => by cases h) (fk_get fk_cX7_moreFor_0 12 rfl)
set_option maxHeartbeats 800000 in
set_option maxRecDepth 100000 in
theorem c_x7_refusesE (l : Launch) (G : GG) (ad : Nat → Nat) (S : FS) (sz : Nat) (h i q pz : Nat) (τ : Nat → Int32) (C : Cls) (hh : h < 3) (hpk : pk i = 7) (hcu : CuC S h i q pz τ C) (hX : XI S) : Met l yX7_refuses (Cond.code yX7_refuses cX7_refuses 2 (some .boolean) :: TBL) ({ frames := 5, cells := 0, slots := 0, locals := 146 } : Room) (PcW G (wX G ad S) sz [.ref (ad (9 + h)), .ref (ad i)]) (vp_Si (fun (r : Int32) => r = if letF (gX S i q) < (moF (fF S (9 + h) 6) τ C (fF S i 0) (gX S i q)) then 1 else 0)) 0 0 (fun _ => False) := by
  refine Met.ofW (cc := cX7_refuses) (maxL := 2) (ret := (some .boolean)) (by decide) rfl ?_
  intro p e s m args below meth c₀ s₁ B hml hv
  obtain ⟨rfl, hsz, hP, hK, hD0⟩ := hv
  have hx := B.exec
  have hb := B.bytes
  have hr := B.returns
  have hT : ∀ w ∈ TBL, w.before ([.ref (ad (9 + h)), .ref (ad i)] : List Value).toArray s = true := fun w h => atoms_spec (ws := Cond.code yX7_refuses cX7_refuses 2 (some .boolean) :: TBL) B.pre w (List.mem_cons_of_mem _ h)
  have hown : s.vm.findClass "LittleMore$Shop" = some m.cls := findClass_of_methodNamed B.named
  have hlocks := B.notSynchronized
  have hD := hD0
  have hP : va_P G.1 vwCl (wX G ad S) s.heap := hP
  have hl := lv_entry ([.ref (ad (9 + h)), .ref (ad i)]) (n := 2) (Nat.le_of_ble_eq_true rfl)
  rw [lg_entry_eq]
  generalize (lg_sl ([.ref (ad (9 + h)), .ref (ad i)]) ++ List.replicate (2 - (lg_sl ([.ref (ad (9 + h)), .ref (ad i)])).length) Slot.unset).toArray = ls at hl ⊢
  have hl : lv_has ls 2 [(0, .ref (ad (9 + h))), (1, .ref (ad i))] := hl
  refine W_abs (fun Q hQ => ?_)
  generalize ([.ref (ad (9 + h)), .ref (ad i)] : List Value).toArray = args at hT hQ ⊢
  have hb_i := pk7 hpk
  obtain ⟨hcx, hsay⟩ := id hcu
  obtain ⟨hkq, hq, hpz, hcok, hctx⟩ := id hcx
  refine lv_aload_n hx hb (fk_get fk_cX7_refuses_0 0 rfl) rfl (lv_at hl 0 rfl) ?_
  refine lv_aload_n hx hb (fk_get fk_cX7_refuses_0 1 rfl) rfl (lv_at hl 1 rfl) ?_
  refine vp_callSi (W.runV (As := [.ref (ad i)]) (rest := []) ⟨hx, hb, hml, hown, hT⟩ (c_x7_moreF l G ad S s.heap.size (h) (i) (q) (pz) (τ) (C) (hh) (hpk) (by first | assumption | omega) (hX)) (tV 1 hT m2_191 m2_125 m2_126 m1_9 m2_127 rfl rfl (by decide +kernel) ⟨Nat.le_of_ble_eq_true rfl, Nat.le_of_ble_eq_true rfl⟩) ⟨PcW_blind, va_recv hK hP (ci := 9) (q0 := (9 + h)) rfl (ix_at (lt71 (by omega)) (cX_shop (pk_shop hh))), PcW_of hP hK hD _⟩ rfl rfl hl.1 rfl (lv_room (Nat.le_of_ble_eq_true rfl)) (fk_get fk_cX7_refuses_0 2 rfl) ⟨Nat.zero_le _, Nat.zero_le _⟩) (fun r_1 hw_2 => ?_)
  try dsimp only at hw_2
  subst hw_2
  refine lv_aload_n hx hb (fk_get fk_cX7_refuses_0 3 rfl) rfl (lv_at hl 1 rfl) ?_
  refine va_get (D := G.1) (ci := 5) (v := va_rf ((fR S i 2).map ad)) (C := RX3) (T := TX3) (N := 10) hx hb hT inX3 hown hK hP i (ix_at (lt71 (by omega)) (cX_cust hpk)) rfl 2 (by decide) (hT _ m1_146) (fun _ h9 => h9) rfl (fk_get fk_cX7_refuses_0 4 rfl) ?_
  rw [show va_rf ((fR S i 2).map ad) = .ref (ad (2 + q)) from by rw [hkq]; rfl]
  refine lv_aload_n hx hb (fk_get fk_cX7_refuses_0 5 rfl) rfl (lv_at hl 1 rfl) ?_
  have kk_10 : ∀ rv_10 : Int32, rv_10 = (letF (gX S i q)) → W p l e ({ frames := 5, cells := 0, slots := 0, locals := 146 } : Room) s m args below meth c₀ s.heap [] 0 0 Q (F0 m 13 ls [.int (rv_10), .int (((moF (fF S (9 + h) 6) τ C (fF S i 0) (gX S i q))))]) := by
    intro rv_10 hv_10
    subst hv_10
    refine lv_icmp_le (tgt := 20) hx hb (fk_get fk_cX7_refuses_0 7 rfl) (by decide) (fun c_3 => ?_) (fun c_3 => ?_)
    · refine lv_iconst (v := 0) hx hb (fk_get fk_cX7_refuses_0 10 rfl) (by decide) ?_
      subst hQ
      have hpost : (0 : Int32) = if letF (gX S i q) < (moF (fF S (9 + h) 6) τ C (fF S i 0) (gX S i q)) then 1 else 0 := by
        first | exact (if_pos (Int32.not_le.mp (by assumption))).symm | exact (if_neg (Int32.not_lt.mpr (by assumption))).symm
      exact W.zret (v := 0) hx hb hr rfl (fun t_ ht_ hW_ => ⟨0, rfl, hpost, ht_⟩) (fun q h => by cases h) (fk_get fk_cX7_refuses_0 11 rfl)
    refine lv_iconst (v := 1) hx hb (fk_get fk_cX7_refuses_0 8 rfl) (by decide) ?_
    refine lv_goto (tgt := 21) hx hb (fk_get fk_cX7_refuses_0 9 rfl) (by decide) ?_
    subst hQ
    have hpost : (1 : Int32) = if letF (gX S i q) < (moF (fF S (9 + h) 6) τ C (fF S i 0) (gX S i q)) then 1 else 0 := by
      first | exact (if_pos (Int32.not_le.mp (by assumption))).symm | exact (if_neg (Int32.not_lt.mpr (by assumption))).symm
    exact W.zret (v := 1) hx hb hr rfl (fun t_ ht_ hW_ => ⟨1, rfl, hpost, ht_⟩) (fun q h => by cases h) (fk_get fk_cX7_refuses_0 11 rfl)
  rcases kq7 hq with rfl | rfl | rfl | rfl | rfl | rfl | rfl
  · exact vp_callSi (va_Run.run (va_runU (As := [.ref (ad i)]) (rest := [.int (((moF (fF S (9 + h) 6) τ C (fF S i 0) (gX S i 0))))]) ⟨hx, hb, hml, hown, hT⟩ (c_x5_patience l G ad S s.heap.size (2 + 0) (i) ((lt71 (by omega))) (hpk)) (tU 1 hT m2_192 m2_170 m2_169 m2_168 m1_2 m2_186 rfl rfl rfl (by decide +kernel) ⟨Nat.le_of_ble_eq_true rfl, Nat.le_of_ble_eq_true rfl⟩) ⟨PcW_blind, va_recv hK hP (ci := 7) (q0 := 2 + 0) rfl (ix_at (lt71 (by omega)) (cX_knd (by omega))), PcW_of hP hK hD _⟩ rfl rfl hl.1 rfl (lv_room (Nat.le_of_ble_eq_true rfl)) (fk_get fk_cX7_refuses_0 6 rfl) ⟨Nat.zero_le _, Nat.zero_le _⟩)) (fun r h_ => kk_10 r (h_.trans lX_0.symm))
  · exact vp_callSi (va_Run.run (va_runU (As := [.ref (ad i)]) (rest := [.int (((moF (fF S (9 + h) 6) τ C (fF S i 0) (gX S i 1))))]) ⟨hx, hb, hml, hown, hT⟩ (c_x8_patience l G ad S s.heap.size (2 + 1) (i) ((lt71 (by omega))) (hpk)) (tO 1 hT m2_192 m2_170 m2_168 m2_184 m2_178 m1_3 m2_179 m2_186 rfl rfl (by decide +kernel) ⟨Nat.le_of_ble_eq_true rfl, Nat.le_of_ble_eq_true rfl⟩) ⟨PcW_blind, va_recv hK hP (ci := 10) (q0 := 2 + 1) rfl (ix_at (lt71 (by omega)) (cX_knd (by omega))), PcW_of hP hK hD _⟩ rfl rfl hl.1 rfl (lv_room (Nat.le_of_ble_eq_true rfl)) (fk_get fk_cX7_refuses_0 6 rfl) ⟨Nat.zero_le _, Nat.zero_le _⟩)) (fun r h_ => kk_10 r (h_.trans lX_1.symm))
  · exact vp_callSi (va_Run.run (va_runU (As := [.ref (ad i)]) (rest := [.int (((moF (fF S (9 + h) 6) τ C (fF S i 0) (gX S i 2))))]) ⟨hx, hb, hml, hown, hT⟩ (c_x4_patience l G ad S s.heap.size (2 + 2) (i) ((lt71 (by omega))) (hpk)) (tO 1 hT m2_192 m2_170 m2_168 m2_180 m2_181 m1_4 m2_182 m2_186 rfl rfl (by decide +kernel) ⟨Nat.le_of_ble_eq_true rfl, Nat.le_of_ble_eq_true rfl⟩) ⟨PcW_blind, va_recv hK hP (ci := 6) (q0 := 2 + 2) rfl (ix_at (lt71 (by omega)) (cX_knd (by omega))), PcW_of hP hK hD _⟩ rfl rfl hl.1 rfl (lv_room (Nat.le_of_ble_eq_true rfl)) (fk_get fk_cX7_refuses_0 6 rfl) ⟨Nat.zero_le _, Nat.zero_le _⟩)) (fun r h_ => kk_10 r (h_.trans lX_2.symm))
  · exact vp_callSi (va_Run.run (va_runU (As := [.ref (ad i)]) (rest := [.int (((moF (fF S (9 + h) 6) τ C (fF S i 0) (gX S i 3))))]) ⟨hx, hb, hml, hown, hT⟩ (c_x0_patience l G ad S s.heap.size (2 + 3) (i) ((lt71 (by omega))) (hpk)) (tO 1 hT m2_192 m2_170 m2_168 m2_171 m2_172 m1_5 m2_173 m2_186 rfl rfl (by decide +kernel) ⟨Nat.le_of_ble_eq_true rfl, Nat.le_of_ble_eq_true rfl⟩) ⟨PcW_blind, va_recv hK hP (ci := 2) (q0 := 2 + 3) rfl (ix_at (lt71 (by omega)) (cX_knd (by omega))), PcW_of hP hK hD _⟩ rfl rfl hl.1 rfl (lv_room (Nat.le_of_ble_eq_true rfl)) (fk_get fk_cX7_refuses_0 6 rfl) ⟨Nat.zero_le _, Nat.zero_le _⟩)) (fun r h_ => kk_10 r (h_.trans lX_3.symm))
  · exact vp_callSi (va_Run.run (va_runU (As := [.ref (ad i)]) (rest := [.int (((moF (fF S (9 + h) 6) τ C (fF S i 0) (gX S i 4))))]) ⟨hx, hb, hml, hown, hT⟩ (c_x2_patienceE l G ad S s.heap.size (4) (i) ((by omega)) (hpk) (hX)) (tO 1 hT m2_192 m2_170 m2_168 m2_174 m2_175 m1_6 m2_176 m2_186 rfl rfl (by decide +kernel) ⟨Nat.le_of_ble_eq_true rfl, Nat.le_of_ble_eq_true rfl⟩) ⟨PcW_blind, va_recv hK hP (ci := 4) (q0 := 2 + 4) rfl (ix_at (lt71 (by omega)) (cX_knd (by omega))), PcW_of hP hK hD _⟩ rfl rfl hl.1 rfl (lv_room (Nat.le_of_ble_eq_true rfl)) (fk_get fk_cX7_refuses_0 6 rfl) ⟨Nat.zero_le _, Nat.zero_le _⟩)) (fun r h_ => kk_10 r (h_.trans lX_4.symm))
  · exact vp_callSi (va_Run.run (va_runU (As := [.ref (ad i)]) (rest := [.int (((moF (fF S (9 + h) 6) τ C (fF S i 0) (gX S i 5))))]) ⟨hx, hb, hml, hown, hT⟩ (c_x4_patience l G ad S s.heap.size (2 + 5) (i) ((lt71 (by omega))) (hpk)) (tO 1 hT m2_192 m2_170 m2_168 m2_183 m2_181 m1_4 m2_182 m2_186 rfl rfl (by decide +kernel) ⟨Nat.le_of_ble_eq_true rfl, Nat.le_of_ble_eq_true rfl⟩) ⟨PcW_blind, va_recv hK hP (ci := 8) (q0 := 2 + 5) rfl (ix_at (lt71 (by omega)) (cX_knd (by omega))), PcW_of hP hK hD _⟩ rfl rfl hl.1 rfl (lv_room (Nat.le_of_ble_eq_true rfl)) (fk_get fk_cX7_refuses_0 6 rfl) ⟨Nat.zero_le _, Nat.zero_le _⟩)) (fun r h_ => kk_10 r (h_.trans lX_5.symm))
  · exact vp_callSi (va_Run.run (va_runU (As := [.ref (ad i)]) (rest := [.int (((moF (fF S (9 + h) 6) τ C (fF S i 0) (gX S i 6))))]) ⟨hx, hb, hml, hown, hT⟩ (c_x0_patience l G ad S s.heap.size (2 + 6) (i) ((lt71 (by omega))) (hpk)) (tO 1 hT m2_192 m2_170 m2_168 m2_185 m2_172 m1_5 m2_173 m2_186 rfl rfl (by decide +kernel) ⟨Nat.le_of_ble_eq_true rfl, Nat.le_of_ble_eq_true rfl⟩) ⟨PcW_blind, va_recv hK hP (ci := 12) (q0 := 2 + 6) rfl (ix_at (lt71 (by omega)) (cX_knd (by omega))), PcW_of hP hK hD _⟩ rfl rfl hl.1 rfl (lv_room (Nat.le_of_ble_eq_true rfl)) (fk_get fk_cX7_refuses_0 6 rfl) ⟨Nat.zero_le _, Nat.zero_le _⟩)) (fun r h_ => kk_10 r (h_.trans lX_6.symm))
set_option maxHeartbeats 800000 in
set_option maxRecDepth 100000 in
theorem c_x7_boughtBeyondAskedE (l : Launch) (G : GG) (ad : Nat → Nat) (S : FS) (sz : Nat) (h i q pz : Nat) (τ : Nat → Int32) (C : Cls) (hh : h < 3) (hpk : pk i = 7) (hcu : CuC S h i q pz τ C) (hX : XI S) : Met l yX7_boughtBeyondAsked (Cond.code yX7_boughtBeyondAsked cX7_boughtBeyondAsked 3 (some .int) :: TBL) ({ frames := 5, cells := 0, slots := 0, locals := 146 } : Room) (PcW G (wX G ad S) sz [.ref (ad (9 + h)), .ref (ad i)]) (vp_Si (fun (r : Int32) => r = if letF (gX S i q) < (moF (fF S (9 + h) 6) τ C (fF S i 0) (gX S i q)) then (moF (fF S (9 + h) 6) τ C (fF S i 0) (gX S i q)) / 2 else (moF (fF S (9 + h) 6) τ C (fF S i 0) (gX S i q)))) 0 0 (fun _ => False) := by
  refine Met.ofW (cc := cX7_boughtBeyondAsked) (maxL := 3) (ret := (some .int)) (by decide) rfl ?_
  intro p e s m args below meth c₀ s₁ B hml hv
  obtain ⟨rfl, hsz, hP, hK, hD0⟩ := hv
  have hx := B.exec
  have hb := B.bytes
  have hr := B.returns
  have hT : ∀ w ∈ TBL, w.before ([.ref (ad (9 + h)), .ref (ad i)] : List Value).toArray s = true := fun w h => atoms_spec (ws := Cond.code yX7_boughtBeyondAsked cX7_boughtBeyondAsked 3 (some .int) :: TBL) B.pre w (List.mem_cons_of_mem _ h)
  have hown : s.vm.findClass "LittleMore$Shop" = some m.cls := findClass_of_methodNamed B.named
  have hlocks := B.notSynchronized
  have hD := hD0
  have hP : va_P G.1 vwCl (wX G ad S) s.heap := hP
  have hl := lv_entry ([.ref (ad (9 + h)), .ref (ad i)]) (n := 3) (Nat.le_of_ble_eq_true rfl)
  rw [lg_entry_eq]
  generalize (lg_sl ([.ref (ad (9 + h)), .ref (ad i)]) ++ List.replicate (3 - (lg_sl ([.ref (ad (9 + h)), .ref (ad i)])).length) Slot.unset).toArray = ls at hl ⊢
  have hl : lv_has ls 3 [(0, .ref (ad (9 + h))), (1, .ref (ad i))] := hl
  refine W_abs (fun Q hQ => ?_)
  generalize ([.ref (ad (9 + h)), .ref (ad i)] : List Value).toArray = args at hT hQ ⊢
  have hb_i := pk7 hpk
  obtain ⟨hcx, hsay⟩ := id hcu
  obtain ⟨hkq, hq, hpz, hcok, hctx⟩ := id hcx
  refine lv_aload_n hx hb (fk_get fk_cX7_boughtBeyondAsked_0 0 rfl) rfl (lv_at hl 0 rfl) ?_
  refine lv_aload_n hx hb (fk_get fk_cX7_boughtBeyondAsked_0 1 rfl) rfl (lv_at hl 1 rfl) ?_
  refine vp_callSi (W.runV (As := [.ref (ad i)]) (rest := []) ⟨hx, hb, hml, hown, hT⟩ (c_x7_moreF l G ad S s.heap.size (h) (i) (q) (pz) (τ) (C) (hh) (hpk) (by first | assumption | omega) (hX)) (tV 1 hT m2_191 m2_125 m2_126 m1_9 m2_127 rfl rfl (by decide +kernel) ⟨Nat.le_of_ble_eq_true rfl, Nat.le_of_ble_eq_true rfl⟩) ⟨PcW_blind, va_recv hK hP (ci := 9) (q0 := (9 + h)) rfl (ix_at (lt71 (by omega)) (cX_shop (pk_shop hh))), PcW_of hP hK hD _⟩ rfl rfl hl.1 rfl (lv_room (Nat.le_of_ble_eq_true rfl)) (fk_get fk_cX7_boughtBeyondAsked_0 2 rfl) ⟨Nat.zero_le _, Nat.zero_le _⟩) (fun r_1 hw_2 => ?_)
  try dsimp only at hw_2
  subst hw_2
  refine lv_istore_n (lv' := [(2, .int (((moF (fF S (9 + h) 6) τ C (fF S i 0) (gX S i q))))), (0, .ref (ad (9 + h))), (1, .ref (ad i))]) hx hb (fk_get fk_cX7_boughtBeyondAsked_0 3 rfl) rfl hl (by decide) rfl (fun ls hl => ?_)
  refine lv_iload_n hx hb (fk_get fk_cX7_boughtBeyondAsked_0 4 rfl) rfl (lv_at hl 0 rfl) ?_
  refine lv_aload_n hx hb (fk_get fk_cX7_boughtBeyondAsked_0 5 rfl) rfl (lv_at hl 2 rfl) ?_
  refine va_get (D := G.1) (ci := 5) (v := va_rf ((fR S i 2).map ad)) (C := RX3) (T := TX3) (N := 10) hx hb hT inX3 hown hK hP i (ix_at (lt71 (by omega)) (cX_cust hpk)) rfl 2 (by decide) (hT _ m1_146) (fun _ h9 => h9) rfl (fk_get fk_cX7_boughtBeyondAsked_0 6 rfl) ?_
  rw [show va_rf ((fR S i 2).map ad) = .ref (ad (2 + q)) from by rw [hkq]; rfl]
  refine lv_aload_n hx hb (fk_get fk_cX7_boughtBeyondAsked_0 7 rfl) rfl (lv_at hl 2 rfl) ?_
  have kk_12 : ∀ rv_12 : Int32, rv_12 = (letF (gX S i q)) → W p l e ({ frames := 5, cells := 0, slots := 0, locals := 146 } : Room) s m args below meth c₀ s.heap [] 0 0 Q (F0 m 15 ls [.int (rv_12), .int (((moF (fF S (9 + h) 6) τ C (fF S i 0) (gX S i q))))]) := by
    intro rv_12 hv_12
    subst hv_12
    refine lv_icmp_le (tgt := 24) hx hb (fk_get fk_cX7_boughtBeyondAsked_0 9 rfl) (by decide) (fun c_3 => ?_) (fun c_3 => ?_)
    · refine lv_iload_n hx hb (fk_get fk_cX7_boughtBeyondAsked_0 14 rfl) rfl (lv_at hl 0 rfl) ?_
      subst hQ
      have hpost : (((moF (fF S (9 + h) 6) τ C (fF S i 0) (gX S i q))) : Int32) = if letF (gX S i q) < (moF (fF S (9 + h) 6) τ C (fF S i 0) (gX S i q)) then (moF (fF S (9 + h) 6) τ C (fF S i 0) (gX S i q)) / 2 else (moF (fF S (9 + h) 6) τ C (fF S i 0) (gX S i q)) := by
        first | exact (if_pos (Int32.not_le.mp (by assumption))).symm | exact (if_neg (Int32.not_lt.mpr (by assumption))).symm
      exact W.iret (v := ((moF (fF S (9 + h) 6) τ C (fF S i 0) (gX S i q)))) hx hb hr (fun t_ ht_ hW_ => ⟨((moF (fF S (9 + h) 6) τ C (fF S i 0) (gX S i q))), rfl, hpost, ht_⟩) (fun q h => by cases h) (fk_get fk_cX7_boughtBeyondAsked_0 15 rfl)
    refine lv_iload_n hx hb (fk_get fk_cX7_boughtBeyondAsked_0 10 rfl) rfl (lv_at hl 0 rfl) ?_
    refine lv_iconst (v := 2) hx hb (fk_get fk_cX7_boughtBeyondAsked_0 11 rfl) (by decide) ?_
    refine lv_idiv hx hb (fk_get fk_cX7_boughtBeyondAsked_0 12 rfl) (by decide) ?_
    refine lv_goto (tgt := 25) hx hb (fk_get fk_cX7_boughtBeyondAsked_0 13 rfl) (by decide) ?_
    subst hQ
    have hpost : ((((moF (fF S (9 + h) 6) τ C (fF S i 0) (gX S i q))) / 2) : Int32) = if letF (gX S i q) < (moF (fF S (9 + h) 6) τ C (fF S i 0) (gX S i q)) then (moF (fF S (9 + h) 6) τ C (fF S i 0) (gX S i q)) / 2 else (moF (fF S (9 + h) 6) τ C (fF S i 0) (gX S i q)) := by
      first | exact (if_pos (Int32.not_le.mp (by assumption))).symm | exact (if_neg (Int32.not_lt.mpr (by assumption))).symm
    exact W.iret (v := (((moF (fF S (9 + h) 6) τ C (fF S i 0) (gX S i q))) / 2)) hx hb hr (fun t_ ht_ hW_ => ⟨(((moF (fF S (9 + h) 6) τ C (fF S i 0) (gX S i q))) / 2), rfl, hpost, ht_⟩) (fun q h => by cases h) (fk_get fk_cX7_boughtBeyondAsked_0 15 rfl)
  rcases kq7 hq with rfl | rfl | rfl | rfl | rfl | rfl | rfl
  · exact vp_callSi (va_Run.run (va_runU (As := [.ref (ad i)]) (rest := [.int (((moF (fF S (9 + h) 6) τ C (fF S i 0) (gX S i 0))))]) ⟨hx, hb, hml, hown, hT⟩ (c_x5_patience l G ad S s.heap.size (2 + 0) (i) ((lt71 (by omega))) (hpk)) (tU 1 hT m2_192 m2_170 m2_169 m2_168 m1_2 m2_186 rfl rfl rfl (by decide +kernel) ⟨Nat.le_of_ble_eq_true rfl, Nat.le_of_ble_eq_true rfl⟩) ⟨PcW_blind, va_recv hK hP (ci := 7) (q0 := 2 + 0) rfl (ix_at (lt71 (by omega)) (cX_knd (by omega))), PcW_of hP hK hD _⟩ rfl rfl hl.1 rfl (lv_room (Nat.le_of_ble_eq_true rfl)) (fk_get fk_cX7_boughtBeyondAsked_0 8 rfl) ⟨Nat.zero_le _, Nat.zero_le _⟩)) (fun r h_ => kk_12 r (h_.trans lX_0.symm))
  · exact vp_callSi (va_Run.run (va_runU (As := [.ref (ad i)]) (rest := [.int (((moF (fF S (9 + h) 6) τ C (fF S i 0) (gX S i 1))))]) ⟨hx, hb, hml, hown, hT⟩ (c_x8_patience l G ad S s.heap.size (2 + 1) (i) ((lt71 (by omega))) (hpk)) (tO 1 hT m2_192 m2_170 m2_168 m2_184 m2_178 m1_3 m2_179 m2_186 rfl rfl (by decide +kernel) ⟨Nat.le_of_ble_eq_true rfl, Nat.le_of_ble_eq_true rfl⟩) ⟨PcW_blind, va_recv hK hP (ci := 10) (q0 := 2 + 1) rfl (ix_at (lt71 (by omega)) (cX_knd (by omega))), PcW_of hP hK hD _⟩ rfl rfl hl.1 rfl (lv_room (Nat.le_of_ble_eq_true rfl)) (fk_get fk_cX7_boughtBeyondAsked_0 8 rfl) ⟨Nat.zero_le _, Nat.zero_le _⟩)) (fun r h_ => kk_12 r (h_.trans lX_1.symm))
  · exact vp_callSi (va_Run.run (va_runU (As := [.ref (ad i)]) (rest := [.int (((moF (fF S (9 + h) 6) τ C (fF S i 0) (gX S i 2))))]) ⟨hx, hb, hml, hown, hT⟩ (c_x4_patience l G ad S s.heap.size (2 + 2) (i) ((lt71 (by omega))) (hpk)) (tO 1 hT m2_192 m2_170 m2_168 m2_180 m2_181 m1_4 m2_182 m2_186 rfl rfl (by decide +kernel) ⟨Nat.le_of_ble_eq_true rfl, Nat.le_of_ble_eq_true rfl⟩) ⟨PcW_blind, va_recv hK hP (ci := 6) (q0 := 2 + 2) rfl (ix_at (lt71 (by omega)) (cX_knd (by omega))), PcW_of hP hK hD _⟩ rfl rfl hl.1 rfl (lv_room (Nat.le_of_ble_eq_true rfl)) (fk_get fk_cX7_boughtBeyondAsked_0 8 rfl) ⟨Nat.zero_le _, Nat.zero_le _⟩)) (fun r h_ => kk_12 r (h_.trans lX_2.symm))
  · exact vp_callSi (va_Run.run (va_runU (As := [.ref (ad i)]) (rest := [.int (((moF (fF S (9 + h) 6) τ C (fF S i 0) (gX S i 3))))]) ⟨hx, hb, hml, hown, hT⟩ (c_x0_patience l G ad S s.heap.size (2 + 3) (i) ((lt71 (by omega))) (hpk)) (tO 1 hT m2_192 m2_170 m2_168 m2_171 m2_172 m1_5 m2_173 m2_186 rfl rfl (by decide +kernel) ⟨Nat.le_of_ble_eq_true rfl, Nat.le_of_ble_eq_true rfl⟩) ⟨PcW_blind, va_recv hK hP (ci := 2) (q0 := 2 + 3) rfl (ix_at (lt71 (by omega)) (cX_knd (by omega))), PcW_of hP hK hD _⟩ rfl rfl hl.1 rfl (lv_room (Nat.le_of_ble_eq_true rfl)) (fk_get fk_cX7_boughtBeyondAsked_0 8 rfl) ⟨Nat.zero_le _, Nat.zero_le _⟩)) (fun r h_ => kk_12 r (h_.trans lX_3.symm))
  · exact vp_callSi (va_Run.run (va_runU (As := [.ref (ad i)]) (rest := [.int (((moF (fF S (9 + h) 6) τ C (fF S i 0) (gX S i 4))))]) ⟨hx, hb, hml, hown, hT⟩ (c_x2_patienceE l G ad S s.heap.size (4) (i) ((by omega)) (hpk) (hX)) (tO 1 hT m2_192 m2_170 m2_168 m2_174 m2_175 m1_6 m2_176 m2_186 rfl rfl (by decide +kernel) ⟨Nat.le_of_ble_eq_true rfl, Nat.le_of_ble_eq_true rfl⟩) ⟨PcW_blind, va_recv hK hP (ci := 4) (q0 := 2 + 4) rfl (ix_at (lt71 (by omega)) (cX_knd (by omega))), PcW_of hP hK hD _⟩ rfl rfl hl.1 rfl (lv_room (Nat.le_of_ble_eq_true rfl)) (fk_get fk_cX7_boughtBeyondAsked_0 8 rfl) ⟨Nat.zero_le _, Nat.zero_le _⟩)) (fun r h_ => kk_12 r (h_.trans lX_4.symm))
  · exact vp_callSi (va_Run.run (va_runU (As := [.ref (ad i)]) (rest := [.int (((moF (fF S (9 + h) 6) τ C (fF S i 0) (gX S i 5))))]) ⟨hx, hb, hml, hown, hT⟩ (c_x4_patience l G ad S s.heap.size (2 + 5) (i) ((lt71 (by omega))) (hpk)) (tO 1 hT m2_192 m2_170 m2_168 m2_183 m2_181 m1_4 m2_182 m2_186 rfl rfl (by decide +kernel) ⟨Nat.le_of_ble_eq_true rfl, Nat.le_of_ble_eq_true rfl⟩) ⟨PcW_blind, va_recv hK hP (ci := 8) (q0 := 2 + 5) rfl (ix_at (lt71 (by omega)) (cX_knd (by omega))), PcW_of hP hK hD _⟩ rfl rfl hl.1 rfl (lv_room (Nat.le_of_ble_eq_true rfl)) (fk_get fk_cX7_boughtBeyondAsked_0 8 rfl) ⟨Nat.zero_le _, Nat.zero_le _⟩)) (fun r h_ => kk_12 r (h_.trans lX_5.symm))
  · exact vp_callSi (va_Run.run (va_runU (As := [.ref (ad i)]) (rest := [.int (((moF (fF S (9 + h) 6) τ C (fF S i 0) (gX S i 6))))]) ⟨hx, hb, hml, hown, hT⟩ (c_x0_patience l G ad S s.heap.size (2 + 6) (i) ((lt71 (by omega))) (hpk)) (tO 1 hT m2_192 m2_170 m2_168 m2_185 m2_172 m1_5 m2_173 m2_186 rfl rfl (by decide +kernel) ⟨Nat.le_of_ble_eq_true rfl, Nat.le_of_ble_eq_true rfl⟩) ⟨PcW_blind, va_recv hK hP (ci := 12) (q0 := 2 + 6) rfl (ix_at (lt71 (by omega)) (cX_knd (by omega))), PcW_of hP hK hD _⟩ rfl rfl hl.1 rfl (lv_room (Nat.le_of_ble_eq_true rfl)) (fk_get fk_cX7_boughtBeyondAsked_0 8 rfl) ⟨Nat.zero_le _, Nat.zero_le _⟩)) (fun r h_ => kk_12 r (h_.trans lX_6.symm))
set_option maxHeartbeats 800000 in
set_option maxRecDepth 100000 in
theorem c_x3_saysNoE (l : Launch) (G : GG) (ad : Nat → Nat) (S : FS) (sz : Nat) (i q : Nat) (hpk : pk i = 7) (hkq : fR S i 2 = some (2 + q)) (hq : q < 7) (hX : XI S) : Met l yX3_saysNo (Cond.code yX3_saysNo cX3_saysNo 1 none :: TBL) ({ frames := 3, cells := 0, slots := 0, locals := 89 } : Room) (PcW G (wX G ad S) sz [.ref (ad i)]) (va_Qv (fun (S' : FS) => XI S' ∧ Fr (fun j k => j = i ∧ 5 ≤ k ∧ k ≤ 9) S S' ∧ (fF S' i 6 = fF S i 6 ∧ fF S' i 8 = fF S i 8 ∧ fF S' i 7 = (if fF S i 7 + 1 < 99 then fF S i 7 + 1 else 99) ∧ fF S' i 5 = mx 0 (fF S i 5 - 2) ∧ fF S' i 9 = if nI q = 5 ∧ 3 ≤ fF S' i 7 then 1 else fF S i 9)) (fun S' t => BW G (va_A (wX G ad S) sz) (wX G ad S') t) (va_A (wX G ad S) sz)) 0 0 (va_A (wX G ad S) sz) := by
  refine Met.ofW (cc := cX3_saysNo) (maxL := 1) (ret := none) (by decide) rfl ?_
  intro p e s m args below meth c₀ s₁ B hml hv
  obtain ⟨rfl, hsz, hP, hK, hD0⟩ := hv
  have hx := B.exec
  have hb := B.bytes
  have hr := B.returns
  have hT : ∀ w ∈ TBL, w.before ([.ref (ad i)] : List Value).toArray s = true := fun w h => atoms_spec (ws := Cond.code yX3_saysNo cX3_saysNo 1 none :: TBL) B.pre w (List.mem_cons_of_mem _ h)
  have hown : s.vm.findClass "LittleMore$Customer" = some m.cls := findClass_of_methodNamed B.named
  have hlocks := B.notSynchronized
  subst hsz
  have hD := hD0.self (sz := s.heap.size)
  generalize hAe : va_A (wX G ad S) s.heap.size = A at hD ⊢
  have hA : ∀ q : Nat, s.heap.size ≤ q → A q := fun q h => by rw [← hAe]; exact Or.inr h
  have hS : va_S A s.heap s.heap [] := va_S.rf
  have hP : va_P G.1 vwCl (wX G ad S) s.heap := hP
  have hl := lv_entry ([.ref (ad i)]) (n := 1) (Nat.le_of_ble_eq_true rfl)
  rw [lg_entry_eq]
  generalize (lg_sl ([.ref (ad i)]) ++ List.replicate (1 - (lg_sl ([.ref (ad i)])).length) Slot.unset).toArray = ls at hl ⊢
  have hl : lv_has ls 1 [(0, .ref (ad i))] := hl
  refine W_abs (fun Q hQ => ?_)
  generalize ([.ref (ad i)] : List Value).toArray = args at hT hQ ⊢
  have hb_i := pk7 hpk
  refine lv_aload_n hx hb (fk_get fk_cX3_saysNo_0 0 rfl) rfl (lv_at hl 0 rfl) ?_
  refine lv_bipush (v := 99) hx hb (fk_get fk_cX3_saysNo_0 1 rfl) (by decide) ?_
  refine lv_aload_n hx hb (fk_get fk_cX3_saysNo_0 2 rfl) rfl (lv_at hl 0 rfl) ?_
  refine va_get (D := G.1) (ci := 5) (v := .int (fF S i 7)) (C := RX3) (T := TX3) (N := 10) hx hb hT inX3 hown hK hP i (ix_at (lt71 (by omega)) (cX_cust hpk)) rfl 7 (by decide) (hT _ m1_169) (fun _ h9 => h9) rfl (fk_get fk_cX3_saysNo_0 3 rfl) ?_
  refine lv_iconst (v := 1) hx hb (fk_get fk_cX3_saysNo_0 4 rfl) (by decide) ?_
  refine lv_iadd hx hb (fk_get fk_cX3_saysNo_0 5 rfl) ?_
  refine vp_callSi (W.runS (As := [.int (99), .int (((fF S i 7) + 1))]) (rest := [.ref (ad i)]) ⟨hx, hb, hml, hown, hT⟩ (c_jmin l (99) (((fF S i 7) + 1)) ) (tS 2 hT m3_178 m3_94 m1_18 m3_95 rfl rfl (by decide +kernel) ⟨Nat.le_of_ble_eq_true rfl, Nat.le_of_ble_eq_true rfl⟩) ⟨PcN_blind, PcN_of _ _ _⟩ rfl rfl hl.1 rfl (lv_room (Nat.le_of_ble_eq_true rfl)) (fk_get fk_cX3_saysNo_0 6 rfl) ⟨Nat.zero_le _, Nat.zero_le _⟩) (fun r_1 hw_2 => ?_)
  try dsimp only at hw_2
  subst hw_2
  refine va_put (D := G.1) (ci := 5) (v := .int (((if fF S i 7 + 1 < 99 then fF S i 7 + 1 else 99)))) (ty := .int) (C := RX3) (T := TX3) (N := 10) hx hb hT inX3 tyX3 tyX3_ok nmX3 hown hK hP hD hS i (ix_at (lt71 (by omega)) (cX_cust hpk)) rfl 7 (by decide) (hT _ m1_169) (fun _ h9 => h9) rfl (by decide +kernel) rfl rfl (Nat.le_of_ble_eq_true rfl) (fk_get fk_cX3_saysNo_0 7 rfl) (fun H locs hP hD hS => ?_)
  rw [pX_cust_7 (S := S) (lt71 (by omega)) (hpk) (((if fF S i 7 + 1 < 99 then fF S i 7 + 1 else 99)))] at hP hD
  have hX_3 : XI (setF S i 7 (((if fF S i 7 + 1 < 99 then fF S i 7 + 1 else 99)))) := XI.sF hX _ ⟨by omega, by omega, by omega, by omega, by omega, by omega, by omega, by omega⟩
  have hF_4 : Fr (fun j k => j = i ∧ 5 ≤ k ∧ k ≤ 9) S (setF S i 7 (((if fF S i 7 + 1 < 99 then fF S i 7 + 1 else 99)))) := Fr.sF (Fr.rf : Fr (fun j k => j = i ∧ 5 ≤ k ∧ k ≤ 9) S S) (by omega)
  refine lv_aload_n hx hb (fk_get fk_cX3_saysNo_0 8 rfl) rfl (lv_at hl 0 rfl) ?_
  refine lv_iconst (v := 0) hx hb (fk_get fk_cX3_saysNo_0 9 rfl) (by decide) ?_
  refine lv_aload_n hx hb (fk_get fk_cX3_saysNo_0 10 rfl) rfl (lv_at hl 0 rfl) ?_
  refine va_get (D := G.1) (ci := 5) (v := .int (fF (setF S i 7 (((if fF S i 7 + 1 < 99 then fF S i 7 + 1 else 99)))) i 5)) (C := RX3) (T := TX3) (N := 10) hx hb hT inX3 hown hK hP i (ix_at (lt71 (by omega)) (cX_cust hpk)) rfl 5 (by decide) (hT _ m1_159) (fun _ h9 => h9) rfl (fk_get fk_cX3_saysNo_0 11 rfl) ?_
  rw [show fF (setF S i 7 (((if fF S i 7 + 1 < 99 then fF S i 7 + 1 else 99)))) i 5 = (fF S i 5) from by simp [fF_setF, fF_setR, fF_setA, fF_setL]]
  refine lv_iconst (v := 2) hx hb (fk_get fk_cX3_saysNo_0 12 rfl) (by decide) ?_
  refine lv_isub hx hb (fk_get fk_cX3_saysNo_0 13 rfl) ?_
  refine vp_callSi (W.runS (As := [.int (0), .int (((fF S i 5) - 2))]) (rest := [.ref (ad i)]) ⟨hx, hb, hml, hown, hT⟩ (c_jmax l (0) (((fF S i 5) - 2)) ) (tS 2 hT m3_179 m2_139 m1_18 m2_140 rfl rfl (by decide +kernel) ⟨Nat.le_of_ble_eq_true rfl, Nat.le_of_ble_eq_true rfl⟩) ⟨PcN_blind, PcN_of _ _ _⟩ rfl rfl hl.1 rfl (lv_room (Nat.le_of_ble_eq_true rfl)) (fk_get fk_cX3_saysNo_0 14 rfl) ⟨Nat.zero_le _, Nat.zero_le _⟩) (fun r_5 hw_6 => ?_)
  try dsimp only at hw_6
  rw [mx_m] at hw_6
  subst hw_6
  refine va_put (D := G.1) (ci := 5) (v := .int ((mx 0 (fF S i 5 - 2)))) (ty := .int) (C := RX3) (T := TX3) (N := 10) hx hb hT inX3 tyX3 tyX3_ok nmX3 hown hK hP hD hS i (ix_at (lt71 (by omega)) (cX_cust hpk)) rfl 5 (by decide) (hT _ m1_159) (fun _ h9 => h9) rfl (by decide +kernel) rfl rfl (Nat.le_of_ble_eq_true rfl) (fk_get fk_cX3_saysNo_0 15 rfl) (fun H locs hP hD hS => ?_)
  rw [pX_cust_5 (S := (setF S i 7 (((if fF S i 7 + 1 < 99 then fF S i 7 + 1 else 99))))) (lt71 (by omega)) (hpk) ((mx 0 (fF S i 5 - 2)))] at hP hD
  have hX_7 : XI (setF (setF S i 7 (((if fF S i 7 + 1 < 99 then fF S i 7 + 1 else 99)))) i 5 ((mx 0 (fF S i 5 - 2)))) := XI.sF hX_3 _ ⟨by omega, by omega, by omega, by omega, by omega, by omega, by omega, by omega⟩
  have hF_8 : Fr (fun j k => j = i ∧ 5 ≤ k ∧ k ≤ 9) S (setF (setF S i 7 (((if fF S i 7 + 1 < 99 then fF S i 7 + 1 else 99)))) i 5 ((mx 0 (fF S i 5 - 2)))) := Fr.sF hF_4 (by omega)
  refine lv_aload_n hx hb (fk_get fk_cX3_saysNo_0 16 rfl) rfl (lv_at hl 0 rfl) ?_
  obtain ⟨n_9, en_9, bn_9⟩ := XI.kin hX_7 hpk
  refine va_get (D := G.1) (ci := 5) (v := va_rf ((fR (setF (setF S i 7 (((if fF S i 7 + 1 < 99 then fF S i 7 + 1 else 99)))) i 5 ((mx 0 (fF S i 5 - 2)))) i 2).map ad)) (C := RX3) (T := TX3) (N := 10) hx hb hT inX3 hown hK hP i (ix_at (lt71 (by omega)) (cX_cust hpk)) rfl 2 (by decide) (hT _ m1_143) (fun _ h9 => h9) rfl (fk_get fk_cX3_saysNo_0 17 rfl) ?_
  rw [show va_rf ((fR (setF (setF S i 7 (((if fF S i 7 + 1 < 99 then fF S i 7 + 1 else 99)))) i 5 ((mx 0 (fF S i 5 - 2)))) i 2).map ad) = .ref (ad (2 + n_9)) from by rw [en_9]; rfl]
  refine lv_aload_n hx hb (fk_get fk_cX3_saysNo_0 18 rfl) rfl (lv_at hl 0 rfl) ?_
  have evq_ : q = n_9 := by have z_ := Option.some.inj (hkq.symm.trans en_9); omega
  subst evq_
  have kk_34 : ∀ rv_34 : Int32, (rv_34 = 0 ∨ rv_34 = 1) → rv_34 = (if nI q = 5 ∧ 3 ≤ fF (setF (setF S i 7 (((if fF S i 7 + 1 < 99 then fF S i 7 + 1 else 99)))) i 5 ((mx 0 (fF S i 5 - 2)))) i 7 then 1 else 0) → W p l e ({ frames := 3, cells := 0, slots := 0, locals := 89 } : Room) s m args below meth c₀ H locs 0 0 Q (F0 m 37 ls [.int (rv_34)]) := by
    intro rv_34 hz_34 hv_34
    subst hv_34
    refine lv_if_eq (tgt := 45) hx hb (fk_get fk_cX3_saysNo_0 20 rfl) (by decide) (fun c_10 => ?_) (fun c_10 => ?_)
    · have hle_ := c_10
      subst hQ
      have hpost : XI (setF (setF S i 7 (((if fF S i 7 + 1 < 99 then fF S i 7 + 1 else 99)))) i 5 ((mx 0 (fF S i 5 - 2)))) ∧ Fr (fun j k => j = i ∧ 5 ≤ k ∧ k ≤ 9) S (setF (setF S i 7 (((if fF S i 7 + 1 < 99 then fF S i 7 + 1 else 99)))) i 5 ((mx 0 (fF S i 5 - 2)))) ∧ (fF (setF (setF S i 7 (((if fF S i 7 + 1 < 99 then fF S i 7 + 1 else 99)))) i 5 ((mx 0 (fF S i 5 - 2)))) i 6 = fF S i 6 ∧ fF (setF (setF S i 7 (((if fF S i 7 + 1 < 99 then fF S i 7 + 1 else 99)))) i 5 ((mx 0 (fF S i 5 - 2)))) i 8 = fF S i 8 ∧ fF (setF (setF S i 7 (((if fF S i 7 + 1 < 99 then fF S i 7 + 1 else 99)))) i 5 ((mx 0 (fF S i 5 - 2)))) i 7 = (if fF S i 7 + 1 < 99 then fF S i 7 + 1 else 99) ∧ fF (setF (setF S i 7 (((if fF S i 7 + 1 < 99 then fF S i 7 + 1 else 99)))) i 5 ((mx 0 (fF S i 5 - 2)))) i 5 = mx 0 (fF S i 5 - 2) ∧ fF (setF (setF S i 7 (((if fF S i 7 + 1 < 99 then fF S i 7 + 1 else 99)))) i 5 ((mx 0 (fF S i 5 - 2)))) i 9 = if nI q = 5 ∧ 3 ≤ fF (setF (setF S i 7 (((if fF S i 7 + 1 < 99 then fF S i 7 + 1 else 99)))) i 5 ((mx 0 (fF S i 5 - 2)))) i 7 then 1 else fF S i 9) := by
        exact ⟨hX_7, hF_8, by first | exact sno_e (S := S) (q := q) (by simp [fF_setF, fF_setR, fF_setA]) (by simp [fF_setF, fF_setR, fF_setA]) (by simp [fF_setF, fF_setR, fF_setA]) (by simp [fF_setF, fF_setR, fF_setA]) (by simp [fF_setF, fF_setR, fF_setA]) (Or.inl ⟨hle_, by simp [fF_setF, fF_setR, fF_setA]⟩) | exact sno_e (S := S) (q := q) (by simp [fF_setF, fF_setR, fF_setA]) (by simp [fF_setF, fF_setR, fF_setA]) (by simp [fF_setF, fF_setR, fF_setA]) (by simp [fF_setF, fF_setR, fF_setA]) (by simp [fF_setF, fF_setR, fF_setA]) (Or.inr ⟨hle_, by simp [fF_setF, fF_setR, fF_setA]⟩)⟩
      exact W.vret hx hb hr (fun t_ ht_ hW_ => ⟨⟨(setF (setF S i 7 (((if fF S i 7 + 1 < 99 then fF S i 7 + 1 else 99)))) i 5 ((mx 0 (fF S i 5 - 2)))), rfl, hpost, by rw [ht_]; exact hP, va_K.moved hW_.alike hK, hD⟩, hS.F ht_⟩) hS.2.2 (fk_get fk_cX3_saysNo_0 24 rfl)
    have hle_ := c_10
    refine lv_aload_n hx hb (fk_get fk_cX3_saysNo_0 21 rfl) rfl (lv_at hl 0 rfl) ?_
    refine lv_iconst (v := 1) hx hb (fk_get fk_cX3_saysNo_0 22 rfl) (by decide) ?_
    refine va_put (D := G.1) (ci := 5) (v := .int (1)) (ty := .boolean) (C := RX3) (T := TX3) (N := 10) hx hb hT inX3 tyX3 tyX3_ok nmX3 hown hK hP hD hS i (ix_at (lt71 (by omega)) (cX_cust hpk)) rfl 9 (by decide) (hT _ m1_178) (fun _ h9 => h9) rfl (by decide +kernel) rfl rfl (Nat.le_of_ble_eq_true rfl) (fk_get fk_cX3_saysNo_0 23 rfl) (fun H locs hP hD hS => ?_)
    rw [pX_cust_9 (S := (setF (setF S i 7 (((if fF S i 7 + 1 < 99 then fF S i 7 + 1 else 99)))) i 5 ((mx 0 (fF S i 5 - 2))))) (lt71 (by omega)) (hpk) (1)] at hP hD
    have hX_11 : XI (setF (setF (setF S i 7 (((if fF S i 7 + 1 < 99 then fF S i 7 + 1 else 99)))) i 5 ((mx 0 (fF S i 5 - 2)))) i 9 (1)) := XI.gone_ hX_7 hpk (Or.inr rfl)
    have hF_12 : Fr (fun j k => j = i ∧ 5 ≤ k ∧ k ≤ 9) S (setF (setF (setF S i 7 (((if fF S i 7 + 1 < 99 then fF S i 7 + 1 else 99)))) i 5 ((mx 0 (fF S i 5 - 2)))) i 9 (1)) := Fr.sF hF_8 (by omega)
    subst hQ
    have hpost : XI (setF (setF (setF S i 7 (((if fF S i 7 + 1 < 99 then fF S i 7 + 1 else 99)))) i 5 ((mx 0 (fF S i 5 - 2)))) i 9 (1)) ∧ Fr (fun j k => j = i ∧ 5 ≤ k ∧ k ≤ 9) S (setF (setF (setF S i 7 (((if fF S i 7 + 1 < 99 then fF S i 7 + 1 else 99)))) i 5 ((mx 0 (fF S i 5 - 2)))) i 9 (1)) ∧ (fF (setF (setF (setF S i 7 (((if fF S i 7 + 1 < 99 then fF S i 7 + 1 else 99)))) i 5 ((mx 0 (fF S i 5 - 2)))) i 9 (1)) i 6 = fF S i 6 ∧ fF (setF (setF (setF S i 7 (((if fF S i 7 + 1 < 99 then fF S i 7 + 1 else 99)))) i 5 ((mx 0 (fF S i 5 - 2)))) i 9 (1)) i 8 = fF S i 8 ∧ fF (setF (setF (setF S i 7 (((if fF S i 7 + 1 < 99 then fF S i 7 + 1 else 99)))) i 5 ((mx 0 (fF S i 5 - 2)))) i 9 (1)) i 7 = (if fF S i 7 + 1 < 99 then fF S i 7 + 1 else 99) ∧ fF (setF (setF (setF S i 7 (((if fF S i 7 + 1 < 99 then fF S i 7 + 1 else 99)))) i 5 ((mx 0 (fF S i 5 - 2)))) i 9 (1)) i 5 = mx 0 (fF S i 5 - 2) ∧ fF (setF (setF (setF S i 7 (((if fF S i 7 + 1 < 99 then fF S i 7 + 1 else 99)))) i 5 ((mx 0 (fF S i 5 - 2)))) i 9 (1)) i 9 = if nI q = 5 ∧ 3 ≤ fF (setF (setF (setF S i 7 (((if fF S i 7 + 1 < 99 then fF S i 7 + 1 else 99)))) i 5 ((mx 0 (fF S i 5 - 2)))) i 9 (1)) i 7 then 1 else fF S i 9) := by
      exact ⟨hX_11, hF_12, by first | exact sno_e (S := S) (q := q) (by simp [fF_setF, fF_setR, fF_setA]) (by simp [fF_setF, fF_setR, fF_setA]) (by simp [fF_setF, fF_setR, fF_setA]) (by simp [fF_setF, fF_setR, fF_setA]) (by simp [fF_setF, fF_setR, fF_setA]) (Or.inl ⟨hle_, by simp [fF_setF, fF_setR, fF_setA]⟩) | exact sno_e (S := S) (q := q) (by simp [fF_setF, fF_setR, fF_setA]) (by simp [fF_setF, fF_setR, fF_setA]) (by simp [fF_setF, fF_setR, fF_setA]) (by simp [fF_setF, fF_setR, fF_setA]) (by simp [fF_setF, fF_setR, fF_setA]) (Or.inr ⟨hle_, by simp [fF_setF, fF_setR, fF_setA]⟩)⟩
    exact W.vret hx hb hr (fun t_ ht_ hW_ => ⟨⟨(setF (setF (setF S i 7 (((if fF S i 7 + 1 < 99 then fF S i 7 + 1 else 99)))) i 5 ((mx 0 (fF S i 5 - 2)))) i 9 (1)), rfl, hpost, by rw [ht_]; exact hP, va_K.moved hW_.alike hK, hD⟩, hS.F ht_⟩) hS.2.2 (fk_get fk_cX3_saysNo_0 24 rfl)
  rcases kq7 hq with rfl | rfl | rfl | rfl | rfl | rfl | rfl
  · exact vp_callSi (va_Run.run (va_runU (As := [.ref (ad i)]) (rest := []) ⟨hx, hb, hml, hown, hT⟩ (c_x5_leaves l G ad (setF (setF S i 7 (((if fF S i 7 + 1 < 99 then fF S i 7 + 1 else 99)))) i 5 ((mx 0 (fF S i 5 - 2)))) H.size (2 + 0) (i) ((lt71 (by omega))) (hpk)) (tU 1 hT m3_180 m3_183 m3_182 m3_181 m1_2 m3_192 rfl rfl rfl (by decide +kernel) ⟨Nat.le_of_ble_eq_true rfl, Nat.le_of_ble_eq_true rfl⟩) ⟨PcW_blind, va_recv hK hP (ci := 7) (q0 := 2 + 0) rfl (ix_at (lt71 (by omega)) (cX_knd (by omega))), PcW_of hP hK hD _⟩ rfl rfl hl.1 rfl (lv_room (Nat.le_of_ble_eq_true rfl)) (fk_get fk_cX3_saysNo_0 19 rfl) ⟨Nat.zero_le _, Nat.zero_le _⟩)) (fun r h_ => kk_34 r (Or.inl h_) (h_.trans (lv_n _ (by decide))))
  · exact vp_callSi (va_Run.run (va_runU (As := [.ref (ad i)]) (rest := []) ⟨hx, hb, hml, hown, hT⟩ (c_x5_leaves l G ad (setF (setF S i 7 (((if fF S i 7 + 1 < 99 then fF S i 7 + 1 else 99)))) i 5 ((mx 0 (fF S i 5 - 2)))) H.size (2 + 1) (i) ((lt71 (by omega))) (hpk)) (tU 1 hT m3_180 m3_183 m3_190 m3_181 m1_2 m3_192 rfl rfl rfl (by decide +kernel) ⟨Nat.le_of_ble_eq_true rfl, Nat.le_of_ble_eq_true rfl⟩) ⟨PcW_blind, va_recv hK hP (ci := 10) (q0 := 2 + 1) rfl (ix_at (lt71 (by omega)) (cX_knd (by omega))), PcW_of hP hK hD _⟩ rfl rfl hl.1 rfl (lv_room (Nat.le_of_ble_eq_true rfl)) (fk_get fk_cX3_saysNo_0 19 rfl) ⟨Nat.zero_le _, Nat.zero_le _⟩)) (fun r h_ => kk_34 r (Or.inl h_) (h_.trans (lv_n _ (by decide))))
  · exact vp_callSi (va_Run.run (va_runU (As := [.ref (ad i)]) (rest := []) ⟨hx, hb, hml, hown, hT⟩ (c_x5_leaves l G ad (setF (setF S i 7 (((if fF S i 7 + 1 < 99 then fF S i 7 + 1 else 99)))) i 5 ((mx 0 (fF S i 5 - 2)))) H.size (2 + 2) (i) ((lt71 (by omega))) (hpk)) (tU 1 hT m3_180 m3_183 m3_186 m3_181 m1_2 m3_192 rfl rfl rfl (by decide +kernel) ⟨Nat.le_of_ble_eq_true rfl, Nat.le_of_ble_eq_true rfl⟩) ⟨PcW_blind, va_recv hK hP (ci := 6) (q0 := 2 + 2) rfl (ix_at (lt71 (by omega)) (cX_knd (by omega))), PcW_of hP hK hD _⟩ rfl rfl hl.1 rfl (lv_room (Nat.le_of_ble_eq_true rfl)) (fk_get fk_cX3_saysNo_0 19 rfl) ⟨Nat.zero_le _, Nat.zero_le _⟩)) (fun r h_ => kk_34 r (Or.inl h_) (h_.trans (lv_n _ (by decide))))
  · exact vp_callSi (va_Run.run (va_runU (As := [.ref (ad i)]) (rest := []) ⟨hx, hb, hml, hown, hT⟩ (c_x5_leaves l G ad (setF (setF S i 7 (((if fF S i 7 + 1 < 99 then fF S i 7 + 1 else 99)))) i 5 ((mx 0 (fF S i 5 - 2)))) H.size (2 + 3) (i) ((lt71 (by omega))) (hpk)) (tU 1 hT m3_180 m3_183 m3_184 m3_181 m1_2 m3_192 rfl rfl rfl (by decide +kernel) ⟨Nat.le_of_ble_eq_true rfl, Nat.le_of_ble_eq_true rfl⟩) ⟨PcW_blind, va_recv hK hP (ci := 2) (q0 := 2 + 3) rfl (ix_at (lt71 (by omega)) (cX_knd (by omega))), PcW_of hP hK hD _⟩ rfl rfl hl.1 rfl (lv_room (Nat.le_of_ble_eq_true rfl)) (fk_get fk_cX3_saysNo_0 19 rfl) ⟨Nat.zero_le _, Nat.zero_le _⟩)) (fun r h_ => kk_34 r (Or.inl h_) (h_.trans (lv_n _ (by decide))))
  · exact vp_callSi (va_Run.run (va_runU (As := [.ref (ad i)]) (rest := []) ⟨hx, hb, hml, hown, hT⟩ (c_x5_leaves l G ad (setF (setF S i 7 (((if fF S i 7 + 1 < 99 then fF S i 7 + 1 else 99)))) i 5 ((mx 0 (fF S i 5 - 2)))) H.size (2 + 4) (i) ((lt71 (by omega))) (hpk)) (tU 1 hT m3_180 m3_183 m3_185 m3_181 m1_2 m3_192 rfl rfl rfl (by decide +kernel) ⟨Nat.le_of_ble_eq_true rfl, Nat.le_of_ble_eq_true rfl⟩) ⟨PcW_blind, va_recv hK hP (ci := 4) (q0 := 2 + 4) rfl (ix_at (lt71 (by omega)) (cX_knd (by omega))), PcW_of hP hK hD _⟩ rfl rfl hl.1 rfl (lv_room (Nat.le_of_ble_eq_true rfl)) (fk_get fk_cX3_saysNo_0 19 rfl) ⟨Nat.zero_le _, Nat.zero_le _⟩)) (fun r h_ => kk_34 r (Or.inl h_) (h_.trans (lv_n _ (by decide))))
  · exact vp_callSi (va_Run.run (va_runU (As := [.ref (ad i)]) (rest := []) ⟨hx, hb, hml, hown, hT⟩ (c_x6_leaves l G ad (setF (setF S i 7 (((if fF S i 7 + 1 < 99 then fF S i 7 + 1 else 99)))) i 5 ((mx 0 (fF S i 5 - 2)))) H.size (2 + 5) (i) ((lt71 (by omega))) (hpk)) (tO 1 hT m3_180 m3_183 m3_181 m3_187 m3_188 m1_7 m3_189 m3_192 rfl rfl (by decide +kernel) ⟨Nat.le_of_ble_eq_true rfl, Nat.le_of_ble_eq_true rfl⟩) ⟨PcW_blind, va_recv hK hP (ci := 8) (q0 := 2 + 5) rfl (ix_at (lt71 (by omega)) (cX_knd (by omega))), PcW_of hP hK hD _⟩ rfl rfl hl.1 rfl (lv_room (Nat.le_of_ble_eq_true rfl)) (fk_get fk_cX3_saysNo_0 19 rfl) ⟨Nat.zero_le _, Nat.zero_le _⟩)) (fun r h_ => kk_34 r (if1_01 h_) (h_.trans (lv_5 _)))
  · exact vp_callSi (va_Run.run (va_runU (As := [.ref (ad i)]) (rest := []) ⟨hx, hb, hml, hown, hT⟩ (c_x5_leaves l G ad (setF (setF S i 7 (((if fF S i 7 + 1 < 99 then fF S i 7 + 1 else 99)))) i 5 ((mx 0 (fF S i 5 - 2)))) H.size (2 + 6) (i) ((lt71 (by omega))) (hpk)) (tU 1 hT m3_180 m3_183 m3_191 m3_181 m1_2 m3_192 rfl rfl rfl (by decide +kernel) ⟨Nat.le_of_ble_eq_true rfl, Nat.le_of_ble_eq_true rfl⟩) ⟨PcW_blind, va_recv hK hP (ci := 12) (q0 := 2 + 6) rfl (ix_at (lt71 (by omega)) (cX_knd (by omega))), PcW_of hP hK hD _⟩ rfl rfl hl.1 rfl (lv_room (Nat.le_of_ble_eq_true rfl)) (fk_get fk_cX3_saysNo_0 19 rfl) ⟨Nat.zero_le _, Nat.zero_le _⟩)) (fun r h_ => kk_34 r (Or.inl h_) (h_.trans (lv_n _ (by decide))))
set_option maxHeartbeats 800000 in
set_option maxRecDepth 100000 in
theorem c_x7_makeVisitE (l : Launch) (G : GG) (ad : Nat → Nat) (S : FS) (sz : Nat) (h i q pz bb lz : Nat) (τ : Nat → Int32) (C : Cls) (hh : h < 3) (hpk : pk i = 7) (hcu : CuC S h i q pz τ C) (hgb : GB bb (gX S i q)) (hbb : bb < 900000) (hln : lstW 3 1 C = nI lz) (hlz : lz ≤ 99) (hX : XI S) : Met l yX7_makeVisit (Cond.code yX7_makeVisit cX7_makeVisit 5 (some .int) :: TBL) ({ frames := 5, cells := 0, slots := 0, locals := 146 } : Room) (PcW G (wX G ad S) sz [.ref (ad (9 + h)), .ref (ad i)]) (va_Qi (fun (r : Int32) (S' : FS) => XI S' ∧ Fr (fun j k => j = i ∧ 5 ≤ k ∧ k ≤ 9) S S' ∧ (r = boF (moF (fF S (9 + h) 6) τ C (fF S i 0) (gX S i q)) (gX S i q) ∧ ∀ k, 3 ≤ k → k ≤ 7 → gX S' i q k = visF 1 (lstW 3 1 C) (moF (fF S (9 + h) 6) τ C (fF S i 0) (gX S i q)) (gX S i q) k)) (fun S' t => BW G (va_A (wX G ad S) sz) (wX G ad S') t) (va_A (wX G ad S) sz)) 0 0 (va_A (wX G ad S) sz) := by
  refine Met.ofW (cc := cX7_makeVisit) (maxL := 5) (ret := (some .int)) (by decide) rfl ?_
  intro p e s m args below meth c₀ s₁ B hml hv
  obtain ⟨rfl, hsz, hP, hK, hD0⟩ := hv
  have hx := B.exec
  have hb := B.bytes
  have hr := B.returns
  have hT : ∀ w ∈ TBL, w.before ([.ref (ad (9 + h)), .ref (ad i)] : List Value).toArray s = true := fun w h => atoms_spec (ws := Cond.code yX7_makeVisit cX7_makeVisit 5 (some .int) :: TBL) B.pre w (List.mem_cons_of_mem _ h)
  have hown : s.vm.findClass "LittleMore$Shop" = some m.cls := findClass_of_methodNamed B.named
  have hlocks := B.notSynchronized
  subst hsz
  have hD := hD0.self (sz := s.heap.size)
  generalize hAe : va_A (wX G ad S) s.heap.size = A at hD ⊢
  have hA : ∀ q : Nat, s.heap.size ≤ q → A q := fun q h => by rw [← hAe]; exact Or.inr h
  have hS : va_S A s.heap s.heap [] := va_S.rf
  have hP : va_P G.1 vwCl (wX G ad S) s.heap := hP
  have hl := lv_entry ([.ref (ad (9 + h)), .ref (ad i)]) (n := 5) (Nat.le_of_ble_eq_true rfl)
  rw [lg_entry_eq]
  generalize (lg_sl ([.ref (ad (9 + h)), .ref (ad i)]) ++ List.replicate (5 - (lg_sl ([.ref (ad (9 + h)), .ref (ad i)])).length) Slot.unset).toArray = ls at hl ⊢
  have hl : lv_has ls 5 [(0, .ref (ad (9 + h))), (1, .ref (ad i))] := hl
  refine W_abs (fun Q hQ => ?_)
  generalize ([.ref (ad (9 + h)), .ref (ad i)] : List Value).toArray = args at hT hQ ⊢
  have hb_i := pk7 hpk
  obtain ⟨hcx, hsay⟩ := id hcu
  obtain ⟨hkq, hq, hpz, hcok, hctx⟩ := id hcx
  obtain ⟨xv, hxv, hx8⟩ := hgb.2.2.1
  have hx8 : fF S i 8 = nI xv := hx8
  have hx30 : xv < 1000000 := by omega
  refine lv_aload_n hx hb (fk_get fk_cX7_makeVisit_0 0 rfl) rfl (lv_at hl 0 rfl) ?_
  refine lv_aload_n hx hb (fk_get fk_cX7_makeVisit_0 1 rfl) rfl (lv_at hl 1 rfl) ?_
  refine vp_callSi (W.runV (As := [.ref (ad i)]) (rest := []) ⟨hx, hb, hml, hown, hT⟩ (c_x7_moreF l G ad S s.heap.size (h) (i) (q) (pz) (τ) (C) (hh) (hpk) (by first | assumption | omega) (hX)) (tV 1 hT m2_191 m2_125 m2_126 m1_9 m2_127 rfl rfl (by decide +kernel) ⟨Nat.le_of_ble_eq_true rfl, Nat.le_of_ble_eq_true rfl⟩) ⟨PcW_blind, va_recv hK hP (ci := 9) (q0 := (9 + h)) rfl (ix_at (lt71 (by omega)) (cX_shop (pk_shop hh))), PcW_of hP hK hD _⟩ rfl rfl hl.1 rfl (lv_room (Nat.le_of_ble_eq_true rfl)) (fk_get fk_cX7_makeVisit_0 2 rfl) ⟨Nat.zero_le _, Nat.zero_le _⟩) (fun r_1 hw_2 => ?_)
  try dsimp only at hw_2
  subst hw_2
  refine lv_istore_n (lv' := [(2, .int (((moF (fF S (9 + h) 6) τ C (fF S i 0) (gX S i q))))), (0, .ref (ad (9 + h))), (1, .ref (ad i))]) hx hb (fk_get fk_cX7_makeVisit_0 3 rfl) rfl hl (by decide) rfl (fun ls hl => ?_)
  refine lv_iload_n hx hb (fk_get fk_cX7_makeVisit_0 4 rfl) rfl (lv_at hl 0 rfl) ?_
  refine lv_aload_n hx hb (fk_get fk_cX7_makeVisit_0 5 rfl) rfl (lv_at hl 2 rfl) ?_
  refine va_get (D := G.1) (ci := 5) (v := va_rf ((fR S i 2).map ad)) (C := RX3) (T := TX3) (N := 10) hx hb hT inX3 hown hK hP i (ix_at (lt71 (by omega)) (cX_cust hpk)) rfl 2 (by decide) (hT _ m1_146) (fun _ h9 => h9) rfl (fk_get fk_cX7_makeVisit_0 6 rfl) ?_
  rw [show va_rf ((fR S i 2).map ad) = .ref (ad (2 + q)) from by rw [hkq]; rfl]
  refine lv_aload_n hx hb (fk_get fk_cX7_makeVisit_0 7 rfl) rfl (lv_at hl 2 rfl) ?_
  have kk_12 : ∀ rv_12 : Int32, rv_12 = (letF (gX S i q)) → W p l e ({ frames := 5, cells := 0, slots := 0, locals := 146 } : Room) s m args below meth c₀ s.heap [] 0 0 Q (F0 m 15 ls [.int (rv_12), .int (((moF (fF S (9 + h) 6) τ C (fF S i 0) (gX S i q))))]) := by
    intro rv_12 hv_12
    subst hv_12
    refine lv_icmp_le (tgt := 22) hx hb (fk_get fk_cX7_makeVisit_0 9 rfl) (by decide) (fun c_3 => ?_) (fun c_3 => ?_)
    · have hN : ¬ letF (gX S i q) < (moF (fF S (9 + h) 6) τ C (fF S i 0) (gX S i q)) := Int32.not_lt.mpr c_3
      refine lv_iconst (v := 0) hx hb (fk_get fk_cX7_makeVisit_0 12 rfl) (by decide) ?_
      refine lv_istore_n (lv' := [(3, .int (0)), (2, .int (((moF (fF S (9 + h) 6) τ C (fF S i 0) (gX S i q))))), (0, .ref (ad (9 + h))), (1, .ref (ad i))]) hx hb (fk_get fk_cX7_makeVisit_0 13 rfl) rfl hl (by decide) rfl (fun ls hl => ?_)
      refine lv_aload_n hx hb (fk_get fk_cX7_makeVisit_0 14 rfl) rfl (lv_at hl 3 rfl) ?_
      refine va_get (D := G.1) (ci := 5) (v := va_rf ((fR S i 2).map ad)) (C := RX3) (T := TX3) (N := 10) hx hb hT inX3 hown hK hP i (ix_at (lt71 (by omega)) (cX_cust hpk)) rfl 2 (by decide) (hT _ m1_146) (fun _ h9 => h9) rfl (fk_get fk_cX7_makeVisit_0 15 rfl) ?_
      rw [show va_rf ((fR S i 2).map ad) = .ref (ad (2 + q)) from by rw [hkq]; rfl]
      refine lv_aload_n hx hb (fk_get fk_cX7_makeVisit_0 16 rfl) rfl (lv_at hl 3 rfl) ?_
      have kk_29 : ∀ rv_29 : Int32, rv_29 = (askF (gX S i q)) → W p l e ({ frames := 5, cells := 0, slots := 0, locals := 146 } : Room) s m args below meth c₀ s.heap [] 0 0 Q (F0 m 32 ls [.int (rv_29)]) := by
        intro rv_29 hv_29
        subst hv_29
        refine lv_iload_n hx hb (fk_get fk_cX7_makeVisit_0 18 rfl) rfl (lv_at hl 0 rfl) ?_
        refine lv_if_eq (tgt := 42) hx hb (fk_get fk_cX7_makeVisit_0 19 rfl) (by decide) (fun _ => ?_) (fun c_4 => absurd ((by decide)) c_4)
        refine lv_iload_n hx hb (fk_get fk_cX7_makeVisit_0 24 rfl) rfl (lv_at hl 1 rfl) ?_
        refine lv_iadd hx hb (fk_get fk_cX7_makeVisit_0 25 rfl) ?_
        refine lv_istore (lv' := [(4, .int (((askF (gX S i q)) + ((moF (fF S (9 + h) 6) τ C (fF S i 0) (gX S i q)))))), (3, .int (0)), (2, .int (((moF (fF S (9 + h) 6) τ C (fF S i 0) (gX S i q))))), (0, .ref (ad (9 + h))), (1, .ref (ad i))]) hx hb (fk_get fk_cX7_makeVisit_0 26 rfl) hl (by decide) rfl (fun ls hl => ?_)
        refine lv_iload_n hx hb (fk_get fk_cX7_makeVisit_0 27 rfl) rfl (lv_at hl 1 rfl) ?_
        refine lv_if_eq (tgt := 57) hx hb (fk_get fk_cX7_makeVisit_0 28 rfl) (by decide) (fun _ => ?_) (fun c_5 => absurd ((by decide)) c_5)
        refine lv_aload_n hx hb (fk_get fk_cX7_makeVisit_1 0 rfl) rfl (lv_at hl 4 rfl) ?_
        refine lv_bipush (v := 20) hx hb (fk_get fk_cX7_makeVisit_1 1 rfl) (by decide) ?_
        refine lv_aload_n hx hb (fk_get fk_cX7_makeVisit_1 2 rfl) rfl (lv_at hl 4 rfl) ?_
        refine va_get (D := G.1) (ci := 5) (v := .int (fF S i 5)) (C := RX3) (T := TX3) (N := 10) hx hb hT inX3 hown hK hP i (ix_at (lt71 (by omega)) (cX_cust hpk)) rfl 5 (by decide) (hT _ m1_161) (fun _ h9 => h9) rfl (fk_get fk_cX7_makeVisit_1 3 rfl) ?_
        refine lv_aload_n hx hb (fk_get fk_cX7_makeVisit_1 4 rfl) rfl (lv_at hl 3 rfl) ?_
        refine va_get (D := G.1) (ci := 9) (v := va_rf ((fR S (9 + h) 7).map ad)) (C := RX7) (T := TX7) (N := 8) hx hb hT inX7 hown hK hP (9 + h) (ix_at (lt71 (by omega)) (cX_shop (pk_shop hh))) rfl 7 (by decide) (hT _ m1_216) (fun _ h9 => h9) rfl (fk_get fk_cX7_makeVisit_1 5 rfl) ?_
        rw [show va_rf ((fR S (9 + h) 7).map ad) = .ref (ad pz) from by rw [hpz]; rfl]
        refine va_get (D := G.1) (ci := 3) (v := .int (fF S pz 1)) (C := RX1) (T := TX1) (N := 4) hx hb hT inX1 hown hK hP pz (ix_at (hcok).2.1 (cX_ctr (hcok).1 (hcok).2.2.1)) rfl 1 (by decide) (hT _ m1_116) (fun _ h9 => h9) rfl (fk_get fk_cX7_makeVisit_1 6 rfl) ?_
        refine lv_iadd hx hb (fk_get fk_cX7_makeVisit_1 7 rfl) ?_
        refine vp_callSi (W.runS (As := [.int (20), .int (((fF S i 5) + (fF S pz 1)))]) (rest := [.ref (ad i)]) ⟨hx, hb, hml, hown, hT⟩ (c_jmin l (20) (((fF S i 5) + (fF S pz 1))) ) (tS 2 hT m3_193 m3_94 m1_18 m3_95 rfl rfl (by decide +kernel) ⟨Nat.le_of_ble_eq_true rfl, Nat.le_of_ble_eq_true rfl⟩) ⟨PcN_blind, PcN_of _ _ _⟩ rfl rfl hl.1 rfl (lv_room (Nat.le_of_ble_eq_true rfl)) (fk_get fk_cX7_makeVisit_1 8 rfl) ⟨Nat.zero_le _, Nat.zero_le _⟩) (fun r_6 hw_7 => ?_)
        try dsimp only at hw_7
        rw [show fF S pz 1 = nI lz from hctx.2.1.trans hln] at hw_7
        have htr_ := hw_7
        refine va_put (D := G.1) (ci := 5) (v := .int (r_6)) (ty := .int) (C := RX3) (T := TX3) (N := 10) hx hb hT inX3 tyX3 tyX3_ok nmX3 hown hK hP hD hS i (ix_at (lt71 (by omega)) (cX_cust hpk)) rfl 5 (by decide) (hT _ m1_161) (fun _ h9 => h9) rfl (by decide +kernel) rfl rfl (Nat.le_of_ble_eq_true rfl) (fk_get fk_cX7_makeVisit_1 9 rfl) (fun H locs hP hD hS => ?_)
        rw [pX_cust_5 (S := S) (lt71 (by omega)) (hpk) (r_6)] at hP hD
        have hX_8 : XI (setF S i 5 (r_6)) := XI.sF hX _ ⟨by omega, by omega, by omega, by omega, by omega, by omega, by omega, by omega⟩
        have hF_9 : Fr (fun j k => j = i ∧ 5 ≤ k ∧ k ≤ 9) S (setF S i 5 (r_6)) := Fr.sF (Fr.rf : Fr (fun j k => j = i ∧ 5 ≤ k ∧ k ≤ 9) S S) (by omega)
        refine lv_aload_n hx hb (fk_get fk_cX7_makeVisit_1 10 rfl) rfl (lv_at hl 4 rfl) ?_
        refine lv_bipush (v := 99) hx hb (fk_get fk_cX7_makeVisit_1 11 rfl) (by decide) ?_
        refine lv_iconst (v := 0) hx hb (fk_get fk_cX7_makeVisit_1 12 rfl) (by decide) ?_
        refine lv_iload hx hb (fk_get fk_cX7_makeVisit_1 13 rfl) (lv_at hl 0 rfl) ?_
        refine lv_aload_n hx hb (fk_get fk_cX7_makeVisit_1 14 rfl) rfl (lv_at hl 4 rfl) ?_
        refine va_get (D := G.1) (ci := 5) (v := .int (fF (setF S i 5 (r_6)) i 4)) (C := RX3) (T := TX3) (N := 10) hx hb hT inX3 hown hK hP i (ix_at (lt71 (by omega)) (cX_cust hpk)) rfl 4 (by decide) (hT _ m1_158) (fun _ h9 => h9) rfl (fk_get fk_cX7_makeVisit_1 15 rfl) ?_
        rw [show fF (setF S i 5 (r_6)) i 4 = (fF S i 4) from by simp [fF_setF, fF_setR, fF_setA, fF_setL]]
        refine lv_isub hx hb (fk_get fk_cX7_makeVisit_1 16 rfl) ?_
        refine vp_callSi (W.runS (As := [.int (0), .int ((((askF (gX S i q)) + ((moF (fF S (9 + h) 6) τ C (fF S i 0) (gX S i q)))) - (fF S i 4)))]) (rest := [.int (99), .ref (ad i)]) ⟨hx, hb, hml, hown, hT⟩ (c_jmax l (0) ((((askF (gX S i q)) + ((moF (fF S (9 + h) 6) τ C (fF S i 0) (gX S i q)))) - (fF S i 4))) ) (tS 2 hT m2_138 m2_139 m1_18 m2_140 rfl rfl (by decide +kernel) ⟨Nat.le_of_ble_eq_true rfl, Nat.le_of_ble_eq_true rfl⟩) ⟨PcN_blind, PcN_of _ _ _⟩ rfl rfl hl.1 rfl (lv_room (Nat.le_of_ble_eq_true rfl)) (fk_get fk_cX7_makeVisit_1 17 rfl) ⟨Nat.zero_le _, Nat.zero_le _⟩) (fun r_10 hw_11 => ?_)
        try dsimp only at hw_11
        have hmx_ := hw_11
        refine vp_callSi (W.runS (As := [.int (99), .int (r_10)]) (rest := [.ref (ad i)]) ⟨hx, hb, hml, hown, hT⟩ (c_jmin l (99) (r_10) ) (tS 2 hT m3_193 m3_94 m1_18 m3_95 rfl rfl (by decide +kernel) ⟨Nat.le_of_ble_eq_true rfl, Nat.le_of_ble_eq_true rfl⟩) ⟨PcN_blind, PcN_of _ _ _⟩ rfl rfl hl.1 rfl (lv_room (Nat.le_of_ble_eq_true rfl)) (fk_get fk_cX7_makeVisit_1 18 rfl) ⟨Nat.zero_le _, Nat.zero_le _⟩) (fun r_12 hw_13 => ?_)
        try dsimp only at hw_13
        rw [hmx_, mn_m _ _ (by decide)] at hw_13
        have hov_ := hw_13
        refine va_put (D := G.1) (ci := 5) (v := .int (r_12)) (ty := .int) (C := RX3) (T := TX3) (N := 10) hx hb hT inX3 tyX3 tyX3_ok nmX3 hown hK hP hD hS i (ix_at (lt71 (by omega)) (cX_cust hpk)) rfl 6 (by decide) (hT _ m1_168) (fun _ h9 => h9) rfl (by decide +kernel) rfl rfl (Nat.le_of_ble_eq_true rfl) (fk_get fk_cX7_makeVisit_1 19 rfl) (fun H locs hP hD hS => ?_)
        rw [pX_cust_6 (S := (setF S i 5 (r_6))) (lt71 (by omega)) (hpk) (r_12)] at hP hD
        have hX_14 : XI (setF (setF S i 5 (r_6)) i 6 (r_12)) := XI.sF hX_8 _ ⟨by omega, by omega, by omega, by omega, by omega, by omega, by omega, by omega⟩
        have hF_15 : Fr (fun j k => j = i ∧ 5 ≤ k ∧ k ≤ 9) S (setF (setF S i 5 (r_6)) i 6 (r_12)) := Fr.sF hF_9 (by omega)
        refine lv_aload_n hx hb (fk_get fk_cX7_makeVisit_1 20 rfl) rfl (lv_at hl 4 rfl) ?_
        refine lv_dup hx hb (fk_get fk_cX7_makeVisit_1 21 rfl) rfl ?_
        refine va_get (D := G.1) (ci := 5) (v := .int (fF (setF (setF S i 5 (r_6)) i 6 (r_12)) i 8)) (C := RX3) (T := TX3) (N := 10) hx hb hT inX3 hown hK hP i (ix_at (lt71 (by omega)) (cX_cust hpk)) rfl 8 (by decide) (hT _ m1_177) (fun _ h9 => h9) rfl (fk_get fk_cX7_makeVisit_1 22 rfl) ?_
        rw [show fF (setF (setF S i 5 (r_6)) i 6 (r_12)) i 8 = (fF S i 8) from by simp [fF_setF, fF_setR, fF_setA, fF_setL]]
        refine lv_iconst (v := 1) hx hb (fk_get fk_cX7_makeVisit_1 23 rfl) (by decide) ?_
        refine lv_iadd hx hb (fk_get fk_cX7_makeVisit_1 24 rfl) ?_
        refine va_put (D := G.1) (ci := 5) (v := .int (((fF S i 8) + 1))) (ty := .int) (C := RX3) (T := TX3) (N := 10) hx hb hT inX3 tyX3 tyX3_ok nmX3 hown hK hP hD hS i (ix_at (lt71 (by omega)) (cX_cust hpk)) rfl 8 (by decide) (hT _ m1_177) (fun _ h9 => h9) rfl (by decide +kernel) rfl rfl (Nat.le_of_ble_eq_true rfl) (fk_get fk_cX7_makeVisit_1 25 rfl) (fun H locs hP hD hS => ?_)
        rw [pX_cust_8 (S := (setF (setF S i 5 (r_6)) i 6 (r_12))) (lt71 (by omega)) (hpk) (((fF S i 8) + 1))] at hP hD
        have hX_16 : XI (setF (setF (setF S i 5 (r_6)) i 6 (r_12)) i 8 (((fF S i 8) + 1))) := XI.sF hX_14 _ ⟨by omega, by omega, by omega, by omega, by omega, by omega, by omega, by omega⟩
        have hF_17 : Fr (fun j k => j = i ∧ 5 ≤ k ∧ k ≤ 9) S (setF (setF (setF S i 5 (r_6)) i 6 (r_12)) i 8 (((fF S i 8) + 1))) := Fr.sF hF_15 (by omega)
        refine lv_iload hx hb (fk_get fk_cX7_makeVisit_1 26 rfl) (lv_at hl 0 rfl) ?_
        subst hQ
        have hpost : XI (setF (setF (setF S i 5 (r_6)) i 6 (r_12)) i 8 (((fF S i 8) + 1))) ∧ Fr (fun j k => j = i ∧ 5 ≤ k ∧ k ≤ 9) S (setF (setF (setF S i 5 (r_6)) i 6 (r_12)) i 8 (((fF S i 8) + 1))) ∧ ((((askF (gX S i q)) + ((moF (fF S (9 + h) 6) τ C (fF S i 0) (gX S i q)))) : Int32) = boF (moF (fF S (9 + h) 6) τ C (fF S i 0) (gX S i q)) (gX S i q) ∧ ∀ k, 3 ≤ k → k ≤ 7 → gX (setF (setF (setF S i 5 (r_6)) i 6 (r_12)) i 8 (((fF S i 8) + 1))) i q k = visF 1 (lstW 3 1 C) (moF (fF S (9 + h) 6) τ C (fF S i 0) (gX S i q)) (gX S i q) k) := by
          exact ⟨hX_16, hF_17, by first | exact ⟨(bo_y hY).symm, mv_no hgb hY (by simp [fF_setF]; exact h5_) (by simp [fF_setF]; rw [hov_, bo_y hY, hff_.F (j := i) (k := 4) (lt71 (by omega)) (by omega)]) (by simp [fF_setF]; exact h7_) (by simp [fF_setF]; rw [h8_]) (by simp [fF_setF]; exact h9_)⟩ | exact ⟨(bo_n hN).symm, by rw [hln]; exact mv_ye hgb hN hlz (by simp [fF_setF]; exact htr_) (by simp [fF_setF]; rw [hov_, bo_n hN]) (by simp [fF_setF]) (by simp [fF_setF]) (by simp [fF_setF])⟩⟩
        exact W.iret (v := ((askF (gX S i q)) + ((moF (fF S (9 + h) 6) τ C (fF S i 0) (gX S i q))))) hx hb hr (fun t_ ht_ hW_ => ⟨⟨((askF (gX S i q)) + ((moF (fF S (9 + h) 6) τ C (fF S i 0) (gX S i q)))), (setF (setF (setF S i 5 (r_6)) i 6 (r_12)) i 8 (((fF S i 8) + 1))), rfl, hpost, by rw [ht_]; exact hP, va_K.moved hW_.alike hK, hD⟩, hS.F ht_⟩) hS.2.2 (fk_get fk_cX7_makeVisit_1 27 rfl)
      rcases kq7 hq with rfl | rfl | rfl | rfl | rfl | rfl | rfl
      · exact vp_callSi (va_Run.run (va_runU (As := [.ref (ad i)]) (rest := []) ⟨hx, hb, hml, hown, hT⟩ (c_x5_portion l G ad S s.heap.size (2 + 0) (i) ((lt71 (by omega))) (hpk)) (tU 1 hT m3_173 m2_144 m2_143 m2_142 m1_2 m2_166 rfl rfl rfl (by decide +kernel) ⟨Nat.le_of_ble_eq_true rfl, Nat.le_of_ble_eq_true rfl⟩) ⟨PcW_blind, va_recv hK hP (ci := 7) (q0 := 2 + 0) rfl (ix_at (lt71 (by omega)) (cX_knd (by omega))), PcW_of hP hK hD _⟩ rfl rfl hl.1 rfl (lv_room (Nat.le_of_ble_eq_true rfl)) (fk_get fk_cX7_makeVisit_0 17 rfl) ⟨Nat.zero_le _, Nat.zero_le _⟩)) (fun r h_ => kk_29 r (h_.trans aX_0.symm))
      · exact vp_callSi (va_Run.run (va_runU (As := [.ref (ad i)]) (rest := []) ⟨hx, hb, hml, hown, hT⟩ (c_x8_portion l G ad S s.heap.size (2 + 1) (i) ((lt71 (by omega))) (hpk)) (tO 1 hT m3_173 m2_144 m2_142 m2_158 m2_152 m1_3 m2_153 m2_166 rfl rfl (by decide +kernel) ⟨Nat.le_of_ble_eq_true rfl, Nat.le_of_ble_eq_true rfl⟩) ⟨PcW_blind, va_recv hK hP (ci := 10) (q0 := 2 + 1) rfl (ix_at (lt71 (by omega)) (cX_knd (by omega))), PcW_of hP hK hD _⟩ rfl rfl hl.1 rfl (lv_room (Nat.le_of_ble_eq_true rfl)) (fk_get fk_cX7_makeVisit_0 17 rfl) ⟨Nat.zero_le _, Nat.zero_le _⟩)) (fun r h_ => kk_29 r (h_.trans aX_1.symm))
      · exact vp_callSi (va_Run.run (va_runU (As := [.ref (ad i)]) (rest := []) ⟨hx, hb, hml, hown, hT⟩ (c_x5_portion l G ad S s.heap.size (2 + 2) (i) ((lt71 (by omega))) (hpk)) (tU 1 hT m3_173 m2_144 m2_156 m2_142 m1_2 m2_166 rfl rfl rfl (by decide +kernel) ⟨Nat.le_of_ble_eq_true rfl, Nat.le_of_ble_eq_true rfl⟩) ⟨PcW_blind, va_recv hK hP (ci := 6) (q0 := 2 + 2) rfl (ix_at (lt71 (by omega)) (cX_knd (by omega))), PcW_of hP hK hD _⟩ rfl rfl hl.1 rfl (lv_room (Nat.le_of_ble_eq_true rfl)) (fk_get fk_cX7_makeVisit_0 17 rfl) ⟨Nat.zero_le _, Nat.zero_le _⟩)) (fun r h_ => kk_29 r (h_.trans aX_2.symm))
      · exact vp_callSi (va_Run.run (va_runU (As := [.ref (ad i)]) (rest := []) ⟨hx, hb, hml, hown, hT⟩ (c_x0_portion l G ad S s.heap.size (2 + 3) (i) ((lt71 (by omega))) (hpk)) (tO 1 hT m3_173 m2_144 m2_142 m2_145 m2_146 m1_5 m2_147 m2_166 rfl rfl (by decide +kernel) ⟨Nat.le_of_ble_eq_true rfl, Nat.le_of_ble_eq_true rfl⟩) ⟨PcW_blind, va_recv hK hP (ci := 2) (q0 := 2 + 3) rfl (ix_at (lt71 (by omega)) (cX_knd (by omega))), PcW_of hP hK hD _⟩ rfl rfl hl.1 rfl (lv_room (Nat.le_of_ble_eq_true rfl)) (fk_get fk_cX7_makeVisit_0 17 rfl) ⟨Nat.zero_le _, Nat.zero_le _⟩)) (fun r h_ => kk_29 r (h_.trans aX_3.symm))
      · exact vp_callSi (va_Run.run (va_runU (As := [.ref (ad i)]) (rest := []) ⟨hx, hb, hml, hown, hT⟩ (c_x2_portionE l G ad S s.heap.size (4) (i) ((by omega)) (hpk) (hX)) (tO 1 hT m3_173 m2_144 m2_142 m2_148 m2_149 m1_6 m2_150 m2_166 rfl rfl (by decide +kernel) ⟨Nat.le_of_ble_eq_true rfl, Nat.le_of_ble_eq_true rfl⟩) ⟨PcW_blind, va_recv hK hP (ci := 4) (q0 := 2 + 4) rfl (ix_at (lt71 (by omega)) (cX_knd (by omega))), PcW_of hP hK hD _⟩ rfl rfl hl.1 rfl (lv_room (Nat.le_of_ble_eq_true rfl)) (fk_get fk_cX7_makeVisit_0 17 rfl) ⟨Nat.zero_le _, Nat.zero_le _⟩)) (fun r h_ => kk_29 r (h_.trans aX_4.symm))
      · exact vp_callSi (va_Run.run (va_runU (As := [.ref (ad i)]) (rest := []) ⟨hx, hb, hml, hown, hT⟩ (c_x5_portion l G ad S s.heap.size (2 + 5) (i) ((lt71 (by omega))) (hpk)) (tU 1 hT m3_173 m2_144 m2_157 m2_142 m1_2 m2_166 rfl rfl rfl (by decide +kernel) ⟨Nat.le_of_ble_eq_true rfl, Nat.le_of_ble_eq_true rfl⟩) ⟨PcW_blind, va_recv hK hP (ci := 8) (q0 := 2 + 5) rfl (ix_at (lt71 (by omega)) (cX_knd (by omega))), PcW_of hP hK hD _⟩ rfl rfl hl.1 rfl (lv_room (Nat.le_of_ble_eq_true rfl)) (fk_get fk_cX7_makeVisit_0 17 rfl) ⟨Nat.zero_le _, Nat.zero_le _⟩)) (fun r h_ => kk_29 r (h_.trans aX_5.symm))
      · exact vp_callSi (va_Run.run (va_runU (As := [.ref (ad i)]) (rest := []) ⟨hx, hb, hml, hown, hT⟩ (c_x10_portionE l G ad S s.heap.size (6) (i) (xv) ((by omega)) (hpk) (hx8) (hx30) (hX)) (tO 1 hT m3_173 m2_144 m2_142 m2_159 m2_160 m1_8 m2_161 m2_166 rfl rfl (by decide +kernel) ⟨Nat.le_of_ble_eq_true rfl, Nat.le_of_ble_eq_true rfl⟩) ⟨PcW_blind, va_recv hK hP (ci := 12) (q0 := 2 + 6) rfl (ix_at (lt71 (by omega)) (cX_knd (by omega))), PcW_of hP hK hD _⟩ rfl rfl hl.1 rfl (lv_room (Nat.le_of_ble_eq_true rfl)) (fk_get fk_cX7_makeVisit_0 17 rfl) ⟨Nat.zero_le _, Nat.zero_le _⟩)) (fun r h_ => kk_29 r (h_.trans (aX_6 hx8 hx30).symm))
    have hY : letF (gX S i q) < (moF (fF S (9 + h) 6) τ C (fF S i 0) (gX S i q)) := Int32.not_le.mp c_3
    refine lv_iconst (v := 1) hx hb (fk_get fk_cX7_makeVisit_0 10 rfl) (by decide) ?_
    refine lv_goto (tgt := 23) hx hb (fk_get fk_cX7_makeVisit_0 11 rfl) (by decide) ?_
    refine lv_istore_n (lv' := [(3, .int (1)), (2, .int (((moF (fF S (9 + h) 6) τ C (fF S i 0) (gX S i q))))), (0, .ref (ad (9 + h))), (1, .ref (ad i))]) hx hb (fk_get fk_cX7_makeVisit_0 13 rfl) rfl hl (by decide) rfl (fun ls hl => ?_)
    refine lv_aload_n hx hb (fk_get fk_cX7_makeVisit_0 14 rfl) rfl (lv_at hl 3 rfl) ?_
    refine va_get (D := G.1) (ci := 5) (v := va_rf ((fR S i 2).map ad)) (C := RX3) (T := TX3) (N := 10) hx hb hT inX3 hown hK hP i (ix_at (lt71 (by omega)) (cX_cust hpk)) rfl 2 (by decide) (hT _ m1_146) (fun _ h9 => h9) rfl (fk_get fk_cX7_makeVisit_0 15 rfl) ?_
    rw [show va_rf ((fR S i 2).map ad) = .ref (ad (2 + q)) from by rw [hkq]; rfl]
    refine lv_aload_n hx hb (fk_get fk_cX7_makeVisit_0 16 rfl) rfl (lv_at hl 3 rfl) ?_
    have kk_29 : ∀ rv_29 : Int32, rv_29 = (askF (gX S i q)) → W p l e ({ frames := 5, cells := 0, slots := 0, locals := 146 } : Room) s m args below meth c₀ s.heap [] 0 0 Q (F0 m 32 ls [.int (rv_29)]) := by
      intro rv_29 hv_29
      subst hv_29
      refine lv_iload_n hx hb (fk_get fk_cX7_makeVisit_0 18 rfl) rfl (lv_at hl 0 rfl) ?_
      refine lv_if_eq (tgt := 42) hx hb (fk_get fk_cX7_makeVisit_0 19 rfl) (by decide) (fun c_18 => absurd c_18 ((by decide))) (fun _ => ?_)
      refine lv_iload_n hx hb (fk_get fk_cX7_makeVisit_0 20 rfl) rfl (lv_at hl 1 rfl) ?_
      refine lv_iconst (v := 2) hx hb (fk_get fk_cX7_makeVisit_0 21 rfl) (by decide) ?_
      refine lv_idiv hx hb (fk_get fk_cX7_makeVisit_0 22 rfl) (by decide) ?_
      refine lv_goto (tgt := 43) hx hb (fk_get fk_cX7_makeVisit_0 23 rfl) (by decide) ?_
      refine lv_iadd hx hb (fk_get fk_cX7_makeVisit_0 25 rfl) ?_
      refine lv_istore (lv' := [(4, .int (((askF (gX S i q)) + (((moF (fF S (9 + h) 6) τ C (fF S i 0) (gX S i q))) / 2)))), (3, .int (1)), (2, .int (((moF (fF S (9 + h) 6) τ C (fF S i 0) (gX S i q))))), (0, .ref (ad (9 + h))), (1, .ref (ad i))]) hx hb (fk_get fk_cX7_makeVisit_0 26 rfl) hl (by decide) rfl (fun ls hl => ?_)
      refine lv_iload_n hx hb (fk_get fk_cX7_makeVisit_0 27 rfl) rfl (lv_at hl 1 rfl) ?_
      refine lv_if_eq (tgt := 57) hx hb (fk_get fk_cX7_makeVisit_0 28 rfl) (by decide) (fun c_19 => absurd c_19 ((by decide))) (fun _ => ?_)
      refine lv_aload_n hx hb (fk_get fk_cX7_makeVisit_0 29 rfl) rfl (lv_at hl 4 rfl) ?_
      have hFc := va_self hD hS hA
      refine va_callv (va_runV (As := []) (rest := []) ⟨hx, hb, hml, hown, hT⟩ (c_x3_saysNoE l G ad S s.heap.size (i) (q) (hpk) (by first | assumption | omega) (by first | assumption | omega) (hX)) (tV 0 hT m3_174 m3_175 m3_176 m1_11 m3_177 rfl rfl (by decide +kernel) ⟨Nat.le_of_ble_eq_true rfl, Nat.le_of_ble_eq_true rfl⟩) ⟨PcW_blind, va_recv hK hP (ci := 5) (q0 := i) rfl (ix_at (lt71 (by omega)) (cX_cust hpk)), PcW_of hP hK hD _⟩ rfl rfl hl.1 rfl (lv_room (Nat.le_of_ble_eq_true rfl)) (fk_get fk_cX7_makeVisit_0 30 rfl) ⟨Nat.zero_le _, Nat.zero_le _⟩) hS (fun q _ h => hFc q h) hFc (fun S_22 t_ H locs ht_ hvm_ hw_21 hB_ hz_ hk_ hS => ?_)
      obtain ⟨hP, -, hD1_⟩ := hB_
      rw [ht_] at hP
      have hD : va_D A (wX G ad S_22) := hD1_.weaken (fun k q _ h => hFc q.1 h)
      try dsimp only at hw_21
      obtain ⟨hX_23, hF_24_, hw_21⟩ := hw_21
      have hF_24 : Fr (fun j k => j = i ∧ 5 ≤ k ∧ k ≤ 9) S S_22 := Fr.trans (Fr.rf : Fr (fun j k => j = i ∧ 5 ≤ k ∧ k ≤ 9) S S) (Fr.mono hF_24_ (fun j k h => by omega))
      have hff_ := hF_24_
      obtain ⟨h6_, h8_, h7_, h5_, h9_⟩ := hw_21
      refine lv_goto (tgt := 78) hx hb (fk_get fk_cX7_makeVisit_0 31 rfl) (by decide) ?_
      refine lv_aload_n hx hb (fk_get fk_cX7_makeVisit_1 10 rfl) rfl (lv_at hl 4 rfl) ?_
      refine lv_bipush (v := 99) hx hb (fk_get fk_cX7_makeVisit_1 11 rfl) (by decide) ?_
      refine lv_iconst (v := 0) hx hb (fk_get fk_cX7_makeVisit_1 12 rfl) (by decide) ?_
      refine lv_iload hx hb (fk_get fk_cX7_makeVisit_1 13 rfl) (lv_at hl 0 rfl) ?_
      refine lv_aload_n hx hb (fk_get fk_cX7_makeVisit_1 14 rfl) rfl (lv_at hl 4 rfl) ?_
      refine va_get (D := G.1) (ci := 5) (v := .int (fF S_22 i 4)) (C := RX3) (T := TX3) (N := 10) hx hb hT inX3 hown hK hP i (ix_at (lt71 (by omega)) (cX_cust hpk)) rfl 4 (by decide) (hT _ m1_158) (fun _ h9 => h9) rfl (fk_get fk_cX7_makeVisit_1 15 rfl) ?_
      refine lv_isub hx hb (fk_get fk_cX7_makeVisit_1 16 rfl) ?_
      refine vp_callSi (W.runS (As := [.int (0), .int ((((askF (gX S i q)) + (((moF (fF S (9 + h) 6) τ C (fF S i 0) (gX S i q))) / 2)) - (fF S_22 i 4)))]) (rest := [.int (99), .ref (ad i)]) ⟨hx, hb, hml, hown, hT⟩ (c_jmax l (0) ((((askF (gX S i q)) + (((moF (fF S (9 + h) 6) τ C (fF S i 0) (gX S i q))) / 2)) - (fF S_22 i 4))) ) (tS 2 hT m2_138 m2_139 m1_18 m2_140 rfl rfl (by decide +kernel) ⟨Nat.le_of_ble_eq_true rfl, Nat.le_of_ble_eq_true rfl⟩) ⟨PcN_blind, PcN_of _ _ _⟩ rfl rfl hl.1 rfl (lv_room (Nat.le_of_ble_eq_true rfl)) (fk_get fk_cX7_makeVisit_1 17 rfl) ⟨Nat.zero_le _, Nat.zero_le _⟩) (fun r_25 hw_26 => ?_)
      try dsimp only at hw_26
      have hmx_ := hw_26
      refine vp_callSi (W.runS (As := [.int (99), .int (r_25)]) (rest := [.ref (ad i)]) ⟨hx, hb, hml, hown, hT⟩ (c_jmin l (99) (r_25) ) (tS 2 hT m3_193 m3_94 m1_18 m3_95 rfl rfl (by decide +kernel) ⟨Nat.le_of_ble_eq_true rfl, Nat.le_of_ble_eq_true rfl⟩) ⟨PcN_blind, PcN_of _ _ _⟩ rfl rfl hl.1 rfl (lv_room (Nat.le_of_ble_eq_true rfl)) (fk_get fk_cX7_makeVisit_1 18 rfl) ⟨Nat.zero_le _, Nat.zero_le _⟩) (fun r_27 hw_28 => ?_)
      try dsimp only at hw_28
      rw [hmx_, mn_m _ _ (by decide)] at hw_28
      have hov_ := hw_28
      refine va_put (D := G.1) (ci := 5) (v := .int (r_27)) (ty := .int) (C := RX3) (T := TX3) (N := 10) hx hb hT inX3 tyX3 tyX3_ok nmX3 hown hK hP hD hS i (ix_at (lt71 (by omega)) (cX_cust hpk)) rfl 6 (by decide) (hT _ m1_168) (fun _ h9 => h9) rfl (by decide +kernel) rfl rfl (Nat.le_of_ble_eq_true rfl) (fk_get fk_cX7_makeVisit_1 19 rfl) (fun H locs hP hD hS => ?_)
      rw [pX_cust_6 (S := S_22) (lt71 (by omega)) (hpk) (r_27)] at hP hD
      have hX_29 : XI (setF S_22 i 6 (r_27)) := XI.sF hX_23 _ ⟨by omega, by omega, by omega, by omega, by omega, by omega, by omega, by omega⟩
      have hF_30 : Fr (fun j k => j = i ∧ 5 ≤ k ∧ k ≤ 9) S (setF S_22 i 6 (r_27)) := Fr.sF hF_24 (by omega)
      refine lv_aload_n hx hb (fk_get fk_cX7_makeVisit_1 20 rfl) rfl (lv_at hl 4 rfl) ?_
      refine lv_dup hx hb (fk_get fk_cX7_makeVisit_1 21 rfl) rfl ?_
      refine va_get (D := G.1) (ci := 5) (v := .int (fF (setF S_22 i 6 (r_27)) i 8)) (C := RX3) (T := TX3) (N := 10) hx hb hT inX3 hown hK hP i (ix_at (lt71 (by omega)) (cX_cust hpk)) rfl 8 (by decide) (hT _ m1_177) (fun _ h9 => h9) rfl (fk_get fk_cX7_makeVisit_1 22 rfl) ?_
      rw [show fF (setF S_22 i 6 (r_27)) i 8 = (fF S_22 i 8) from by simp [fF_setF, fF_setR, fF_setA, fF_setL]]
      refine lv_iconst (v := 1) hx hb (fk_get fk_cX7_makeVisit_1 23 rfl) (by decide) ?_
      refine lv_iadd hx hb (fk_get fk_cX7_makeVisit_1 24 rfl) ?_
      refine va_put (D := G.1) (ci := 5) (v := .int (((fF S_22 i 8) + 1))) (ty := .int) (C := RX3) (T := TX3) (N := 10) hx hb hT inX3 tyX3 tyX3_ok nmX3 hown hK hP hD hS i (ix_at (lt71 (by omega)) (cX_cust hpk)) rfl 8 (by decide) (hT _ m1_177) (fun _ h9 => h9) rfl (by decide +kernel) rfl rfl (Nat.le_of_ble_eq_true rfl) (fk_get fk_cX7_makeVisit_1 25 rfl) (fun H locs hP hD hS => ?_)
      rw [pX_cust_8 (S := (setF S_22 i 6 (r_27))) (lt71 (by omega)) (hpk) (((fF S_22 i 8) + 1))] at hP hD
      have hX_31 : XI (setF (setF S_22 i 6 (r_27)) i 8 (((fF S_22 i 8) + 1))) := XI.sF hX_29 _ ⟨by omega, by omega, by omega, by omega, by omega, by omega, by omega, by omega⟩
      have hF_32 : Fr (fun j k => j = i ∧ 5 ≤ k ∧ k ≤ 9) S (setF (setF S_22 i 6 (r_27)) i 8 (((fF S_22 i 8) + 1))) := Fr.sF hF_30 (by omega)
      refine lv_iload hx hb (fk_get fk_cX7_makeVisit_1 26 rfl) (lv_at hl 0 rfl) ?_
      subst hQ
      have hpost : XI (setF (setF S_22 i 6 (r_27)) i 8 (((fF S_22 i 8) + 1))) ∧ Fr (fun j k => j = i ∧ 5 ≤ k ∧ k ≤ 9) S (setF (setF S_22 i 6 (r_27)) i 8 (((fF S_22 i 8) + 1))) ∧ ((((askF (gX S i q)) + (((moF (fF S (9 + h) 6) τ C (fF S i 0) (gX S i q))) / 2)) : Int32) = boF (moF (fF S (9 + h) 6) τ C (fF S i 0) (gX S i q)) (gX S i q) ∧ ∀ k, 3 ≤ k → k ≤ 7 → gX (setF (setF S_22 i 6 (r_27)) i 8 (((fF S_22 i 8) + 1))) i q k = visF 1 (lstW 3 1 C) (moF (fF S (9 + h) 6) τ C (fF S i 0) (gX S i q)) (gX S i q) k) := by
        exact ⟨hX_31, hF_32, by first | exact ⟨(bo_y hY).symm, mv_no hgb hY (by simp [fF_setF]; exact h5_) (by simp [fF_setF]; rw [hov_, bo_y hY, hff_.F (j := i) (k := 4) (lt71 (by omega)) (by omega)]) (by simp [fF_setF]; exact h7_) (by simp [fF_setF]; rw [h8_]) (by simp [fF_setF]; exact h9_)⟩ | exact ⟨(bo_n hN).symm, by rw [hln]; exact mv_ye hgb hN hlz (by simp [fF_setF]; exact htr_) (by simp [fF_setF]; rw [hov_, bo_n hN]) (by simp [fF_setF]) (by simp [fF_setF]) (by simp [fF_setF])⟩⟩
      exact W.iret (v := ((askF (gX S i q)) + (((moF (fF S (9 + h) 6) τ C (fF S i 0) (gX S i q))) / 2))) hx hb hr (fun t_ ht_ hW_ => ⟨⟨((askF (gX S i q)) + (((moF (fF S (9 + h) 6) τ C (fF S i 0) (gX S i q))) / 2)), (setF (setF S_22 i 6 (r_27)) i 8 (((fF S_22 i 8) + 1))), rfl, hpost, by rw [ht_]; exact hP, va_K.moved hW_.alike hK, hD⟩, hS.F ht_⟩) hS.2.2 (fk_get fk_cX7_makeVisit_1 27 rfl)
    rcases kq7 hq with rfl | rfl | rfl | rfl | rfl | rfl | rfl
    · exact vp_callSi (va_Run.run (va_runU (As := [.ref (ad i)]) (rest := []) ⟨hx, hb, hml, hown, hT⟩ (c_x5_portion l G ad S s.heap.size (2 + 0) (i) ((lt71 (by omega))) (hpk)) (tU 1 hT m3_173 m2_144 m2_143 m2_142 m1_2 m2_166 rfl rfl rfl (by decide +kernel) ⟨Nat.le_of_ble_eq_true rfl, Nat.le_of_ble_eq_true rfl⟩) ⟨PcW_blind, va_recv hK hP (ci := 7) (q0 := 2 + 0) rfl (ix_at (lt71 (by omega)) (cX_knd (by omega))), PcW_of hP hK hD _⟩ rfl rfl hl.1 rfl (lv_room (Nat.le_of_ble_eq_true rfl)) (fk_get fk_cX7_makeVisit_0 17 rfl) ⟨Nat.zero_le _, Nat.zero_le _⟩)) (fun r h_ => kk_29 r (h_.trans aX_0.symm))
    · exact vp_callSi (va_Run.run (va_runU (As := [.ref (ad i)]) (rest := []) ⟨hx, hb, hml, hown, hT⟩ (c_x8_portion l G ad S s.heap.size (2 + 1) (i) ((lt71 (by omega))) (hpk)) (tO 1 hT m3_173 m2_144 m2_142 m2_158 m2_152 m1_3 m2_153 m2_166 rfl rfl (by decide +kernel) ⟨Nat.le_of_ble_eq_true rfl, Nat.le_of_ble_eq_true rfl⟩) ⟨PcW_blind, va_recv hK hP (ci := 10) (q0 := 2 + 1) rfl (ix_at (lt71 (by omega)) (cX_knd (by omega))), PcW_of hP hK hD _⟩ rfl rfl hl.1 rfl (lv_room (Nat.le_of_ble_eq_true rfl)) (fk_get fk_cX7_makeVisit_0 17 rfl) ⟨Nat.zero_le _, Nat.zero_le _⟩)) (fun r h_ => kk_29 r (h_.trans aX_1.symm))
    · exact vp_callSi (va_Run.run (va_runU (As := [.ref (ad i)]) (rest := []) ⟨hx, hb, hml, hown, hT⟩ (c_x5_portion l G ad S s.heap.size (2 + 2) (i) ((lt71 (by omega))) (hpk)) (tU 1 hT m3_173 m2_144 m2_156 m2_142 m1_2 m2_166 rfl rfl rfl (by decide +kernel) ⟨Nat.le_of_ble_eq_true rfl, Nat.le_of_ble_eq_true rfl⟩) ⟨PcW_blind, va_recv hK hP (ci := 6) (q0 := 2 + 2) rfl (ix_at (lt71 (by omega)) (cX_knd (by omega))), PcW_of hP hK hD _⟩ rfl rfl hl.1 rfl (lv_room (Nat.le_of_ble_eq_true rfl)) (fk_get fk_cX7_makeVisit_0 17 rfl) ⟨Nat.zero_le _, Nat.zero_le _⟩)) (fun r h_ => kk_29 r (h_.trans aX_2.symm))
    · exact vp_callSi (va_Run.run (va_runU (As := [.ref (ad i)]) (rest := []) ⟨hx, hb, hml, hown, hT⟩ (c_x0_portion l G ad S s.heap.size (2 + 3) (i) ((lt71 (by omega))) (hpk)) (tO 1 hT m3_173 m2_144 m2_142 m2_145 m2_146 m1_5 m2_147 m2_166 rfl rfl (by decide +kernel) ⟨Nat.le_of_ble_eq_true rfl, Nat.le_of_ble_eq_true rfl⟩) ⟨PcW_blind, va_recv hK hP (ci := 2) (q0 := 2 + 3) rfl (ix_at (lt71 (by omega)) (cX_knd (by omega))), PcW_of hP hK hD _⟩ rfl rfl hl.1 rfl (lv_room (Nat.le_of_ble_eq_true rfl)) (fk_get fk_cX7_makeVisit_0 17 rfl) ⟨Nat.zero_le _, Nat.zero_le _⟩)) (fun r h_ => kk_29 r (h_.trans aX_3.symm))
    · exact vp_callSi (va_Run.run (va_runU (As := [.ref (ad i)]) (rest := []) ⟨hx, hb, hml, hown, hT⟩ (c_x2_portionE l G ad S s.heap.size (4) (i) ((by omega)) (hpk) (hX)) (tO 1 hT m3_173 m2_144 m2_142 m2_148 m2_149 m1_6 m2_150 m2_166 rfl rfl (by decide +kernel) ⟨Nat.le_of_ble_eq_true rfl, Nat.le_of_ble_eq_true rfl⟩) ⟨PcW_blind, va_recv hK hP (ci := 4) (q0 := 2 + 4) rfl (ix_at (lt71 (by omega)) (cX_knd (by omega))), PcW_of hP hK hD _⟩ rfl rfl hl.1 rfl (lv_room (Nat.le_of_ble_eq_true rfl)) (fk_get fk_cX7_makeVisit_0 17 rfl) ⟨Nat.zero_le _, Nat.zero_le _⟩)) (fun r h_ => kk_29 r (h_.trans aX_4.symm))
    · exact vp_callSi (va_Run.run (va_runU (As := [.ref (ad i)]) (rest := []) ⟨hx, hb, hml, hown, hT⟩ (c_x5_portion l G ad S s.heap.size (2 + 5) (i) ((lt71 (by omega))) (hpk)) (tU 1 hT m3_173 m2_144 m2_157 m2_142 m1_2 m2_166 rfl rfl rfl (by decide +kernel) ⟨Nat.le_of_ble_eq_true rfl, Nat.le_of_ble_eq_true rfl⟩) ⟨PcW_blind, va_recv hK hP (ci := 8) (q0 := 2 + 5) rfl (ix_at (lt71 (by omega)) (cX_knd (by omega))), PcW_of hP hK hD _⟩ rfl rfl hl.1 rfl (lv_room (Nat.le_of_ble_eq_true rfl)) (fk_get fk_cX7_makeVisit_0 17 rfl) ⟨Nat.zero_le _, Nat.zero_le _⟩)) (fun r h_ => kk_29 r (h_.trans aX_5.symm))
    · exact vp_callSi (va_Run.run (va_runU (As := [.ref (ad i)]) (rest := []) ⟨hx, hb, hml, hown, hT⟩ (c_x10_portionE l G ad S s.heap.size (6) (i) (xv) ((by omega)) (hpk) (hx8) (hx30) (hX)) (tO 1 hT m3_173 m2_144 m2_142 m2_159 m2_160 m1_8 m2_161 m2_166 rfl rfl (by decide +kernel) ⟨Nat.le_of_ble_eq_true rfl, Nat.le_of_ble_eq_true rfl⟩) ⟨PcW_blind, va_recv hK hP (ci := 12) (q0 := 2 + 6) rfl (ix_at (lt71 (by omega)) (cX_knd (by omega))), PcW_of hP hK hD _⟩ rfl rfl hl.1 rfl (lv_room (Nat.le_of_ble_eq_true rfl)) (fk_get fk_cX7_makeVisit_0 17 rfl) ⟨Nat.zero_le _, Nat.zero_le _⟩)) (fun r h_ => kk_29 r (h_.trans (aX_6 hx8 hx30).symm))
  rcases kq7 hq with rfl | rfl | rfl | rfl | rfl | rfl | rfl
  · exact vp_callSi (va_Run.run (va_runU (As := [.ref (ad i)]) (rest := [.int (((moF (fF S (9 + h) 6) τ C (fF S i 0) (gX S i 0))))]) ⟨hx, hb, hml, hown, hT⟩ (c_x5_patience l G ad S s.heap.size (2 + 0) (i) ((lt71 (by omega))) (hpk)) (tU 1 hT m2_192 m2_170 m2_169 m2_168 m1_2 m2_186 rfl rfl rfl (by decide +kernel) ⟨Nat.le_of_ble_eq_true rfl, Nat.le_of_ble_eq_true rfl⟩) ⟨PcW_blind, va_recv hK hP (ci := 7) (q0 := 2 + 0) rfl (ix_at (lt71 (by omega)) (cX_knd (by omega))), PcW_of hP hK hD _⟩ rfl rfl hl.1 rfl (lv_room (Nat.le_of_ble_eq_true rfl)) (fk_get fk_cX7_makeVisit_0 8 rfl) ⟨Nat.zero_le _, Nat.zero_le _⟩)) (fun r h_ => kk_12 r (h_.trans lX_0.symm))
  · exact vp_callSi (va_Run.run (va_runU (As := [.ref (ad i)]) (rest := [.int (((moF (fF S (9 + h) 6) τ C (fF S i 0) (gX S i 1))))]) ⟨hx, hb, hml, hown, hT⟩ (c_x8_patience l G ad S s.heap.size (2 + 1) (i) ((lt71 (by omega))) (hpk)) (tO 1 hT m2_192 m2_170 m2_168 m2_184 m2_178 m1_3 m2_179 m2_186 rfl rfl (by decide +kernel) ⟨Nat.le_of_ble_eq_true rfl, Nat.le_of_ble_eq_true rfl⟩) ⟨PcW_blind, va_recv hK hP (ci := 10) (q0 := 2 + 1) rfl (ix_at (lt71 (by omega)) (cX_knd (by omega))), PcW_of hP hK hD _⟩ rfl rfl hl.1 rfl (lv_room (Nat.le_of_ble_eq_true rfl)) (fk_get fk_cX7_makeVisit_0 8 rfl) ⟨Nat.zero_le _, Nat.zero_le _⟩)) (fun r h_ => kk_12 r (h_.trans lX_1.symm))
  · exact vp_callSi (va_Run.run (va_runU (As := [.ref (ad i)]) (rest := [.int (((moF (fF S (9 + h) 6) τ C (fF S i 0) (gX S i 2))))]) ⟨hx, hb, hml, hown, hT⟩ (c_x4_patience l G ad S s.heap.size (2 + 2) (i) ((lt71 (by omega))) (hpk)) (tO 1 hT m2_192 m2_170 m2_168 m2_180 m2_181 m1_4 m2_182 m2_186 rfl rfl (by decide +kernel) ⟨Nat.le_of_ble_eq_true rfl, Nat.le_of_ble_eq_true rfl⟩) ⟨PcW_blind, va_recv hK hP (ci := 6) (q0 := 2 + 2) rfl (ix_at (lt71 (by omega)) (cX_knd (by omega))), PcW_of hP hK hD _⟩ rfl rfl hl.1 rfl (lv_room (Nat.le_of_ble_eq_true rfl)) (fk_get fk_cX7_makeVisit_0 8 rfl) ⟨Nat.zero_le _, Nat.zero_le _⟩)) (fun r h_ => kk_12 r (h_.trans lX_2.symm))
  · exact vp_callSi (va_Run.run (va_runU (As := [.ref (ad i)]) (rest := [.int (((moF (fF S (9 + h) 6) τ C (fF S i 0) (gX S i 3))))]) ⟨hx, hb, hml, hown, hT⟩ (c_x0_patience l G ad S s.heap.size (2 + 3) (i) ((lt71 (by omega))) (hpk)) (tO 1 hT m2_192 m2_170 m2_168 m2_171 m2_172 m1_5 m2_173 m2_186 rfl rfl (by decide +kernel) ⟨Nat.le_of_ble_eq_true rfl, Nat.le_of_ble_eq_true rfl⟩) ⟨PcW_blind, va_recv hK hP (ci := 2) (q0 := 2 + 3) rfl (ix_at (lt71 (by omega)) (cX_knd (by omega))), PcW_of hP hK hD _⟩ rfl rfl hl.1 rfl (lv_room (Nat.le_of_ble_eq_true rfl)) (fk_get fk_cX7_makeVisit_0 8 rfl) ⟨Nat.zero_le _, Nat.zero_le _⟩)) (fun r h_ => kk_12 r (h_.trans lX_3.symm))
  · exact vp_callSi (va_Run.run (va_runU (As := [.ref (ad i)]) (rest := [.int (((moF (fF S (9 + h) 6) τ C (fF S i 0) (gX S i 4))))]) ⟨hx, hb, hml, hown, hT⟩ (c_x2_patienceE l G ad S s.heap.size (4) (i) ((by omega)) (hpk) (hX)) (tO 1 hT m2_192 m2_170 m2_168 m2_174 m2_175 m1_6 m2_176 m2_186 rfl rfl (by decide +kernel) ⟨Nat.le_of_ble_eq_true rfl, Nat.le_of_ble_eq_true rfl⟩) ⟨PcW_blind, va_recv hK hP (ci := 4) (q0 := 2 + 4) rfl (ix_at (lt71 (by omega)) (cX_knd (by omega))), PcW_of hP hK hD _⟩ rfl rfl hl.1 rfl (lv_room (Nat.le_of_ble_eq_true rfl)) (fk_get fk_cX7_makeVisit_0 8 rfl) ⟨Nat.zero_le _, Nat.zero_le _⟩)) (fun r h_ => kk_12 r (h_.trans lX_4.symm))
  · exact vp_callSi (va_Run.run (va_runU (As := [.ref (ad i)]) (rest := [.int (((moF (fF S (9 + h) 6) τ C (fF S i 0) (gX S i 5))))]) ⟨hx, hb, hml, hown, hT⟩ (c_x4_patience l G ad S s.heap.size (2 + 5) (i) ((lt71 (by omega))) (hpk)) (tO 1 hT m2_192 m2_170 m2_168 m2_183 m2_181 m1_4 m2_182 m2_186 rfl rfl (by decide +kernel) ⟨Nat.le_of_ble_eq_true rfl, Nat.le_of_ble_eq_true rfl⟩) ⟨PcW_blind, va_recv hK hP (ci := 8) (q0 := 2 + 5) rfl (ix_at (lt71 (by omega)) (cX_knd (by omega))), PcW_of hP hK hD _⟩ rfl rfl hl.1 rfl (lv_room (Nat.le_of_ble_eq_true rfl)) (fk_get fk_cX7_makeVisit_0 8 rfl) ⟨Nat.zero_le _, Nat.zero_le _⟩)) (fun r h_ => kk_12 r (h_.trans lX_5.symm))
  · exact vp_callSi (va_Run.run (va_runU (As := [.ref (ad i)]) (rest := [.int (((moF (fF S (9 + h) 6) τ C (fF S i 0) (gX S i 6))))]) ⟨hx, hb, hml, hown, hT⟩ (c_x0_patience l G ad S s.heap.size (2 + 6) (i) ((lt71 (by omega))) (hpk)) (tO 1 hT m2_192 m2_170 m2_168 m2_185 m2_172 m1_5 m2_173 m2_186 rfl rfl (by decide +kernel) ⟨Nat.le_of_ble_eq_true rfl, Nat.le_of_ble_eq_true rfl⟩) ⟨PcW_blind, va_recv hK hP (ci := 12) (q0 := 2 + 6) rfl (ix_at (lt71 (by omega)) (cX_knd (by omega))), PcW_of hP hK hD _⟩ rfl rfl hl.1 rfl (lv_room (Nat.le_of_ble_eq_true rfl)) (fk_get fk_cX7_makeVisit_0 8 rfl) ⟨Nat.zero_le _, Nat.zero_le _⟩)) (fun r h_ => kk_12 r (h_.trans lX_6.symm))
