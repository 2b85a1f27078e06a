theorem xor4_neg (a : Int32) : a ^^^ 4 < 0 ↔ a < 0 := by
  rw [Int32.lt_iff_toBitVec_slt, Int32.lt_iff_toBitVec_slt, Int32.toBitVec_xor]
  show BitVec.slt _ 0#32 = true ↔ BitVec.slt _ 0#32 = true
  rw [BitVec.slt_zero_eq_msb, BitVec.slt_zero_eq_msb, BitVec.msb_xor]
  rw [show (Int32.toBitVec 4).msb = false by decide, Bool.xor_false]
theorem fm_nat {x : Int32} (h1 : 0 ≤ x.toInt) (h2 : x.toInt < 4) : ∃ k, k < 4 ∧ x = nI k := by
  obtain ⟨j, hj, rfl⟩ := nI_of (x := x) (by
    intro h
    have := Int32.lt_iff_toInt_lt.mp h
    simp at this
    omega)
  rw [nI_toInt hj] at h2
  exact ⟨j, by omega, rfl⟩
theorem fm_rem (a : Int32) : -4 < (a - a / 4 * 4).toInt ∧ (a - a / 4 * 4).toInt < 4 ∧ (0 ≤ a.toInt → 0 ≤ (a - a / 4 * 4).toInt) ∧ (a.toInt ≤ 0 → (a - a / 4 * 4).toInt ≤ 0) := by
  rw [rem_toInt, show (4 : Int32).toInt = 4 from rfl]
  obtain ⟨h1, h2⟩ := tmod_bounds (a := a.toInt) (M := 4) (by omega)
  refine ⟨h1, h2, fun h => ?_, fun h => ?_⟩
  · rw [Int.tmod_eq_emod_of_nonneg h]
    omega
  · have e : a.toInt.tmod 4 = -((-a.toInt).tmod 4) := by rw [Int.neg_tmod, Int.neg_neg]
    rw [e, Int.tmod_eq_emod_of_nonneg (by omega)]
    omega
theorem fm_1 {a b : Int32} (hb : b = 4) (h : 0 ≤ a ^^^ b) : ∃ k, k < 4 ∧ a - a / b * b = nI k := by
  subst hb
  obtain ⟨h1, h2, h3, h4⟩ := fm_rem a
  refine fm_nat (h3 ?_) h2
  have : ¬ a < 0 := fun q => absurd ((xor4_neg a).mpr q) (Int32.not_lt.mpr h)
  have := Int32.not_lt.mp this
  simpa using Int32.le_iff_toInt_le.mp this
theorem fm_2 {a b : Int32} (h : a - a / b * b = 0) : ∃ k, k < 4 ∧ a - a / b * b = nI k := ⟨0, by omega, h⟩
theorem fm_3 {a b : Int32} (hb : b = 4) (h : ¬ 0 ≤ a ^^^ b) (h0 : ¬ a - a / b * b = 0) : ∃ k, k < 4 ∧ a - a / b * b + b = nI k := by
  subst hb
  obtain ⟨h1, h2, h3, h4⟩ := fm_rem a
  have ha : a < 0 := (xor4_neg a).mp (Int32.not_le.mp h)
  have ha2 : a.toInt < 0 := by simpa using Int32.lt_iff_toInt_lt.mp ha
  have hr := h4 (by omega)
  have hne : (a - a / 4 * 4).toInt ≠ 0 := fun q => h0 (Int32.toInt_inj.mp (by rw [q]; rfl))
  generalize a - a / 4 * 4 = r at h1 hr hne ⊢
  have e : (r + 4).toInt = r.toInt + 4 := by
    rw [Int32.toInt_add, show (4 : Int32).toInt = 4 from rfl]
    exact Int.bmod_eq_of_le (by omega) (by omega)
  exact fm_nat (by omega) (by omega)
set_option maxHeartbeats 800000 in
set_option maxRecDepth 100000 in
theorem c_x2_portion (l : Launch) (G : GG) (ad : Nat → Nat) (S : FS) (sz : Nat) (q i : Nat) (hq : q < 7) (hpk : pk i = 7) (hX : XI S) : Met l yX2_portion (Cond.code yX2_portion cX2_portion 2 (some .int) :: TBL) ({ frames := 4, cells := 0, slots := 0, locals := 114 } : Room) (PcW G (wX G ad S) sz [.ref (ad (2 + q)), .ref (ad i)]) (vp_Si (fun (r : Int32) => True)) 0 0 (fun _ => False) := by
  refine Met.ofW (cc := cX2_portion) (maxL := 2) (ret := (some .int)) (by decide) rfl ?_
  intro p e s m args below meth c₀ s₁ B hml hv
  obtain ⟨rfl, hsz, hP, hK, hD0⟩ := hv
  have hx := B.exec
  have hb := B.bytes
  have hr := B.returns
  have hT : ∀ w ∈ TBL, w.before ([.ref (ad (2 + q)), .ref (ad i)] : List Value).toArray s = true := fun w h => atoms_spec (ws := Cond.code yX2_portion cX2_portion 2 (some .int) :: TBL) B.pre w (List.mem_cons_of_mem _ h)
  have hown : s.vm.findClass "LittleMore$Counting" = some m.cls := findClass_of_methodNamed B.named
  have hlocks := B.notSynchronized
  have hD := hD0
  have hP : va_P G.1 vwCl (wX G ad S) s.heap := hP
  have hl := lv_entry ([.ref (ad (2 + q)), .ref (ad i)]) (n := 2) (Nat.le_of_ble_eq_true rfl)
  rw [lg_entry_eq]
  generalize (lg_sl ([.ref (ad (2 + q)), .ref (ad i)]) ++ List.replicate (2 - (lg_sl ([.ref (ad (2 + q)), .ref (ad i)])).length) Slot.unset).toArray = ls at hl ⊢
  have hl : lv_has ls 2 [(0, .ref (ad (2 + q))), (1, .ref (ad i))] := hl
  refine W_abs (fun Q hQ => ?_)
  generalize ([.ref (ad (2 + q)), .ref (ad i)] : List Value).toArray = args at hT hQ ⊢
  have hb_i := pk7 hpk
  obtain ⟨r_k, hr_k⟩ := kcl_at hq
  refine lv_iconst (v := 1) hx hb (fk_get fk_cX2_portion_0 0 rfl) (by decide) ?_
  refine lv_aload_n hx hb (fk_get fk_cX2_portion_0 1 rfl) rfl (lv_at hl 0 rfl) ?_
  refine lv_aload_n hx hb (fk_get fk_cX2_portion_0 2 rfl) rfl (lv_at hl 1 rfl) ?_
  refine vp_callSi (va_Run.run (va_runSU (C := r_k.1) (As := [.ref (ad i)]) (rest := [.int (1)]) (hK.1 (kcl q) r_k hr_k).2 ⟨hx, hb, hml, hown, hT⟩ (c_x8_portion l G ad S s.heap.size (2 + q) (i) ((lt71 (by omega))) (hpk)) (tSU 1 hT m2_151 m7_181 m1_82 m2_152 m1_3 m2_153 rfl rfl (by decide +kernel) ⟨Nat.le_of_ble_eq_true rfl, Nat.le_of_ble_eq_true rfl⟩) ⟨PcW_blind, va_recv hK hP hr_k (ix_at (lt71 (by omega)) (cX_knd hq)), PcW_of hP hK hD _⟩ rfl rfl hl.1 rfl (lv_room (Nat.le_of_ble_eq_true rfl)) (fk_get fk_cX2_portion_0 3 rfl) ⟨Nat.zero_le _, Nat.zero_le _⟩)) (fun r_1 hw_2 => ?_)
  try dsimp only at hw_2
  refine lv_iconst (v := 2) hx hb (fk_get fk_cX2_portion_0 4 rfl) (by decide) ?_
  refine lv_isub hx hb (fk_get fk_cX2_portion_0 5 rfl) ?_
  refine vp_callSi (W.runS (As := [.int (1), .int ((r_1 - 2))]) (rest := []) ⟨hx, hb, hml, hown, hT⟩ (c_jmax l (1) ((r_1 - 2)) ) (tS 2 hT m2_155 m2_139 m1_18 m2_140 rfl rfl (by decide +kernel) ⟨Nat.le_of_ble_eq_true rfl, Nat.le_of_ble_eq_true rfl⟩) ⟨PcN_blind, PcN_of _ _ _⟩ rfl rfl hl.1 rfl (lv_room (Nat.le_of_ble_eq_true rfl)) (fk_get fk_cX2_portion_0 6 rfl) ⟨Nat.zero_le _, Nat.zero_le _⟩) (fun r_3 hw_4 => ?_)
  try dsimp only at hw_4
  subst hQ
  have hpost : True := by
    trivial
  exact W.iret (v := r_3) hx hb hr (fun t_ ht_ hW_ => ⟨r_3, rfl, hpost, ht_⟩) (fun q h => by cases h) (fk_get fk_cX2_portion_0 7 rfl)
set_option maxHeartbeats 800000 in
set_option maxRecDepth 100000 in
theorem c_x2_patience (l : Launch) (G : GG) (ad : Nat → Nat) (S : FS) (sz : Nat) (q i : Nat) (hq : q < 7) (hpk : pk i = 7) (hX : XI S) : Met l yX2_patience (Cond.code yX2_patience cX2_patience 2 (some .int) :: TBL) ({ frames := 3, cells := 0, slots := 0, locals := 89 } : Room) (PcW G (wX G ad S) sz [.ref (ad (2 + q)), .ref (ad i)]) (vp_Si (fun (r : Int32) => True)) 0 0 (fun _ => False) := by
  refine Met.ofW (cc := cX2_patience) (maxL := 2) (ret := (some .int)) (by decide) rfl ?_
  intro p e s m args below meth c₀ s₁ B hml hv
  obtain ⟨rfl, hsz, hP, hK, hD0⟩ := hv
  have hx := B.exec
  have hb := B.bytes
  have hr := B.returns
  have hT : ∀ w ∈ TBL, w.before ([.ref (ad (2 + q)), .ref (ad i)] : List Value).toArray s = true := fun w h => atoms_spec (ws := Cond.code yX2_patience cX2_patience 2 (some .int) :: TBL) B.pre w (List.mem_cons_of_mem _ h)
  have hown : s.vm.findClass "LittleMore$Counting" = some m.cls := findClass_of_methodNamed B.named
  have hlocks := B.notSynchronized
  have hD := hD0
  have hP : va_P G.1 vwCl (wX G ad S) s.heap := hP
  have hl := lv_entry ([.ref (ad (2 + q)), .ref (ad i)]) (n := 2) (Nat.le_of_ble_eq_true rfl)
  rw [lg_entry_eq]
  generalize (lg_sl ([.ref (ad (2 + q)), .ref (ad i)]) ++ List.replicate (2 - (lg_sl ([.ref (ad (2 + q)), .ref (ad i)])).length) Slot.unset).toArray = ls at hl ⊢
  have hl : lv_has ls 2 [(0, .ref (ad (2 + q))), (1, .ref (ad i))] := hl
  refine W_abs (fun Q hQ => ?_)
  generalize ([.ref (ad (2 + q)), .ref (ad i)] : List Value).toArray = args at hT hQ ⊢
  have hb_i := pk7 hpk
  obtain ⟨r_k, hr_k⟩ := kcl_at hq
  refine lv_iconst (v := 0) hx hb (fk_get fk_cX2_patience_0 0 rfl) (by decide) ?_
  refine lv_aload_n hx hb (fk_get fk_cX2_patience_0 1 rfl) rfl (lv_at hl 0 rfl) ?_
  refine lv_aload_n hx hb (fk_get fk_cX2_patience_0 2 rfl) rfl (lv_at hl 1 rfl) ?_
  refine vp_callSi (va_Run.run (va_runSU (C := r_k.1) (As := [.ref (ad i)]) (rest := [.int (0)]) (hK.1 (kcl q) r_k hr_k).2 ⟨hx, hb, hml, hown, hT⟩ (c_x8_patience l G ad S s.heap.size (2 + q) (i) ((lt71 (by omega))) (hpk)) (tSU 1 hT m2_177 m7_183 m1_82 m2_178 m1_3 m2_179 rfl rfl (by decide +kernel) ⟨Nat.le_of_ble_eq_true rfl, Nat.le_of_ble_eq_true rfl⟩) ⟨PcW_blind, va_recv hK hP hr_k (ix_at (lt71 (by omega)) (cX_knd hq)), PcW_of hP hK hD _⟩ rfl rfl hl.1 rfl (lv_room (Nat.le_of_ble_eq_true rfl)) (fk_get fk_cX2_patience_0 3 rfl) ⟨Nat.zero_le _, Nat.zero_le _⟩)) (fun r_1 hw_2 => ?_)
  try dsimp only at hw_2
  refine lv_aload_n hx hb (fk_get fk_cX2_patience_0 4 rfl) rfl (lv_at hl 1 rfl) ?_
  refine va_get (D := G.1) (ci := 5) (v := .int (fF S i 6)) (C := RX3) (T := TX3) (N := 10) hx hb hT inX3 hown hK hP i (ix_at (lt71 (by omega)) (cX_cust hpk)) rfl 6 (by decide) (hT _ m1_165) (fun _ h9 => h9) rfl (fk_get fk_cX2_patience_0 5 rfl) ?_
  refine lv_isub hx hb (fk_get fk_cX2_patience_0 6 rfl) ?_
  refine vp_callSi (W.runS (As := [.int (0), .int ((r_1 - (fF S i 6)))]) (rest := []) ⟨hx, hb, hml, hown, hT⟩ (c_jmax l (0) ((r_1 - (fF S i 6))) ) (tS 2 hT m2_155 m2_139 m1_18 m2_140 rfl rfl (by decide +kernel) ⟨Nat.le_of_ble_eq_true rfl, Nat.le_of_ble_eq_true rfl⟩) ⟨PcN_blind, PcN_of _ _ _⟩ rfl rfl hl.1 rfl (lv_room (Nat.le_of_ble_eq_true rfl)) (fk_get fk_cX2_patience_0 7 rfl) ⟨Nat.zero_le _, Nat.zero_le _⟩) (fun r_3 hw_4 => ?_)
  try dsimp only at hw_4
  subst hQ
  have hpost : True := by
    trivial
  exact W.iret (v := r_3) hx hb hr (fun t_ ht_ hW_ => ⟨r_3, rfl, hpost, ht_⟩) (fun q h => by cases h) (fk_get fk_cX2_patience_0 8 rfl)
set_option maxHeartbeats 800000 in
set_option maxRecDepth 100000 in
theorem c_jfloorMod4 (l : Launch) (a_ b_ : Int32) (hb4 : b_ = 4) : Met l yJ9_floorMod_7cf53 (Cond.code yJ9_floorMod_7cf53 cJ9_floorMod_7cf53 3 (some .int) :: TBL) ({ frames := 2, cells := 0, slots := 0, locals := 64 } : Room) (PcN [.int (a_), .int (b_)]) (vp_Si (fun (r : Int32) => ∃ k, k < 4 ∧ r = nI k)) 0 0 (fun _ => False) := by
  refine va_MetF (cc := cJ9_floorMod_7cf53) (maxL := 3) (ret := (some .int)) (by decide +kernel) rfl ?_
  intro p e s m args below meth c₀ s₁ B hml hv
  obtain ⟨rfl, -⟩ := hv
  have hx := B.exec
  have hb := B.bytes
  have hr := B.returns
  have hT : ∀ w ∈ TBL, w.before ([.int (a_), .int (b_)] : List Value).toArray s = true := fun w h => atoms_spec (ws := Cond.code yJ9_floorMod_7cf53 cJ9_floorMod_7cf53 3 (some .int) :: TBL) B.pre w (List.mem_cons_of_mem _ h)
  have hown : s.vm.findClass "java/lang/Math" = some m.cls := findClass_of_methodNamed B.named
  have hlocks := B.notSynchronized
  have hl := lv_entry ([.int (a_), .int (b_)]) (n := 3) (Nat.le_of_ble_eq_true rfl)
  rw [lg_entry_eq]
  generalize (lg_sl ([.int (a_), .int (b_)]) ++ List.replicate (3 - (lg_sl ([.int (a_), .int (b_)])).length) Slot.unset).toArray = ls at hl ⊢
  have hl : lv_has ls 3 [(0, .int (a_)), (1, .int (b_))] := hl
  refine W_abs (fun Q hQ => ?_)
  generalize ([.int (a_), .int (b_)] : List Value).toArray = args at hT hQ ⊢
  refine lv_iload_n hx hb (fk_get fk_cJ9_floorMod_7cf53_0 0 rfl) rfl (lv_at hl 0 rfl) ?_
  refine lv_iload_n hx hb (fk_get fk_cJ9_floorMod_7cf53_0 1 rfl) rfl (lv_at hl 1 rfl) ?_
  refine lv_irem hx hb (fk_get fk_cJ9_floorMod_7cf53_0 2 rfl) (by rw [hb4]; decide) ?_
  refine lv_istore_n (lv' := [(2, .int ((a_ - a_ / b_ * b_))), (0, .int (a_)), (1, .int (b_))]) hx hb (fk_get fk_cJ9_floorMod_7cf53_0 3 rfl) rfl hl (by decide) rfl (fun ls hl => ?_)
  refine lv_iload_n hx hb (fk_get fk_cJ9_floorMod_7cf53_0 4 rfl) rfl (lv_at hl 1 rfl) ?_
  refine lv_iload_n hx hb (fk_get fk_cJ9_floorMod_7cf53_0 5 rfl) rfl (lv_at hl 2 rfl) ?_
  refine lv_ixor hx hb (fk_get fk_cJ9_floorMod_7cf53_0 6 rfl) ?_
  refine lv_if_ge (tgt := 18) hx hb (fk_get fk_cJ9_floorMod_7cf53_0 7 rfl) (by decide) (fun c_1 => ?_) (fun c_1 => ?_)
  · refine lv_iload_n hx hb (fk_get fk_cJ9_floorMod_7cf53_0 14 rfl) rfl (lv_at hl 0 rfl) ?_
    subst hQ
    have hpost : ∃ k, k < 4 ∧ ((a_ - a_ / b_ * b_) : Int32) = nI k := by
      first | exact fm_1 hb4 (by assumption) | exact fm_2 (by assumption) | exact fm_3 hb4 (by assumption) (by assumption)
    exact W.iret (v := (a_ - a_ / b_ * b_)) hx hb hr (fun t_ ht_ hW_ => ⟨(a_ - a_ / b_ * b_), rfl, hpost, ht_⟩) (fun q h => by cases h) (fk_get fk_cJ9_floorMod_7cf53_0 15 rfl)
  refine lv_iload_n hx hb (fk_get fk_cJ9_floorMod_7cf53_0 8 rfl) rfl (lv_at hl 0 rfl) ?_
  refine lv_if_eq (tgt := 18) hx hb (fk_get fk_cJ9_floorMod_7cf53_0 9 rfl) (by decide) (fun c_2 => ?_) (fun c_2 => ?_)
  · refine lv_iload_n hx hb (fk_get fk_cJ9_floorMod_7cf53_0 14 rfl) rfl (lv_at hl 0 rfl) ?_
    subst hQ
    have hpost : ∃ k, k < 4 ∧ ((a_ - a_ / b_ * b_) : Int32) = nI k := by
      first | exact fm_1 hb4 (by assumption) | exact fm_2 (by assumption) | exact fm_3 hb4 (by assumption) (by assumption)
    exact W.iret (v := (a_ - a_ / b_ * b_)) hx hb hr (fun t_ ht_ hW_ => ⟨(a_ - a_ / b_ * b_), rfl, hpost, ht_⟩) (fun q h => by cases h) (fk_get fk_cJ9_floorMod_7cf53_0 15 rfl)
  refine lv_iload_n hx hb (fk_get fk_cJ9_floorMod_7cf53_0 10 rfl) rfl (lv_at hl 0 rfl) ?_
  refine lv_iload_n hx hb (fk_get fk_cJ9_floorMod_7cf53_0 11 rfl) rfl (lv_at hl 2 rfl) ?_
  refine lv_iadd hx hb (fk_get fk_cJ9_floorMod_7cf53_0 12 rfl) ?_
  subst hQ
  have hpost : ∃ k, k < 4 ∧ (((a_ - a_ / b_ * b_) + b_) : Int32) = nI k := by
    first | exact fm_1 hb4 (by assumption) | exact fm_2 (by assumption) | exact fm_3 hb4 (by assumption) (by assumption)
  exact W.iret (v := ((a_ - a_ / b_ * b_) + b_)) hx hb hr (fun t_ ht_ hW_ => ⟨((a_ - a_ / b_ * b_) + b_), rfl, hpost, ht_⟩) (fun q h => by cases h) (fk_get fk_cJ9_floorMod_7cf53_0 13 rfl)
set_option maxHeartbeats 800000 in
set_option maxRecDepth 100000 in
theorem c_x10_portion (l : Launch) (G : GG) (ad : Nat → Nat) (S : FS) (sz : Nat) (q i : Nat) (hq : q < 7) (hpk : pk i = 7) (hX : XI S) : Met l yX10_portion (Cond.code yX10_portion cX10_portion 2 (some .int) :: TBL) ({ frames := 3, cells := 0, slots := 0, locals := 90 } : Room) (PcW G (wX G ad S) sz [.ref (ad (2 + q)), .ref (ad i)]) (vp_Si (fun (r : Int32) => True)) 0 0 (fun _ => False) := by
  refine Met.ofW (cc := cX10_portion) (maxL := 2) (ret := (some .int)) (by decide) rfl ?_
  intro p e s m args below meth c₀ s₁ B hml hv
  obtain ⟨rfl, hsz, hP, hK, hD0⟩ := hv
  have hx := B.exec
  have hb := B.bytes
  have hr := B.returns
  have hT : ∀ w ∈ TBL, w.before ([.ref (ad (2 + q)), .ref (ad i)] : List Value).toArray s = true := fun w h => atoms_spec (ws := Cond.code yX10_portion cX10_portion 2 (some .int) :: TBL) B.pre w (List.mem_cons_of_mem _ h)
  have hown : s.vm.findClass "LittleMore$Told" = some m.cls := findClass_of_methodNamed B.named
  have hlocks := B.notSynchronized
  have hD := hD0
  have hP : va_P G.1 vwCl (wX G ad S) s.heap := hP
  have hl := lv_entry ([.ref (ad (2 + q)), .ref (ad i)]) (n := 2) (Nat.le_of_ble_eq_true rfl)
  rw [lg_entry_eq]
  generalize (lg_sl ([.ref (ad (2 + q)), .ref (ad i)]) ++ List.replicate (2 - (lg_sl ([.ref (ad (2 + q)), .ref (ad i)])).length) Slot.unset).toArray = ls at hl ⊢
  have hl : lv_has ls 2 [(0, .ref (ad (2 + q))), (1, .ref (ad i))] := hl
  refine W_abs (fun Q hQ => ?_)
  generalize ([.ref (ad (2 + q)), .ref (ad i)] : List Value).toArray = args at hT hQ ⊢
  have hb_i := pk7 hpk
  obtain ⟨r_k, hr_k⟩ := kcl_at hq
  refine lv_aload_n hx hb (fk_get fk_cX10_portion_0 0 rfl) rfl (lv_at hl 0 rfl) ?_
  refine lv_aload_n hx hb (fk_get fk_cX10_portion_0 1 rfl) rfl (lv_at hl 1 rfl) ?_
  refine vp_callSi (va_Run.run (va_runSU (C := r_k.1) (As := [.ref (ad i)]) (rest := []) (hK.1 (kcl q) r_k hr_k).2 ⟨hx, hb, hml, hown, hT⟩ (c_x0_portion l G ad S s.heap.size (2 + q) (i) ((lt71 (by omega))) (hpk)) (tSU 1 hT m2_162 m7_182 m1_98 m2_146 m1_5 m2_147 rfl rfl (by decide +kernel) ⟨Nat.le_of_ble_eq_true rfl, Nat.le_of_ble_eq_true rfl⟩) ⟨PcW_blind, va_recv hK hP hr_k (ix_at (lt71 (by omega)) (cX_knd hq)), PcW_of hP hK hD _⟩ rfl rfl hl.1 rfl (lv_room (Nat.le_of_ble_eq_true rfl)) (fk_get fk_cX10_portion_0 2 rfl) ⟨Nat.zero_le _, Nat.zero_le _⟩)) (fun r_1 hw_2 => ?_)
  try dsimp only at hw_2
  refine lv_aload_n hx hb (fk_get fk_cX10_portion_0 3 rfl) rfl (lv_at hl 1 rfl) ?_
  refine va_get (D := G.1) (ci := 5) (v := .ref (ad (i + 18))) (C := RX3) (T := TX3) (N := 10) hx hb hT inX3 hown hK hP i (ix_at (lt71 (by omega)) (cX_cust hpk)) rfl 1 (by decide) (hT _ m1_141) (fun _ h9 => h9) rfl (fk_get fk_cX10_portion_0 4 rfl) ?_
  refine lv_aload_n hx hb (fk_get fk_cX10_portion_0 5 rfl) rfl (lv_at hl 1 rfl) ?_
  refine va_get (D := G.1) (ci := 5) (v := .int (fF S i 8)) (C := RX3) (T := TX3) (N := 10) hx hb hT inX3 hown hK hP i (ix_at (lt71 (by omega)) (cX_cust hpk)) rfl 8 (by decide) (hT _ m1_174) (fun _ h9 => h9) rfl (fk_get fk_cX10_portion_0 6 rfl) ?_
  refine lv_iconst (v := 4) hx hb (fk_get fk_cX10_portion_0 7 rfl) (by decide) ?_
  refine vp_callSi (W.runS (As := [.int ((fF S i 8)), .int (4)]) (rest := [.ref (ad (i + 18)), .int (r_1)]) ⟨hx, hb, hml, hown, hT⟩ (c_jfloorMod4 l ((fF S i 8)) (4) (rfl)) (tS 2 hT m2_163 m2_164 m1_18 m2_165 rfl rfl (by decide +kernel) ⟨Nat.le_of_ble_eq_true rfl, Nat.le_of_ble_eq_true rfl⟩) ⟨PcN_blind, PcN_of _ _ _⟩ rfl rfl hl.1 rfl (lv_room (Nat.le_of_ble_eq_true rfl)) (fk_get fk_cX10_portion_0 8 rfl) ⟨Nat.zero_le _, Nat.zero_le _⟩) (fun r_3 hw_4 => ?_)
  try dsimp only at hw_4
  obtain ⟨k_, hk_, ek_⟩ := hw_4
  subst ek_
  refine r_iald (f := fA S (i + 18)) hx hb hK hP (i + 18) 0 (ix_at (lt71 (by omega)) (cX_arr (Or.inl ⟨rfl, rfl, Or.inr (pk_e7 hpk)⟩))) rfl (j := k_) (rfl) (by omega) (by decide) (fk_get fk_cX10_portion_0 9 rfl) ?_
  refine lv_iadd hx hb (fk_get fk_cX10_portion_0 10 rfl) ?_
  subst hQ
  have hpost : True := by
    trivial
  exact W.iret (v := (r_1 + (fA S (i + 18) k_))) hx hb hr (fun t_ ht_ hW_ => ⟨(r_1 + (fA S (i + 18) k_)), rfl, hpost, ht_⟩) (fun q h => by cases h) (fk_get fk_cX10_portion_0 11 rfl)
/-- customer i is now as j was -/
def CE (S : FS) (i j : Nat) (S' : FS) : Prop := (∀ k, 3 ≤ k → k ≤ 9 → fF S' i k = fF S j k) ∧ fR S' i 2 = fR S j 2 ∧ ∀ k, k < 4 → fA S' (i + 18) k = fA S (j + 18) k
set_option maxHeartbeats 800000 in
set_option maxRecDepth 100000 in
theorem c_x3_saysNo (l : Launch) (G : GG) (ad : Nat → Nat) (S : FS) (sz : Nat) (i : Nat) (hpk : pk i = 7) (hX : XI S) : Met l yX3_saysNo (Cond.code yX3_saysNo cX3_saysNo 1 none :: TBL) ({ frames := 3, cells := 0, slots := 0, locals := 89 } : Room) (PcW G (wX G ad S) sz [.ref (ad i)]) (va_Qv (fun (S' : FS) => XI S' ∧ Fr (fun j k => j = i ∧ 5 ≤ k ∧ k ≤ 9) S S' ∧ True) (fun S' t => BW G (va_A (wX G ad S) sz) (wX G ad S') t) (va_A (wX G ad S) sz)) 0 0 (va_A (wX G ad S) sz) := by
  refine Met.ofW (cc := cX3_saysNo) (maxL := 1) (ret := none) (by decide) rfl ?_
  intro p e s m args below meth c₀ s₁ B hml hv
  obtain ⟨rfl, hsz, hP, hK, hD0⟩ := hv
  have hx := B.exec
  have hb := B.bytes
  have hr := B.returns
  have hT : ∀ w ∈ TBL, w.before ([.ref (ad i)] : List Value).toArray s = true := fun w h => atoms_spec (ws := Cond.code yX3_saysNo cX3_saysNo 1 none :: TBL) B.pre w (List.mem_cons_of_mem _ h)
  have hown : s.vm.findClass "LittleMore$Customer" = some m.cls := findClass_of_methodNamed B.named
  have hlocks := B.notSynchronized
  subst hsz
  have hD := hD0.self (sz := s.heap.size)
  generalize hAe : va_A (wX G ad S) s.heap.size = A at hD ⊢
  have hA : ∀ q : Nat, s.heap.size ≤ q → A q := fun q h => by rw [← hAe]; exact Or.inr h
  have hS : va_S A s.heap s.heap [] := va_S.rf
  have hP : va_P G.1 vwCl (wX G ad S) s.heap := hP
  have hl := lv_entry ([.ref (ad i)]) (n := 1) (Nat.le_of_ble_eq_true rfl)
  rw [lg_entry_eq]
  generalize (lg_sl ([.ref (ad i)]) ++ List.replicate (1 - (lg_sl ([.ref (ad i)])).length) Slot.unset).toArray = ls at hl ⊢
  have hl : lv_has ls 1 [(0, .ref (ad i))] := hl
  refine W_abs (fun Q hQ => ?_)
  generalize ([.ref (ad i)] : List Value).toArray = args at hT hQ ⊢
  have hb_i := pk7 hpk
  refine lv_aload_n hx hb (fk_get fk_cX3_saysNo_0 0 rfl) rfl (lv_at hl 0 rfl) ?_
  refine lv_bipush (v := 99) hx hb (fk_get fk_cX3_saysNo_0 1 rfl) (by decide) ?_
  refine lv_aload_n hx hb (fk_get fk_cX3_saysNo_0 2 rfl) rfl (lv_at hl 0 rfl) ?_
  refine va_get (D := G.1) (ci := 5) (v := .int (fF S i 7)) (C := RX3) (T := TX3) (N := 10) hx hb hT inX3 hown hK hP i (ix_at (lt71 (by omega)) (cX_cust hpk)) rfl 7 (by decide) (hT _ m1_169) (fun _ h9 => h9) rfl (fk_get fk_cX3_saysNo_0 3 rfl) ?_
  refine lv_iconst (v := 1) hx hb (fk_get fk_cX3_saysNo_0 4 rfl) (by decide) ?_
  refine lv_iadd hx hb (fk_get fk_cX3_saysNo_0 5 rfl) ?_
  refine vp_callSi (W.runS (As := [.int (99), .int (((fF S i 7) + 1))]) (rest := [.ref (ad i)]) ⟨hx, hb, hml, hown, hT⟩ (c_jmin l (99) (((fF S i 7) + 1)) ) (tS 2 hT m3_178 m3_94 m1_18 m3_95 rfl rfl (by decide +kernel) ⟨Nat.le_of_ble_eq_true rfl, Nat.le_of_ble_eq_true rfl⟩) ⟨PcN_blind, PcN_of _ _ _⟩ rfl rfl hl.1 rfl (lv_room (Nat.le_of_ble_eq_true rfl)) (fk_get fk_cX3_saysNo_0 6 rfl) ⟨Nat.zero_le _, Nat.zero_le _⟩) (fun r_1 hw_2 => ?_)
  try dsimp only at hw_2
  refine va_put (D := G.1) (ci := 5) (v := .int (r_1)) (ty := .int) (C := RX3) (T := TX3) (N := 10) hx hb hT inX3 tyX3 tyX3_ok nmX3 hown hK hP hD hS i (ix_at (lt71 (by omega)) (cX_cust hpk)) rfl 7 (by decide) (hT _ m1_169) (fun _ h9 => h9) rfl (by decide +kernel) rfl rfl (Nat.le_of_ble_eq_true rfl) (fk_get fk_cX3_saysNo_0 7 rfl) (fun H locs hP hD hS => ?_)
  rw [pX_cust_7 (S := S) (lt71 (by omega)) (hpk) (r_1)] at hP hD
  have hX_3 : XI (setF S i 7 (r_1)) := XI.sF hX _ ⟨by omega, by omega, by omega, by omega, by omega, by omega, by omega, by omega⟩
  have hF_4 : Fr (fun j k => j = i ∧ 5 ≤ k ∧ k ≤ 9) S (setF S i 7 (r_1)) := Fr.sF (Fr.rf : Fr (fun j k => j = i ∧ 5 ≤ k ∧ k ≤ 9) S S) (by omega)
  refine lv_aload_n hx hb (fk_get fk_cX3_saysNo_0 8 rfl) rfl (lv_at hl 0 rfl) ?_
  refine lv_iconst (v := 0) hx hb (fk_get fk_cX3_saysNo_0 9 rfl) (by decide) ?_
  refine lv_aload_n hx hb (fk_get fk_cX3_saysNo_0 10 rfl) rfl (lv_at hl 0 rfl) ?_
  refine va_get (D := G.1) (ci := 5) (v := .int (fF (setF S i 7 (r_1)) i 5)) (C := RX3) (T := TX3) (N := 10) hx hb hT inX3 hown hK hP i (ix_at (lt71 (by omega)) (cX_cust hpk)) rfl 5 (by decide) (hT _ m1_159) (fun _ h9 => h9) rfl (fk_get fk_cX3_saysNo_0 11 rfl) ?_
  rw [show fF (setF S i 7 (r_1)) i 5 = (fF S i 5) from by simp [fF_setF, fF_setR, fF_setA, fF_setL]]
  refine lv_iconst (v := 2) hx hb (fk_get fk_cX3_saysNo_0 12 rfl) (by decide) ?_
  refine lv_isub hx hb (fk_get fk_cX3_saysNo_0 13 rfl) ?_
  refine vp_callSi (W.runS (As := [.int (0), .int (((fF S i 5) - 2))]) (rest := [.ref (ad i)]) ⟨hx, hb, hml, hown, hT⟩ (c_jmax l (0) (((fF S i 5) - 2)) ) (tS 2 hT m3_179 m2_139 m1_18 m2_140 rfl rfl (by decide +kernel) ⟨Nat.le_of_ble_eq_true rfl, Nat.le_of_ble_eq_true rfl⟩) ⟨PcN_blind, PcN_of _ _ _⟩ rfl rfl hl.1 rfl (lv_room (Nat.le_of_ble_eq_true rfl)) (fk_get fk_cX3_saysNo_0 14 rfl) ⟨Nat.zero_le _, Nat.zero_le _⟩) (fun r_5 hw_6 => ?_)
  try dsimp only at hw_6
  refine va_put (D := G.1) (ci := 5) (v := .int (r_5)) (ty := .int) (C := RX3) (T := TX3) (N := 10) hx hb hT inX3 tyX3 tyX3_ok nmX3 hown hK hP hD hS i (ix_at (lt71 (by omega)) (cX_cust hpk)) rfl 5 (by decide) (hT _ m1_159) (fun _ h9 => h9) rfl (by decide +kernel) rfl rfl (Nat.le_of_ble_eq_true rfl) (fk_get fk_cX3_saysNo_0 15 rfl) (fun H locs hP hD hS => ?_)
  rw [pX_cust_5 (S := (setF S i 7 (r_1))) (lt71 (by omega)) (hpk) (r_5)] at hP hD
  have hX_7 : XI (setF (setF S i 7 (r_1)) i 5 (r_5)) := XI.sF hX_3 _ ⟨by omega, by omega, by omega, by omega, by omega, by omega, by omega, by omega⟩
  have hF_8 : Fr (fun j k => j = i ∧ 5 ≤ k ∧ k ≤ 9) S (setF (setF S i 7 (r_1)) i 5 (r_5)) := Fr.sF hF_4 (by omega)
  refine lv_aload_n hx hb (fk_get fk_cX3_saysNo_0 16 rfl) rfl (lv_at hl 0 rfl) ?_
  obtain ⟨n_9, en_9, bn_9⟩ := XI.kin hX_7 hpk
  refine va_get (D := G.1) (ci := 5) (v := va_rf ((fR (setF (setF S i 7 (r_1)) i 5 (r_5)) i 2).map ad)) (C := RX3) (T := TX3) (N := 10) hx hb hT inX3 hown hK hP i (ix_at (lt71 (by omega)) (cX_cust hpk)) rfl 2 (by decide) (hT _ m1_143) (fun _ h9 => h9) rfl (fk_get fk_cX3_saysNo_0 17 rfl) ?_
  rw [show va_rf ((fR (setF (setF S i 7 (r_1)) i 5 (r_5)) i 2).map ad) = .ref (ad (2 + n_9)) from by rw [en_9]; rfl]
  refine lv_aload_n hx hb (fk_get fk_cX3_saysNo_0 18 rfl) rfl (lv_at hl 0 rfl) ?_
  have kk_34 : ∀ rv_34 : Int32, (rv_34 = 0 ∨ rv_34 = 1) → W p l e ({ frames := 3, cells := 0, slots := 0, locals := 89 } : Room) s m args below meth c₀ H locs 0 0 Q (F0 m 37 ls [.int (rv_34)]) := by
    intro rv_34 hz_34
    refine lv_if_eq (tgt := 45) hx hb (fk_get fk_cX3_saysNo_0 20 rfl) (by decide) (fun c_10 => ?_) (fun c_10 => ?_)
    · subst hQ
      have hpost : XI (setF (setF S i 7 (r_1)) i 5 (r_5)) ∧ Fr (fun j k => j = i ∧ 5 ≤ k ∧ k ≤ 9) S (setF (setF S i 7 (r_1)) i 5 (r_5)) ∧ True := by
        exact ⟨hX_7, hF_8, trivial⟩
      exact W.vret hx hb hr (fun t_ ht_ hW_ => ⟨⟨(setF (setF S i 7 (r_1)) i 5 (r_5)), rfl, hpost, by rw [ht_]; exact hP, va_K.moved hW_.alike hK, hD⟩, hS.F ht_⟩) hS.2.2 (fk_get fk_cX3_saysNo_0 24 rfl)
    refine lv_aload_n hx hb (fk_get fk_cX3_saysNo_0 21 rfl) rfl (lv_at hl 0 rfl) ?_
    refine lv_iconst (v := 1) hx hb (fk_get fk_cX3_saysNo_0 22 rfl) (by decide) ?_
    refine va_put (D := G.1) (ci := 5) (v := .int (1)) (ty := .boolean) (C := RX3) (T := TX3) (N := 10) hx hb hT inX3 tyX3 tyX3_ok nmX3 hown hK hP hD hS i (ix_at (lt71 (by omega)) (cX_cust hpk)) rfl 9 (by decide) (hT _ m1_178) (fun _ h9 => h9) rfl (by decide +kernel) rfl rfl (Nat.le_of_ble_eq_true rfl) (fk_get fk_cX3_saysNo_0 23 rfl) (fun H locs hP hD hS => ?_)
    rw [pX_cust_9 (S := (setF (setF S i 7 (r_1)) i 5 (r_5))) (lt71 (by omega)) (hpk) (1)] at hP hD
    have hX_11 : XI (setF (setF (setF S i 7 (r_1)) i 5 (r_5)) i 9 (1)) := XI.gone_ hX_7 hpk (Or.inr rfl)
    have hF_12 : Fr (fun j k => j = i ∧ 5 ≤ k ∧ k ≤ 9) S (setF (setF (setF S i 7 (r_1)) i 5 (r_5)) i 9 (1)) := Fr.sF hF_8 (by omega)
    subst hQ
    have hpost : XI (setF (setF (setF S i 7 (r_1)) i 5 (r_5)) i 9 (1)) ∧ Fr (fun j k => j = i ∧ 5 ≤ k ∧ k ≤ 9) S (setF (setF (setF S i 7 (r_1)) i 5 (r_5)) i 9 (1)) ∧ True := by
      exact ⟨hX_11, hF_12, trivial⟩
    exact W.vret hx hb hr (fun t_ ht_ hW_ => ⟨⟨(setF (setF (setF S i 7 (r_1)) i 5 (r_5)) i 9 (1)), rfl, hpost, by rw [ht_]; exact hP, va_K.moved hW_.alike hK, hD⟩, hS.F ht_⟩) hS.2.2 (fk_get fk_cX3_saysNo_0 24 rfl)
  rcases kq7 bn_9 with rfl | rfl | rfl | rfl | rfl | rfl | rfl
  · exact vp_callSi (va_Run.run (va_runU (As := [.ref (ad i)]) (rest := []) ⟨hx, hb, hml, hown, hT⟩ (c_x5_leaves l G ad (setF (setF S i 7 (r_1)) i 5 (r_5)) H.size (2 + 0) (i) ((lt71 (by omega))) (hpk)) (tU 1 hT m3_180 m3_183 m3_182 m3_181 m1_2 m3_192 rfl rfl rfl (by decide +kernel) ⟨Nat.le_of_ble_eq_true rfl, Nat.le_of_ble_eq_true rfl⟩) ⟨PcW_blind, va_recv hK hP (ci := 7) (q0 := 2 + 0) rfl (ix_at (lt71 (by omega)) (cX_knd (by omega))), PcW_of hP hK hD _⟩ rfl rfl hl.1 rfl (lv_room (Nat.le_of_ble_eq_true rfl)) (fk_get fk_cX3_saysNo_0 19 rfl) ⟨Nat.zero_le _, Nat.zero_le _⟩)) (fun r h_ => kk_34 r (Or.inl h_))
  · exact vp_callSi (va_Run.run (va_runU (As := [.ref (ad i)]) (rest := []) ⟨hx, hb, hml, hown, hT⟩ (c_x5_leaves l G ad (setF (setF S i 7 (r_1)) i 5 (r_5)) H.size (2 + 1) (i) ((lt71 (by omega))) (hpk)) (tU 1 hT m3_180 m3_183 m3_190 m3_181 m1_2 m3_192 rfl rfl rfl (by decide +kernel) ⟨Nat.le_of_ble_eq_true rfl, Nat.le_of_ble_eq_true rfl⟩) ⟨PcW_blind, va_recv hK hP (ci := 10) (q0 := 2 + 1) rfl (ix_at (lt71 (by omega)) (cX_knd (by omega))), PcW_of hP hK hD _⟩ rfl rfl hl.1 rfl (lv_room (Nat.le_of_ble_eq_true rfl)) (fk_get fk_cX3_saysNo_0 19 rfl) ⟨Nat.zero_le _, Nat.zero_le _⟩)) (fun r h_ => kk_34 r (Or.inl h_))
  · exact vp_callSi (va_Run.run (va_runU (As := [.ref (ad i)]) (rest := []) ⟨hx, hb, hml, hown, hT⟩ (c_x5_leaves l G ad (setF (setF S i 7 (r_1)) i 5 (r_5)) H.size (2 + 2) (i) ((lt71 (by omega))) (hpk)) (tU 1 hT m3_180 m3_183 m3_186 m3_181 m1_2 m3_192 rfl rfl rfl (by decide +kernel) ⟨Nat.le_of_ble_eq_true rfl, Nat.le_of_ble_eq_true rfl⟩) ⟨PcW_blind, va_recv hK hP (ci := 6) (q0 := 2 + 2) rfl (ix_at (lt71 (by omega)) (cX_knd (by omega))), PcW_of hP hK hD _⟩ rfl rfl hl.1 rfl (lv_room (Nat.le_of_ble_eq_true rfl)) (fk_get fk_cX3_saysNo_0 19 rfl) ⟨Nat.zero_le _, Nat.zero_le _⟩)) (fun r h_ => kk_34 r (Or.inl h_))
  · exact vp_callSi (va_Run.run (va_runU (As := [.ref (ad i)]) (rest := []) ⟨hx, hb, hml, hown, hT⟩ (c_x5_leaves l G ad (setF (setF S i 7 (r_1)) i 5 (r_5)) H.size (2 + 3) (i) ((lt71 (by omega))) (hpk)) (tU 1 hT m3_180 m3_183 m3_184 m3_181 m1_2 m3_192 rfl rfl rfl (by decide +kernel) ⟨Nat.le_of_ble_eq_true rfl, Nat.le_of_ble_eq_true rfl⟩) ⟨PcW_blind, va_recv hK hP (ci := 2) (q0 := 2 + 3) rfl (ix_at (lt71 (by omega)) (cX_knd (by omega))), PcW_of hP hK hD _⟩ rfl rfl hl.1 rfl (lv_room (Nat.le_of_ble_eq_true rfl)) (fk_get fk_cX3_saysNo_0 19 rfl) ⟨Nat.zero_le _, Nat.zero_le _⟩)) (fun r h_ => kk_34 r (Or.inl h_))
  · exact vp_callSi (va_Run.run (va_runU (As := [.ref (ad i)]) (rest := []) ⟨hx, hb, hml, hown, hT⟩ (c_x5_leaves l G ad (setF (setF S i 7 (r_1)) i 5 (r_5)) H.size (2 + 4) (i) ((lt71 (by omega))) (hpk)) (tU 1 hT m3_180 m3_183 m3_185 m3_181 m1_2 m3_192 rfl rfl rfl (by decide +kernel) ⟨Nat.le_of_ble_eq_true rfl, Nat.le_of_ble_eq_true rfl⟩) ⟨PcW_blind, va_recv hK hP (ci := 4) (q0 := 2 + 4) rfl (ix_at (lt71 (by omega)) (cX_knd (by omega))), PcW_of hP hK hD _⟩ rfl rfl hl.1 rfl (lv_room (Nat.le_of_ble_eq_true rfl)) (fk_get fk_cX3_saysNo_0 19 rfl) ⟨Nat.zero_le _, Nat.zero_le _⟩)) (fun r h_ => kk_34 r (Or.inl h_))
  · exact vp_callSi (va_Run.run (va_runU (As := [.ref (ad i)]) (rest := []) ⟨hx, hb, hml, hown, hT⟩ (c_x6_leaves l G ad (setF (setF S i 7 (r_1)) i 5 (r_5)) H.size (2 + 5) (i) ((lt71 (by omega))) (hpk)) (tO 1 hT m3_180 m3_183 m3_181 m3_187 m3_188 m1_7 m3_189 m3_192 rfl rfl (by decide +kernel) ⟨Nat.le_of_ble_eq_true rfl, Nat.le_of_ble_eq_true rfl⟩) ⟨PcW_blind, va_recv hK hP (ci := 8) (q0 := 2 + 5) rfl (ix_at (lt71 (by omega)) (cX_knd (by omega))), PcW_of hP hK hD _⟩ rfl rfl hl.1 rfl (lv_room (Nat.le_of_ble_eq_true rfl)) (fk_get fk_cX3_saysNo_0 19 rfl) ⟨Nat.zero_le _, Nat.zero_le _⟩)) (fun r h_ => kk_34 r (if1_01 h_))
  · exact vp_callSi (va_Run.run (va_runU (As := [.ref (ad i)]) (rest := []) ⟨hx, hb, hml, hown, hT⟩ (c_x5_leaves l G ad (setF (setF S i 7 (r_1)) i 5 (r_5)) H.size (2 + 6) (i) ((lt71 (by omega))) (hpk)) (tU 1 hT m3_180 m3_183 m3_191 m3_181 m1_2 m3_192 rfl rfl rfl (by decide +kernel) ⟨Nat.le_of_ble_eq_true rfl, Nat.le_of_ble_eq_true rfl⟩) ⟨PcW_blind, va_recv hK hP (ci := 12) (q0 := 2 + 6) rfl (ix_at (lt71 (by omega)) (cX_knd (by omega))), PcW_of hP hK hD _⟩ rfl rfl hl.1 rfl (lv_room (Nat.le_of_ble_eq_true rfl)) (fk_get fk_cX3_saysNo_0 19 rfl) ⟨Nat.zero_le _, Nat.zero_le _⟩)) (fun r h_ => kk_34 r (Or.inl h_))
theorem fl_step {S : FS} {ia c : Nat} {v : Int32} (h : ∀ k, k < c → fA S ia k = v) : ∀ k, k < c + 1 → fA (setA S ia (upd (fA S ia) c v)) ia k = v := by
  intro k hk
  rw [fA_setA, if_pos rfl]
  by_cases e : k = c
  · rw [e, pk_us]
  · rw [pk_un e]
    exact h k (by omega)
set_option maxHeartbeats 800000 in
set_option maxRecDepth 100000 in
theorem c_jfill (l : Launch) (G : GG) (ad : Nat → Nat) (S : FS) (sz : Nat) (ia na : Nat) (v : Int32) (hia : isA ia 0 na) (hib : ia < 71) (hi63 : ia ≠ 63) (hX : XI S) : Met l yJ7_fill_53178 (Cond.code yJ7_fill_53178 cJ7_fill_53178 4 none :: TBL) ({ frames := 2, cells := 0, slots := 0, locals := 64 } : Room) (PcW G (wX G ad S) sz [.ref (ad ia), .int (v)]) (va_Qv (fun (S' : FS) => XI S' ∧ Fr (fun j k => j = ia ∧ k = 99) S S' ∧ ∀ k, k < na → fA S' ia k = v) (fun S' t => BW G (va_A (wX G ad S) sz) (wX G ad S') t) (va_A (wX G ad S) sz)) 0 0 (va_A (wX G ad S) sz) := by
  refine va_MetF (cc := cJ7_fill_53178) (maxL := 4) (ret := none) (by decide +kernel) rfl ?_
  intro p e s m args below meth c₀ s₁ B hml hv
  obtain ⟨rfl, hsz, hP, hK, hD0⟩ := hv
  have hx := B.exec
  have hb := B.bytes
  have hr := B.returns
  have hT : ∀ w ∈ TBL, w.before ([.ref (ad ia), .int (v)] : List Value).toArray s = true := fun w h => atoms_spec (ws := Cond.code yJ7_fill_53178 cJ7_fill_53178 4 none :: TBL) B.pre w (List.mem_cons_of_mem _ h)
  have hown : s.vm.findClass "java/util/Arrays" = some m.cls := findClass_of_methodNamed B.named
  have hlocks := B.notSynchronized
  subst hsz
  have hD := hD0.self (sz := s.heap.size)
  generalize hAe : va_A (wX G ad S) s.heap.size = A at hD ⊢
  have hA : ∀ q : Nat, s.heap.size ≤ q → A q := fun q h => by rw [← hAe]; exact Or.inr h
  have hS : va_S A s.heap s.heap [] := va_S.rf
  have hP : va_P G.1 vwCl (wX G ad S) s.heap := hP
  have hl := lv_entry ([.ref (ad ia), .int (v)]) (n := 4) (Nat.le_of_ble_eq_true rfl)
  rw [lg_entry_eq]
  generalize (lg_sl ([.ref (ad ia), .int (v)]) ++ List.replicate (4 - (lg_sl ([.ref (ad ia), .int (v)])).length) Slot.unset).toArray = ls at hl ⊢
  have hl : lv_has ls 4 [(0, .ref (ad ia)), (1, .int (v))] := hl
  refine W_abs (fun Q hQ => ?_)
  generalize ([.ref (ad ia), .int (v)] : List Value).toArray = args at hT hQ ⊢
  have hna : na ≤ 100 := by omega
  refine lv_iconst (v := 0) hx hb (fk_get fk_cJ7_fill_53178_0 0 rfl) (by decide) ?_
  refine lv_istore_n (lv' := [(2, .int (0)), (0, .ref (ad ia)), (1, .int (v))]) hx hb (fk_get fk_cJ7_fill_53178_0 1 rfl) rfl hl (by decide) rfl (fun ls hl => ?_)
  refine lv_aload_n hx hb (fk_get fk_cJ7_fill_53178_0 2 rfl) rfl (lv_at hl 1 rfl) ?_
  refine va_alen hx hb hK hP ia 0 (ix_at (lt71 (by omega)) (cX_arr hia)) rfl (v := nI na) rfl (fk_get fk_cJ7_fill_53178_0 3 rfl) ?_
  refine lv_istore_n (lv' := [(3, .int ((nI na))), (2, .int (0)), (0, .ref (ad ia)), (1, .int (v))]) hx hb (fk_get fk_cJ7_fill_53178_0 4 rfl) rfl hl (by decide) rfl (fun ls hl => ?_)
  have lp_1 : ∀ (fu : Nat) (c : Nat) (SL5 : FS) (H_3 : Heap) (locs_4 : List Loc) (ls : Array Slot),  (XI SL5) → (Fr (fun j k => j = ia ∧ k = 99) S SL5) → (c ≤ na) → (na < c + fu) → (∀ k, k < c → fA SL5 ia k = v) → va_P G.1 vwCl (wX G ad SL5) H_3 → va_D A (wX G ad SL5) → va_S A s.heap H_3 locs_4 → lv_has ls 4 [(3, .int ((nI na))), (2, .int ((nI c))), (0, .ref (ad ia)), (1, .int (v))] → W p l e ({ frames := 2, cells := 0, slots := 0, locals := 64 } : Room) s m args below meth c₀ H_3 locs_4 0 0 Q (F0 m 5 ls []) := by
    intro fu
    induction fu with
    | zero =>
      intro c SL5 H_3 locs_4 ls hXl5 hFl5 hc hf hv_ hP hD hS hl
      exact absurd hf (by omega)
    | succ fu ih =>
      intro c SL5 H_3 locs_4 ls hXl5 hFl5 hc hf hv_ hP hD hS hl
      refine lv_iload_n hx hb (fk_get fk_cJ7_fill_53178_0 5 rfl) rfl (lv_at hl 1 rfl) ?_
      refine lv_iload_n hx hb (fk_get fk_cJ7_fill_53178_0 6 rfl) rfl (lv_at hl 0 rfl) ?_
      refine lv_icmp_ge (tgt := 20) hx hb (fk_get fk_cJ7_fill_53178_0 7 rfl) (by decide) (fun c_5 => ?_) (fun c_5 => ?_)
      · have q_c_5 : na ≤ c := ci_le (a := na) (b := c) (by omega) (by omega) c_5
        subst hQ
        have hpost : XI SL5 ∧ Fr (fun j k => j = ia ∧ k = 99) S SL5 ∧ ∀ k, k < na → fA SL5 ia k = v := by
          exact ⟨hXl5, hFl5, fun k hk => hv_ k (by omega)⟩
        exact W.vret hx hb hr (fun t_ ht_ hW_ => ⟨⟨SL5, rfl, hpost, by rw [ht_]; exact hP, va_K.moved hW_.alike hK, hD⟩, hS.F ht_⟩) hS.2.2 (fk_get fk_cJ7_fill_53178_0 14 rfl)
      have q_c_5 : c < na := ci_nle (a := na) (b := c) (by omega) (by omega) c_5
      refine lv_aload_n hx hb (fk_get fk_cJ7_fill_53178_0 8 rfl) rfl (lv_at hl 2 rfl) ?_
      refine lv_iload_n hx hb (fk_get fk_cJ7_fill_53178_0 9 rfl) rfl (lv_at hl 1 rfl) ?_
      refine lv_iload_n hx hb (fk_get fk_cJ7_fill_53178_0 10 rfl) rfl (lv_at hl 3 rfl) ?_
      refine r_iast hx hb hK hP hD hS ia 0 (ix_at (lt71 (by omega)) (cX_arr hia)) rfl (j := c) (rfl) (by omega) (by omega) (fk_get fk_cJ7_fill_53178_0 11 rfl) (fun H locs hP hD hS => ?_)
      rw [pX_arr (G := G) (ad := ad) (S := SL5) (lt71 (by omega)) hia (upd (fA SL5 ia) c (v))] at hP hD
      have hX_6 : XI (setA SL5 ia (upd (fA SL5 ia) c (v))) := XI.sA hXl5 _ (by omega)
      have hF_7 : Fr (fun j k => j = ia ∧ k = 99) S (setA SL5 ia (upd (fA SL5 ia) c (v))) := Fr.sA hFl5 (by omega)
      refine lv_iinc (v := (nI (c + 1))) (lv' := [(2, .int ((nI (c + 1)))), (3, .int ((nI na))), (0, .ref (ad ia)), (1, .int (v))]) hx hb (fk_get fk_cJ7_fill_53178_0 12 rfl) hl (k := 1) rfl ((nI_1 c)) (by decide) rfl (fun ls hl => ?_)
      refine lv_goto (tgt := 5) hx hb (fk_get fk_cJ7_fill_53178_0 13 rfl) (by decide) ?_
      exact ih (c + 1) (setA SL5 ia (upd (fA SL5 ia) c (v))) _ _ ls (hX_6) (hF_7) (by omega) (by omega) (fl_step hv_) hP hD hS (lv_sub hl [1, 0, 2, 3] rfl)
  exact lp_1 (na + 1) (0) (S) _ _ ls (hX) ((Fr.rf : Fr (fun j k => j = ia ∧ k = 99) S S)) (by omega) (by omega) (fun k hk => absurd hk (by omega)) hP hD hS (lv_sub hl [0, 1, 2, 3] rfl)
