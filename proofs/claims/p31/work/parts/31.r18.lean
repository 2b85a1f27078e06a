theorem rem_int (x y : Int32) : (x - x / y * y).toInt = x.toInt.tmod y.toInt := by
  rw [Int32.toInt_sub, Int32.toInt_mul, Int32.toInt_div, Int.bmod_mul_bmod, Int.sub_bmod_bmod]
  rw [show x.toInt - x.toInt.tdiv y.toInt * y.toInt = x.toInt.tmod y.toInt from by rw [Int.tmod_def, Int.mul_comm], ← Int32.toInt_mod, Int32.toInt_bmod]
theorem rem_lt (x : Int32) {y : Int32} (h : ¬ y = 0) : (x - x / y * y).toInt.natAbs < y.toInt.natAbs := by
  rw [rem_int]
  have h0 : y.toInt ≠ 0 := fun q => h (Int32.toInt_inj.mp q)
  rw [Int.natAbs_tmod]
  exact Nat.mod_lt _ (by omega)
set_option maxHeartbeats 800000 in
set_option maxRecDepth 100000 in
theorem c_divisor (l : Launch) (a_ b_ : Int32) (hb0 : ¬ b_ = 0) : Met l yX12_divisor (Cond.code yX12_divisor cX12_divisor 5 (some .int) :: TBL) ({ frames := 2, cells := 0, slots := 0, locals := 64 } : Room) (PcN [.int (a_), .int (b_)]) (vp_Si (fun (r : Int32) => ¬ r = 0)) 0 0 (fun _ => False) := by
  refine Met.ofW (cc := cX12_divisor) (maxL := 5) (ret := (some .int)) (by decide) rfl ?_
  intro p e s m args below meth c₀ s₁ B hml hv
  obtain ⟨rfl, -⟩ := hv
  have hx := B.exec
  have hb := B.bytes
  have hr := B.returns
  have hT : ∀ w ∈ TBL, w.before ([.int (a_), .int (b_)] : List Value).toArray s = true := fun w h => atoms_spec (ws := Cond.code yX12_divisor cX12_divisor 5 (some .int) :: TBL) B.pre w (List.mem_cons_of_mem _ h)
  have hown : s.vm.findClass "LittleMoreModel" = some m.cls := findClass_of_methodNamed B.named
  have hlocks := B.notSynchronized
  have hl := lv_entry ([.int (a_), .int (b_)]) (n := 5) (Nat.le_of_ble_eq_true rfl)
  rw [lg_entry_eq]
  generalize (lg_sl ([.int (a_), .int (b_)]) ++ List.replicate (5 - (lg_sl ([.int (a_), .int (b_)])).length) Slot.unset).toArray = ls at hl ⊢
  have hl : lv_has ls 5 [(0, .int (a_)), (1, .int (b_))] := hl
  refine W_abs (fun Q hQ => ?_)
  generalize ([.int (a_), .int (b_)] : List Value).toArray = args at hT hQ ⊢
  refine lv_iload_n hx hb (fk_get fk_cX12_divisor_0 0 rfl) rfl (lv_at hl 0 rfl) ?_
  refine lv_istore_n (lv' := [(2, .int (a_)), (0, .int (a_)), (1, .int (b_))]) hx hb (fk_get fk_cX12_divisor_0 1 rfl) rfl hl (by decide) rfl (fun ls hl => ?_)
  refine lv_iload_n hx hb (fk_get fk_cX12_divisor_0 2 rfl) rfl (lv_at hl 2 rfl) ?_
  refine lv_istore_n (lv' := [(3, .int (b_)), (2, .int (a_)), (0, .int (a_)), (1, .int (b_))]) hx hb (fk_get fk_cX12_divisor_0 3 rfl) rfl hl (by decide) rfl (fun ls hl => ?_)
  have lp_1 : ∀ (fu : Nat) (v2 v3 : Int32) (ls : Array Slot),  (v3.toInt.natAbs < fu) → (¬ (v2 = 0 ∧ v3 = 0)) → lv_has ls 5 [(3, .int (v3)), (2, .int (v2)), (0, .int (a_)), (1, .int (b_))] → W p l e ({ frames := 2, cells := 0, slots := 0, locals := 64 } : Room) s m args below meth c₀ s.heap [] 0 0 Q (F0 m 4 ls []) := by
    intro fu
    induction fu with
    | zero =>
      intro v2 v3 ls hf hnz hl
      exact absurd hf (by omega)
    | succ fu ih =>
      intro v2 v3 ls hf hnz hl
      refine lv_iload_n hx hb (fk_get fk_cX12_divisor_0 4 rfl) rfl (lv_at hl 0 rfl) ?_
      refine lv_if_eq (tgt := 21) hx hb (fk_get fk_cX12_divisor_0 5 rfl) (by decide) (fun c_2 => ?_) (fun c_2 => ?_)
      · have hv0 : ¬ v2 = 0 := fun q => hnz ⟨q, c_2⟩
        refine lv_iload_n hx hb (fk_get fk_cX12_divisor_0 15 rfl) rfl (lv_at hl 1 rfl) ?_
        subst hQ
        have hpost : ¬ (v2 : Int32) = 0 := by
          exact hv0
        exact W.iret (v := v2) hx hb hr (fun t_ ht_ hW_ => ⟨v2, rfl, hpost, ht_⟩) (fun q h => by cases h) (fk_get fk_cX12_divisor_0 16 rfl)
      have hne : ¬ v3 = 0 := c_2
      refine lv_iload_n hx hb (fk_get fk_cX12_divisor_0 6 rfl) rfl (lv_at hl 1 rfl) ?_
      refine lv_iload_n hx hb (fk_get fk_cX12_divisor_0 7 rfl) rfl (lv_at hl 0 rfl) ?_
      refine lv_irem hx hb (fk_get fk_cX12_divisor_0 8 rfl) (hne) ?_
      refine lv_istore (lv' := [(4, .int ((v2 - v2 / v3 * v3))), (3, .int (v3)), (2, .int (v2)), (0, .int (a_)), (1, .int (b_))]) hx hb (fk_get fk_cX12_divisor_0 9 rfl) hl (by decide) rfl (fun ls hl => ?_)
      refine lv_iload_n hx hb (fk_get fk_cX12_divisor_0 10 rfl) rfl (lv_at hl 1 rfl) ?_
      refine lv_istore_n (lv' := [(2, .int (v3)), (4, .int ((v2 - v2 / v3 * v3))), (3, .int (v3)), (0, .int (a_)), (1, .int (b_))]) hx hb (fk_get fk_cX12_divisor_0 11 rfl) rfl hl (by decide) rfl (fun ls hl => ?_)
      refine lv_iload hx hb (fk_get fk_cX12_divisor_0 12 rfl) (lv_at hl 1 rfl) ?_
      refine lv_istore_n (lv' := [(3, .int ((v2 - v2 / v3 * v3))), (2, .int (v3)), (4, .int ((v2 - v2 / v3 * v3))), (0, .int (a_)), (1, .int (b_))]) hx hb (fk_get fk_cX12_divisor_0 13 rfl) rfl hl (by decide) rfl (fun ls hl => ?_)
      refine lv_goto (tgt := 4) hx hb (fk_get fk_cX12_divisor_0 14 rfl) (by decide) ?_
      exact ih (v3) ((v2 - v2 / v3 * v3)) ls (Nat.lt_of_lt_of_le (rem_lt v2 hne) (Nat.le_of_lt_succ hf)) (fun q => hne q.1) (lv_sub hl [0, 1, 3, 4] rfl)
  exact lp_1 (b_.toInt.natAbs + 1) (a_) (b_) ls (by omega) (fun q => hb0 q.2) (lv_sub hl [0, 1, 2, 3] rfl)
set_option maxHeartbeats 800000 in
set_option maxRecDepth 100000 in
theorem c_partOf (l : Launch) (a_ b_ w_ : Int32) (hb0 : ¬ b_ = 0) : Met l yX12_partOf (Cond.code yX12_partOf cX12_partOf 4 (some .long) :: TBL) ({ frames := 3, cells := 0, slots := 0, locals := 92 } : Room) (PcN [.int (a_), .int (b_), .int (w_)]) (vp_Sl (fun (r : Int64) => True)) 0 0 (fun _ => False) := by
  refine Met.ofW (cc := cX12_partOf) (maxL := 4) (ret := (some .long)) (by decide) rfl ?_
  intro p e s m args below meth c₀ s₁ B hml hv
  obtain ⟨rfl, -⟩ := hv
  have hx := B.exec
  have hb := B.bytes
  have hr := B.returns
  have hT : ∀ w ∈ TBL, w.before ([.int (a_), .int (b_), .int (w_)] : List Value).toArray s = true := fun w h => atoms_spec (ws := Cond.code yX12_partOf cX12_partOf 4 (some .long) :: TBL) B.pre w (List.mem_cons_of_mem _ h)
  have hown : s.vm.findClass "LittleMoreModel" = some m.cls := findClass_of_methodNamed B.named
  have hlocks := B.notSynchronized
  have hl := lv_entry ([.int (a_), .int (b_), .int (w_)]) (n := 4) (Nat.le_of_ble_eq_true rfl)
  rw [lg_entry_eq]
  generalize (lg_sl ([.int (a_), .int (b_), .int (w_)]) ++ List.replicate (4 - (lg_sl ([.int (a_), .int (b_), .int (w_)])).length) Slot.unset).toArray = ls at hl ⊢
  have hl : lv_has ls 4 [(0, .int (a_)), (1, .int (b_)), (2, .int (w_))] := hl
  refine W_abs (fun Q hQ => ?_)
  generalize ([.int (a_), .int (b_), .int (w_)] : List Value).toArray = args at hT hQ ⊢
  refine lv_iload_n hx hb (fk_get fk_cX12_partOf_0 0 rfl) rfl (lv_at hl 0 rfl) ?_
  refine vp_callSi (W.runS (As := [.int (a_)]) (rest := []) ⟨hx, hb, hml, hown, hT⟩ (c_plainly l (a_) ) (tS 1 hT m6_234 m6_235 m1_17 m6_236 rfl rfl (by decide +kernel) ⟨Nat.le_of_ble_eq_true rfl, Nat.le_of_ble_eq_true rfl⟩) ⟨PcN_blind, PcN_of _ _ _⟩ rfl rfl hl.1 rfl (lv_room (Nat.le_of_ble_eq_true rfl)) (fk_get fk_cX12_partOf_0 1 rfl) ⟨Nat.zero_le _, Nat.zero_le _⟩) (fun r_1 hw_2 => ?_)
  try dsimp only at hw_2
  refine lv_iload_n hx hb (fk_get fk_cX12_partOf_0 2 rfl) rfl (lv_at hl 1 rfl) ?_
  refine vp_callSi (W.runS (As := [.int (r_1), .int (b_)]) (rest := []) ⟨hx, hb, hml, hown, hT⟩ (c_divisor l (r_1) (b_) (hb0)) (tS 2 hT m7_56 m7_57 m1_17 m7_58 rfl rfl (by decide +kernel) ⟨Nat.le_of_ble_eq_true rfl, Nat.le_of_ble_eq_true rfl⟩) ⟨PcN_blind, PcN_of _ _ _⟩ rfl rfl hl.1 rfl (lv_room (Nat.le_of_ble_eq_true rfl)) (fk_get fk_cX12_partOf_0 3 rfl) ⟨Nat.zero_le _, Nat.zero_le _⟩) (fun r_3 hw_4 => ?_)
  try dsimp only at hw_4
  have hr0 := hw_4
  refine lv_istore_n (lv' := [(3, .int (r_3)), (0, .int (a_)), (1, .int (b_)), (2, .int (w_))]) hx hb (fk_get fk_cX12_partOf_0 4 rfl) rfl hl (by decide) rfl (fun ls hl => ?_)
  refine lv_iload_n hx hb (fk_get fk_cX12_partOf_0 5 rfl) rfl (lv_at hl 3 rfl) ?_
  refine lv_if_ne (tgt := 20) hx hb (fk_get fk_cX12_partOf_0 6 rfl) (by decide) (fun c_5 => ?_) (fun c_5 => ?_)
  · refine lv_iload_n hx hb (fk_get fk_cX12_partOf_0 12 rfl) rfl (lv_at hl 2 rfl) ?_
    refine lv_iload_n hx hb (fk_get fk_cX12_partOf_0 13 rfl) rfl (lv_at hl 0 rfl) ?_
    refine lv_idiv hx hb (fk_get fk_cX12_partOf_0 14 rfl) (hr0) ?_
    refine lv_i2l hx hb (fk_get fk_cX12_partOf_0 15 rfl) rfl ?_
    subst hQ
    have hpost : True := by
      trivial
    exact W.lret (v := ((b_ / r_3)).toInt64) hx hb hr (fun t_ ht_ hW_ => ⟨((b_ / r_3)).toInt64, rfl, hpost, ht_⟩) (fun q h => by cases h) (fk_get fk_cX12_partOf_0 16 rfl)
  refine lv_iload_n hx hb (fk_get fk_cX12_partOf_0 7 rfl) rfl (lv_at hl 1 rfl) ?_
  refine lv_iload_n hx hb (fk_get fk_cX12_partOf_0 8 rfl) rfl (lv_at hl 0 rfl) ?_
  refine lv_idiv hx hb (fk_get fk_cX12_partOf_0 9 rfl) (hr0) ?_
  refine lv_i2l hx hb (fk_get fk_cX12_partOf_0 10 rfl) rfl ?_
  refine lv_goto (tgt := 24) hx hb (fk_get fk_cX12_partOf_0 11 rfl) (by decide) ?_
  subst hQ
  have hpost : True := by
    trivial
  exact W.lret (v := ((a_ / r_3)).toInt64) hx hb hr (fun t_ ht_ hW_ => ⟨((a_ / r_3)).toInt64, rfl, hpost, ht_⟩) (fun q h => by cases h) (fk_get fk_cX12_partOf_0 16 rfl)
