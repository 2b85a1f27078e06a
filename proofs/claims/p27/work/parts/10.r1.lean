set_option maxHeartbeats 4000000 in
set_option maxRecDepth 100000 in
theorem c_in (l : Launch) (v lo hi : Int64) : Met l yX12_in (Cond.code yX12_in cX12_in 6 (some .boolean) :: TBL) ({ frames := 2, cells := 0, slots := 0, locals := 64 } : Room) (PcN [.long (v), .long (lo), .long (hi)]) (vp_Si (fun (r : Int32) => r = if lo ≤ v ∧ v ≤ hi then 1 else 0)) 0 0 (fun _ => False) := by
  refine Met.ofW (cc := cX12_in) (maxL := 6) (ret := (some .boolean)) (by decide) rfl ?_
  intro p e s m args below meth c₀ s₁ B hml hv
  obtain ⟨rfl, -⟩ := hv
  have hx := B.exec
  have hb := B.bytes
  have hr := B.returns
  have hT : ∀ w ∈ TBL, w.before ([.long (v), .long (lo), .long (hi)] : List Value).toArray s = true := fun w h => atoms_spec (ws := Cond.code yX12_in cX12_in 6 (some .boolean) :: TBL) B.pre w (List.mem_cons_of_mem _ h)
  have hown : s.vm.findClass "LittleMoreModel" = some m.cls := findClass_of_methodNamed B.named
  have hlocks := B.notSynchronized
  have hl := lv_entry ([.long (v), .long (lo), .long (hi)]) (n := 6) (Nat.le_of_ble_eq_true rfl)
  rw [lg_entry_eq]
  generalize (lg_sl ([.long (v), .long (lo), .long (hi)]) ++ List.replicate (6 - (lg_sl ([.long (v), .long (lo), .long (hi)])).length) Slot.unset).toArray = ls at hl ⊢
  have hl : lv_has ls 6 [(0, .long (v)), (2, .long (lo)), (4, .long (hi))] := hl
  refine W_abs (fun Q hQ => ?_)
  generalize ([.long (v), .long (lo), .long (hi)] : List Value).toArray = args at hT hQ ⊢
  refine lv_lload_n hx hb (fk_get fk_cX12_in_0 0 rfl) rfl (lv_at hl 0 rfl) ?_
  refine lv_lload_n hx hb (fk_get fk_cX12_in_0 1 rfl) rfl (lv_at hl 1 rfl) ?_
  refine W.lcmp hx hb (fk_get fk_cX12_in_0 2 rfl) ?_
  refine lv_if_lt (tgt := 17) hx hb (fk_get fk_cX12_in_0 3 rfl) (by decide) (fun c_1 => ?_) (fun c_1 => ?_)
  · refine lv_iconst (v := 0) hx hb (fk_get fk_cX12_in_0 10 rfl) (by decide) ?_
    subst hQ
    have hpost : (0 : Int32) = if lo ≤ v ∧ v ≤ hi then 1 else 0 := by
      first | exact is1_t ⟨lc_ge (by assumption), lc_le (by assumption)⟩ | exact is1_f (fun q => absurd q.1 (lc_lt (by assumption))) | exact is1_f (fun q => absurd q.2 (lc_gt (by assumption)))
    exact W.zret (v := 0) hx hb hr rfl (fun t_ ht_ hW_ => ⟨0, rfl, hpost, ht_⟩) (fun q h => by cases h) (fk_get fk_cX12_in_0 11 rfl)
  refine lv_lload_n hx hb (fk_get fk_cX12_in_0 4 rfl) rfl (lv_at hl 0 rfl) ?_
  refine lv_lload hx hb (fk_get fk_cX12_in_0 5 rfl) (lv_at hl 2 rfl) ?_
  refine W.lcmp hx hb (fk_get fk_cX12_in_0 6 rfl) ?_
  refine lv_if_gt (tgt := 17) hx hb (fk_get fk_cX12_in_0 7 rfl) (by decide) (fun c_2 => ?_) (fun c_2 => ?_)
  · refine lv_iconst (v := 0) hx hb (fk_get fk_cX12_in_0 10 rfl) (by decide) ?_
    subst hQ
    have hpost : (0 : Int32) = if lo ≤ v ∧ v ≤ hi then 1 else 0 := by
      first | exact is1_t ⟨lc_ge (by assumption), lc_le (by assumption)⟩ | exact is1_f (fun q => absurd q.1 (lc_lt (by assumption))) | exact is1_f (fun q => absurd q.2 (lc_gt (by assumption)))
    exact W.zret (v := 0) hx hb hr rfl (fun t_ ht_ hW_ => ⟨0, rfl, hpost, ht_⟩) (fun q h => by cases h) (fk_get fk_cX12_in_0 11 rfl)
  refine lv_iconst (v := 1) hx hb (fk_get fk_cX12_in_0 8 rfl) (by decide) ?_
  refine lv_goto (tgt := 18) hx hb (fk_get fk_cX12_in_0 9 rfl) (by decide) ?_
  subst hQ
  have hpost : (1 : Int32) = if lo ≤ v ∧ v ≤ hi then 1 else 0 := by
    first | exact is1_t ⟨lc_ge (by assumption), lc_le (by assumption)⟩ | exact is1_f (fun q => absurd q.1 (lc_lt (by assumption))) | exact is1_f (fun q => absurd q.2 (lc_gt (by assumption)))
  exact W.zret (v := 1) hx hb hr rfl (fun t_ ht_ hW_ => ⟨1, rfl, hpost, ht_⟩) (fun q h => by cases h) (fk_get fk_cX12_in_0 11 rfl)
set_option maxHeartbeats 4000000 in
set_option maxRecDepth 100000 in
theorem c_plainly (l : Launch) (v : Int32) : Met l yX12_plainly (Cond.code yX12_plainly cX12_plainly 1 (some .int) :: TBL) ({ frames := 2, cells := 0, slots := 0, locals := 64 } : Room) (PcN [.int (v)]) (vp_Si (fun (r : Int32) => r = if v < 0 then -v else v)) 0 0 (fun _ => False) := by
  refine Met.ofW (cc := cX12_plainly) (maxL := 1) (ret := (some .int)) (by decide) rfl ?_
  intro p e s m args below meth c₀ s₁ B hml hv
  obtain ⟨rfl, -⟩ := hv
  have hx := B.exec
  have hb := B.bytes
  have hr := B.returns
  have hT : ∀ w ∈ TBL, w.before ([.int (v)] : List Value).toArray s = true := fun w h => atoms_spec (ws := Cond.code yX12_plainly cX12_plainly 1 (some .int) :: TBL) B.pre w (List.mem_cons_of_mem _ h)
  have hown : s.vm.findClass "LittleMoreModel" = some m.cls := findClass_of_methodNamed B.named
  have hlocks := B.notSynchronized
  have hl := lv_entry ([.int (v)]) (n := 1) (Nat.le_of_ble_eq_true rfl)
  rw [lg_entry_eq]
  generalize (lg_sl ([.int (v)]) ++ List.replicate (1 - (lg_sl ([.int (v)])).length) Slot.unset).toArray = ls at hl ⊢
  have hl : lv_has ls 1 [(0, .int (v))] := hl
  refine W_abs (fun Q hQ => ?_)
  generalize ([.int (v)] : List Value).toArray = args at hT hQ ⊢
  refine lv_iload_n hx hb (fk_get fk_cX12_plainly_0 0 rfl) rfl (lv_at hl 0 rfl) ?_
  refine lv_if_ge (tgt := 9) hx hb (fk_get fk_cX12_plainly_0 1 rfl) (by decide) (fun c_1 => ?_) (fun c_1 => ?_)
  · refine lv_iload_n hx hb (fk_get fk_cX12_plainly_0 5 rfl) rfl (lv_at hl 0 rfl) ?_
    subst hQ
    have hpost : (v : Int32) = if v < 0 then -v else v := by
      first | (rw [if_pos (Int32.not_le.mp (by assumption))]; done) | (rw [if_neg (Int32.not_lt.mpr (by assumption))]; done) | (rw [if_pos (by assumption)]; done) | (rw [if_neg (by assumption)]; done)
    exact W.iret (v := v) hx hb hr (fun t_ ht_ hW_ => ⟨v, rfl, hpost, ht_⟩) (fun q h => by cases h) (fk_get fk_cX12_plainly_0 6 rfl)
  refine lv_iload_n hx hb (fk_get fk_cX12_plainly_0 2 rfl) rfl (lv_at hl 0 rfl) ?_
  refine lv_ineg hx hb (fk_get fk_cX12_plainly_0 3 rfl) ?_
  refine lv_goto (tgt := 10) hx hb (fk_get fk_cX12_plainly_0 4 rfl) (by decide) ?_
  subst hQ
  have hpost : ((-v) : Int32) = if v < 0 then -v else v := by
    first | (rw [if_pos (Int32.not_le.mp (by assumption))]; done) | (rw [if_neg (Int32.not_lt.mpr (by assumption))]; done) | (rw [if_pos (by assumption)]; done) | (rw [if_neg (by assumption)]; done)
  exact W.iret (v := (-v)) hx hb hr (fun t_ ht_ hW_ => ⟨(-v), rfl, hpost, ht_⟩) (fun q h => by cases h) (fk_get fk_cX12_plainly_0 6 rfl)
set_option maxHeartbeats 4000000 in
set_option maxRecDepth 100000 in
theorem c_atLeast (l : Launch) (v least : Int32) : Met l yX12_atLeast (Cond.code yX12_atLeast cX12_atLeast 2 (some .int) :: TBL) ({ frames := 2, cells := 0, slots := 0, locals := 64 } : Room) (PcN [.int (v), .int (least)]) (vp_Si (fun (r : Int32) => r = if v < least then least else v)) 0 0 (fun _ => False) := by
  refine Met.ofW (cc := cX12_atLeast) (maxL := 2) (ret := (some .int)) (by decide) rfl ?_
  intro p e s m args below meth c₀ s₁ B hml hv
  obtain ⟨rfl, -⟩ := hv
  have hx := B.exec
  have hb := B.bytes
  have hr := B.returns
  have hT : ∀ w ∈ TBL, w.before ([.int (v), .int (least)] : List Value).toArray s = true := fun w h => atoms_spec (ws := Cond.code yX12_atLeast cX12_atLeast 2 (some .int) :: TBL) B.pre w (List.mem_cons_of_mem _ h)
  have hown : s.vm.findClass "LittleMoreModel" = some m.cls := findClass_of_methodNamed B.named
  have hlocks := B.notSynchronized
  have hl := lv_entry ([.int (v), .int (least)]) (n := 2) (Nat.le_of_ble_eq_true rfl)
  rw [lg_entry_eq]
  generalize (lg_sl ([.int (v), .int (least)]) ++ List.replicate (2 - (lg_sl ([.int (v), .int (least)])).length) Slot.unset).toArray = ls at hl ⊢
  have hl : lv_has ls 2 [(0, .int (v)), (1, .int (least))] := hl
  refine W_abs (fun Q hQ => ?_)
  generalize ([.int (v), .int (least)] : List Value).toArray = args at hT hQ ⊢
  refine lv_iload_n hx hb (fk_get fk_cX12_atLeast_0 0 rfl) rfl (lv_at hl 0 rfl) ?_
  refine lv_iload_n hx hb (fk_get fk_cX12_atLeast_0 1 rfl) rfl (lv_at hl 1 rfl) ?_
  refine lv_icmp_ge (tgt := 9) hx hb (fk_get fk_cX12_atLeast_0 2 rfl) (by decide) (fun c_1 => ?_) (fun c_1 => ?_)
  · refine lv_iload_n hx hb (fk_get fk_cX12_atLeast_0 5 rfl) rfl (lv_at hl 0 rfl) ?_
    subst hQ
    have hpost : (v : Int32) = if v < least then least else v := by
      first | (rw [if_pos (Int32.not_le.mp (by assumption))]; done) | (rw [if_neg (Int32.not_lt.mpr (by assumption))]; done) | (rw [if_pos (by assumption)]; done) | (rw [if_neg (by assumption)]; done)
    exact W.iret (v := v) hx hb hr (fun t_ ht_ hW_ => ⟨v, rfl, hpost, ht_⟩) (fun q h => by cases h) (fk_get fk_cX12_atLeast_0 6 rfl)
  refine lv_iload_n hx hb (fk_get fk_cX12_atLeast_0 3 rfl) rfl (lv_at hl 1 rfl) ?_
  refine lv_goto (tgt := 10) hx hb (fk_get fk_cX12_atLeast_0 4 rfl) (by decide) ?_
  subst hQ
  have hpost : (least : Int32) = if v < least then least else v := by
    first | (rw [if_pos (Int32.not_le.mp (by assumption))]; done) | (rw [if_neg (Int32.not_lt.mpr (by assumption))]; done) | (rw [if_pos (by assumption)]; done) | (rw [if_neg (by assumption)]; done)
  exact W.iret (v := least) hx hb hr (fun t_ ht_ hW_ => ⟨least, rfl, hpost, ht_⟩) (fun q h => by cases h) (fk_get fk_cX12_atLeast_0 6 rfl)
set_option maxHeartbeats 4000000 in
set_option maxRecDepth 100000 in
theorem c_of0 (l : Launch) (G : GG) (ad : Nat → Nat) (S : FS) (sz : Nat) (c what : Int32) (j : Nat) (hj : 12 * c + what = nI j) (hj2 : j < 72) : Met l yX12_of0 (Cond.code yX12_of0 cX12_of0 3 (some .int) :: TBL) ({ frames := 2, cells := 0, slots := 0, locals := 64 } : Room) (PcW G (wR G ad S) sz [.ref (ad 0), .int (c), .int (what)]) (vp_Si (fun (r : Int32) => r = fA S 1 j)) 0 0 (fun _ => False) := by
  refine Met.ofW (cc := cX12_of0) (maxL := 3) (ret := (some .int)) (by decide) rfl ?_
  intro p e s m args below meth c₀ s₁ B hml hv
  obtain ⟨rfl, hsz, hP, hK, hD0⟩ := hv
  have hx := B.exec
  have hb := B.bytes
  have hr := B.returns
  have hT : ∀ w ∈ TBL, w.before ([.ref (ad 0), .int (c), .int (what)] : List Value).toArray s = true := fun w h => atoms_spec (ws := Cond.code yX12_of0 cX12_of0 3 (some .int) :: TBL) B.pre w (List.mem_cons_of_mem _ h)
  have hown : s.vm.findClass "LittleMoreModel" = some m.cls := findClass_of_methodNamed B.named
  have hlocks := B.notSynchronized
  have hD := hD0
  have hP : va_P G.1 vwCl (wR G ad S) s.heap := hP
  have hl := lv_entry ([.ref (ad 0), .int (c), .int (what)]) (n := 3) (Nat.le_of_ble_eq_true rfl)
  rw [lg_entry_eq]
  generalize (lg_sl ([.ref (ad 0), .int (c), .int (what)]) ++ List.replicate (3 - (lg_sl ([.ref (ad 0), .int (c), .int (what)])).length) Slot.unset).toArray = ls at hl ⊢
  have hl : lv_has ls 3 [(0, .ref (ad 0)), (1, .int (c)), (2, .int (what))] := hl
  refine W_abs (fun Q hQ => ?_)
  generalize ([.ref (ad 0), .int (c), .int (what)] : List Value).toArray = args at hT hQ ⊢
  refine lv_aload_n hx hb (fk_get fk_cX12_of0_0 0 rfl) rfl (lv_at hl 0 rfl) ?_
  refine va_get (D := G.1) (ci := 14) (v := .ref (ad 1)) (C := RX12) (T := TX12) (N := 49) hx hb hT inX12 hown hK hP 0 (ix_at (by decide) (cR_0 G ad S)) rfl 0 (by decide) (hT _ m5_101) (fun _ h9 => h9) rfl (fk_get fk_cX12_of0_0 1 rfl) ?_
  refine lv_bipush (v := 12) hx hb (fk_get fk_cX12_of0_0 2 rfl) (by decide) ?_
  refine lv_iload_n hx hb (fk_get fk_cX12_of0_0 3 rfl) rfl (lv_at hl 1 rfl) ?_
  refine lv_imul hx hb (fk_get fk_cX12_of0_0 4 rfl) ?_
  refine lv_iload_n hx hb (fk_get fk_cX12_of0_0 5 rfl) rfl (lv_at hl 2 rfl) ?_
  refine lv_iadd hx hb (fk_get fk_cX12_of0_0 6 rfl) ?_
  refine r_iald hx hb hK hP 1 0 (ix_at (by decide) (cR_s G ad S)) rfl (j) (hj) (hj2) (by decide) (fk_get fk_cX12_of0_0 7 rfl) ?_
  subst hQ
  have hpost : ((fA S 1 (j)) : Int32) = fA S 1 j := by
    rfl
  exact W.iret (v := (fA S 1 (j))) hx hb hr (fun t_ ht_ hW_ => ⟨(fA S 1 (j)), rfl, hpost, ht_⟩) (fun q h => by cases h) (fk_get fk_cX12_of0_0 8 rfl)
set_option maxHeartbeats 4000000 in
set_option maxRecDepth 100000 in
theorem c_put (l : Launch) (G : GG) (ad : Nat → Nat) (S : FS) (sz : Nat) (c what v : Int32) (j : Nat) (hj : 12 * c + what = nI j) (hj2 : j < 72) : Met l yX12_put (Cond.code yX12_put cX12_put 4 none :: TBL) ({ frames := 2, cells := 0, slots := 0, locals := 64 } : Room) (PcW G (wR G ad S) sz [.ref (ad 0), .int (c), .int (what), .int (v)]) (va_Qv (fun (S' : FS) => S' = setA S 1 (upd (fA S 1) j v)) (fun S' t => BW G (va_A (wR G ad S) sz) (wR G ad S') t) (va_A (wR G ad S) sz)) 0 0 (va_A (wR G ad S) sz) := by
  refine Met.ofW (cc := cX12_put) (maxL := 4) (ret := none) (by decide) rfl ?_
  intro p e s m args below meth c₀ s₁ B hml hv
  obtain ⟨rfl, hsz, hP, hK, hD0⟩ := hv
  have hx := B.exec
  have hb := B.bytes
  have hr := B.returns
  have hT : ∀ w ∈ TBL, w.before ([.ref (ad 0), .int (c), .int (what), .int (v)] : List Value).toArray s = true := fun w h => atoms_spec (ws := Cond.code yX12_put cX12_put 4 none :: TBL) B.pre w (List.mem_cons_of_mem _ h)
  have hown : s.vm.findClass "LittleMoreModel" = some m.cls := findClass_of_methodNamed B.named
  have hlocks := B.notSynchronized
  subst hsz
  have hD := hD0.self (sz := s.heap.size)
  generalize hAe : va_A (wR G ad S) s.heap.size = A at hD ⊢
  have hA : ∀ q : Nat, s.heap.size ≤ q → A q := fun q h => by rw [← hAe]; exact Or.inr h
  have hS : va_S A s.heap s.heap [] := va_S.rf
  have hP : va_P G.1 vwCl (wR G ad S) s.heap := hP
  have hl := lv_entry ([.ref (ad 0), .int (c), .int (what), .int (v)]) (n := 4) (Nat.le_of_ble_eq_true rfl)
  rw [lg_entry_eq]
  generalize (lg_sl ([.ref (ad 0), .int (c), .int (what), .int (v)]) ++ List.replicate (4 - (lg_sl ([.ref (ad 0), .int (c), .int (what), .int (v)])).length) Slot.unset).toArray = ls at hl ⊢
  have hl : lv_has ls 4 [(0, .ref (ad 0)), (1, .int (c)), (2, .int (what)), (3, .int (v))] := hl
  refine W_abs (fun Q hQ => ?_)
  generalize ([.ref (ad 0), .int (c), .int (what), .int (v)] : List Value).toArray = args at hT hQ ⊢
  refine lv_aload_n hx hb (fk_get fk_cX12_put_0 0 rfl) rfl (lv_at hl 0 rfl) ?_
  refine va_get (D := G.1) (ci := 14) (v := .ref (ad 1)) (C := RX12) (T := TX12) (N := 49) hx hb hT inX12 hown hK hP 0 (ix_at (by decide) (cR_0 G ad S)) rfl 0 (by decide) (hT _ m5_101) (fun _ h9 => h9) rfl (fk_get fk_cX12_put_0 1 rfl) ?_
  refine lv_bipush (v := 12) hx hb (fk_get fk_cX12_put_0 2 rfl) (by decide) ?_
  refine lv_iload_n hx hb (fk_get fk_cX12_put_0 3 rfl) rfl (lv_at hl 1 rfl) ?_
  refine lv_imul hx hb (fk_get fk_cX12_put_0 4 rfl) ?_
  refine lv_iload_n hx hb (fk_get fk_cX12_put_0 5 rfl) rfl (lv_at hl 2 rfl) ?_
  refine lv_iadd hx hb (fk_get fk_cX12_put_0 6 rfl) ?_
  refine lv_iload_n hx hb (fk_get fk_cX12_put_0 7 rfl) rfl (lv_at hl 3 rfl) ?_
  refine r_iast hx hb hK hP hD hS 1 0 (ix_at (by decide) (cR_s G ad S)) rfl (j) (hj) (hj2) (by decide) (fk_get fk_cX12_put_0 8 rfl) (fun H locs hP hD hS => ?_)
  rw [pR_A G ad S (by decide) (by decide) (by decide) (cR_s G ad S) (upd (fA S 1) (j) (v))] at hP hD
  subst hQ
  have hpost : (setA S 1 (upd (fA S 1) (j) (v))) = setA S 1 (upd (fA S 1) j v) := by
    rfl
  exact W.vret hx hb hr (fun t_ ht_ hW_ => ⟨⟨(setA S 1 (upd (fA S 1) (j) (v))), rfl, hpost, by rw [ht_]; exact hP, va_K.moved hW_.alike hK, hD⟩, hS.F ht_⟩) hS.2.2 (fk_get fk_cX12_put_0 9 rfl)
set_option maxHeartbeats 4000000 in
set_option maxRecDepth 100000 in
theorem c_isCustomer (l : Launch) (G : GG) (ad : Nat → Nat) (S : FS) (sz : Nat) (c : Int32) : Met l yX12_isCustomer (Cond.code yX12_isCustomer cX12_isCustomer 2 (some .boolean) :: TBL) ({ frames := 3, cells := 0, slots := 0, locals := 93 } : Room) (PcW G (wR G ad S) sz [.ref (ad 0), .int (c)]) (vp_Si (fun (r : Int32) => r = if 0 ≤ c ∧ c ≤ fF S 0 1 - 1 then 1 else 0)) 0 0 (fun _ => False) := by
  refine Met.ofW (cc := cX12_isCustomer) (maxL := 2) (ret := (some .boolean)) (by decide) rfl ?_
  intro p e s m args below meth c₀ s₁ B hml hv
  obtain ⟨rfl, hsz, hP, hK, hD0⟩ := hv
  have hx := B.exec
  have hb := B.bytes
  have hr := B.returns
  have hT : ∀ w ∈ TBL, w.before ([.ref (ad 0), .int (c)] : List Value).toArray s = true := fun w h => atoms_spec (ws := Cond.code yX12_isCustomer cX12_isCustomer 2 (some .boolean) :: TBL) B.pre w (List.mem_cons_of_mem _ h)
  have hown : s.vm.findClass "LittleMoreModel" = some m.cls := findClass_of_methodNamed B.named
  have hlocks := B.notSynchronized
  have hD := hD0
  have hP : va_P G.1 vwCl (wR G ad S) s.heap := hP
  have hl := lv_entry ([.ref (ad 0), .int (c)]) (n := 2) (Nat.le_of_ble_eq_true rfl)
  rw [lg_entry_eq]
  generalize (lg_sl ([.ref (ad 0), .int (c)]) ++ List.replicate (2 - (lg_sl ([.ref (ad 0), .int (c)])).length) Slot.unset).toArray = ls at hl ⊢
  have hl : lv_has ls 2 [(0, .ref (ad 0)), (1, .int (c))] := hl
  refine W_abs (fun Q hQ => ?_)
  generalize ([.ref (ad 0), .int (c)] : List Value).toArray = args at hT hQ ⊢
  refine lv_iload_n hx hb (fk_get fk_cX12_isCustomer_0 0 rfl) rfl (lv_at hl 1 rfl) ?_
  refine lv_i2l hx hb (fk_get fk_cX12_isCustomer_0 1 rfl) rfl ?_
  refine lv_lconst (v := 0) hx hb (fk_get fk_cX12_isCustomer_0 2 rfl) (by decide) ?_
  refine lv_aload_n hx hb (fk_get fk_cX12_isCustomer_0 3 rfl) rfl (lv_at hl 0 rfl) ?_
  refine va_get (D := G.1) (ci := 14) (v := .int ((fF S 0 1))) (C := RX12) (T := TX12) (N := 49) hx hb hT inX12 hown hK hP 0 (ix_at (by decide) (cR_0 G ad S)) rfl 1 (by decide) (hT _ m5_102) (fun _ h9 => h9) rfl (fk_get fk_cX12_isCustomer_0 4 rfl) ?_
  refine lv_iconst (v := 1) hx hb (fk_get fk_cX12_isCustomer_0 5 rfl) (by decide) ?_
  refine lv_isub hx hb (fk_get fk_cX12_isCustomer_0 6 rfl) ?_
  refine lv_i2l hx hb (fk_get fk_cX12_isCustomer_0 7 rfl) rfl ?_
  refine vp_callSi (W.runS (As := [.long ((c).toInt64), .long (0), .long ((((fF S 0 1) - 1)).toInt64)]) (rest := []) ⟨hx, hb, hml, hown, hT⟩ (c_in l ((c).toInt64) (0) ((((fF S 0 1) - 1)).toInt64) ) (tS 3 hT m6_31 m6_32 m1_17 m6_33 rfl rfl (by decide +kernel) ⟨Nat.le_of_ble_eq_true rfl, Nat.le_of_ble_eq_true rfl⟩) ⟨PcN_blind, PcN_of _ _ _⟩ rfl rfl hl.1 rfl (lv_room (Nat.le_of_ble_eq_true rfl)) (fk_get fk_cX12_isCustomer_0 8 rfl) ⟨Nat.zero_le _, Nat.zero_le _⟩) (fun r_1 hw_2 => ?_)
  try dsimp only at hw_2
  have hw_2 := in_eq hw_2 (c) 0 (((fF S 0 1) - 1)) (rfl) (by decide) (rfl)
  subst hQ
  have hpost : (r_1 : Int32) = if 0 ≤ c ∧ c ≤ fF S 0 1 - 1 then 1 else 0 := by
    assumption
  exact W.zret (v := r_1) hx hb hr (nar_b (if1_01 hw_2)) (fun t_ ht_ hW_ => ⟨r_1, rfl, hpost, ht_⟩) (fun q h => by cases h) (fk_get fk_cX12_isCustomer_0 9 rfl)
set_option maxHeartbeats 4000000 in
set_option maxRecDepth 100000 in
theorem c_carry (l : Launch) (G : GG) (ad : Nat → Nat) (S : FS) (sz : Nat) (q j : Nat) (v : Int32) (hq : fR S 0 14 = some q) (hq2 : q = 4 ∨ q = 5) (hj : fF S 0 12 = nI j) (hj2 : j < 89) : Met l yX12_carry (Cond.code yX12_carry cX12_carry 2 (some .int) :: TBL) ({ frames := 2, cells := 0, slots := 0, locals := 64 } : Room) (PcW G (wR G ad S) sz [.ref (ad 0), .int (v)]) (va_Qi (fun (r : Int32) (S' : FS) => carryP q j v S r S') (fun S' t => BW G (va_A (wR G ad S) sz) (wR G ad S') t) (va_A (wR G ad S) sz)) 0 0 (va_A (wR G ad S) sz) := by
  refine Met.ofW (cc := cX12_carry) (maxL := 2) (ret := (some .int)) (by decide) rfl ?_
  intro p e s m args below meth c₀ s₁ B hml hv
  obtain ⟨rfl, hsz, hP, hK, hD0⟩ := hv
  have hx := B.exec
  have hb := B.bytes
  have hr := B.returns
  have hT : ∀ w ∈ TBL, w.before ([.ref (ad 0), .int (v)] : List Value).toArray s = true := fun w h => atoms_spec (ws := Cond.code yX12_carry cX12_carry 2 (some .int) :: TBL) B.pre w (List.mem_cons_of_mem _ h)
  have hown : s.vm.findClass "LittleMoreModel" = some m.cls := findClass_of_methodNamed B.named
  have hlocks := B.notSynchronized
  subst hsz
  have hD := hD0.self (sz := s.heap.size)
  generalize hAe : va_A (wR G ad S) s.heap.size = A at hD ⊢
  have hA : ∀ q : Nat, s.heap.size ≤ q → A q := fun q h => by rw [← hAe]; exact Or.inr h
  have hS : va_S A s.heap s.heap [] := va_S.rf
  have hP : va_P G.1 vwCl (wR G ad S) s.heap := hP
  have hl := lv_entry ([.ref (ad 0), .int (v)]) (n := 2) (Nat.le_of_ble_eq_true rfl)
  rw [lg_entry_eq]
  generalize (lg_sl ([.ref (ad 0), .int (v)]) ++ List.replicate (2 - (lg_sl ([.ref (ad 0), .int (v)])).length) Slot.unset).toArray = ls at hl ⊢
  have hl : lv_has ls 2 [(0, .ref (ad 0)), (1, .int (v))] := hl
  refine W_abs (fun Q hQ => ?_)
  generalize ([.ref (ad 0), .int (v)] : List Value).toArray = args at hT hQ ⊢
  refine lv_aload_n hx hb (fk_get fk_cX12_carry_0 0 rfl) rfl (lv_at hl 0 rfl) ?_
  refine va_get (D := G.1) (ci := 14) (v := .int ((fF S 0 13))) (C := RX12) (T := TX12) (N := 49) hx hb hT inX12 hown hK hP 0 (ix_at (by decide) (cR_0 G ad S)) rfl 13 (by decide) (hT _ m5_114) (fun _ h9 => h9) rfl (fk_get fk_cX12_carry_0 1 rfl) ?_
  refine lv_if_eq (tgt := 17) hx hb (fk_get fk_cX12_carry_0 2 rfl) (by decide) (fun c_1 => ?_) (fun c_1 => ?_)
  · refine lv_aload_n hx hb (fk_get fk_cX12_carry_0 9 rfl) rfl (lv_at hl 0 rfl) ?_
    refine lv_dup hx hb (fk_get fk_cX12_carry_0 10 rfl) rfl ?_
    refine va_get (D := G.1) (ci := 14) (v := .int ((fF S 0 12))) (C := RX12) (T := TX12) (N := 49) hx hb hT inX12 hown hK hP 0 (ix_at (by decide) (cR_0 G ad S)) rfl 12 (by decide) (hT _ m5_113) (fun _ h9 => h9) rfl (fk_get fk_cX12_carry_0 11 rfl) ?_
    refine lv_iconst (v := 1) hx hb (fk_get fk_cX12_carry_0 12 rfl) (by decide) ?_
    refine lv_iadd hx hb (fk_get fk_cX12_carry_0 13 rfl) ?_
    rw [show ((fF S 0 12) + 1) = (nI (j + 1)) from (by first | exact n_add hj rfl)]
    refine va_put (D := G.1) (ci := 14) (v := .int ((nI (j + 1)))) (ty := .int) (C := RX12) (T := TX12) (N := 49) hx hb hT inX12 tyX12 tyX12_ok nmX12 hown hK hP hD hS 0 (ix_at (by decide) (cR_0 G ad S)) rfl 12 (by decide) (hT _ m5_113) (fun _ h9 => h9) rfl (by decide +kernel) rfl rfl (Nat.le_of_ble_eq_true rfl) (fk_get fk_cX12_carry_0 14 rfl) (fun H locs hP hD hS => ?_)
    rw [pR_place0 G ad S ((nI (j + 1)))] at hP hD
    refine lv_aload_n hx hb (fk_get fk_cX12_carry_0 15 rfl) rfl (lv_at hl 0 rfl) ?_
    refine va_get (D := G.1) (ci := 14) (v := va_rf ((fR (setF S 0 12 ((nI (j + 1)))) 0 14).map ad)) (C := RX12) (T := TX12) (N := 49) hx hb hT inX12 hown hK hP 0 (ix_at (by decide) (cR_0 G ad (setF S 0 12 ((nI (j + 1)))))) rfl 14 (by decide) (hT _ m5_115) (fun _ h9 => h9) rfl (fk_get fk_cX12_carry_0 16 rfl) ?_
    rw [show va_rf ((fR (setF S 0 12 ((nI (j + 1)))) 0 14).map ad) = .ref (ad q) from by rw [show fR (setF S 0 12 ((nI (j + 1)))) 0 14 = some q from hq]; rfl]
    refine lv_aload_n hx hb (fk_get fk_cX12_carry_0 17 rfl) rfl (lv_at hl 0 rfl) ?_
    refine va_get (D := G.1) (ci := 14) (v := .int ((nI (j + 1)))) (C := RX12) (T := TX12) (N := 49) hx hb hT inX12 hown hK hP 0 (ix_at (by decide) (cR_0 G ad (setF S 0 12 ((nI (j + 1)))))) rfl 12 (by decide) (hT _ m5_113) (fun _ h9 => h9) rfl (fk_get fk_cX12_carry_0 18 rfl) ?_
    refine lv_iconst (v := 1) hx hb (fk_get fk_cX12_carry_0 19 rfl) (by decide) ?_
    refine lv_isub hx hb (fk_get fk_cX12_carry_0 20 rfl) ?_
    refine r_iald hx hb hK hP q 0 (ix_at (q_lt hq2) (cR_q G ad (setF S 0 12 ((nI (j + 1)))) hq2)) rfl (j) (nI_pred j) (hj2) (by decide) (fk_get fk_cX12_carry_0 21 rfl) ?_
    subst hQ
    have hpost : carryP q j v S ((fA S q (j)) : Int32) (setF S 0 12 ((nI (j + 1)))) := by
      exact ⟨by first | (rw [if_pos (by assumption)]; done) | (rw [if_neg (by assumption)]; done), by first | (rw [if_neg (by assumption), fA_setF, fA_setA, if_pos rfl, pk_us]) | (rw [if_pos (by assumption)])⟩
    exact W.iret (v := (fA S q (j))) hx hb hr (fun t_ ht_ hW_ => ⟨⟨(fA S q (j)), (setF S 0 12 ((nI (j + 1)))), rfl, hpost, by rw [ht_]; exact hP, va_K.moved hW_.alike hK, hD⟩, hS.F ht_⟩) hS.2.2 (fk_get fk_cX12_carry_0 22 rfl)
  refine lv_aload_n hx hb (fk_get fk_cX12_carry_0 3 rfl) rfl (lv_at hl 0 rfl) ?_
  refine va_get (D := G.1) (ci := 14) (v := va_rf ((fR S 0 14).map ad)) (C := RX12) (T := TX12) (N := 49) hx hb hT inX12 hown hK hP 0 (ix_at (by decide) (cR_0 G ad S)) rfl 14 (by decide) (hT _ m5_115) (fun _ h9 => h9) rfl (fk_get fk_cX12_carry_0 4 rfl) ?_
  rw [show va_rf ((fR S 0 14).map ad) = .ref (ad q) from by rw [show fR S 0 14 = some q from hq]; rfl]
  refine lv_aload_n hx hb (fk_get fk_cX12_carry_0 5 rfl) rfl (lv_at hl 0 rfl) ?_
  refine va_get (D := G.1) (ci := 14) (v := .int ((fF S 0 12))) (C := RX12) (T := TX12) (N := 49) hx hb hT inX12 hown hK hP 0 (ix_at (by decide) (cR_0 G ad S)) rfl 12 (by decide) (hT _ m5_113) (fun _ h9 => h9) rfl (fk_get fk_cX12_carry_0 6 rfl) ?_
  refine lv_iload_n hx hb (fk_get fk_cX12_carry_0 7 rfl) rfl (lv_at hl 1 rfl) ?_
  refine r_iast hx hb hK hP hD hS q 0 (ix_at (q_lt hq2) (cR_q G ad S hq2)) rfl (j) (hj) (by omega) (by decide) (fk_get fk_cX12_carry_0 8 rfl) (fun H locs hP hD hS => ?_)
  rw [pR_A G ad S (q_ne hq2) (q_lt hq2) (q_ty hq2) (cR_q G ad S hq2) (upd (fA S q) (j) (v))] at hP hD
  refine lv_aload_n hx hb (fk_get fk_cX12_carry_0 9 rfl) rfl (lv_at hl 0 rfl) ?_
  refine lv_dup hx hb (fk_get fk_cX12_carry_0 10 rfl) rfl ?_
  refine va_get (D := G.1) (ci := 14) (v := .int ((fF S 0 12))) (C := RX12) (T := TX12) (N := 49) hx hb hT inX12 hown hK hP 0 (ix_at (by decide) (cR_0 G ad (setA S q (upd (fA S q) (j) (v))))) rfl 12 (by decide) (hT _ m5_113) (fun _ h9 => h9) rfl (fk_get fk_cX12_carry_0 11 rfl) ?_
  refine lv_iconst (v := 1) hx hb (fk_get fk_cX12_carry_0 12 rfl) (by decide) ?_
  refine lv_iadd hx hb (fk_get fk_cX12_carry_0 13 rfl) ?_
  rw [show ((fF S 0 12) + 1) = (nI (j + 1)) from (by first | exact n_add hj rfl)]
  refine va_put (D := G.1) (ci := 14) (v := .int ((nI (j + 1)))) (ty := .int) (C := RX12) (T := TX12) (N := 49) hx hb hT inX12 tyX12 tyX12_ok nmX12 hown hK hP hD hS 0 (ix_at (by decide) (cR_0 G ad (setA S q (upd (fA S q) (j) (v))))) rfl 12 (by decide) (hT _ m5_113) (fun _ h9 => h9) rfl (by decide +kernel) rfl rfl (Nat.le_of_ble_eq_true rfl) (fk_get fk_cX12_carry_0 14 rfl) (fun H locs hP hD hS => ?_)
  rw [pR_place0 G ad (setA S q (upd (fA S q) (j) (v))) ((nI (j + 1)))] at hP hD
  refine lv_aload_n hx hb (fk_get fk_cX12_carry_0 15 rfl) rfl (lv_at hl 0 rfl) ?_
  refine va_get (D := G.1) (ci := 14) (v := va_rf ((fR (setF (setA S q (upd (fA S q) (j) (v))) 0 12 ((nI (j + 1)))) 0 14).map ad)) (C := RX12) (T := TX12) (N := 49) hx hb hT inX12 hown hK hP 0 (ix_at (by decide) (cR_0 G ad (setF (setA S q (upd (fA S q) (j) (v))) 0 12 ((nI (j + 1)))))) rfl 14 (by decide) (hT _ m5_115) (fun _ h9 => h9) rfl (fk_get fk_cX12_carry_0 16 rfl) ?_
  rw [show va_rf ((fR (setF (setA S q (upd (fA S q) (j) (v))) 0 12 ((nI (j + 1)))) 0 14).map ad) = .ref (ad q) from by rw [show fR (setF (setA S q (upd (fA S q) (j) (v))) 0 12 ((nI (j + 1)))) 0 14 = some q from hq]; rfl]
  refine lv_aload_n hx hb (fk_get fk_cX12_carry_0 17 rfl) rfl (lv_at hl 0 rfl) ?_
  refine va_get (D := G.1) (ci := 14) (v := .int ((nI (j + 1)))) (C := RX12) (T := TX12) (N := 49) hx hb hT inX12 hown hK hP 0 (ix_at (by decide) (cR_0 G ad (setF (setA S q (upd (fA S q) (j) (v))) 0 12 ((nI (j + 1)))))) rfl 12 (by decide) (hT _ m5_113) (fun _ h9 => h9) rfl (fk_get fk_cX12_carry_0 18 rfl) ?_
  refine lv_iconst (v := 1) hx hb (fk_get fk_cX12_carry_0 19 rfl) (by decide) ?_
  refine lv_isub hx hb (fk_get fk_cX12_carry_0 20 rfl) ?_
  refine r_iald hx hb hK hP q 0 (ix_at (q_lt hq2) (cR_q G ad (setF (setA S q (upd (fA S q) (j) (v))) 0 12 ((nI (j + 1)))) hq2)) rfl (j) (nI_pred j) (hj2) (by decide) (fk_get fk_cX12_carry_0 21 rfl) ?_
  subst hQ
  have hpost : carryP q j v S ((fA (setF (setA S q (upd (fA S q) (j) (v))) 0 12 ((nI (j + 1)))) q (j)) : Int32) (setF (setA S q (upd (fA S q) (j) (v))) 0 12 ((nI (j + 1)))) := by
    exact ⟨by first | (rw [if_pos (by assumption)]; done) | (rw [if_neg (by assumption)]; done), by first | (rw [if_neg (by assumption), fA_setF, fA_setA, if_pos rfl, pk_us]) | (rw [if_pos (by assumption)])⟩
  exact W.iret (v := (fA (setF (setA S q (upd (fA S q) (j) (v))) 0 12 ((nI (j + 1)))) q (j))) hx hb hr (fun t_ ht_ hW_ => ⟨⟨(fA (setF (setA S q (upd (fA S q) (j) (v))) 0 12 ((nI (j + 1)))) q (j)), (setF (setA S q (upd (fA S q) (j) (v))) 0 12 ((nI (j + 1)))), rfl, hpost, by rw [ht_]; exact hP, va_K.moved hW_.alike hK, hD⟩, hS.F ht_⟩) hS.2.2 (fk_get fk_cX12_carry_0 22 rfl)
set_option maxHeartbeats 4000000 in
set_option maxRecDepth 100000 in
theorem c_carryAll (l : Launch) (G : GG) (ad : Nat → Nat) (S : FS) (sz : Nat) (q : Nat) (w : Nat → Int32) (takes : Int32) (hq2 : q = 4 ∨ q = 5) (hcw : CAw q w takes S) : Met l yX12_carryAll (Cond.code yX12_carryAll cX12_carryAll 4 none :: TBL) ({ frames := 3, cells := 0, slots := 0, locals := 89 } : Room) (PcW G (wR G ad S) sz [.ref (ad 0), .ref (ad q), .int (takes)]) (va_Qv (fun (S' : FS) => CA q w takes 89 89 S S') (fun S' t => BW G (va_A (wR G ad S) sz) (wR G ad S') t) (va_A (wR G ad S) sz)) 0 0 (va_A (wR G ad S) sz) := by
  refine Met.ofW (cc := cX12_carryAll) (maxL := 4) (ret := none) (by decide) rfl ?_
  intro p e s m args below meth c₀ s₁ B hml hv
  obtain ⟨rfl, hsz, hP, hK, hD0⟩ := hv
  have hx := B.exec
  have hb := B.bytes
  have hr := B.returns
  have hT : ∀ w ∈ TBL, w.before ([.ref (ad 0), .ref (ad q), .int (takes)] : List Value).toArray s = true := fun w h => atoms_spec (ws := Cond.code yX12_carryAll cX12_carryAll 4 none :: TBL) B.pre w (List.mem_cons_of_mem _ h)
  have hown : s.vm.findClass "LittleMoreModel" = some m.cls := findClass_of_methodNamed B.named
  have hlocks := B.notSynchronized
  subst hsz
  have hD := hD0.self (sz := s.heap.size)
  generalize hAe : va_A (wR G ad S) s.heap.size = A at hD ⊢
  have hA : ∀ q : Nat, s.heap.size ≤ q → A q := fun q h => by rw [← hAe]; exact Or.inr h
  have hS : va_S A s.heap s.heap [] := va_S.rf
  have hP : va_P G.1 vwCl (wR G ad S) s.heap := hP
  have hl := lv_entry ([.ref (ad 0), .ref (ad q), .int (takes)]) (n := 4) (Nat.le_of_ble_eq_true rfl)
  rw [lg_entry_eq]
  generalize (lg_sl ([.ref (ad 0), .ref (ad q), .int (takes)]) ++ List.replicate (4 - (lg_sl ([.ref (ad 0), .ref (ad q), .int (takes)])).length) Slot.unset).toArray = ls at hl ⊢
  have hl : lv_has ls 4 [(0, .ref (ad 0)), (1, .ref (ad q)), (2, .int (takes))] := hl
  refine W_abs (fun Q hQ => ?_)
  generalize ([.ref (ad 0), .ref (ad q), .int (takes)] : List Value).toArray = args at hT hQ ⊢
  refine lv_aload_n hx hb (fk_get fk_cX12_carryAll_0 0 rfl) rfl (lv_at hl 0 rfl) ?_
  refine lv_aload_n hx hb (fk_get fk_cX12_carryAll_0 1 rfl) rfl (lv_at hl 1 rfl) ?_
  refine va_put (D := G.1) (ci := 14) (v := .ref (ad q)) (ty := .array .int) (C := RX12) (T := TX12) (N := 49) hx hb hT inX12 tyX12 tyX12_ok nmX12 hown hK hP hD hS 0 (ix_at (by decide) (cR_0 G ad S)) rfl 14 (by decide) (hT _ m5_115) (fun _ h9 => h9) rfl (by decide +kernel) rfl rfl (Nat.le_of_ble_eq_true rfl) (fk_get fk_cX12_carryAll_0 2 rfl) (fun H locs hP hD hS => ?_)
  rw [pR_keptIn G ad S q] at hP hD
  refine lv_aload_n hx hb (fk_get fk_cX12_carryAll_0 3 rfl) rfl (lv_at hl 0 rfl) ?_
  refine lv_iload_n hx hb (fk_get fk_cX12_carryAll_0 4 rfl) rfl (lv_at hl 2 rfl) ?_
  refine va_put (D := G.1) (ci := 14) (v := .int (takes)) (ty := .boolean) (C := RX12) (T := TX12) (N := 49) hx hb hT inX12 tyX12 tyX12_ok nmX12 hown hK hP hD hS 0 (ix_at (by decide) (cR_0 G ad (setR S 0 14 (some q)))) rfl 13 (by decide) (hT _ m5_114) (fun _ h9 => h9) rfl (by decide +kernel) (nar_b (hcw.b)) (fit_b (hcw.b)) (Nat.le_of_ble_eq_true rfl) (fk_get fk_cX12_carryAll_0 5 rfl) (fun H locs hP hD hS => ?_)
  rw [pR_isTaking G ad (setR S 0 14 (some q)) (takes)] at hP hD
  refine lv_aload_n hx hb (fk_get fk_cX12_carryAll_0 6 rfl) rfl (lv_at hl 0 rfl) ?_
  refine lv_iconst (v := 0) hx hb (fk_get fk_cX12_carryAll_0 7 rfl) (by decide) ?_
  refine va_put (D := G.1) (ci := 14) (v := .int (0)) (ty := .int) (C := RX12) (T := TX12) (N := 49) hx hb hT inX12 tyX12 tyX12_ok nmX12 hown hK hP hD hS 0 (ix_at (by decide) (cR_0 G ad (setF (setR S 0 14 (some q)) 0 13 (takes)))) rfl 12 (by decide) (hT _ m5_113) (fun _ h9 => h9) rfl (by decide +kernel) rfl rfl (Nat.le_of_ble_eq_true rfl) (fk_get fk_cX12_carryAll_0 8 rfl) (fun H locs hP hD hS => ?_)
  rw [pR_place0 G ad (setF (setR S 0 14 (some q)) 0 13 (takes)) (0)] at hP hD
  have hCA : CA q w takes 0 0 S (setF (setF (setR S 0 14 (some q)) 0 13 (takes)) 0 12 (0)) := CA_init q w takes S
  refine lv_aload_n hx hb (fk_get fk_cX12_carryAll_0 9 rfl) rfl (lv_at hl 0 rfl) ?_
  refine lv_aload_n hx hb (fk_get fk_cX12_carryAll_0 10 rfl) rfl (lv_at hl 0 rfl) ?_
  refine lv_aload_n hx hb (fk_get fk_cX12_carryAll_0 11 rfl) rfl (lv_at hl 0 rfl) ?_
  refine va_get (D := G.1) (ci := 14) (v := .int ((fF S 0 1))) (C := RX12) (T := TX12) (N := 49) hx hb hT inX12 hown hK hP 0 (ix_at (by decide) (cR_0 G ad (setF (setF (setR S 0 14 (some q)) 0 13 (takes)) 0 12 (0)))) rfl 1 (by decide) (hT _ m5_102) (fun _ h9 => h9) rfl (fk_get fk_cX12_carryAll_0 12 rfl) ?_
  have hFc := va_self hD hS hA
  refine va_calli (va_runV (As := [.int ((fF S 0 1))]) (rest := [.ref (ad 0)]) ⟨hx, hb, hml, hown, hT⟩ (c_carry l G ad (setF (setF (setR S 0 14 (some q)) 0 13 (takes)) 0 12 (0)) H.size (q) (0) ((fF S 0 1)) (hCA.1.2.1) (hq2) (hCA.1.2.2.2) (by decide)) (tV 1 hT m6_18 m6_20 mp_19 m1_17 m6_21 rfl rfl (by decide +kernel) ⟨Nat.le_of_ble_eq_true rfl, Nat.le_of_ble_eq_true rfl⟩) ⟨PcW_blind, va_recv hK hP (ci := 14) (q0 := 0) rfl (ix_at (by decide) (cR_0 G ad (setF (setF (setR S 0 14 (some q)) 0 13 (takes)) 0 12 (0)))), PcW_of hP hK hD _⟩ rfl rfl hl.1 rfl (lv_room (Nat.le_of_ble_eq_true rfl)) (fk_get fk_cX12_carryAll_0 13 rfl) ⟨Nat.zero_le _, Nat.zero_le _⟩) hS (fun q _ h => hFc q h) hFc (fun r_1 S_3 t_ H locs ht_ hvm_ hw_2 hB_ hz_ hk_ hS => ?_)
  obtain ⟨hP, -, hD1_⟩ := hB_
  rw [ht_] at hP
  have hD : va_D A (wR G ad S_3) := hD1_.weaken (fun k q _ h => hFc q.1 h)
  try dsimp only at hw_2
  obtain ⟨e_, hCA⟩ := CA_carry hq2 hcw hCA rfl hw_2
  subst e_
  refine va_put (D := G.1) (ci := 14) (v := .int (w 0)) (ty := .int) (C := RX12) (T := TX12) (N := 49) hx hb hT inX12 tyX12 tyX12_ok nmX12 hown hK hP hD hS 0 (ix_at (by decide) (cR_0 G ad S_3)) rfl 1 (by decide) (hT _ m5_102) (fun _ h9 => h9) rfl (by decide +kernel) rfl rfl (Nat.le_of_ble_eq_true rfl) (fk_get fk_cX12_carryAll_0 14 rfl) (fun H locs hP hD hS => ?_)
  rw [pR_customers G ad S_3 (w 0)] at hP hD
  have hCA : CA q w takes 1 1 S (setF S_3 0 1 (w 0)) := CA_putF (j := 0) hCA hq2 (by decide)
  refine lv_aload_n hx hb (fk_get fk_cX12_carryAll_0 15 rfl) rfl (lv_at hl 0 rfl) ?_
  refine lv_aload_n hx hb (fk_get fk_cX12_carryAll_0 16 rfl) rfl (lv_at hl 0 rfl) ?_
  refine lv_aload_n hx hb (fk_get fk_cX12_carryAll_0 17 rfl) rfl (lv_at hl 0 rfl) ?_
  refine va_get (D := G.1) (ci := 14) (v := .int ((fF S_3 0 2))) (C := RX12) (T := TX12) (N := 49) hx hb hT inX12 hown hK hP 0 (ix_at (by decide) (cR_0 G ad (setF S_3 0 1 (w 0)))) rfl 2 (by decide) (hT _ m5_103) (fun _ h9 => h9) rfl (fk_get fk_cX12_carryAll_0 18 rfl) ?_
  have hFc := va_self hD hS hA
  refine va_calli (va_runV (As := [.int ((fF S_3 0 2))]) (rest := [.ref (ad 0)]) ⟨hx, hb, hml, hown, hT⟩ (c_carry l G ad (setF S_3 0 1 (w 0)) H.size (q) (1) ((fF S_3 0 2)) (hCA.1.2.1) (hq2) (hCA.1.2.2.2) (by decide)) (tV 1 hT m6_18 m6_20 mp_19 m1_17 m6_21 rfl rfl (by decide +kernel) ⟨Nat.le_of_ble_eq_true rfl, Nat.le_of_ble_eq_true rfl⟩) ⟨PcW_blind, va_recv hK hP (ci := 14) (q0 := 0) rfl (ix_at (by decide) (cR_0 G ad (setF S_3 0 1 (w 0)))), PcW_of hP hK hD _⟩ rfl rfl hl.1 rfl (lv_room (Nat.le_of_ble_eq_true rfl)) (fk_get fk_cX12_carryAll_0 19 rfl) ⟨Nat.zero_le _, Nat.zero_le _⟩) hS (fun q _ h => hFc q h) hFc (fun r_4 S_6 t_ H locs ht_ hvm_ hw_5 hB_ hz_ hk_ hS => ?_)
  obtain ⟨hP, -, hD1_⟩ := hB_
  rw [ht_] at hP
  have hD : va_D A (wR G ad S_6) := hD1_.weaken (fun k q _ h => hFc q.1 h)
  try dsimp only at hw_5
  obtain ⟨e_, hCA⟩ := CA_carry hq2 hcw hCA rfl hw_5
  subst e_
  refine va_put (D := G.1) (ci := 14) (v := .int (w 1)) (ty := .int) (C := RX12) (T := TX12) (N := 49) hx hb hT inX12 tyX12 tyX12_ok nmX12 hown hK hP hD hS 0 (ix_at (by decide) (cR_0 G ad S_6)) rfl 2 (by decide) (hT _ m5_103) (fun _ h9 => h9) rfl (by decide +kernel) rfl rfl (Nat.le_of_ble_eq_true rfl) (fk_get fk_cX12_carryAll_0 20 rfl) (fun H locs hP hD hS => ?_)
  rw [pR_off G ad S_6 (w 1)] at hP hD
  have hCA : CA q w takes 2 2 S (setF S_6 0 2 (w 1)) := CA_putF (j := 1) hCA hq2 (by decide)
  refine lv_aload_n hx hb (fk_get fk_cX12_carryAll_0 21 rfl) rfl (lv_at hl 0 rfl) ?_
  refine lv_aload_n hx hb (fk_get fk_cX12_carryAll_0 22 rfl) rfl (lv_at hl 0 rfl) ?_
  refine lv_aload_n hx hb (fk_get fk_cX12_carryAll_0 23 rfl) rfl (lv_at hl 0 rfl) ?_
  refine va_get (D := G.1) (ci := 14) (v := .int ((fF S_6 0 3))) (C := RX12) (T := TX12) (N := 49) hx hb hT inX12 hown hK hP 0 (ix_at (by decide) (cR_0 G ad (setF S_6 0 2 (w 1)))) rfl 3 (by decide) (hT _ m5_104) (fun _ h9 => h9) rfl (fk_get fk_cX12_carryAll_0 24 rfl) ?_
  have hFc := va_self hD hS hA
  refine va_calli (va_runV (As := [.int ((fF S_6 0 3))]) (rest := [.ref (ad 0)]) ⟨hx, hb, hml, hown, hT⟩ (c_carry l G ad (setF S_6 0 2 (w 1)) H.size (q) (2) ((fF S_6 0 3)) (hCA.1.2.1) (hq2) (hCA.1.2.2.2) (by decide)) (tV 1 hT m6_18 m6_20 mp_19 m1_17 m6_21 rfl rfl (by decide +kernel) ⟨Nat.le_of_ble_eq_true rfl, Nat.le_of_ble_eq_true rfl⟩) ⟨PcW_blind, va_recv hK hP (ci := 14) (q0 := 0) rfl (ix_at (by decide) (cR_0 G ad (setF S_6 0 2 (w 1)))), PcW_of hP hK hD _⟩ rfl rfl hl.1 rfl (lv_room (Nat.le_of_ble_eq_true rfl)) (fk_get fk_cX12_carryAll_0 25 rfl) ⟨Nat.zero_le _, Nat.zero_le _⟩) hS (fun q _ h => hFc q h) hFc (fun r_7 S_9 t_ H locs ht_ hvm_ hw_8 hB_ hz_ hk_ hS => ?_)
  obtain ⟨hP, -, hD1_⟩ := hB_
  rw [ht_] at hP
  have hD : va_D A (wR G ad S_9) := hD1_.weaken (fun k q _ h => hFc q.1 h)
  try dsimp only at hw_8
  obtain ⟨e_, hCA⟩ := CA_carry hq2 hcw hCA rfl hw_8
  subst e_
  refine va_put (D := G.1) (ci := 14) (v := .int (w 2)) (ty := .int) (C := RX12) (T := TX12) (N := 49) hx hb hT inX12 tyX12 tyX12_ok nmX12 hown hK hP hD hS 0 (ix_at (by decide) (cR_0 G ad S_9)) rfl 3 (by decide) (hT _ m5_104) (fun _ h9 => h9) rfl (by decide +kernel) rfl rfl (Nat.le_of_ble_eq_true rfl) (fk_get fk_cX12_carryAll_0 26 rfl) (fun H locs hP hD hS => ?_)
  rw [pR_holding G ad S_9 (w 2)] at hP hD
  have hCA : CA q w takes 3 3 S (setF S_9 0 3 (w 2)) := CA_putF (j := 2) hCA hq2 (by decide)
  refine lv_aload_n hx hb (fk_get fk_cX12_carryAll_0 27 rfl) rfl (lv_at hl 0 rfl) ?_
  refine lv_aload_n hx hb (fk_get fk_cX12_carryAll_0 28 rfl) rfl (lv_at hl 0 rfl) ?_
  refine lv_aload_n hx hb (fk_get fk_cX12_carryAll_0 29 rfl) rfl (lv_at hl 0 rfl) ?_
  refine va_get (D := G.1) (ci := 14) (v := .int ((fF S_9 0 5))) (C := RX12) (T := TX12) (N := 49) hx hb hT inX12 hown hK hP 0 (ix_at (by decide) (cR_0 G ad (setF S_9 0 3 (w 2)))) rfl 5 (by decide) (hT _ m5_106) (fun _ h9 => h9) rfl (fk_get fk_cX12_carryAll_0 30 rfl) ?_
  have hFc := va_self hD hS hA
  refine va_calli (va_runV (As := [.int ((fF S_9 0 5))]) (rest := [.ref (ad 0)]) ⟨hx, hb, hml, hown, hT⟩ (c_carry l G ad (setF S_9 0 3 (w 2)) H.size (q) (3) ((fF S_9 0 5)) (hCA.1.2.1) (hq2) (hCA.1.2.2.2) (by decide)) (tV 1 hT m6_18 m6_20 mp_19 m1_17 m6_21 rfl rfl (by decide +kernel) ⟨Nat.le_of_ble_eq_true rfl, Nat.le_of_ble_eq_true rfl⟩) ⟨PcW_blind, va_recv hK hP (ci := 14) (q0 := 0) rfl (ix_at (by decide) (cR_0 G ad (setF S_9 0 3 (w 2)))), PcW_of hP hK hD _⟩ rfl rfl hl.1 rfl (lv_room (Nat.le_of_ble_eq_true rfl)) (fk_get fk_cX12_carryAll_0 31 rfl) ⟨Nat.zero_le _, Nat.zero_le _⟩) hS (fun q _ h => hFc q h) hFc (fun r_10 S_12 t_ H locs ht_ hvm_ hw_11 hB_ hz_ hk_ hS => ?_)
  obtain ⟨hP, -, hD1_⟩ := hB_
  rw [ht_] at hP
  have hD : va_D A (wR G ad S_12) := hD1_.weaken (fun k q _ h => hFc q.1 h)
  try dsimp only at hw_11
  obtain ⟨e_, hCA⟩ := CA_carry hq2 hcw hCA rfl hw_11
  subst e_
  refine va_put (D := G.1) (ci := 14) (v := .int (w 3)) (ty := .int) (C := RX12) (T := TX12) (N := 49) hx hb hT inX12 tyX12 tyX12_ok nmX12 hown hK hP hD hS 0 (ix_at (by decide) (cR_0 G ad S_12)) rfl 5 (by decide) (hT _ m5_106) (fun _ h9 => h9) rfl (by decide +kernel) rfl rfl (Nat.le_of_ble_eq_true rfl) (fk_get fk_cX12_carryAll_1 0 rfl) (fun H locs hP hD hS => ?_)
  rw [pR_seenMany G ad S_12 (w 3)] at hP hD
  have hCA : CA q w takes 4 4 S (setF S_12 0 5 (w 3)) := CA_putF (j := 3) hCA hq2 (by decide)
  refine lv_aload_n hx hb (fk_get fk_cX12_carryAll_1 1 rfl) rfl (lv_at hl 0 rfl) ?_
  refine lv_aload_n hx hb (fk_get fk_cX12_carryAll_1 2 rfl) rfl (lv_at hl 0 rfl) ?_
  refine lv_aload_n hx hb (fk_get fk_cX12_carryAll_1 3 rfl) rfl (lv_at hl 0 rfl) ?_
  refine va_get (D := G.1) (ci := 14) (v := .int ((fF S_12 0 7))) (C := RX12) (T := TX12) (N := 49) hx hb hT inX12 hown hK hP 0 (ix_at (by decide) (cR_0 G ad (setF S_12 0 5 (w 3)))) rfl 7 (by decide) (hT _ m5_108) (fun _ h9 => h9) rfl (fk_get fk_cX12_carryAll_1 4 rfl) ?_
  have hFc := va_self hD hS hA
  refine va_calli (va_runV (As := [.int ((fF S_12 0 7))]) (rest := [.ref (ad 0)]) ⟨hx, hb, hml, hown, hT⟩ (c_carry l G ad (setF S_12 0 5 (w 3)) H.size (q) (4) ((fF S_12 0 7)) (hCA.1.2.1) (hq2) (hCA.1.2.2.2) (by decide)) (tV 1 hT m6_18 m6_20 mp_19 m1_17 m6_21 rfl rfl (by decide +kernel) ⟨Nat.le_of_ble_eq_true rfl, Nat.le_of_ble_eq_true rfl⟩) ⟨PcW_blind, va_recv hK hP (ci := 14) (q0 := 0) rfl (ix_at (by decide) (cR_0 G ad (setF S_12 0 5 (w 3)))), PcW_of hP hK hD _⟩ rfl rfl hl.1 rfl (lv_room (Nat.le_of_ble_eq_true rfl)) (fk_get fk_cX12_carryAll_1 5 rfl) ⟨Nat.zero_le _, Nat.zero_le _⟩) hS (fun q _ h => hFc q h) hFc (fun r_13 S_15 t_ H locs ht_ hvm_ hw_14 hB_ hz_ hk_ hS => ?_)
  obtain ⟨hP, -, hD1_⟩ := hB_
  rw [ht_] at hP
  have hD : va_D A (wR G ad S_15) := hD1_.weaken (fun k q _ h => hFc q.1 h)
  try dsimp only at hw_14
  obtain ⟨e_, hCA⟩ := CA_carry hq2 hcw hCA rfl hw_14
  subst e_
  refine va_put (D := G.1) (ci := 14) (v := .int (w 4)) (ty := .int) (C := RX12) (T := TX12) (N := 49) hx hb hT inX12 tyX12 tyX12_ok nmX12 hown hK hP hD hS 0 (ix_at (by decide) (cR_0 G ad S_15)) rfl 7 (by decide) (hT _ m5_108) (fun _ h9 => h9) rfl (by decide +kernel) rfl rfl (Nat.le_of_ble_eq_true rfl) (fk_get fk_cX12_carryAll_1 6 rfl) (fun H locs hP hD hS => ?_)
  rw [pR_comeMany G ad S_15 (w 4)] at hP hD
  have hCA : CA q w takes 5 5 S (setF S_15 0 7 (w 4)) := CA_putF (j := 4) hCA hq2 (by decide)
  refine lv_iconst (v := 0) hx hb (fk_get fk_cX12_carryAll_1 7 rfl) (by decide) ?_
  refine lv_istore_n (lv' := [(3, .int (0)), (0, .ref (ad 0)), (1, .ref (ad q)), (2, .int (takes))]) hx hb (fk_get fk_cX12_carryAll_1 8 rfl) rfl hl (by decide) rfl (fun ls hl => ?_)
  have lp_16 : ∀ (fu : Nat) (k : Nat) (S_17 : FS) (H_18 : Heap) (locs_19 : List Loc) (ls : Array Slot),  (k ≤ 72) → (72 < k + fu) → (CA q w takes (5 + k) (5 + k) S S_17) → va_P G.1 vwCl (wR G ad S_17) H_18 → va_D A (wR G ad S_17) → va_S A s.heap H_18 locs_19 → lv_has ls 4 [(3, .int ((nI k))), (0, .ref (ad 0)), (1, .ref (ad q)), (2, .int (takes))] → W p l e ({ frames := 3, cells := 0, slots := 0, locals := 89 } : Room) s m args below meth c₀ H_18 locs_19 0 0 Q (F0 m 77 ls []) := by
    intro fu
    induction fu with
    | zero =>
      intro k S_17 H_18 locs_19 ls hk hf hCA hP hD hS hl
      exact absurd hf (by omega)
    | succ fu ih =>
      intro k S_17 H_18 locs_19 ls hk hf hCA hP hD hS hl
      refine lv_iload_n hx hb (fk_get fk_cX12_carryAll_1 9 rfl) rfl (lv_at hl 0 rfl) ?_
      refine lv_bipush (v := 72) hx hb (fk_get fk_cX12_carryAll_1 10 rfl) (by decide) ?_
      refine lv_icmp_ge (tgt := 105) hx hb (fk_get fk_cX12_carryAll_1 11 rfl) (by decide) (fun c_20 => ?_) (fun c_20 => ?_)
      · have hge : 72 ≤ k := (nI_leI (a := 72) (b := k) (by omega) (by omega)).mp c_20
        have hCA : CA q w takes 77 77 S S_17 := by
          have e_ : k = 72 := by omega
          rw [e_] at hCA; exact hCA
        refine lv_iconst (v := 0) hx hb (fk_get fk_cX12_carryAll_1 24 rfl) (by decide) ?_
        refine lv_istore_n (lv' := [(3, .int (0)), (0, .ref (ad 0)), (1, .ref (ad q)), (2, .int (takes))]) hx hb (fk_get fk_cX12_carryAll_1 25 rfl) rfl hl (by decide) rfl (fun ls hl => ?_)
        have lp_21 : ∀ (fu : Nat) (k : Nat) (S_22 : FS) (H_23 : Heap) (locs_24 : List Loc) (ls : Array Slot),  (k ≤ 4) → (4 < k + fu) → (CA q w takes (77 + k) (77 + k) S S_22) → va_P G.1 vwCl (wR G ad S_22) H_23 → va_D A (wR G ad S_22) → va_S A s.heap H_23 locs_24 → lv_has ls 4 [(3, .int ((nI k))), (0, .ref (ad 0)), (1, .ref (ad q)), (2, .int (takes))] → W p l e ({ frames := 3, cells := 0, slots := 0, locals := 89 } : Room) s m args below meth c₀ H_23 locs_24 0 0 Q (F0 m 107 ls []) := by
          intro fu
          induction fu with
          | zero =>
            intro k S_22 H_23 locs_24 ls hk hf hCA hP hD hS hl
            exact absurd hf (by omega)
          | succ fu ih =>
            intro k S_22 H_23 locs_24 ls hk hf hCA hP hD hS hl
            refine lv_iload_n hx hb (fk_get fk_cX12_carryAll_1 26 rfl) rfl (lv_at hl 0 rfl) ?_
            refine lv_iconst (v := 4) hx hb (fk_get fk_cX12_carryAll_1 27 rfl) (by decide) ?_
            refine lv_icmp_ge (tgt := 134) hx hb (fk_get fk_cX12_carryAll_1 28 rfl) (by decide) (fun c_25 => ?_) (fun c_25 => ?_)
            · have hge : 4 ≤ k := (nI_leI (a := 4) (b := k) (by omega) (by omega)).mp c_25
              have hCA : CA q w takes 81 81 S S_22 := by
                have e_ : k = 4 := by omega
                rw [e_] at hCA; exact hCA
              refine lv_iconst (v := 0) hx hb (fk_get fk_cX12_carryAll_2 9 rfl) (by decide) ?_
              refine lv_istore_n (lv' := [(3, .int (0)), (0, .ref (ad 0)), (1, .ref (ad q)), (2, .int (takes))]) hx hb (fk_get fk_cX12_carryAll_2 10 rfl) rfl hl (by decide) rfl (fun ls hl => ?_)
              have lp_26 : ∀ (fu : Nat) (k : Nat) (S_27 : FS) (H_28 : Heap) (locs_29 : List Loc) (ls : Array Slot),  (k ≤ 8) → (8 < k + fu) → (CA q w takes (81 + k) (81 + k) S S_27) → va_P G.1 vwCl (wR G ad S_27) H_28 → va_D A (wR G ad S_27) → va_S A s.heap H_28 locs_29 → lv_has ls 4 [(3, .int ((nI k))), (0, .ref (ad 0)), (1, .ref (ad q)), (2, .int (takes))] → W p l e ({ frames := 3, cells := 0, slots := 0, locals := 89 } : Room) s m args below meth c₀ H_28 locs_29 0 0 Q (F0 m 136 ls []) := by
                intro fu
                induction fu with
                | zero =>
                  intro k S_27 H_28 locs_29 ls hk hf hCA hP hD hS hl
                  exact absurd hf (by omega)
                | succ fu ih =>
                  intro k S_27 H_28 locs_29 ls hk hf hCA hP hD hS hl
                  refine lv_iload_n hx hb (fk_get fk_cX12_carryAll_2 11 rfl) rfl (lv_at hl 0 rfl) ?_
                  refine lv_bipush (v := 8) hx hb (fk_get fk_cX12_carryAll_2 12 rfl) (by decide) ?_
                  refine lv_icmp_ge (tgt := 164) hx hb (fk_get fk_cX12_carryAll_2 13 rfl) (by decide) (fun c_30 => ?_) (fun c_30 => ?_)
                  · have hge : 8 ≤ k := (nI_leI (a := 8) (b := k) (by omega) (by omega)).mp c_30
                    have hCA : CA q w takes 89 89 S S_27 := by
                      have e_ : k = 8 := by omega
                      rw [e_] at hCA; exact hCA
                    subst hQ
                    have hpost : CA q w takes 89 89 S S_27 := by
                      exact hCA
                    exact W.vret hx hb hr (fun t_ ht_ hW_ => ⟨⟨S_27, rfl, hpost, by rw [ht_]; exact hP, va_K.moved hW_.alike hK, hD⟩, hS.F ht_⟩) hS.2.2 (fk_get fk_cX12_carryAll_2 26 rfl)
                  have hlt : k < 8 := Nat.lt_of_not_le (fun z => c_30 ((nI_leI (a := 8) (b := k) (by omega) (by omega)).mpr z))
                  refine lv_aload_n hx hb (fk_get fk_cX12_carryAll_2 14 rfl) rfl (lv_at hl 1 rfl) ?_
                  refine va_get (D := G.1) (ci := 14) (v := .ref (ad 3)) (C := RX12) (T := TX12) (N := 49) hx hb hT inX12 hown hK hP 0 (ix_at (by decide) (cR_0 G ad S_27)) rfl 6 (by decide) (hT _ m5_107) (fun _ h9 => h9) rfl (fk_get fk_cX12_carryAll_2 15 rfl) ?_
                  refine lv_iload_n hx hb (fk_get fk_cX12_carryAll_2 16 rfl) rfl (lv_at hl 0 rfl) ?_
                  refine lv_aload_n hx hb (fk_get fk_cX12_carryAll_2 17 rfl) rfl (lv_at hl 1 rfl) ?_
                  refine lv_aload_n hx hb (fk_get fk_cX12_carryAll_2 18 rfl) rfl (lv_at hl 1 rfl) ?_
                  refine va_get (D := G.1) (ci := 14) (v := .ref (ad 3)) (C := RX12) (T := TX12) (N := 49) hx hb hT inX12 hown hK hP 0 (ix_at (by decide) (cR_0 G ad S_27)) rfl 6 (by decide) (hT _ m5_107) (fun _ h9 => h9) rfl (fk_get fk_cX12_carryAll_2 19 rfl) ?_
                  refine lv_iload_n hx hb (fk_get fk_cX12_carryAll_2 20 rfl) rfl (lv_at hl 0 rfl) ?_
                  refine r_iald hx hb hK hP 3 0 (ix_at (by decide) (cR_come G ad S_27)) rfl (k) (rfl) (by omega) (by decide) (fk_get fk_cX12_carryAll_2 21 rfl) ?_
                  have hFc := va_self hD hS hA
                  refine va_calli (va_runV (As := [.int ((fA S_27 3 (k)))]) (rest := [.int ((nI k)), .ref (ad 3)]) ⟨hx, hb, hml, hown, hT⟩ (c_carry l G ad S_27 H_28.size (q) (81 + k) ((fA S_27 3 (k))) (hCA.1.2.1) (hq2) (hCA.1.2.2.2) (by omega)) (tV 1 hT m6_18 m6_20 mp_19 m1_17 m6_21 rfl rfl (by decide +kernel) ⟨Nat.le_of_ble_eq_true rfl, Nat.le_of_ble_eq_true rfl⟩) ⟨PcW_blind, va_recv hK hP (ci := 14) (q0 := 0) rfl (ix_at (by decide) (cR_0 G ad S_27)), PcW_of hP hK hD _⟩ rfl rfl hl.1 rfl (lv_room (Nat.le_of_ble_eq_true rfl)) (fk_get fk_cX12_carryAll_2 22 rfl) ⟨Nat.zero_le _, Nat.zero_le _⟩) hS (fun q _ h => hFc q h) hFc (fun r_31 S_33 t_ H locs ht_ hvm_ hw_32 hB_ hz_ hk_ hS => ?_)
                  obtain ⟨hP, -, hD1_⟩ := hB_
                  rw [ht_] at hP
                  have hD : va_D A (wR G ad S_33) := hD1_.weaken (fun k q _ h => hFc q.1 h)
                  try dsimp only at hw_32
                  obtain ⟨e_, hCA⟩ := CA_carry hq2 hcw hCA (vec_co _).symm hw_32
                  subst e_
                  refine r_iast hx hb hK hP hD hS 3 0 (ix_at (by decide) (cR_come G ad S_33)) rfl (k) (rfl) (by omega) (by decide) (fk_get fk_cX12_carryAll_2 23 rfl) (fun H locs hP hD hS => ?_)
                  rw [pR_A G ad S_33 (by decide) (by decide) (by decide) (cR_come G ad S_33) (upd (fA S_33 3) (k) (w (81 + k)))] at hP hD
                  have hCA : CA q w takes (81 + (k + 1)) (81 + (k + 1)) S (setA S_33 3 (upd (fA S_33 3) (k) (w (81 + k)))) := CA_put3 hCA hq2
                  refine lv_iinc (v := (nI (k + 1))) (lv' := [(3, .int ((nI (k + 1)))), (0, .ref (ad 0)), (1, .ref (ad q)), (2, .int (takes))]) hx hb (fk_get fk_cX12_carryAll_2 24 rfl) hl (k := 0) rfl ((nI_1 k)) (by decide) rfl (fun ls hl => ?_)
                  refine lv_goto (tgt := 136) hx hb (fk_get fk_cX12_carryAll_2 25 rfl) (by decide) ?_
                  exact ih (k + 1) (setA S_33 3 (upd (fA S_33 3) (k) (w (81 + k)))) _ _ ls (by omega) (by omega) (hCA) hP hD hS (lv_sub hl [0, 1, 2, 3] rfl)
              exact lp_26 (9) (0) (S_22) _ _ ls (by omega) (by omega) (hCA) hP hD hS (lv_sub hl [0, 1, 2, 3] rfl)
            have hlt : k < 4 := Nat.lt_of_not_le (fun z => c_25 ((nI_leI (a := 4) (b := k) (by omega) (by omega)).mpr z))
            refine lv_aload_n hx hb (fk_get fk_cX12_carryAll_1 29 rfl) rfl (lv_at hl 1 rfl) ?_
            refine va_get (D := G.1) (ci := 14) (v := .ref (ad 2)) (C := RX12) (T := TX12) (N := 49) hx hb hT inX12 hown hK hP 0 (ix_at (by decide) (cR_0 G ad S_22)) rfl 4 (by decide) (hT _ m5_105) (fun _ h9 => h9) rfl (fk_get fk_cX12_carryAll_1 30 rfl) ?_
            refine lv_iload_n hx hb (fk_get fk_cX12_carryAll_1 31 rfl) rfl (lv_at hl 0 rfl) ?_
            refine lv_aload_n hx hb (fk_get fk_cX12_carryAll_2 0 rfl) rfl (lv_at hl 1 rfl) ?_
            refine lv_aload_n hx hb (fk_get fk_cX12_carryAll_2 1 rfl) rfl (lv_at hl 1 rfl) ?_
            refine va_get (D := G.1) (ci := 14) (v := .ref (ad 2)) (C := RX12) (T := TX12) (N := 49) hx hb hT inX12 hown hK hP 0 (ix_at (by decide) (cR_0 G ad S_22)) rfl 4 (by decide) (hT _ m5_105) (fun _ h9 => h9) rfl (fk_get fk_cX12_carryAll_2 2 rfl) ?_
            refine lv_iload_n hx hb (fk_get fk_cX12_carryAll_2 3 rfl) rfl (lv_at hl 0 rfl) ?_
            refine r_iald hx hb hK hP 2 0 (ix_at (by decide) (cR_seen G ad S_22)) rfl (k) (rfl) (by omega) (by decide) (fk_get fk_cX12_carryAll_2 4 rfl) ?_
            have hFc := va_self hD hS hA
            refine va_calli (va_runV (As := [.int ((fA S_22 2 (k)))]) (rest := [.int ((nI k)), .ref (ad 2)]) ⟨hx, hb, hml, hown, hT⟩ (c_carry l G ad S_22 H_23.size (q) (77 + k) ((fA S_22 2 (k))) (hCA.1.2.1) (hq2) (hCA.1.2.2.2) (by omega)) (tV 1 hT m6_18 m6_20 mp_19 m1_17 m6_21 rfl rfl (by decide +kernel) ⟨Nat.le_of_ble_eq_true rfl, Nat.le_of_ble_eq_true rfl⟩) ⟨PcW_blind, va_recv hK hP (ci := 14) (q0 := 0) rfl (ix_at (by decide) (cR_0 G ad S_22)), PcW_of hP hK hD _⟩ rfl rfl hl.1 rfl (lv_room (Nat.le_of_ble_eq_true rfl)) (fk_get fk_cX12_carryAll_2 5 rfl) ⟨Nat.zero_le _, Nat.zero_le _⟩) hS (fun q _ h => hFc q h) hFc (fun r_34 S_36 t_ H locs ht_ hvm_ hw_35 hB_ hz_ hk_ hS => ?_)
            obtain ⟨hP, -, hD1_⟩ := hB_
            rw [ht_] at hP
            have hD : va_D A (wR G ad S_36) := hD1_.weaken (fun k q _ h => hFc q.1 h)
            try dsimp only at hw_35
            obtain ⟨e_, hCA⟩ := CA_carry hq2 hcw hCA (vec_se _ hlt).symm hw_35
            subst e_
            refine r_iast hx hb hK hP hD hS 2 0 (ix_at (by decide) (cR_seen G ad S_36)) rfl (k) (rfl) (by omega) (by decide) (fk_get fk_cX12_carryAll_2 6 rfl) (fun H locs hP hD hS => ?_)
            rw [pR_A G ad S_36 (by decide) (by decide) (by decide) (cR_seen G ad S_36) (upd (fA S_36 2) (k) (w (77 + k)))] at hP hD
            have hCA : CA q w takes (77 + (k + 1)) (77 + (k + 1)) S (setA S_36 2 (upd (fA S_36 2) (k) (w (77 + k)))) := CA_put2 hCA hq2 hlt
            refine lv_iinc (v := (nI (k + 1))) (lv' := [(3, .int ((nI (k + 1)))), (0, .ref (ad 0)), (1, .ref (ad q)), (2, .int (takes))]) hx hb (fk_get fk_cX12_carryAll_2 7 rfl) hl (k := 0) rfl ((nI_1 k)) (by decide) rfl (fun ls hl => ?_)
            refine lv_goto (tgt := 107) hx hb (fk_get fk_cX12_carryAll_2 8 rfl) (by decide) ?_
            exact ih (k + 1) (setA S_36 2 (upd (fA S_36 2) (k) (w (77 + k)))) _ _ ls (by omega) (by omega) (hCA) hP hD hS (lv_sub hl [0, 1, 2, 3] rfl)
        exact lp_21 (5) (0) (S_17) _ _ ls (by omega) (by omega) (hCA) hP hD hS (lv_sub hl [0, 1, 2, 3] rfl)
      have hlt : k < 72 := Nat.lt_of_not_le (fun z => c_20 ((nI_leI (a := 72) (b := k) (by omega) (by omega)).mpr z))
      refine lv_aload_n hx hb (fk_get fk_cX12_carryAll_1 12 rfl) rfl (lv_at hl 1 rfl) ?_
      refine va_get (D := G.1) (ci := 14) (v := .ref (ad 1)) (C := RX12) (T := TX12) (N := 49) hx hb hT inX12 hown hK hP 0 (ix_at (by decide) (cR_0 G ad S_17)) rfl 0 (by decide) (hT _ m5_101) (fun _ h9 => h9) rfl (fk_get fk_cX12_carryAll_1 13 rfl) ?_
      refine lv_iload_n hx hb (fk_get fk_cX12_carryAll_1 14 rfl) rfl (lv_at hl 0 rfl) ?_
      refine lv_aload_n hx hb (fk_get fk_cX12_carryAll_1 15 rfl) rfl (lv_at hl 1 rfl) ?_
      refine lv_aload_n hx hb (fk_get fk_cX12_carryAll_1 16 rfl) rfl (lv_at hl 1 rfl) ?_
      refine va_get (D := G.1) (ci := 14) (v := .ref (ad 1)) (C := RX12) (T := TX12) (N := 49) hx hb hT inX12 hown hK hP 0 (ix_at (by decide) (cR_0 G ad S_17)) rfl 0 (by decide) (hT _ m5_101) (fun _ h9 => h9) rfl (fk_get fk_cX12_carryAll_1 17 rfl) ?_
      refine lv_iload_n hx hb (fk_get fk_cX12_carryAll_1 18 rfl) rfl (lv_at hl 0 rfl) ?_
      refine r_iald hx hb hK hP 1 0 (ix_at (by decide) (cR_s G ad S_17)) rfl (k) (rfl) (by omega) (by decide) (fk_get fk_cX12_carryAll_1 19 rfl) ?_
      have hFc := va_self hD hS hA
      refine va_calli (va_runV (As := [.int ((fA S_17 1 (k)))]) (rest := [.int ((nI k)), .ref (ad 1)]) ⟨hx, hb, hml, hown, hT⟩ (c_carry l G ad S_17 H_18.size (q) (5 + k) ((fA S_17 1 (k))) (hCA.1.2.1) (hq2) (hCA.1.2.2.2) (by omega)) (tV 1 hT m6_18 m6_20 mp_19 m1_17 m6_21 rfl rfl (by decide +kernel) ⟨Nat.le_of_ble_eq_true rfl, Nat.le_of_ble_eq_true rfl⟩) ⟨PcW_blind, va_recv hK hP (ci := 14) (q0 := 0) rfl (ix_at (by decide) (cR_0 G ad S_17)), PcW_of hP hK hD _⟩ rfl rfl hl.1 rfl (lv_room (Nat.le_of_ble_eq_true rfl)) (fk_get fk_cX12_carryAll_1 20 rfl) ⟨Nat.zero_le _, Nat.zero_le _⟩) hS (fun q _ h => hFc q h) hFc (fun r_37 S_39 t_ H locs ht_ hvm_ hw_38 hB_ hz_ hk_ hS => ?_)
      obtain ⟨hP, -, hD1_⟩ := hB_
      rw [ht_] at hP
      have hD : va_D A (wR G ad S_39) := hD1_.weaken (fun k q _ h => hFc q.1 h)
      try dsimp only at hw_38
      obtain ⟨e_, hCA⟩ := CA_carry hq2 hcw hCA (vec_s _ hlt).symm hw_38
      subst e_
      refine r_iast hx hb hK hP hD hS 1 0 (ix_at (by decide) (cR_s G ad S_39)) rfl (k) (rfl) (by omega) (by decide) (fk_get fk_cX12_carryAll_1 21 rfl) (fun H locs hP hD hS => ?_)
      rw [pR_A G ad S_39 (by decide) (by decide) (by decide) (cR_s G ad S_39) (upd (fA S_39 1) (k) (w (5 + k)))] at hP hD
      have hCA : CA q w takes (5 + (k + 1)) (5 + (k + 1)) S (setA S_39 1 (upd (fA S_39 1) (k) (w (5 + k)))) := CA_put1 hCA hq2 hlt
      refine lv_iinc (v := (nI (k + 1))) (lv' := [(3, .int ((nI (k + 1)))), (0, .ref (ad 0)), (1, .ref (ad q)), (2, .int (takes))]) hx hb (fk_get fk_cX12_carryAll_1 22 rfl) hl (k := 0) rfl ((nI_1 k)) (by decide) rfl (fun ls hl => ?_)
      refine lv_goto (tgt := 77) hx hb (fk_get fk_cX12_carryAll_1 23 rfl) (by decide) ?_
      exact ih (k + 1) (setA S_39 1 (upd (fA S_39 1) (k) (w (5 + k)))) _ _ ls (by omega) (by omega) (hCA) hP hD hS (lv_sub hl [0, 1, 2, 3] rfl)
  exact lp_16 (73) (0) (setF S_15 0 7 (w 4)) _ _ ls (by omega) (by omega) (hCA) hP hD hS (lv_sub hl [0, 1, 2, 3] rfl)
