theorem rng_n {i x : Int32} {t : Nat} (h : 0 ≤ i ∧ i ≤ x - 1) (hx : x = nI t) (ht : t < 1000) : i.toNatClampNeg < t ∧ i = nI i.toNatClampNeg := by
  subst hx
  cases t with
  | zero => exact absurd (Int32.le_trans h.1 h.2) (by decide)
  | succ t =>
    rw [nI_pred] at h
    obtain ⟨j, hj, rfl⟩ := nI_of (x := i) (Int32.not_lt.mpr h.1)
    have := (nI_leI hj (by omega)).mp h.2
    rw [nI_clamp hj]
    exact ⟨by omega, rfl⟩
theorem rng_o {i x : Int32} {t : Nat} (h : ¬ (0 ≤ i ∧ i ≤ x - 1)) (hx : x = nI t) (ht : t < 1000) : i < 0 ∨ nI t ≤ i := by
  subst hx
  by_cases c : i < 0
  · exact Or.inl c
  · refine Or.inr ?_
    obtain ⟨j, hj, rfl⟩ := nI_of (x := i) c
    refine (nI_leI (by omega) hj).mpr ?_
    cases t with
    | zero => omega
    | succ t =>
      rw [nI_pred] at h
      by_cases d : j ≤ t
      · exact absurd ⟨Int32.not_lt.mp c, (nI_leI hj (by omega)).mpr d⟩ h
      · omega
set_option maxHeartbeats 800000 in
set_option maxRecDepth 100000 in
theorem c_traceE (l : Launch) (G : GG) (ad : Nat → Nat) (S : FS) (sz : Nat) (t : Nat) (i : Int32) (ht : fF S 0 40 = nI t) (ht9 : t < 1000) : Met l yX12_trace (Cond.code yX12_trace cX12_trace 3 (some .int) :: TBL) ({ frames := 3, cells := 0, slots := 0, locals := 93 } : Room) (PcW G (wR G ad S) sz [.ref (ad 0), .int (i)]) (va_Qi (fun (r : Int32) (S' : FS) => ((r = -1 ∧ (i < 0 ∨ 20 ≤ i ∨ nI t ≤ i)) ∨ ∃ iz, iz < t ∧ iz < 20 ∧ i = nI iz ∧ r = fA S 17 iz) ∧ S' = (setF S 0 8 0)) (fun S' t => BW G (va_A (wR G ad S) sz) (wR G ad S') t) (va_A (wR G ad S) sz)) 0 0 (va_A (wR G ad S) sz) := by
  refine Met.ofW (cc := cX12_trace) (maxL := 3) (ret := (some .int)) (by decide) rfl ?_
  intro p e s m args below meth c₀ s₁ B hml hv
  obtain ⟨rfl, hsz, hP, hK, hD0⟩ := hv
  have hx := B.exec
  have hb := B.bytes
  have hr := B.returns
  have hT : ∀ w ∈ TBL, w.before ([.ref (ad 0), .int (i)] : List Value).toArray s = true := fun w h => atoms_spec (ws := Cond.code yX12_trace cX12_trace 3 (some .int) :: TBL) B.pre w (List.mem_cons_of_mem _ h)
  have hown : s.vm.findClass "LittleMoreModel" = some m.cls := findClass_of_methodNamed B.named
  have hlocks := B.notSynchronized
  subst hsz
  have hD := hD0.self (sz := s.heap.size)
  generalize hAe : va_A (wR G ad S) s.heap.size = A at hD ⊢
  have hA : ∀ q : Nat, s.heap.size ≤ q → A q := fun q h => by rw [← hAe]; exact Or.inr h
  have hS : va_S A s.heap s.heap [] := va_S.rf
  have hP : va_P G.1 vwCl (wR G ad S) s.heap := hP
  have hl := lv_entry ([.ref (ad 0), .int (i)]) (n := 3) (Nat.le_of_ble_eq_true rfl)
  rw [lg_entry_eq]
  generalize (lg_sl ([.ref (ad 0), .int (i)]) ++ List.replicate (3 - (lg_sl ([.ref (ad 0), .int (i)])).length) Slot.unset).toArray = ls at hl ⊢
  have hl : lv_has ls 3 [(0, .ref (ad 0)), (1, .int (i))] := hl
  refine W_abs (fun Q hQ => ?_)
  generalize ([.ref (ad 0), .int (i)] : List Value).toArray = args at hT hQ ⊢
  refine lv_aload_n hx hb (fk_get fk_cX12_trace_0 0 rfl) rfl (lv_at hl 0 rfl) ?_
  refine lv_iconst (v := 0) hx hb (fk_get fk_cX12_trace_0 1 rfl) (by decide) ?_
  refine va_put (D := G.1) (ci := 14) (v := .int (0)) (ty := .int) (C := RX12) (T := TX12) (N := 49) hx hb hT inX12 tyX12 tyX12_ok nmX12 hown hK hP hD hS 0 (ix_at (by decide) (cR_0 G ad S)) rfl 8 (by decide) (hT _ m5_109) (fun _ h9 => h9) rfl (by decide +kernel) rfl rfl (Nat.le_of_ble_eq_true rfl) (fk_get fk_cX12_trace_0 2 rfl) (fun H locs hP hD hS => ?_)
  rw [pR_thrown G ad S (0)] at hP hD
  refine lv_aload_n hx hb (fk_get fk_cX12_trace_0 3 rfl) rfl (lv_at hl 0 rfl) ?_
  refine va_get (D := G.1) (ci := 14) (v := .int ((fF S 0 40))) (C := RX12) (T := TX12) (N := 49) hx hb hT inX12 hown hK hP 0 (ix_at (by decide) (cR_0 G ad (setF S 0 8 (0)))) rfl 40 (by decide) (hT _ m5_141) (fun _ h9 => h9) rfl (fk_get fk_cX12_trace_0 4 rfl) ?_
  refine lv_bipush (v := 20) hx hb (fk_get fk_cX12_trace_0 5 rfl) (by decide) ?_
  refine lv_icmp_ge (tgt := 21) hx hb (fk_get fk_cX12_trace_0 6 rfl) (by decide) (fun c_1 => ?_) (fun c_1 => ?_)
  · have hge : 20 ≤ t := (nI_leI (a := 20) (b := t) (by omega) (by omega)).mp (by rw [← ht]; exact c_1)
    refine lv_bipush (v := 20) hx hb (fk_get fk_cX12_trace_0 10 rfl) (by decide) ?_
    refine lv_istore_n (lv' := [(2, .int (20)), (0, .ref (ad 0)), (1, .int (i))]) hx hb (fk_get fk_cX12_trace_0 11 rfl) rfl hl (by decide) rfl (fun ls hl => ?_)
    refine lv_iload_n hx hb (fk_get fk_cX12_trace_0 12 rfl) rfl (lv_at hl 2 rfl) ?_
    refine lv_i2l hx hb (fk_get fk_cX12_trace_0 13 rfl) rfl ?_
    refine lv_lconst (v := 0) hx hb (fk_get fk_cX12_trace_0 14 rfl) (by decide) ?_
    refine lv_iload_n hx hb (fk_get fk_cX12_trace_0 15 rfl) rfl (lv_at hl 0 rfl) ?_
    refine lv_iconst (v := 1) hx hb (fk_get fk_cX12_trace_0 16 rfl) (by decide) ?_
    refine lv_isub hx hb (fk_get fk_cX12_trace_0 17 rfl) ?_
    refine lv_i2l hx hb (fk_get fk_cX12_trace_0 18 rfl) rfl ?_
    refine vp_callSi (W.runS (As := [.long ((i).toInt64), .long (0), .long (((20 - 1)).toInt64)]) (rest := []) ⟨hx, hb, hml, hown, hT⟩ (c_in l ((i).toInt64) (0) (((20 - 1)).toInt64) ) (tS 3 hT m6_31 m6_32 m1_17 m6_33 rfl rfl (by decide +kernel) ⟨Nat.le_of_ble_eq_true rfl, Nat.le_of_ble_eq_true rfl⟩) ⟨PcN_blind, PcN_of _ _ _⟩ rfl rfl hl.1 rfl (lv_room (Nat.le_of_ble_eq_true rfl)) (fk_get fk_cX12_trace_0 19 rfl) ⟨Nat.zero_le _, Nat.zero_le _⟩) (fun r_2 hw_3 => ?_)
    try dsimp only at hw_3
    have hw_3 := in_eq hw_3 (i) 0 ((20 - 1)) (rfl) (by decide) (rfl)
    refine lv_if_eq (tgt := 46) hx hb (fk_get fk_cX12_trace_0 20 rfl) (by decide) (fun c_4 => ?_) (fun c_4 => ?_)
    · have p_c_4 := if1_f hw_3 c_4
      have hbad : i < 0 ∨ 20 ≤ i ∨ nI t ≤ i := by
        first
        | exact (rng_o (t := 20) p_c_4 rfl (by omega)).imp id Or.inl
        | exact (rng_o p_c_4 ht ht9).imp id Or.inr
      refine lv_iconst (v := (-1)) hx hb (fk_get fk_cX12_trace_0 26 rfl) (by decide) ?_
      subst hQ
      have hpost : ((((-1) : Int32) = -1 ∧ (i < 0 ∨ 20 ≤ i ∨ nI t ≤ i)) ∨ ∃ iz, iz < t ∧ iz < 20 ∧ i = nI iz ∧ ((-1) : Int32) = fA S 17 iz) ∧ (setF S 0 8 (0)) = (setF S 0 8 0) := by
        first | exact ⟨Or.inl ⟨rfl, hbad⟩, rfl⟩ | exact ⟨Or.inr ⟨_, hit, hi20, ei, rfl⟩, rfl⟩
      exact W.iret (v := (-1)) hx hb hr (fun t_ ht_ hW_ => ⟨⟨(-1), (setF S 0 8 (0)), rfl, hpost, by rw [ht_]; exact hP, va_K.moved hW_.alike hK, hD⟩, hS.F ht_⟩) hS.2.2 (fk_get fk_cX12_trace_0 27 rfl)
    have p_c_4 := if1_t hw_3 c_4
    obtain ⟨hi20, ei⟩ : i.toNatClampNeg < 20 ∧ i = nI i.toNatClampNeg := by
      first
      | exact tr_a p_c_4
      | exact tr_b p_c_4 ht hlt
    have hit : i.toNatClampNeg < t := by first | exact (rng_n p_c_4 ht ht9).1 | omega
    refine lv_aload_n hx hb (fk_get fk_cX12_trace_0 21 rfl) rfl (lv_at hl 1 rfl) ?_
    refine va_get (D := G.1) (ci := 14) (v := .ref (ad 17)) (C := RX12) (T := TX12) (N := 49) hx hb hT inX12 hown hK hP 0 (ix_at (by decide) (cR_0 G ad (setF S 0 8 (0)))) rfl 39 (by decide) (hT _ m5_140) (fun _ h9 => h9) rfl (fk_get fk_cX12_trace_0 22 rfl) ?_
    refine lv_iload_n hx hb (fk_get fk_cX12_trace_0 23 rfl) rfl (lv_at hl 2 rfl) ?_
    refine r_iald (f := fA S 17) hx hb hK hP 17 0 (ix_at (by decide) (cR_trail G ad (setF S 0 8 (0)))) rfl (i.toNatClampNeg) (ei) (by omega) (by decide) (fk_get fk_cX12_trace_0 24 rfl) ?_
    refine lv_goto (tgt := 47) hx hb (fk_get fk_cX12_trace_0 25 rfl) (by decide) ?_
    subst hQ
    have hpost : ((((fA S 17 (i.toNatClampNeg)) : Int32) = -1 ∧ (i < 0 ∨ 20 ≤ i ∨ nI t ≤ i)) ∨ ∃ iz, iz < t ∧ iz < 20 ∧ i = nI iz ∧ ((fA S 17 (i.toNatClampNeg)) : Int32) = fA S 17 iz) ∧ (setF S 0 8 (0)) = (setF S 0 8 0) := by
      first | exact ⟨Or.inl ⟨rfl, hbad⟩, rfl⟩ | exact ⟨Or.inr ⟨_, hit, hi20, ei, rfl⟩, rfl⟩
    exact W.iret (v := (fA S 17 (i.toNatClampNeg))) hx hb hr (fun t_ ht_ hW_ => ⟨⟨(fA S 17 (i.toNatClampNeg)), (setF S 0 8 (0)), rfl, hpost, by rw [ht_]; exact hP, va_K.moved hW_.alike hK, hD⟩, hS.F ht_⟩) hS.2.2 (fk_get fk_cX12_trace_0 27 rfl)
  have hlt : t < 20 := Nat.lt_of_not_le (fun wk => c_1 (by rw [ht]; exact (nI_leI (a := 20) (b := t) (by omega) (by omega)).mpr wk))
  refine lv_aload_n hx hb (fk_get fk_cX12_trace_0 7 rfl) rfl (lv_at hl 0 rfl) ?_
  refine va_get (D := G.1) (ci := 14) (v := .int ((fF S 0 40))) (C := RX12) (T := TX12) (N := 49) hx hb hT inX12 hown hK hP 0 (ix_at (by decide) (cR_0 G ad (setF S 0 8 (0)))) rfl 40 (by decide) (hT _ m5_141) (fun _ h9 => h9) rfl (fk_get fk_cX12_trace_0 8 rfl) ?_
  refine lv_goto (tgt := 23) hx hb (fk_get fk_cX12_trace_0 9 rfl) (by decide) ?_
  refine lv_istore_n (lv' := [(2, .int ((fF S 0 40))), (0, .ref (ad 0)), (1, .int (i))]) hx hb (fk_get fk_cX12_trace_0 11 rfl) rfl hl (by decide) rfl (fun ls hl => ?_)
  refine lv_iload_n hx hb (fk_get fk_cX12_trace_0 12 rfl) rfl (lv_at hl 2 rfl) ?_
  refine lv_i2l hx hb (fk_get fk_cX12_trace_0 13 rfl) rfl ?_
  refine lv_lconst (v := 0) hx hb (fk_get fk_cX12_trace_0 14 rfl) (by decide) ?_
  refine lv_iload_n hx hb (fk_get fk_cX12_trace_0 15 rfl) rfl (lv_at hl 0 rfl) ?_
  refine lv_iconst (v := 1) hx hb (fk_get fk_cX12_trace_0 16 rfl) (by decide) ?_
  refine lv_isub hx hb (fk_get fk_cX12_trace_0 17 rfl) ?_
  refine lv_i2l hx hb (fk_get fk_cX12_trace_0 18 rfl) rfl ?_
  refine vp_callSi (W.runS (As := [.long ((i).toInt64), .long (0), .long ((((fF S 0 40) - 1)).toInt64)]) (rest := []) ⟨hx, hb, hml, hown, hT⟩ (c_in l ((i).toInt64) (0) ((((fF S 0 40) - 1)).toInt64) ) (tS 3 hT m6_31 m6_32 m1_17 m6_33 rfl rfl (by decide +kernel) ⟨Nat.le_of_ble_eq_true rfl, Nat.le_of_ble_eq_true rfl⟩) ⟨PcN_blind, PcN_of _ _ _⟩ rfl rfl hl.1 rfl (lv_room (Nat.le_of_ble_eq_true rfl)) (fk_get fk_cX12_trace_0 19 rfl) ⟨Nat.zero_le _, Nat.zero_le _⟩) (fun r_5 hw_6 => ?_)
  try dsimp only at hw_6
  have hw_6 := in_eq hw_6 (i) 0 (((fF S 0 40) - 1)) (rfl) (by decide) (rfl)
  refine lv_if_eq (tgt := 46) hx hb (fk_get fk_cX12_trace_0 20 rfl) (by decide) (fun c_7 => ?_) (fun c_7 => ?_)
  · have p_c_7 := if1_f hw_6 c_7
    have hbad : i < 0 ∨ 20 ≤ i ∨ nI t ≤ i := by
      first
      | exact (rng_o (t := 20) p_c_7 rfl (by omega)).imp id Or.inl
      | exact (rng_o p_c_7 ht ht9).imp id Or.inr
    refine lv_iconst (v := (-1)) hx hb (fk_get fk_cX12_trace_0 26 rfl) (by decide) ?_
    subst hQ
    have hpost : ((((-1) : Int32) = -1 ∧ (i < 0 ∨ 20 ≤ i ∨ nI t ≤ i)) ∨ ∃ iz, iz < t ∧ iz < 20 ∧ i = nI iz ∧ ((-1) : Int32) = fA S 17 iz) ∧ (setF S 0 8 (0)) = (setF S 0 8 0) := by
      first | exact ⟨Or.inl ⟨rfl, hbad⟩, rfl⟩ | exact ⟨Or.inr ⟨_, hit, hi20, ei, rfl⟩, rfl⟩
    exact W.iret (v := (-1)) hx hb hr (fun t_ ht_ hW_ => ⟨⟨(-1), (setF S 0 8 (0)), rfl, hpost, by rw [ht_]; exact hP, va_K.moved hW_.alike hK, hD⟩, hS.F ht_⟩) hS.2.2 (fk_get fk_cX12_trace_0 27 rfl)
  have p_c_7 := if1_t hw_6 c_7
  obtain ⟨hi20, ei⟩ : i.toNatClampNeg < 20 ∧ i = nI i.toNatClampNeg := by
    first
    | exact tr_a p_c_7
    | exact tr_b p_c_7 ht hlt
  have hit : i.toNatClampNeg < t := by first | exact (rng_n p_c_7 ht ht9).1 | omega
  refine lv_aload_n hx hb (fk_get fk_cX12_trace_0 21 rfl) rfl (lv_at hl 1 rfl) ?_
  refine va_get (D := G.1) (ci := 14) (v := .ref (ad 17)) (C := RX12) (T := TX12) (N := 49) hx hb hT inX12 hown hK hP 0 (ix_at (by decide) (cR_0 G ad (setF S 0 8 (0)))) rfl 39 (by decide) (hT _ m5_140) (fun _ h9 => h9) rfl (fk_get fk_cX12_trace_0 22 rfl) ?_
  refine lv_iload_n hx hb (fk_get fk_cX12_trace_0 23 rfl) rfl (lv_at hl 2 rfl) ?_
  refine r_iald (f := fA S 17) hx hb hK hP 17 0 (ix_at (by decide) (cR_trail G ad (setF S 0 8 (0)))) rfl (i.toNatClampNeg) (ei) (by omega) (by decide) (fk_get fk_cX12_trace_0 24 rfl) ?_
  refine lv_goto (tgt := 47) hx hb (fk_get fk_cX12_trace_0 25 rfl) (by decide) ?_
  subst hQ
  have hpost : ((((fA S 17 (i.toNatClampNeg)) : Int32) = -1 ∧ (i < 0 ∨ 20 ≤ i ∨ nI t ≤ i)) ∨ ∃ iz, iz < t ∧ iz < 20 ∧ i = nI iz ∧ ((fA S 17 (i.toNatClampNeg)) : Int32) = fA S 17 iz) ∧ (setF S 0 8 (0)) = (setF S 0 8 0) := by
    first | exact ⟨Or.inl ⟨rfl, hbad⟩, rfl⟩ | exact ⟨Or.inr ⟨_, hit, hi20, ei, rfl⟩, rfl⟩
  exact W.iret (v := (fA S 17 (i.toNatClampNeg))) hx hb hr (fun t_ ht_ hW_ => ⟨⟨(fA S 17 (i.toNatClampNeg)), (setF S 0 8 (0)), rfl, hpost, by rw [ht_]; exact hP, va_K.moved hW_.alike hK, hD⟩, hS.F ht_⟩) hS.2.2 (fk_get fk_cX12_trace_0 27 rfl)
