theorem c_saturdaysOnXE (l : Launch) (G : GG) (ad : Nat → Nat) (S : FS) (sz : Nat) (z : Nat) (τ : Nat → Int32) (C : ClU) (n bb wk : Nat) (hn : fF S 0 1 = nI n) (hn6 : n ≤ 6) (hHOK : HOK S) (hHX : HOX S z τ C) (hSV : SV bb S) (hB : bb < 800000) (hw40 : wk ≤ 40) (n_ : Int32) (ew : n_ = nI wk) : Met l yX12_saturdaysOn (Cond.code yX12_saturdaysOn cX12_saturdaysOn 3 none :: TBL) ({ frames := 9, cells := 0, slots := 0, locals := 255 } : Room) (PcW G (wR G ad S) sz [.ref (ad 0), .int (n_)]) (va_Qv (fun (S' : FS) => MO S S' ∧ SV (bb + wk) S' ∧ (fF S 0 15 = 0 → bb ≤ 9999 → wk ≤ 1 → SV 9999 S') ∧ cutF n (gR S') = stF (fF S 0 15) (fF S 0 2) (lstW 3 1 C) τ C n wk (cutF n (gR S)) ∧ fF S' 0 36 = bsF (fF S 0 15) (fF S 0 2) (lstW 3 1 C) τ C n wk (cutF n (gR S)) ∧ fF S' 0 37 = ksF (fF S 0 15) (fF S 0 2) (lstW 3 1 C) τ C n wk (cutF n (gR S)) ∧ fF S' 0 38 = nI (vsF (fF S 0 15) (fF S 0 2) (lstW 3 1 C) τ C n wk (cutF n (gR S)))) (fun S' t => BW G (va_A (wR G ad S) sz) (wR G ad S') t) (va_A (wR G ad S) sz)) 0 0 (va_A (wR G ad S) sz) := by
  subst ew
  exact c_saturdaysOnX l G ad S sz z τ C n bb wk hn hn6 hHOK hHX hSV hB hw40
theorem c_buysInXE (l : Launch) (G : GG) (ad : Nat → Nat) (S : FS) (sz : Nat) (z : Nat) (τ : Nat → Int32) (C : ClU) (c : Int32) (j bb wk : Nat) (hHOK : HOK S) (hHX : HOX S z τ C) (hSV : SV bb S) (hB : bb < 900000) (ej : c = nI j) (hj : j < 6) (hw40 : wk ≤ 40) (n_ : Int32) (ew : n_ = nI wk) : Met l yX12_buysIn (Cond.code yX12_buysIn cX12_buysIn 5 (some .int) :: TBL) ({ frames := 8, cells := 0, slots := 0, locals := 230 } : Room) (PcW G (wR G ad S) sz [.ref (ad 0), .int (c), .int (n_)]) (va_Qi (fun (r : Int32) (S' : FS) => MO S S' ∧ SV (bb + wk) S' ∧ (r, gR S' j) = alN (fF S 0 15) (fF S 0 2) (lstW 3 1 C) τ C c (wk) (gR S j) ∧ ∀ d, ¬ d = j → gR S' d = gR S d) (fun S' t => BW G (va_A (wR G ad S) sz) (wR G ad S') t) (va_A (wR G ad S) sz)) 0 0 (va_A (wR G ad S) sz) := by
  subst ew
  exact c_buysInX l G ad S sz z τ C c j bb wk hHOK hHX hSV hB ej hj hw40
set_option maxHeartbeats 800000 in
set_option maxRecDepth 100000 in
theorem c_openX (l : Launch) (G : GG) (ad : Nat → Nat) (S : FS) (sz : Nat) (b9 : Nat) (hSV : SV b9 S) : Met l yX12_open (Cond.code yX12_open cX12_open 1 none :: TBL) ({ frames := 4, cells := 0, slots := 0, locals := 116 } : Room) (PcW G (wR G ad S) sz [.ref (ad 0)]) (va_Qv (fun (S' : FS) => MI S S' b9 ∧ (∀ d, d < 6 → gR S' d = gR S d) ∧ fF S' 0 2 = fF S 0 2) (fun S' t => BW G (va_A (wR G ad S) sz) (wR G ad S') t) (va_A (wR G ad S) sz)) 0 0 (va_A (wR G ad S) sz) := by
  refine Met.ofW (cc := cX12_open) (maxL := 1) (ret := none) (by decide) rfl ?_
  intro p e s m args below meth c₀ s₁ B hml hv
  obtain ⟨rfl, hsz, hP, hK, hD0⟩ := hv
  have hx := B.exec
  have hb := B.bytes
  have hr := B.returns
  have hT : ∀ w ∈ TBL, w.before ([.ref (ad 0)] : List Value).toArray s = true := fun w h => atoms_spec (ws := Cond.code yX12_open cX12_open 1 none :: TBL) B.pre w (List.mem_cons_of_mem _ h)
  have hown : s.vm.findClass "LittleMoreModel" = some m.cls := findClass_of_methodNamed B.named
  have hlocks := B.notSynchronized
  subst hsz
  have hD := hD0.self (sz := s.heap.size)
  generalize hAe : va_A (wR G ad S) s.heap.size = A at hD ⊢
  have hA : ∀ q : Nat, s.heap.size ≤ q → A q := fun q h => by rw [← hAe]; exact Or.inr h
  have hS : va_S A s.heap s.heap [] := va_S.rf
  have hP : va_P G.1 vwCl (wR G ad S) s.heap := hP
  have hl := lv_entry ([.ref (ad 0)]) (n := 1) (Nat.le_of_ble_eq_true rfl)
  rw [lg_entry_eq]
  generalize (lg_sl ([.ref (ad 0)]) ++ List.replicate (1 - (lg_sl ([.ref (ad 0)])).length) Slot.unset).toArray = ls at hl ⊢
  have hl : lv_has ls 1 [(0, .ref (ad 0))] := hl
  refine W_abs (fun Q hQ => ?_)
  generalize ([.ref (ad 0)] : List Value).toArray = args at hT hQ ⊢
  refine lv_aload_n hx hb (fk_get fk_cX12_open_0 0 rfl) rfl (lv_at hl 0 rfl) ?_
  refine lv_iconst (v := 1) hx hb (fk_get fk_cX12_open_0 1 rfl) (by decide) ?_
  refine va_put (D := G.1) (ci := 14) (v := .int (1)) (ty := .boolean) (C := RX12) (T := TX12) (N := 49) hx hb hT inX12 tyX12 tyX12_ok nmX12 hown hK hP hD hS 0 (ix_at (by decide) (cR_0 G ad S)) rfl 15 (by decide) (hT _ m5_116) (fun _ h9 => h9) rfl (by decide +kernel) rfl rfl (Nat.le_of_ble_eq_true rfl) (fk_get fk_cX12_open_0 2 rfl) (fun H locs hP hD hS => ?_)
  rw [pR_isMind G ad S (1)] at hP hD
  refine lv_aload_n hx hb (fk_get fk_cX12_open_0 3 rfl) rfl (lv_at hl 0 rfl) ?_
  refine lv_aload_n hx hb (fk_get fk_cX12_open_0 4 rfl) rfl (lv_at hl 0 rfl) ?_
  refine va_get (D := G.1) (ci := 14) (v := .ref (ad 4)) (C := RX12) (T := TX12) (N := 49) hx hb hT inX12 hown hK hP 0 (ix_at (by decide) (cR_0 G ad (setF S 0 15 (1)))) rfl 9 (by decide) (hT _ m5_110) (fun _ h9 => h9) rfl (fk_get fk_cX12_open_0 5 rfl) ?_
  refine lv_iconst (v := 1) hx hb (fk_get fk_cX12_open_0 6 rfl) (by decide) ?_
  have hFc := va_self hD hS hA
  refine va_callv (va_runV (As := [.ref (ad 4), .int (1)]) (rest := []) ⟨hx, hb, hml, hown, hT⟩ (c_carryAll l G ad (setF S 0 15 (1)) H.size (4) (vec (setF S 0 15 1)) (1) (by decide) (Or.inl ⟨rfl, fun _ => rfl⟩)) (tV 2 hT m6_14 m6_16 mp_18 m1_17 m6_17 rfl rfl (by decide +kernel) ⟨Nat.le_of_ble_eq_true rfl, Nat.le_of_ble_eq_true rfl⟩) ⟨PcW_blind, va_recv hK hP (ci := 14) (q0 := 0) rfl (ix_at (by decide) (cR_0 G ad (setF S 0 15 (1)))), PcW_of hP hK hD _⟩ rfl rfl hl.1 rfl (lv_room (Nat.le_of_ble_eq_true rfl)) (fk_get fk_cX12_open_0 7 rfl) ⟨Nat.zero_le _, Nat.zero_le _⟩) hS (fun q _ h => hFc q h) hFc (fun S_3 t_ H locs ht_ hvm_ hw_2 hB_ hz_ hk_ hS => ?_)
  obtain ⟨hP, -, hD1_⟩ := hB_
  rw [ht_] at hP
  have hD : va_D A (wR G ad S_3) := hD1_.weaken (fun k q _ h => hFc q.1 h)
  try dsimp only at hw_2
  have hCA := hw_2
  subst hQ
  have hpost : MI S S_3 b9 ∧ (∀ d, d < 6 → gR S_3 d = gR S d) ∧ fF S_3 0 2 = fF S 0 2 := by
    exact ⟨MI_open hCA hSV, (gr_open hCA).1, (gr_open hCA).2⟩
  exact W.vret hx hb hr (fun t_ ht_ hW_ => ⟨⟨S_3, rfl, hpost, by rw [ht_]; exact hP, va_K.moved hW_.alike hK, hD⟩, hS.F ht_⟩) hS.2.2 (fk_get fk_cX12_open_0 8 rfl)
set_option maxHeartbeats 800000 in
set_option maxRecDepth 100000 in
theorem c_againX (l : Launch) (G : GG) (ad : Nat → Nat) (S : FS) (sz : Nat) (S0 : FS) (b8 b9 : Nat) (hMI : MI S0 S b8) (hSV : SV b9 S0) : Met l yX12_again (Cond.code yX12_again cX12_again 1 none :: TBL) ({ frames := 4, cells := 0, slots := 0, locals := 116 } : Room) (PcW G (wR G ad S) sz [.ref (ad 0)]) (va_Qv (fun (S' : FS) => MI S0 S' b9 ∧ (∀ d, d < 6 → gR S' d = gR S0 d) ∧ fF S' 0 2 = fF S0 0 2) (fun S' t => BW G (va_A (wR G ad S) sz) (wR G ad S') t) (va_A (wR G ad S) sz)) 0 0 (va_A (wR G ad S) sz) := by
  refine Met.ofW (cc := cX12_again) (maxL := 1) (ret := none) (by decide) rfl ?_
  intro p e s m args below meth c₀ s₁ B hml hv
  obtain ⟨rfl, hsz, hP, hK, hD0⟩ := hv
  have hx := B.exec
  have hb := B.bytes
  have hr := B.returns
  have hT : ∀ w ∈ TBL, w.before ([.ref (ad 0)] : List Value).toArray s = true := fun w h => atoms_spec (ws := Cond.code yX12_again cX12_again 1 none :: TBL) B.pre w (List.mem_cons_of_mem _ h)
  have hown : s.vm.findClass "LittleMoreModel" = some m.cls := findClass_of_methodNamed B.named
  have hlocks := B.notSynchronized
  subst hsz
  have hD := hD0.self (sz := s.heap.size)
  generalize hAe : va_A (wR G ad S) s.heap.size = A at hD ⊢
  have hA : ∀ q : Nat, s.heap.size ≤ q → A q := fun q h => by rw [← hAe]; exact Or.inr h
  have hS : va_S A s.heap s.heap [] := va_S.rf
  have hP : va_P G.1 vwCl (wR G ad S) s.heap := hP
  have hl := lv_entry ([.ref (ad 0)]) (n := 1) (Nat.le_of_ble_eq_true rfl)
  rw [lg_entry_eq]
  generalize (lg_sl ([.ref (ad 0)]) ++ List.replicate (1 - (lg_sl ([.ref (ad 0)])).length) Slot.unset).toArray = ls at hl ⊢
  have hl : lv_has ls 1 [(0, .ref (ad 0))] := hl
  refine W_abs (fun Q hQ => ?_)
  generalize ([.ref (ad 0)] : List Value).toArray = args at hT hQ ⊢
  refine lv_aload_n hx hb (fk_get fk_cX12_again_0 0 rfl) rfl (lv_at hl 0 rfl) ?_
  refine lv_aload_n hx hb (fk_get fk_cX12_again_0 1 rfl) rfl (lv_at hl 0 rfl) ?_
  refine va_get (D := G.1) (ci := 14) (v := .ref (ad 4)) (C := RX12) (T := TX12) (N := 49) hx hb hT inX12 hown hK hP 0 (ix_at (by decide) (cR_0 G ad S)) rfl 9 (by decide) (hT _ m5_110) (fun _ h9 => h9) rfl (fk_get fk_cX12_again_0 2 rfl) ?_
  refine lv_iconst (v := 0) hx hb (fk_get fk_cX12_again_0 3 rfl) (by decide) ?_
  have hFc := va_self hD hS hA
  refine va_callv (va_runV (As := [.ref (ad 4), .int (0)]) (rest := []) ⟨hx, hb, hml, hown, hT⟩ (c_carryAll l G ad S s.heap.size (4) (fA S 4) (0) (by decide) (Or.inr ⟨rfl, fun _ => rfl⟩)) (tV 2 hT m6_14 m6_16 mp_18 m1_17 m6_17 rfl rfl (by decide +kernel) ⟨Nat.le_of_ble_eq_true rfl, Nat.le_of_ble_eq_true rfl⟩) ⟨PcW_blind, va_recv hK hP (ci := 14) (q0 := 0) rfl (ix_at (by decide) (cR_0 G ad S)), PcW_of hP hK hD _⟩ rfl rfl hl.1 rfl (lv_room (Nat.le_of_ble_eq_true rfl)) (fk_get fk_cX12_again_0 4 rfl) ⟨Nat.zero_le _, Nat.zero_le _⟩) hS (fun q _ h => hFc q h) hFc (fun S_3 t_ H locs ht_ hvm_ hw_2 hB_ hz_ hk_ hS => ?_)
  obtain ⟨hP, -, hD1_⟩ := hB_
  rw [ht_] at hP
  have hD : va_D A (wR G ad S_3) := hD1_.weaken (fun k q _ h => hFc q.1 h)
  try dsimp only at hw_2
  have hCA := hw_2
  subst hQ
  have hpost : MI S0 S_3 b9 ∧ (∀ d, d < 6 → gR S_3 d = gR S0 d) ∧ fF S_3 0 2 = fF S0 0 2 := by
    exact ⟨MI_again hCA hMI hSV, (gr_back hCA hMI).1, (gr_back hCA hMI).2⟩
  exact W.vret hx hb hr (fun t_ ht_ hW_ => ⟨⟨S_3, rfl, hpost, by rw [ht_]; exact hP, va_K.moved hW_.alike hK, hD⟩, hS.F ht_⟩) hS.2.2 (fk_get fk_cX12_again_0 5 rfl)
set_option maxHeartbeats 800000 in
set_option maxRecDepth 100000 in
theorem c_lostX (l : Launch) (G : GG) (ad : Nat → Nat) (S : FS) (sz : Nat) (z : Nat) (τ : Nat → Int32) (C : ClU) (n : Nat) (n_ : Int32) (hn : fF S 0 1 = nI n) (hn6 : n ≤ 6) (hHOK : HOK S) (hSV : SV 9999 S) (h15 : fF S 0 15 = 0) (hHX : HOX S z τ C) (hg01 : ∀ d, d < n → gR S d 7 = 0 ∨ gR S d 7 = 1) : Met l yX12_lost (Cond.code yX12_lost cX12_lost 3 (some .int) :: TBL) ({ frames := 10, cells := 0, slots := 0, locals := 281 } : Room) (PcW G (wR G ad S) sz [.ref (ad 0), .int (n_)]) (va_Qi (fun (r : Int32) (S' : FS) => QP (setF S 0 8 0) S' ∧ r = lostP (fF S 0 2) (lstW 3 1 C) τ C n (gR S) n_) (fun S' t => BW G (va_A (wR G ad S) sz) (wR G ad S') t) (va_A (wR G ad S) sz)) 0 0 (va_A (wR G ad S) sz) := by
  refine Met.ofW (cc := cX12_lost) (maxL := 3) (ret := (some .int)) (by decide) rfl ?_
  intro p e s m args below meth c₀ s₁ B hml hv
  obtain ⟨rfl, hsz, hP, hK, hD0⟩ := hv
  have hx := B.exec
  have hb := B.bytes
  have hr := B.returns
  have hT : ∀ w ∈ TBL, w.before ([.ref (ad 0), .int (n_)] : List Value).toArray s = true := fun w h => atoms_spec (ws := Cond.code yX12_lost cX12_lost 3 (some .int) :: TBL) B.pre w (List.mem_cons_of_mem _ h)
  have hown : s.vm.findClass "LittleMoreModel" = some m.cls := findClass_of_methodNamed B.named
  have hlocks := B.notSynchronized
  subst hsz
  have hD := hD0.self (sz := s.heap.size)
  generalize hAe : va_A (wR G ad S) s.heap.size = A at hD ⊢
  have hA : ∀ q : Nat, s.heap.size ≤ q → A q := fun q h => by rw [← hAe]; exact Or.inr h
  have hS : va_S A s.heap s.heap [] := va_S.rf
  have hP : va_P G.1 vwCl (wR G ad S) s.heap := hP
  have hl := lv_entry ([.ref (ad 0), .int (n_)]) (n := 3) (Nat.le_of_ble_eq_true rfl)
  rw [lg_entry_eq]
  generalize (lg_sl ([.ref (ad 0), .int (n_)]) ++ List.replicate (3 - (lg_sl ([.ref (ad 0), .int (n_)])).length) Slot.unset).toArray = ls at hl ⊢
  have hl : lv_has ls 3 [(0, .ref (ad 0)), (1, .int (n_))] := hl
  refine W_abs (fun Q hQ => ?_)
  generalize ([.ref (ad 0), .int (n_)] : List Value).toArray = args at hT hQ ⊢
  refine lv_aload_n hx hb (fk_get fk_cX12_lost_0 0 rfl) rfl (lv_at hl 0 rfl) ?_
  refine lv_iconst (v := 0) hx hb (fk_get fk_cX12_lost_0 1 rfl) (by decide) ?_
  refine va_put (D := G.1) (ci := 14) (v := .int (0)) (ty := .int) (C := RX12) (T := TX12) (N := 49) hx hb hT inX12 tyX12 tyX12_ok nmX12 hown hK hP hD hS 0 (ix_at (by decide) (cR_0 G ad S)) rfl 8 (by decide) (hT _ m5_109) (fun _ h9 => h9) rfl (by decide +kernel) rfl rfl (Nat.le_of_ble_eq_true rfl) (fk_get fk_cX12_lost_0 2 rfl) (fun H locs hP hD hS => ?_)
  rw [pR_thrown G ad S (0)] at hP hD
  refine lv_iload_n hx hb (fk_get fk_cX12_lost_0 3 rfl) rfl (lv_at hl 1 rfl) ?_
  refine lv_i2l hx hb (fk_get fk_cX12_lost_0 4 rfl) rfl ?_
  refine lv_lconst (v := 0) hx hb (fk_get fk_cX12_lost_0 5 rfl) (by decide) ?_
  refine lv_ldc2 (v := 40) hx hb hown (hT _ m6_217) (fk_get fk_cX12_lost_0 6 rfl) ?_
  refine vp_callSi (W.runS (As := [.long ((n_).toInt64), .long (0), .long (40)]) (rest := []) ⟨hx, hb, hml, hown, hT⟩ (c_in l ((n_).toInt64) (0) (40) ) (tS 3 hT m6_31 m6_32 m1_17 m6_33 rfl rfl (by decide +kernel) ⟨Nat.le_of_ble_eq_true rfl, Nat.le_of_ble_eq_true rfl⟩) ⟨PcN_blind, PcN_of _ _ _⟩ rfl rfl hl.1 rfl (lv_room (Nat.le_of_ble_eq_true rfl)) (fk_get fk_cX12_lost_0 7 rfl) ⟨Nat.zero_le _, Nat.zero_le _⟩) (fun r_1 hw_2 => ?_)
  try dsimp only at hw_2
  have hw_2 := in_eq hw_2 (n_) 0 40 (rfl) (by decide) (by decide)
  refine lv_if_ne (tgt := 20) hx hb (fk_get fk_cX12_lost_0 8 rfl) (by decide) (fun c_3 => ?_) (fun c_3 => ?_)
  · have p_c_3 := if1_t hw_2 c_3
    obtain ⟨hw40, ew⟩ := in_n (b := 40) p_c_3 (by decide)
    refine lv_aload_n hx hb (fk_get fk_cX12_lost_0 11 rfl) rfl (lv_at hl 0 rfl) ?_
    have hFc := va_self hD hS hA
    refine va_callv (va_runV (As := []) (rest := []) ⟨hx, hb, hml, hown, hT⟩ (c_openX l G ad (setF S 0 8 (0)) H.size (9999) (hSV)) (tV 0 hT m6_218 m6_220 mp_49 m1_17 m6_221 rfl rfl (by decide +kernel) ⟨Nat.le_of_ble_eq_true rfl, Nat.le_of_ble_eq_true rfl⟩) ⟨PcW_blind, va_recv hK hP (ci := 14) (q0 := 0) rfl (ix_at (by decide) (cR_0 G ad (setF S 0 8 (0)))), PcW_of hP hK hD _⟩ rfl rfl hl.1 rfl (lv_room (Nat.le_of_ble_eq_true rfl)) (fk_get fk_cX12_lost_0 12 rfl) ⟨Nat.zero_le _, Nat.zero_le _⟩) hS (fun q _ h => hFc q h) hFc (fun S_6 t_ H locs ht_ hvm_ hw_5 hB_ hz_ hk_ hS => ?_)
    obtain ⟨hP, -, hD1_⟩ := hB_
    rw [ht_] at hP
    have hD : va_D A (wR G ad S_6) := hD1_.weaken (fun k q _ h => hFc q.1 h)
    try dsimp only at hw_5
    obtain ⟨hI0, hg0_, ho0_⟩ := hw_5
    have hg0_ : ∀ d, d < 6 → gR S_6 d = gR S d := hg0_
    have ho0_ : fF S_6 0 2 = fF S 0 2 := ho0_
    have h10_ : fF S_6 0 15 = 1 := hI0.2.2.1
    refine lv_aload_n hx hb (fk_get fk_cX12_lost_0 13 rfl) rfl (lv_at hl 0 rfl) ?_
    refine lv_iload_n hx hb (fk_get fk_cX12_lost_0 14 rfl) rfl (lv_at hl 1 rfl) ?_
    have hFc := va_self hD hS hA
    refine va_callv (va_runV (As := [.int (n_)]) (rest := []) ⟨hx, hb, hml, hown, hT⟩ (c_saturdaysOnXE l G ad S_6 H.size (z) (τ) (C) (n) (9999) (n_.toNatClampNeg) (hI0.f (by decide) hn) (hn6) (hI0.HOK hHOK) ((HOX.MI (S := (setF S 0 8 0)) hHX hI0)) (hI0.SV) (by omega) (by omega) (n_) (ew)) (tV 1 hT m6_204 m6_206 mp_47 m1_17 m6_207 rfl rfl (by decide +kernel) ⟨Nat.le_of_ble_eq_true rfl, Nat.le_of_ble_eq_true rfl⟩) ⟨PcW_blind, va_recv hK hP (ci := 14) (q0 := 0) rfl (ix_at (by decide) (cR_0 G ad S_6)), PcW_of hP hK hD _⟩ rfl rfl hl.1 rfl (lv_room (Nat.le_of_ble_eq_true rfl)) (fk_get fk_cX12_lost_0 15 rfl) ⟨Nat.zero_le _, Nat.zero_le _⟩) hS (fun q _ h => hFc q h) hFc (fun S_9 t_ H locs ht_ hvm_ hw_8 hB_ hz_ hk_ hS => ?_)
    obtain ⟨hP, -, hD1_⟩ := hB_
    rw [ht_] at hP
    have hD : va_D A (wR G ad S_9) := hD1_.weaken (fun k q _ h => hFc q.1 h)
    try dsimp only at hw_8
    obtain ⟨hM2, hS2, -, hG2, -⟩ := hw_8
    have hI1 := hI0.M hM2 hS2
    rw [h10_, ho0_, cut_cg (n := n) (fun d hd => hg0_ d (by omega))] at hG2
    refine lv_aload_n hx hb (fk_get fk_cX12_lost_0 16 rfl) rfl (lv_at hl 0 rfl) ?_
    refine vp_callSi (W.runV (As := []) (rest := []) ⟨hx, hb, hml, hown, hT⟩ (c_goneBitsX l G ad S_9 H.size (n) (hI1.f (by decide) hn) (hn6) ((fun d hd => by rw [cut_st (X := S) (S := S) hG2 d hd]; exact st_7 _ _ (cut_7 hg01) d hd))) (tV 0 hT m6_184 m6_186 mp_44 m1_17 m6_187 rfl rfl (by decide +kernel) ⟨Nat.le_of_ble_eq_true rfl, Nat.le_of_ble_eq_true rfl⟩) ⟨PcW_blind, va_recv hK hP (ci := 14) (q0 := 0) rfl (ix_at (by decide) (cR_0 G ad S_9)), PcW_of hP hK hD _⟩ rfl rfl hl.1 rfl (lv_room (Nat.le_of_ble_eq_true rfl)) (fk_get fk_cX12_lost_0 17 rfl) ⟨Nat.zero_le _, Nat.zero_le _⟩) (fun r_10 hw_11 => ?_)
    try dsimp only at hw_11
    have hb_ := hw_11
    refine lv_istore_n (lv' := [(2, .int (r_10)), (0, .ref (ad 0)), (1, .int (n_))]) hx hb (fk_get fk_cX12_lost_0 18 rfl) rfl hl (by decide) rfl (fun ls hl => ?_)
    refine lv_aload_n hx hb (fk_get fk_cX12_lost_0 19 rfl) rfl (lv_at hl 1 rfl) ?_
    have hFc := va_self hD hS hA
    refine va_callv (va_runV (As := []) (rest := []) ⟨hx, hb, hml, hown, hT⟩ (c_close l G ad S_9 H.size ((setF S 0 8 0)) (9999 + n_.toNatClampNeg) (hI1)) (tV 0 hT m6_226 m6_228 mp_51 m1_17 m6_229 rfl rfl (by decide +kernel) ⟨Nat.le_of_ble_eq_true rfl, Nat.le_of_ble_eq_true rfl⟩) ⟨PcW_blind, va_recv hK hP (ci := 14) (q0 := 0) rfl (ix_at (by decide) (cR_0 G ad S_9)), PcW_of hP hK hD _⟩ rfl rfl hl.1 rfl (lv_room (Nat.le_of_ble_eq_true rfl)) (fk_get fk_cX12_lost_0 20 rfl) ⟨Nat.zero_le _, Nat.zero_le _⟩) hS (fun q _ h => hFc q h) hFc (fun S_14 t_ H locs ht_ hvm_ hw_13 hB_ hz_ hk_ hS => ?_)
    obtain ⟨hP, -, hD1_⟩ := hB_
    rw [ht_] at hP
    have hD : va_D A (wR G ad S_14) := hD1_.weaken (fun k q _ h => hFc q.1 h)
    try dsimp only at hw_13
    have hZq := hw_13
    refine lv_iload_n hx hb (fk_get fk_cX12_lost_0 21 rfl) rfl (lv_at hl 0 rfl) ?_
    subst hQ
    have hpost : QP (setF S 0 8 0) S_14 ∧ (r_10 : Int32) = lostP (fF S 0 2) (lstW 3 1 C) τ C n (gR S) n_ := by
      first | exact ⟨QP.rf h15, (if_neg (by assumption)).symm⟩ | exact ⟨hZq, lost_r hb_ hG2 (by assumption)⟩
    exact W.iret (v := r_10) hx hb hr (fun t_ ht_ hW_ => ⟨⟨r_10, S_14, rfl, hpost, by rw [ht_]; exact hP, va_K.moved hW_.alike hK, hD⟩, hS.F ht_⟩) hS.2.2 (fk_get fk_cX12_lost_0 22 rfl)
  have p_c_3 := if1_f hw_2 c_3
  refine lv_bipush (v := (-2)) hx hb (fk_get fk_cX12_lost_0 9 rfl) (by decide) ?_
  subst hQ
  have hpost : QP (setF S 0 8 0) (setF S 0 8 (0)) ∧ ((-2) : Int32) = lostP (fF S 0 2) (lstW 3 1 C) τ C n (gR S) n_ := by
    first | exact ⟨QP.rf h15, (if_neg (by assumption)).symm⟩ | exact ⟨hZq, lost_r hb_ hG2 (by assumption)⟩
  exact W.iret (v := (-2)) hx hb hr (fun t_ ht_ hW_ => ⟨⟨(-2), (setF S 0 8 (0)), rfl, hpost, by rw [ht_]; exact hP, va_K.moved hW_.alike hK, hD⟩, hS.F ht_⟩) hS.2.2 (fk_get fk_cX12_lost_0 10 rfl)
set_option maxHeartbeats 800000 in
set_option maxRecDepth 100000 in
theorem c_nobodyX (l : Launch) (G : GG) (ad : Nat → Nat) (S : FS) (sz : Nat) (z : Nat) (τ : Nat → Int32) (C : ClU) (n : Nat)  (hn : fF S 0 1 = nI n) (hn6 : n ≤ 6) (hHOK : HOK S) (hSV : SV 9999 S) (h15 : fF S 0 15 = 0) (hHX : HOX S z τ C) : Met l yX12_nobody (Cond.code yX12_nobody cX12_nobody 3 (some .int) :: TBL) ({ frames := 10, cells := 0, slots := 0, locals := 281 } : Room) (PcW G (wR G ad S) sz [.ref (ad 0)]) (va_Qi (fun (r : Int32) (S' : FS) => QP (setF S 0 8 0) S' ∧ r = (nobP (fF S 0 2) (lstW 3 1 C) τ C n (gR S))) (fun S' t => BW G (va_A (wR G ad S) sz) (wR G ad S') t) (va_A (wR G ad S) sz)) 0 0 (va_A (wR G ad S) sz) := by
  refine Met.ofW (cc := cX12_nobody) (maxL := 3) (ret := (some .int)) (by decide) rfl ?_
  intro p e s m args below meth c₀ s₁ B hml hv
  obtain ⟨rfl, hsz, hP, hK, hD0⟩ := hv
  have hx := B.exec
  have hb := B.bytes
  have hr := B.returns
  have hT : ∀ w ∈ TBL, w.before ([.ref (ad 0)] : List Value).toArray s = true := fun w h => atoms_spec (ws := Cond.code yX12_nobody cX12_nobody 3 (some .int) :: TBL) B.pre w (List.mem_cons_of_mem _ h)
  have hown : s.vm.findClass "LittleMoreModel" = some m.cls := findClass_of_methodNamed B.named
  have hlocks := B.notSynchronized
  subst hsz
  have hD := hD0.self (sz := s.heap.size)
  generalize hAe : va_A (wR G ad S) s.heap.size = A at hD ⊢
  have hA : ∀ q : Nat, s.heap.size ≤ q → A q := fun q h => by rw [← hAe]; exact Or.inr h
  have hS : va_S A s.heap s.heap [] := va_S.rf
  have hP : va_P G.1 vwCl (wR G ad S) s.heap := hP
  have hl := lv_entry ([.ref (ad 0)]) (n := 3) (Nat.le_of_ble_eq_true rfl)
  rw [lg_entry_eq]
  generalize (lg_sl ([.ref (ad 0)]) ++ List.replicate (3 - (lg_sl ([.ref (ad 0)])).length) Slot.unset).toArray = ls at hl ⊢
  have hl : lv_has ls 3 [(0, .ref (ad 0))] := hl
  refine W_abs (fun Q hQ => ?_)
  generalize ([.ref (ad 0)] : List Value).toArray = args at hT hQ ⊢
  refine lv_aload_n hx hb (fk_get fk_cX12_nobody_0 0 rfl) rfl (lv_at hl 0 rfl) ?_
  refine lv_iconst (v := 0) hx hb (fk_get fk_cX12_nobody_0 1 rfl) (by decide) ?_
  refine va_put (D := G.1) (ci := 14) (v := .int (0)) (ty := .int) (C := RX12) (T := TX12) (N := 49) hx hb hT inX12 tyX12 tyX12_ok nmX12 hown hK hP hD hS 0 (ix_at (by decide) (cR_0 G ad S)) rfl 8 (by decide) (hT _ m5_109) (fun _ h9 => h9) rfl (by decide +kernel) rfl rfl (Nat.le_of_ble_eq_true rfl) (fk_get fk_cX12_nobody_0 2 rfl) (fun H locs hP hD hS => ?_)
  rw [pR_thrown G ad S (0)] at hP hD
  refine lv_bipush (v := (-5)) hx hb (fk_get fk_cX12_nobody_0 3 rfl) (by decide) ?_
  refine lv_istore_n (lv' := [(1, .int ((-5))), (0, .ref (ad 0))]) hx hb (fk_get fk_cX12_nobody_0 4 rfl) rfl hl (by decide) rfl (fun ls hl => ?_)
  refine lv_aload_n hx hb (fk_get fk_cX12_nobody_0 5 rfl) rfl (lv_at hl 1 rfl) ?_
  have hFc := va_self hD hS hA
  refine va_callv (va_runV (As := []) (rest := []) ⟨hx, hb, hml, hown, hT⟩ (c_openX l G ad (setF S 0 8 (0)) H.size (9999) (hSV)) (tV 0 hT m6_218 m6_220 mp_49 m1_17 m6_221 rfl rfl (by decide +kernel) ⟨Nat.le_of_ble_eq_true rfl, Nat.le_of_ble_eq_true rfl⟩) ⟨PcW_blind, va_recv hK hP (ci := 14) (q0 := 0) rfl (ix_at (by decide) (cR_0 G ad (setF S 0 8 (0)))), PcW_of hP hK hD _⟩ rfl rfl hl.1 rfl (lv_room (Nat.le_of_ble_eq_true rfl)) (fk_get fk_cX12_nobody_0 6 rfl) ⟨Nat.zero_le _, Nat.zero_le _⟩) hS (fun q _ h => hFc q h) hFc (fun S_3 t_ H locs ht_ hvm_ hw_2 hB_ hz_ hk_ hS => ?_)
  obtain ⟨hP, -, hD1_⟩ := hB_
  rw [ht_] at hP
  have hD : va_D A (wR G ad S_3) := hD1_.weaken (fun k q _ h => hFc q.1 h)
  try dsimp only at hw_2
  obtain ⟨hI0, hg0_, ho0_⟩ := hw_2
  have hg0_ : ∀ d, d < 6 → gR S_3 d = gR S d := hg0_
  have ho0_ : fF S_3 0 2 = fF S 0 2 := ho0_
  have h10_ : fF S_3 0 15 = 1 := hI0.2.2.1
  refine lv_iconst (v := 0) hx hb (fk_get fk_cX12_nobody_0 7 rfl) (by decide) ?_
  refine lv_istore_n (lv' := [(2, .int (0)), (1, .int ((-5))), (0, .ref (ad 0))]) hx hb (fk_get fk_cX12_nobody_0 8 rfl) rfl hl (by decide) rfl (fun ls hl => ?_)
  have lp_4 : ∀ (fu : Nat) (k : Nat) (v1 : Int32) (SL : FS) (H_6 : Heap) (locs_7 : List Loc) (ls : Array Slot),  (k ≤ 41) → (41 < k + fu) → (MI (setF S 0 8 0) SL (9999 + k)) → (fF SL 0 2 = fF S 0 2) → (NBI (fF S 0 2) (lstW 3 1 C) τ C n k (cutF n (gR SL)) (nobP (fF S 0 2) (lstW 3 1 C) τ C n (gR S)) v1) → va_P G.1 vwCl (wR G ad SL) H_6 → va_D A (wR G ad SL) → va_S A s.heap H_6 locs_7 → lv_has ls 3 [(2, .int ((nI k))), (1, .int (v1)), (0, .ref (ad 0))] → W p l e ({ frames := 10, cells := 0, slots := 0, locals := 281 } : Room) s m args below meth c₀ H_6 locs_7 0 0 Q (F0 m 14 ls []) := by
    intro fu
    induction fu with
    | zero =>
      intro k v1 SL H_6 locs_7 ls hk hf hI hO hN hP hD hS hl
      exact absurd hf (by omega)
    | succ fu ih =>
      intro k v1 SL H_6 locs_7 ls hk hf hI hO hN hP hD hS hl
      refine lv_iload_n hx hb (fk_get fk_cX12_nobody_0 9 rfl) rfl (lv_at hl 0 rfl) ?_
      refine lv_bipush (v := 40) hx hb (fk_get fk_cX12_nobody_0 10 rfl) (by decide) ?_
      refine lv_icmp_gt (tgt := 49) hx hb (fk_get fk_cX12_nobody_0 11 rfl) (by decide) (fun c_8 => ?_) (fun c_8 => ?_)
      · have hend_ : 41 ≤ k ∨ ¬ v1 < 0 := Or.inl (by have z_ := (nI_ltI (a := 40) (b := k) (by omega) (by omega)).mp c_8; omega)
        refine lv_aload_n hx hb (fk_get fk_cX12_nobody_0 26 rfl) rfl (lv_at hl 2 rfl) ?_
        have hFc := va_self hD hS hA
        refine va_callv (va_runV (As := []) (rest := []) ⟨hx, hb, hml, hown, hT⟩ (c_close l G ad SL H_6.size ((setF S 0 8 0)) (9999 + k) (hI)) (tV 0 hT m6_226 m6_228 mp_51 m1_17 m6_229 rfl rfl (by decide +kernel) ⟨Nat.le_of_ble_eq_true rfl, Nat.le_of_ble_eq_true rfl⟩) ⟨PcW_blind, va_recv hK hP (ci := 14) (q0 := 0) rfl (ix_at (by decide) (cR_0 G ad SL)), PcW_of hP hK hD _⟩ rfl rfl hl.1 rfl (lv_room (Nat.le_of_ble_eq_true rfl)) (fk_get fk_cX12_nobody_0 27 rfl) ⟨Nat.zero_le _, Nat.zero_le _⟩) hS (fun q _ h => hFc q h) hFc (fun S_11 t_ H locs ht_ hvm_ hw_10 hB_ hz_ hk_ hS => ?_)
        obtain ⟨hP, -, hD1_⟩ := hB_
        rw [ht_] at hP
        have hD : va_D A (wR G ad S_11) := hD1_.weaken (fun k q _ h => hFc q.1 h)
        try dsimp only at hw_10
        have hZq := hw_10
        refine lv_iload_n hx hb (fk_get fk_cX12_nobody_0 28 rfl) rfl (lv_at hl 1 rfl) ?_
        subst hQ
        have hpost : QP (setF S 0 8 0) S_11 ∧ (v1 : Int32) = (nobP (fF S 0 2) (lstW 3 1 C) τ C n (gR S)) := by
          exact ⟨hZq, nbi_e hN hend_⟩
        exact W.iret (v := v1) hx hb hr (fun t_ ht_ hW_ => ⟨⟨v1, S_11, rfl, hpost, by rw [ht_]; exact hP, va_K.moved hW_.alike hK, hD⟩, hS.F ht_⟩) hS.2.2 (fk_get fk_cX12_nobody_0 29 rfl)
      have hlt : k ≤ 40 := (nI_leI (a := k) (b := 40) (by omega) (by omega)).mp (Int32.not_lt.mp c_8)
      refine lv_iload_n hx hb (fk_get fk_cX12_nobody_0 12 rfl) rfl (lv_at hl 1 rfl) ?_
      refine lv_if_ge (tgt := 49) hx hb (fk_get fk_cX12_nobody_0 13 rfl) (by decide) (fun c_12 => ?_) (fun c_12 => ?_)
      · have hend_ : 41 ≤ k ∨ ¬ v1 < 0 := Or.inr (by first | exact c_12 | exact Int32.not_lt.mpr c_12)
        refine lv_aload_n hx hb (fk_get fk_cX12_nobody_0 26 rfl) rfl (lv_at hl 2 rfl) ?_
        have hFc := va_self hD hS hA
        refine va_callv (va_runV (As := []) (rest := []) ⟨hx, hb, hml, hown, hT⟩ (c_close l G ad SL H_6.size ((setF S 0 8 0)) (9999 + k) (hI)) (tV 0 hT m6_226 m6_228 mp_51 m1_17 m6_229 rfl rfl (by decide +kernel) ⟨Nat.le_of_ble_eq_true rfl, Nat.le_of_ble_eq_true rfl⟩) ⟨PcW_blind, va_recv hK hP (ci := 14) (q0 := 0) rfl (ix_at (by decide) (cR_0 G ad SL)), PcW_of hP hK hD _⟩ rfl rfl hl.1 rfl (lv_room (Nat.le_of_ble_eq_true rfl)) (fk_get fk_cX12_nobody_0 27 rfl) ⟨Nat.zero_le _, Nat.zero_le _⟩) hS (fun q _ h => hFc q h) hFc (fun S_15 t_ H locs ht_ hvm_ hw_14 hB_ hz_ hk_ hS => ?_)
        obtain ⟨hP, -, hD1_⟩ := hB_
        rw [ht_] at hP
        have hD : va_D A (wR G ad S_15) := hD1_.weaken (fun k q _ h => hFc q.1 h)
        try dsimp only at hw_14
        have hZq := hw_14
        refine lv_iload_n hx hb (fk_get fk_cX12_nobody_0 28 rfl) rfl (lv_at hl 1 rfl) ?_
        subst hQ
        have hpost : QP (setF S 0 8 0) S_15 ∧ (v1 : Int32) = (nobP (fF S 0 2) (lstW 3 1 C) τ C n (gR S)) := by
          exact ⟨hZq, nbi_e hN hend_⟩
        exact W.iret (v := v1) hx hb hr (fun t_ ht_ hW_ => ⟨⟨v1, S_15, rfl, hpost, by rw [ht_]; exact hP, va_K.moved hW_.alike hK, hD⟩, hS.F ht_⟩) hS.2.2 (fk_get fk_cX12_nobody_0 29 rfl)
      have hneg_ : v1 < 0 := by first | exact c_12 | exact Int32.not_le.mp c_12 | exact Decidable.not_not.mp c_12
      refine lv_aload_n hx hb (fk_get fk_cX12_nobody_0 14 rfl) rfl (lv_at hl 2 rfl) ?_
      have hFc := va_self hD hS hA
      refine va_calli (va_runV (As := []) (rest := []) ⟨hx, hb, hml, hown, hT⟩ (c_nobodySaysNoX l G ad SL H_6.size (z) (τ) (C) (n) (hI.f (by decide) hn) (hn6) (hI.HOK hHOK) ((HOX.MI (S := (setF S 0 8 0)) hHX hI))) (tV 0 hT m7_13 m7_15 mp_53 m1_17 m7_16 rfl rfl (by decide +kernel) ⟨Nat.le_of_ble_eq_true rfl, Nat.le_of_ble_eq_true rfl⟩) ⟨PcW_blind, va_recv hK hP (ci := 14) (q0 := 0) rfl (ix_at (by decide) (cR_0 G ad SL)), PcW_of hP hK hD _⟩ rfl rfl hl.1 rfl (lv_room (Nat.le_of_ble_eq_true rfl)) (fk_get fk_cX12_nobody_0 15 rfl) ⟨Nat.zero_le _, Nat.zero_le _⟩) hS (fun q _ h => hFc q h) hFc (fun r_16 S_18 t_ H locs ht_ hvm_ hw_17 hB_ hz_ hk_ hS => ?_)
      obtain ⟨hP, -, hD1_⟩ := hB_
      rw [ht_] at hP
      have hD : va_D A (wR G ad S_18) := hD1_.weaken (fun k q _ h => hFc q.1 h)
      try dsimp only at hw_17
      obtain ⟨hH1, hno_⟩ := hw_17
      rw [hO] at hno_
      have hI1 := hI.M hH1.M (hI.SV.H hH1)
      have hgs_ : gR S_18 = gR SL := funext (fun d => gR_H hH1 d)
      have hos_ : fF S_18 0 2 = fF S 0 2 := (hH1.2.2.1 2).trans hO
      have jn_19 : ∀ (v7 : Int32) (ls : Array Slot),  ((v7 = nI k ∧ rfN (fF S 0 2) τ C (gR SL) n = 0) ∨ (v7 = -5 ∧ ¬ rfN (fF S 0 2) τ C (gR SL) n = 0)) → lv_has ls 3 [(2, .int ((nI k))), (1, .int (v1)), (0, .ref (ad 0))] → W p l e ({ frames := 10, cells := 0, slots := 0, locals := 281 } : Room) s m args below meth c₀ H locs 0 0 Q (F0 m 37 ls [.int (v7)]) := by
        intro v7 ls hv7 hl
        refine lv_istore_n (lv' := [(1, .int (v7)), (2, .int ((nI k))), (0, .ref (ad 0))]) hx hb (fk_get fk_cX12_nobody_0 20 rfl) rfl hl (by decide) rfl (fun ls hl => ?_)
        refine lv_aload_n hx hb (fk_get fk_cX12_nobody_0 21 rfl) rfl (lv_at hl 2 rfl) ?_
        refine lv_iconst (v := 1) hx hb (fk_get fk_cX12_nobody_0 22 rfl) (by decide) ?_
        have hFc := va_self hD hS hA
        refine va_callv (va_runV (As := [.int (1)]) (rest := []) ⟨hx, hb, hml, hown, hT⟩ (c_saturdaysOnXE l G ad S_18 H.size (z) (τ) (C) (n) (9999 + k) (1) (hI1.f (by decide) hn) (hn6) (hI1.HOK hHOK) ((HOX.MI (S := (setF S 0 8 0)) hHX hI1)) (hI1.SV) (by omega) (by omega) (1) (rfl)) (tV 1 hT m6_204 m6_206 mp_47 m1_17 m6_207 rfl rfl (by decide +kernel) ⟨Nat.le_of_ble_eq_true rfl, Nat.le_of_ble_eq_true rfl⟩) ⟨PcW_blind, va_recv hK hP (ci := 14) (q0 := 0) rfl (ix_at (by decide) (cR_0 G ad S_18)), PcW_of hP hK hD _⟩ rfl rfl hl.1 rfl (lv_room (Nat.le_of_ble_eq_true rfl)) (fk_get fk_cX12_nobody_0 23 rfl) ⟨Nat.zero_le _, Nat.zero_le _⟩) hS (fun q _ h => hFc q h) hFc (fun S_22 t_ H locs ht_ hvm_ hw_21 hB_ hz_ hk_ hS => ?_)
        obtain ⟨hP, -, hD1_⟩ := hB_
        rw [ht_] at hP
        have hD : va_D A (wR G ad S_22) := hD1_.weaken (fun k q _ h => hFc q.1 h)
        try dsimp only at hw_21
        obtain ⟨hM2, hS2, -, hG2, -⟩ := hw_21
        have hI2 := hI1.M hM2 hS2
        have hO2 := hM2.2.2.1 2 (by omega) (by omega) (by omega) (by omega) (by omega) (by omega)
        rw [hI1.2.2.1, hos_, hgs_] at hG2
        refine lv_iinc (v := (nI (k + 1))) (lv' := [(2, .int ((nI (k + 1)))), (1, .int (v7)), (0, .ref (ad 0))]) hx hb (fk_get fk_cX12_nobody_0 24 rfl) hl (k := 1) rfl ((nI_1 k)) (by decide) rfl (fun ls hl => ?_)
        refine lv_goto (tgt := 14) hx hb (fk_get fk_cX12_nobody_0 25 rfl) (by decide) ?_
        exact ih (k + 1) (v7) (S_22) _ _ ls (by omega) (by omega) (hI2) (hO2.trans hos_) (nbi_s hN (by omega) hneg_ hv7 hG2) hP hD hS (lv_sub hl [0, 1, 2] rfl)
      refine lv_if_eq (tgt := 35) hx hb (fk_get fk_cX12_nobody_0 16 rfl) (by decide) (fun c_23 => ?_) (fun c_23 => ?_)
      · refine lv_bipush (v := (-5)) hx hb (fk_get fk_cX12_nobody_0 19 rfl) (by decide) ?_
        exact jn_19 (((-5))) ls ((by first | exact Or.inl ⟨rfl, no_t hno_ (by assumption)⟩ | exact Or.inr ⟨rfl, no_f hno_ (by assumption)⟩)) (lv_sub hl [0, 1, 2] rfl)
      refine lv_iload_n hx hb (fk_get fk_cX12_nobody_0 17 rfl) rfl (lv_at hl 0 rfl) ?_
      refine lv_goto (tgt := 37) hx hb (fk_get fk_cX12_nobody_0 18 rfl) (by decide) ?_
      exact jn_19 (((nI k))) ls ((by first | exact Or.inl ⟨rfl, no_t hno_ (by assumption)⟩ | exact Or.inr ⟨rfl, no_f hno_ (by assumption)⟩)) (lv_sub hl [0, 1, 2] rfl)
  exact lp_4 (42) (0) ((-5)) (S_3) _ _ ls (by omega) (by omega) (hI0) (ho0_) (Or.inl ⟨rfl, by rw [cut_cg (n := n) (fun d hd => hg0_ d (by omega))]; rfl⟩) hP hD hS (lv_sub hl [0, 1, 2] rfl)
set_option maxHeartbeats 800000 in
set_option maxRecDepth 100000 in
theorem c_learntX (l : Launch) (G : GG) (ad : Nat → Nat) (S : FS) (sz : Nat) (z : Nat) (τ : Nat → Int32) (C : ClU) (n : Nat) (c n_ : Int32) (hn : fF S 0 1 = nI n) (hn6 : n ≤ 6) (hHOK : HOK S) (hSV : SV 9999 S) (h15 : fF S 0 15 = 0) (hHX : HOX S z τ C) : Met l yX12_learnt (Cond.code yX12_learnt cX12_learnt 6 (some .int) :: TBL) ({ frames := 8, cells := 0, slots := 0, locals := 230 } : Room) (PcW G (wR G ad S) sz [.ref (ad 0), .int (c), .int (n_)]) (va_Qi (fun (r : Int32) (S' : FS) => QP (setF S 0 8 0) S' ∧ r = leaP (fF S 0 2) (lstW 3 1 C) τ C n (gR S) c n_) (fun S' t => BW G (va_A (wR G ad S) sz) (wR G ad S') t) (va_A (wR G ad S) sz)) 0 0 (va_A (wR G ad S) sz) := by
  refine Met.ofW (cc := cX12_learnt) (maxL := 6) (ret := (some .int)) (by decide) rfl ?_
  intro p e s m args below meth c₀ s₁ B hml hv
  obtain ⟨rfl, hsz, hP, hK, hD0⟩ := hv
  have hx := B.exec
  have hb := B.bytes
  have hr := B.returns
  have hT : ∀ w ∈ TBL, w.before ([.ref (ad 0), .int (c), .int (n_)] : List Value).toArray s = true := fun w h => atoms_spec (ws := Cond.code yX12_learnt cX12_learnt 6 (some .int) :: TBL) B.pre w (List.mem_cons_of_mem _ h)
  have hown : s.vm.findClass "LittleMoreModel" = some m.cls := findClass_of_methodNamed B.named
  have hlocks := B.notSynchronized
  subst hsz
  have hD := hD0.self (sz := s.heap.size)
  generalize hAe : va_A (wR G ad S) s.heap.size = A at hD ⊢
  have hA : ∀ q : Nat, s.heap.size ≤ q → A q := fun q h => by rw [← hAe]; exact Or.inr h
  have hS : va_S A s.heap s.heap [] := va_S.rf
  have hP : va_P G.1 vwCl (wR G ad S) s.heap := hP
  have hl := lv_entry ([.ref (ad 0), .int (c), .int (n_)]) (n := 6) (Nat.le_of_ble_eq_true rfl)
  rw [lg_entry_eq]
  generalize (lg_sl ([.ref (ad 0), .int (c), .int (n_)]) ++ List.replicate (6 - (lg_sl ([.ref (ad 0), .int (c), .int (n_)])).length) Slot.unset).toArray = ls at hl ⊢
  have hl : lv_has ls 6 [(0, .ref (ad 0)), (1, .int (c)), (2, .int (n_))] := hl
  refine W_abs (fun Q hQ => ?_)
  generalize ([.ref (ad 0), .int (c), .int (n_)] : List Value).toArray = args at hT hQ ⊢
  refine lv_aload_n hx hb (fk_get fk_cX12_learnt_0 0 rfl) rfl (lv_at hl 0 rfl) ?_
  refine lv_iconst (v := 0) hx hb (fk_get fk_cX12_learnt_0 1 rfl) (by decide) ?_
  refine va_put (D := G.1) (ci := 14) (v := .int (0)) (ty := .int) (C := RX12) (T := TX12) (N := 49) hx hb hT inX12 tyX12 tyX12_ok nmX12 hown hK hP hD hS 0 (ix_at (by decide) (cR_0 G ad S)) rfl 8 (by decide) (hT _ m5_109) (fun _ h9 => h9) rfl (by decide +kernel) rfl rfl (Nat.le_of_ble_eq_true rfl) (fk_get fk_cX12_learnt_0 2 rfl) (fun H locs hP hD hS => ?_)
  rw [pR_thrown G ad S (0)] at hP hD
  refine lv_aload_n hx hb (fk_get fk_cX12_learnt_0 3 rfl) rfl (lv_at hl 0 rfl) ?_
  refine lv_iload_n hx hb (fk_get fk_cX12_learnt_0 4 rfl) rfl (lv_at hl 1 rfl) ?_
  refine vp_callSi (W.runV (As := [.int (c)]) (rest := []) ⟨hx, hb, hml, hown, hT⟩ (c_isCustomer l G ad (setF S 0 8 (0)) H.size (c) ) (tV 1 hT m6_110 m6_112 mp_32 m1_17 m6_113 rfl rfl (by decide +kernel) ⟨Nat.le_of_ble_eq_true rfl, Nat.le_of_ble_eq_true rfl⟩) ⟨PcW_blind, va_recv hK hP (ci := 14) (q0 := 0) rfl (ix_at (by decide) (cR_0 G ad (setF S 0 8 (0)))), PcW_of hP hK hD _⟩ rfl rfl hl.1 rfl (lv_room (Nat.le_of_ble_eq_true rfl)) (fk_get fk_cX12_learnt_0 5 rfl) ⟨Nat.zero_le _, Nat.zero_le _⟩) (fun r_1 hw_2 => ?_)
  try dsimp only at hw_2
  have hw_2 : r_1 = if 0 ≤ c ∧ c ≤ fF S 0 1 - 1 then 1 else 0 := hw_2
  refine lv_if_ne (tgt := 15) hx hb (fk_get fk_cX12_learnt_0 6 rfl) (by decide) (fun c_3 => ?_) (fun c_3 => ?_)
  · have p_c_3 := if1_t hw_2 c_3
    have hC_ : isC n c := by
      show 0 ≤ c ∧ c ≤ nI n - 1
      rw [← hn]
      exact p_c_3
    obtain ⟨hj, ej⟩ := isC_n p_c_3 hn hn6
    refine lv_iload_n hx hb (fk_get fk_cX12_learnt_0 9 rfl) rfl (lv_at hl 2 rfl) ?_
    refine lv_i2l hx hb (fk_get fk_cX12_learnt_0 10 rfl) rfl ?_
    refine lv_lconst (v := 0) hx hb (fk_get fk_cX12_learnt_0 11 rfl) (by decide) ?_
    refine lv_ldc2 (v := 99) hx hb hown (hT _ m6_101) (fk_get fk_cX12_learnt_0 12 rfl) ?_
    refine vp_callSi (W.runS (As := [.long ((n_).toInt64), .long (0), .long (99)]) (rest := []) ⟨hx, hb, hml, hown, hT⟩ (c_in l ((n_).toInt64) (0) (99) ) (tS 3 hT m6_31 m6_32 m1_17 m6_33 rfl rfl (by decide +kernel) ⟨Nat.le_of_ble_eq_true rfl, Nat.le_of_ble_eq_true rfl⟩) ⟨PcN_blind, PcN_of _ _ _⟩ rfl rfl hl.1 rfl (lv_room (Nat.le_of_ble_eq_true rfl)) (fk_get fk_cX12_learnt_0 13 rfl) ⟨Nat.zero_le _, Nat.zero_le _⟩) (fun r_4 hw_5 => ?_)
    try dsimp only at hw_5
    have hw_5 := in_eq hw_5 (n_) 0 99 (rfl) (by decide) (by decide)
    refine lv_if_ne (tgt := 30) hx hb (fk_get fk_cX12_learnt_0 14 rfl) (by decide) (fun c_6 => ?_) (fun c_6 => ?_)
    · have p_c_6 := if1_t hw_5 c_6
      refine lv_bipush (v := (-5)) hx hb (fk_get fk_cX12_learnt_0 17 rfl) (by decide) ?_
      refine lv_istore_n (lv' := [(3, .int ((-5))), (0, .ref (ad 0)), (1, .int (c)), (2, .int (n_))]) hx hb (fk_get fk_cX12_learnt_0 18 rfl) rfl hl (by decide) rfl (fun ls hl => ?_)
      refine lv_iconst (v := 1) hx hb (fk_get fk_cX12_learnt_0 19 rfl) (by decide) ?_
      refine lv_istore (lv' := [(4, .int (1)), (3, .int ((-5))), (0, .ref (ad 0)), (1, .int (c)), (2, .int (n_))]) hx hb (fk_get fk_cX12_learnt_0 20 rfl) hl (by decide) rfl (fun ls hl => ?_)
      refine lv_aload_n hx hb (fk_get fk_cX12_learnt_0 21 rfl) rfl (lv_at hl 2 rfl) ?_
      have hFc := va_self hD hS hA
      refine va_callv (va_runV (As := []) (rest := []) ⟨hx, hb, hml, hown, hT⟩ (c_openX l G ad (setF S 0 8 (0)) H.size (9999) (hSV)) (tV 0 hT m6_218 m6_220 mp_49 m1_17 m6_221 rfl rfl (by decide +kernel) ⟨Nat.le_of_ble_eq_true rfl, Nat.le_of_ble_eq_true rfl⟩) ⟨PcW_blind, va_recv hK hP (ci := 14) (q0 := 0) rfl (ix_at (by decide) (cR_0 G ad (setF S 0 8 (0)))), PcW_of hP hK hD _⟩ rfl rfl hl.1 rfl (lv_room (Nat.le_of_ble_eq_true rfl)) (fk_get fk_cX12_learnt_0 22 rfl) ⟨Nat.zero_le _, Nat.zero_le _⟩) hS (fun q _ h => hFc q h) hFc (fun S_9 t_ H locs ht_ hvm_ hw_8 hB_ hz_ hk_ hS => ?_)
      obtain ⟨hP, -, hD1_⟩ := hB_
      rw [ht_] at hP
      have hD : va_D A (wR G ad S_9) := hD1_.weaken (fun k q _ h => hFc q.1 h)
      try dsimp only at hw_8
      obtain ⟨hI0, hg0_, ho0_⟩ := hw_8
      have hg0_ : ∀ d, d < 6 → gR S_9 d = gR S d := hg0_
      have ho0_ : fF S_9 0 2 = fF S 0 2 := ho0_
      have h10_ : fF S_9 0 15 = 1 := hI0.2.2.1
      refine lv_iconst (v := 0) hx hb (fk_get fk_cX12_learnt_0 23 rfl) (by decide) ?_
      refine lv_istore (lv' := [(5, .int (0)), (4, .int (1)), (3, .int ((-5))), (0, .ref (ad 0)), (1, .int (c)), (2, .int (n_))]) hx hb (fk_get fk_cX12_learnt_0 24 rfl) hl (by decide) rfl (fun ls hl => ?_)
      have lp_10 : ∀ (fu : Nat) (k : Nat) (v3 v4 : Int32) (SL : FS) (H_12 : Heap) (locs_13 : List Loc) (ls : Array Slot),  (k ≤ 41) → (41 < k + fu) → (MI (setF S 0 8 0) SL (9999 + k)) → (fF SL 0 2 = fF S 0 2) → (LEI (fF S 0 2) (lstW 3 1 C) τ C c n_ k (gR SL c.toNatClampNeg) (leaN (fF S 0 2) (lstW 3 1 C) τ C c n_ 41 0 (gR S c.toNatClampNeg)) v3 v4) → va_P G.1 vwCl (wR G ad SL) H_12 → va_D A (wR G ad SL) → va_S A s.heap H_12 locs_13 → lv_has ls 6 [(5, .int ((nI k))), (4, .int (v4)), (3, .int (v3)), (0, .ref (ad 0)), (1, .int (c)), (2, .int (n_))] → W p l e ({ frames := 8, cells := 0, slots := 0, locals := 230 } : Room) s m args below meth c₀ H_12 locs_13 0 0 Q (F0 m 43 ls []) := by
        intro fu
        induction fu with
        | zero =>
          intro k v3 v4 SL H_12 locs_13 ls hk hf hI hO hL hP hD hS hl
          exact absurd hf (by omega)
        | succ fu ih =>
          intro k v3 v4 SL H_12 locs_13 ls hk hf hI hO hL hP hD hS hl
          refine lv_iload hx hb (fk_get fk_cX12_learnt_0 25 rfl) (lv_at hl 0 rfl) ?_
          refine lv_bipush (v := 40) hx hb (fk_get fk_cX12_learnt_0 26 rfl) (by decide) ?_
          refine lv_icmp_gt (tgt := 107) hx hb (fk_get fk_cX12_learnt_0 27 rfl) (by decide) (fun c_14 => ?_) (fun c_14 => ?_)
          · have hend_ : 41 ≤ k ∨ ¬ v3 < 0 ∨ v4 = 0 := Or.inl (by have z_ := (nI_ltI (a := 40) (b := k) (by omega) (by omega)).mp c_14; omega)
            refine lv_aload_n hx hb (fk_get fk_cX12_learnt_1 24 rfl) rfl (lv_at hl 3 rfl) ?_
            have hFc := va_self hD hS hA
            refine va_callv (va_runV (As := []) (rest := []) ⟨hx, hb, hml, hown, hT⟩ (c_close l G ad SL H_12.size ((setF S 0 8 0)) (9999 + k) (hI)) (tV 0 hT m6_226 m6_228 mp_51 m1_17 m6_229 rfl rfl (by decide +kernel) ⟨Nat.le_of_ble_eq_true rfl, Nat.le_of_ble_eq_true rfl⟩) ⟨PcW_blind, va_recv hK hP (ci := 14) (q0 := 0) rfl (ix_at (by decide) (cR_0 G ad SL)), PcW_of hP hK hD _⟩ rfl rfl hl.1 rfl (lv_room (Nat.le_of_ble_eq_true rfl)) (fk_get fk_cX12_learnt_1 25 rfl) ⟨Nat.zero_le _, Nat.zero_le _⟩) hS (fun q _ h => hFc q h) hFc (fun S_17 t_ H locs ht_ hvm_ hw_16 hB_ hz_ hk_ hS => ?_)
            obtain ⟨hP, -, hD1_⟩ := hB_
            rw [ht_] at hP
            have hD : va_D A (wR G ad S_17) := hD1_.weaken (fun k q _ h => hFc q.1 h)
            try dsimp only at hw_16
            have hZq := hw_16
            refine lv_iload_n hx hb (fk_get fk_cX12_learnt_1 26 rfl) rfl (lv_at hl 2 rfl) ?_
            subst hQ
            have hpost : QP (setF S 0 8 0) S_17 ∧ (v3 : Int32) = leaP (fF S 0 2) (lstW 3 1 C) τ C n (gR S) c n_ := by
              first | exact ⟨QP.rf h15, lea_1 hnC_⟩ | exact ⟨QP.rf h15, lea_2 hC_ (by assumption)⟩ | exact ⟨hZq, (lei_e hL hend_).trans (lea_3 hC_ (by assumption))⟩
            exact W.iret (v := v3) hx hb hr (fun t_ ht_ hW_ => ⟨⟨v3, S_17, rfl, hpost, by rw [ht_]; exact hP, va_K.moved hW_.alike hK, hD⟩, hS.F ht_⟩) hS.2.2 (fk_get fk_cX12_learnt_1 27 rfl)
          have hlt : k ≤ 40 := (nI_leI (a := k) (b := 40) (by omega) (by omega)).mp (Int32.not_lt.mp c_14)
          refine lv_iload_n hx hb (fk_get fk_cX12_learnt_0 28 rfl) rfl (lv_at hl 2 rfl) ?_
          refine lv_if_ge (tgt := 107) hx hb (fk_get fk_cX12_learnt_0 29 rfl) (by decide) (fun c_18 => ?_) (fun c_18 => ?_)
          · have hend_ : 41 ≤ k ∨ ¬ v3 < 0 ∨ v4 = 0 := Or.inr (Or.inl (by first | exact c_18 | exact Int32.not_lt.mpr c_18))
            refine lv_aload_n hx hb (fk_get fk_cX12_learnt_1 24 rfl) rfl (lv_at hl 3 rfl) ?_
            have hFc := va_self hD hS hA
            refine va_callv (va_runV (As := []) (rest := []) ⟨hx, hb, hml, hown, hT⟩ (c_close l G ad SL H_12.size ((setF S 0 8 0)) (9999 + k) (hI)) (tV 0 hT m6_226 m6_228 mp_51 m1_17 m6_229 rfl rfl (by decide +kernel) ⟨Nat.le_of_ble_eq_true rfl, Nat.le_of_ble_eq_true rfl⟩) ⟨PcW_blind, va_recv hK hP (ci := 14) (q0 := 0) rfl (ix_at (by decide) (cR_0 G ad SL)), PcW_of hP hK hD _⟩ rfl rfl hl.1 rfl (lv_room (Nat.le_of_ble_eq_true rfl)) (fk_get fk_cX12_learnt_1 25 rfl) ⟨Nat.zero_le _, Nat.zero_le _⟩) hS (fun q _ h => hFc q h) hFc (fun S_21 t_ H locs ht_ hvm_ hw_20 hB_ hz_ hk_ hS => ?_)
            obtain ⟨hP, -, hD1_⟩ := hB_
            rw [ht_] at hP
            have hD : va_D A (wR G ad S_21) := hD1_.weaken (fun k q _ h => hFc q.1 h)
            try dsimp only at hw_20
            have hZq := hw_20
            refine lv_iload_n hx hb (fk_get fk_cX12_learnt_1 26 rfl) rfl (lv_at hl 2 rfl) ?_
            subst hQ
            have hpost : QP (setF S 0 8 0) S_21 ∧ (v3 : Int32) = leaP (fF S 0 2) (lstW 3 1 C) τ C n (gR S) c n_ := by
              first | exact ⟨QP.rf h15, lea_1 hnC_⟩ | exact ⟨QP.rf h15, lea_2 hC_ (by assumption)⟩ | exact ⟨hZq, (lei_e hL hend_).trans (lea_3 hC_ (by assumption))⟩
            exact W.iret (v := v3) hx hb hr (fun t_ ht_ hW_ => ⟨⟨v3, S_21, rfl, hpost, by rw [ht_]; exact hP, va_K.moved hW_.alike hK, hD⟩, hS.F ht_⟩) hS.2.2 (fk_get fk_cX12_learnt_1 27 rfl)
          have hneg_ : v3 < 0 := by first | exact c_18 | exact Int32.not_le.mp c_18 | exact Decidable.not_not.mp c_18
          refine lv_iload hx hb (fk_get fk_cX12_learnt_0 30 rfl) (lv_at hl 1 rfl) ?_
          refine lv_if_eq (tgt := 107) hx hb (fk_get fk_cX12_learnt_0 31 rfl) (by decide) (fun c_22 => ?_) (fun c_22 => ?_)
          · have hend_ : 41 ≤ k ∨ ¬ v3 < 0 ∨ v4 = 0 := Or.inr (Or.inr c_22)
            refine lv_aload_n hx hb (fk_get fk_cX12_learnt_1 24 rfl) rfl (lv_at hl 3 rfl) ?_
            have hFc := va_self hD hS hA
            refine va_callv (va_runV (As := []) (rest := []) ⟨hx, hb, hml, hown, hT⟩ (c_close l G ad SL H_12.size ((setF S 0 8 0)) (9999 + k) (hI)) (tV 0 hT m6_226 m6_228 mp_51 m1_17 m6_229 rfl rfl (by decide +kernel) ⟨Nat.le_of_ble_eq_true rfl, Nat.le_of_ble_eq_true rfl⟩) ⟨PcW_blind, va_recv hK hP (ci := 14) (q0 := 0) rfl (ix_at (by decide) (cR_0 G ad SL)), PcW_of hP hK hD _⟩ rfl rfl hl.1 rfl (lv_room (Nat.le_of_ble_eq_true rfl)) (fk_get fk_cX12_learnt_1 25 rfl) ⟨Nat.zero_le _, Nat.zero_le _⟩) hS (fun q _ h => hFc q h) hFc (fun S_25 t_ H locs ht_ hvm_ hw_24 hB_ hz_ hk_ hS => ?_)
            obtain ⟨hP, -, hD1_⟩ := hB_
            rw [ht_] at hP
            have hD : va_D A (wR G ad S_25) := hD1_.weaken (fun k q _ h => hFc q.1 h)
            try dsimp only at hw_24
            have hZq := hw_24
            refine lv_iload_n hx hb (fk_get fk_cX12_learnt_1 26 rfl) rfl (lv_at hl 2 rfl) ?_
            subst hQ
            have hpost : QP (setF S 0 8 0) S_25 ∧ (v3 : Int32) = leaP (fF S 0 2) (lstW 3 1 C) τ C n (gR S) c n_ := by
              first | exact ⟨QP.rf h15, lea_1 hnC_⟩ | exact ⟨QP.rf h15, lea_2 hC_ (by assumption)⟩ | exact ⟨hZq, (lei_e hL hend_).trans (lea_3 hC_ (by assumption))⟩
            exact W.iret (v := v3) hx hb hr (fun t_ ht_ hW_ => ⟨⟨v3, S_25, rfl, hpost, by rw [ht_]; exact hP, va_K.moved hW_.alike hK, hD⟩, hS.F ht_⟩) hS.2.2 (fk_get fk_cX12_learnt_1 27 rfl)
          refine lv_aload_n hx hb (fk_get fk_cX12_learnt_1 0 rfl) rfl (lv_at hl 3 rfl) ?_
          refine lv_iload_n hx hb (fk_get fk_cX12_learnt_1 1 rfl) rfl (lv_at hl 4 rfl) ?_
          have hFc := va_self hD hS hA
          refine va_calli (va_runV (As := [.int (c)]) (rest := []) ⟨hx, hb, hml, hown, hT⟩ (c_moreOfE l G ad SL H_12.size (z) (τ) (C) (c) (c.toNatClampNeg) (hI.HOK hHOK) ((HOX.MI (S := (setF S 0 8 0)) hHX hI)) (ej) (by omega)) (tV 1 hT m6_115 m6_117 mp_33 m1_17 m6_118 rfl rfl (by decide +kernel) ⟨Nat.le_of_ble_eq_true rfl, Nat.le_of_ble_eq_true rfl⟩) ⟨PcW_blind, va_recv hK hP (ci := 14) (q0 := 0) rfl (ix_at (by decide) (cR_0 G ad SL)), PcW_of hP hK hD _⟩ rfl rfl hl.1 rfl (lv_room (Nat.le_of_ble_eq_true rfl)) (fk_get fk_cX12_learnt_1 2 rfl) ⟨Nat.zero_le _, Nat.zero_le _⟩) hS (fun q _ h => hFc q h) hFc (fun r_26 S_28 t_ H locs ht_ hvm_ hw_27 hB_ hz_ hk_ hS => ?_)
          obtain ⟨hP, -, hD1_⟩ := hB_
          rw [ht_] at hP
          have hD : va_D A (wR G ad S_28) := hD1_.weaken (fun k q _ h => hFc q.1 h)
          try dsimp only at hw_27
          obtain ⟨hH1, hmo_⟩ := hw_27
          rw [hO] at hmo_
          subst hmo_
          have hI1 := hI.M hH1.M (hI.SV.H hH1)
          have hgs_ : gR S_28 = gR SL := funext (fun d => gR_H hH1 d)
          have hos_ : fF S_28 0 2 = fF S 0 2 := (hH1.2.2.1 2).trans hO
          refine lv_iload_n hx hb (fk_get fk_cX12_learnt_1 3 rfl) rfl (lv_at hl 5 rfl) ?_
          have jn_29 : ∀ (v7 : Int32) (ls : Array Slot),  ((v7 = nI k ∧ moF (fF S 0 2) τ C c (gR SL c.toNatClampNeg) ≤ n_) ∨ (v7 = -5 ∧ ¬ moF (fF S 0 2) τ C c (gR SL c.toNatClampNeg) ≤ n_)) → lv_has ls 6 [(5, .int ((nI k))), (4, .int (v4)), (3, .int (v3)), (0, .ref (ad 0)), (1, .int (c)), (2, .int (n_))] → W p l e ({ frames := 8, cells := 0, slots := 0, locals := 230 } : Room) s m args below meth c₀ H locs 0 0 Q (F0 m 75 ls [.int (v7)]) := by
            intro v7 ls hv7 hl
            refine lv_istore_n (lv' := [(3, .int (v7)), (5, .int ((nI k))), (4, .int (v4)), (0, .ref (ad 0)), (1, .int (c)), (2, .int (n_))]) hx hb (fk_get fk_cX12_learnt_1 8 rfl) rfl hl (by decide) rfl (fun ls hl => ?_)
            obtain ⟨x, hxb, hx6⟩ := hI1.SV c.toNatClampNeg (by omega)
            refine lv_aload_n hx hb (fk_get fk_cX12_learnt_1 9 rfl) rfl (lv_at hl 3 rfl) ?_
            refine lv_iload_n hx hb (fk_get fk_cX12_learnt_1 10 rfl) rfl (lv_at hl 4 rfl) ?_
            refine vp_callSi (W.runV (As := [.int (c)]) (rest := []) ⟨hx, hb, hml, hown, hT⟩ (c_isGone l G ad S_28 H.size (c) (c.toNatClampNeg) (ej) (by omega)) (tV 1 hT m6_192 m6_194 mp_45 m1_17 m6_195 rfl rfl (by decide +kernel) ⟨Nat.le_of_ble_eq_true rfl, Nat.le_of_ble_eq_true rfl⟩) ⟨PcW_blind, va_recv hK hP (ci := 14) (q0 := 0) rfl (ix_at (by decide) (cR_0 G ad S_28)), PcW_of hP hK hD _⟩ rfl rfl hl.1 rfl (lv_room (Nat.le_of_ble_eq_true rfl)) (fk_get fk_cX12_learnt_1 11 rfl) ⟨Nat.zero_le _, Nat.zero_le _⟩) (fun r_30 hw_31 => ?_)
            try dsimp only at hw_31
            refine lv_if_ne (tgt := 88) hx hb (fk_get fk_cX12_learnt_1 12 rfl) (by decide) (fun c_32 => ?_) (fun c_32 => ?_)
            · have p_c_32 := if1_t hw_31 c_32
              have hgo_ : gR SL c.toNatClampNeg 7 = 1 := by rw [← hgs_]; exact isg_1 p_c_32
              refine lv_iconst (v := 0) hx hb (fk_get fk_cX12_learnt_1 15 rfl) (by decide) ?_
              refine lv_istore (lv' := [(4, .int (0)), (3, .int (v7)), (5, .int ((nI k))), (0, .ref (ad 0)), (1, .int (c)), (2, .int (n_))]) hx hb (fk_get fk_cX12_learnt_1 16 rfl) hl (by decide) rfl (fun ls hl => ?_)
              refine lv_iload hx hb (fk_get fk_cX12_learnt_1 17 rfl) (lv_at hl 0 rfl) ?_
              refine lv_if_eq (tgt := 101) hx hb (fk_get fk_cX12_learnt_1 18 rfl) (by decide) (fun _ => ?_) (fun c_33 => absurd ((by decide)) c_33)
              refine lv_iinc (v := (nI (k + 1))) (lv' := [(5, .int ((nI (k + 1)))), (4, .int (0)), (3, .int (v7)), (0, .ref (ad 0)), (1, .int (c)), (2, .int (n_))]) hx hb (fk_get fk_cX12_learnt_1 22 rfl) hl (k := 2) rfl ((nI_1 k)) (by decide) rfl (fun ls hl => ?_)
              refine lv_goto (tgt := 43) hx hb (fk_get fk_cX12_learnt_1 23 rfl) (by decide) ?_
              exact ih (k + 1) (v7) (0) (S_28) _ _ ls (by omega) (by omega) ((by first | exact hI2 | exact hI1.mono (by omega))) ((by first | exact hos2_ | exact hos_)) ((by first | exact lei_s hL (by omega) hneg_ hv7 (Or.inr ⟨hgo_, rfl, hgv_⟩) | exact lei_s hL (by omega) hneg_ hv7 (Or.inl ⟨hgo_, rfl, congrFun hgs_ _⟩))) hP hD hS (lv_sub hl [0, 1, 2, 3, 4, 5] rfl)
            have p_c_32 := if1_f hw_31 c_32
            have hgo_ : ¬ gR SL c.toNatClampNeg 7 = 1 := by rw [← hgs_]; exact isg_0 p_c_32
            refine lv_iconst (v := 1) hx hb (fk_get fk_cX12_learnt_1 13 rfl) (by decide) ?_
            refine lv_goto (tgt := 89) hx hb (fk_get fk_cX12_learnt_1 14 rfl) (by decide) ?_
            refine lv_istore (lv' := [(4, .int (1)), (3, .int (v7)), (5, .int ((nI k))), (0, .ref (ad 0)), (1, .int (c)), (2, .int (n_))]) hx hb (fk_get fk_cX12_learnt_1 16 rfl) hl (by decide) rfl (fun ls hl => ?_)
            refine lv_iload hx hb (fk_get fk_cX12_learnt_1 17 rfl) (lv_at hl 0 rfl) ?_
            refine lv_if_eq (tgt := 101) hx hb (fk_get fk_cX12_learnt_1 18 rfl) (by decide) (fun c_34 => absurd c_34 ((by decide))) (fun _ => ?_)
            refine lv_aload_n hx hb (fk_get fk_cX12_learnt_1 19 rfl) rfl (lv_at hl 3 rfl) ?_
            refine lv_iload_n hx hb (fk_get fk_cX12_learnt_1 20 rfl) rfl (lv_at hl 4 rfl) ?_
            have hFc := va_self hD hS hA
            refine va_callv (va_runV (As := [.int (c)]) (rest := []) ⟨hx, hb, hml, hown, hT⟩ (c_visitOneE l G ad S_28 H.size (z) (τ) (C) (c) (c.toNatClampNeg) (x) (hI1.HOK hHOK) ((HOX.MI (S := (setF S 0 8 0)) hHX hI1)) (ej) (by omega) (hx6) (by omega)) (tV 1 hT m6_196 m6_198 mp_46 m1_17 m6_199 rfl rfl (by decide +kernel) ⟨Nat.le_of_ble_eq_true rfl, Nat.le_of_ble_eq_true rfl⟩) ⟨PcW_blind, va_recv hK hP (ci := 14) (q0 := 0) rfl (ix_at (by decide) (cR_0 G ad S_28)), PcW_of hP hK hD _⟩ rfl rfl hl.1 rfl (lv_room (Nat.le_of_ble_eq_true rfl)) (fk_get fk_cX12_learnt_1 21 rfl) ⟨Nat.zero_le _, Nat.zero_le _⟩) hS (fun q _ h => hFc q h) hFc (fun S_37 t_ H locs ht_ hvm_ hw_36 hB_ hz_ hk_ hS => ?_)
            obtain ⟨hP, -, hD1_⟩ := hB_
            rw [ht_] at hP
            have hD : va_D A (wR G ad S_37) := hD1_.weaken (fun k q _ h => hFc q.1 h)
            try dsimp only at hw_36
            obtain ⟨⟨y, hV, hy, hy2⟩, hvs_, -⟩ := hw_36
            have hI2 := hI1.M hV.M (hI1.SV.V hV (by omega) (by omega))
            have hos2_ := (hV.2.2.1 2 (by decide) (by decide) (by decide)).trans hos_
            rw [hI1.2.2.1, hos_, hgs_] at hvs_
            have hgv_ := gr_vs hvs_ (fun k hk => (vis_out (by omega)).trans (gr_out hk))
            refine lv_iinc (v := (nI (k + 1))) (lv' := [(5, .int ((nI (k + 1)))), (4, .int (1)), (3, .int (v7)), (0, .ref (ad 0)), (1, .int (c)), (2, .int (n_))]) hx hb (fk_get fk_cX12_learnt_1 22 rfl) hl (k := 2) rfl ((nI_1 k)) (by decide) rfl (fun ls hl => ?_)
            refine lv_goto (tgt := 43) hx hb (fk_get fk_cX12_learnt_1 23 rfl) (by decide) ?_
            exact ih (k + 1) (v7) (1) (S_37) _ _ ls (by omega) (by omega) ((by first | exact hI2 | exact hI1.mono (by omega))) ((by first | exact hos2_ | exact hos_)) ((by first | exact lei_s hL (by omega) hneg_ hv7 (Or.inr ⟨hgo_, rfl, hgv_⟩) | exact lei_s hL (by omega) hneg_ hv7 (Or.inl ⟨hgo_, rfl, congrFun hgs_ _⟩))) hP hD hS (lv_sub hl [0, 1, 2, 3, 4, 5] rfl)
          refine lv_icmp_gt (tgt := 73) hx hb (fk_get fk_cX12_learnt_1 4 rfl) (by decide) (fun c_38 => ?_) (fun c_38 => ?_)
          · refine lv_bipush (v := (-5)) hx hb (fk_get fk_cX12_learnt_1 7 rfl) (by decide) ?_
            exact jn_29 (((-5))) ls ((by first | exact Or.inl ⟨rfl, Int32.not_lt.mp (by assumption)⟩ | exact Or.inl ⟨rfl, by assumption⟩ | exact Or.inr ⟨rfl, Int32.not_le.mpr (by assumption)⟩ | exact Or.inr ⟨rfl, by assumption⟩)) (lv_sub hl [0, 1, 2, 3, 4, 5] rfl)
          refine lv_iload hx hb (fk_get fk_cX12_learnt_1 5 rfl) (lv_at hl 0 rfl) ?_
          refine lv_goto (tgt := 75) hx hb (fk_get fk_cX12_learnt_1 6 rfl) (by decide) ?_
          exact jn_29 (((nI k))) ls ((by first | exact Or.inl ⟨rfl, Int32.not_lt.mp (by assumption)⟩ | exact Or.inl ⟨rfl, by assumption⟩ | exact Or.inr ⟨rfl, Int32.not_le.mpr (by assumption)⟩ | exact Or.inr ⟨rfl, by assumption⟩)) (lv_sub hl [0, 1, 2, 3, 4, 5] rfl)
      exact lp_10 (42) (0) ((-5)) (1) (S_9) _ _ ls (by omega) (by omega) (hI0) (ho0_) (Or.inl ⟨rfl, by rw [hg0_ _ (by omega)], fun q => absurd q (by decide)⟩) hP hD hS (lv_sub hl [0, 1, 2, 3, 4, 5] rfl)
    have p_c_6 := if1_f hw_5 c_6
    refine lv_bipush (v := (-2)) hx hb (fk_get fk_cX12_learnt_0 15 rfl) (by decide) ?_
    subst hQ
    have hpost : QP (setF S 0 8 0) (setF S 0 8 (0)) ∧ ((-2) : Int32) = leaP (fF S 0 2) (lstW 3 1 C) τ C n (gR S) c n_ := by
      first | exact ⟨QP.rf h15, lea_1 hnC_⟩ | exact ⟨QP.rf h15, lea_2 hC_ (by assumption)⟩ | exact ⟨hZq, (lei_e hL hend_).trans (lea_3 hC_ (by assumption))⟩
    exact W.iret (v := (-2)) hx hb hr (fun t_ ht_ hW_ => ⟨⟨(-2), (setF S 0 8 (0)), rfl, hpost, by rw [ht_]; exact hP, va_K.moved hW_.alike hK, hD⟩, hS.F ht_⟩) hS.2.2 (fk_get fk_cX12_learnt_0 16 rfl)
  have p_c_3 := if1_f hw_2 c_3
  have hnC_ : ¬ isC n c := by
    show ¬ (0 ≤ c ∧ c ≤ nI n - 1)
    rw [← hn]
    exact p_c_3
  refine lv_iconst (v := (-1)) hx hb (fk_get fk_cX12_learnt_0 7 rfl) (by decide) ?_
  subst hQ
  have hpost : QP (setF S 0 8 0) (setF S 0 8 (0)) ∧ ((-1) : Int32) = leaP (fF S 0 2) (lstW 3 1 C) τ C n (gR S) c n_ := by
    first | exact ⟨QP.rf h15, lea_1 hnC_⟩ | exact ⟨QP.rf h15, lea_2 hC_ (by assumption)⟩ | exact ⟨hZq, (lei_e hL hend_).trans (lea_3 hC_ (by assumption))⟩
  exact W.iret (v := (-1)) hx hb hr (fun t_ ht_ hW_ => ⟨⟨(-1), (setF S 0 8 (0)), rfl, hpost, by rw [ht_]; exact hP, va_K.moved hW_.alike hK, hD⟩, hS.F ht_⟩) hS.2.2 (fk_get fk_cX12_learnt_0 8 rfl)
set_option maxHeartbeats 800000 in
set_option maxRecDepth 100000 in
theorem c_overX (l : Launch) (G : GG) (ad : Nat → Nat) (S : FS) (sz : Nat) (z : Nat) (τ : Nat → Int32) (C : ClU) (n : Nat) (c n_ w_ : Int32) (hn : fF S 0 1 = nI n) (hn6 : n ≤ 6) (hHOK : HOK S) (hSV : SV 9999 S) (h15 : fF S 0 15 = 0) (hHX : HOX S z τ C) : Met l yX12_over (Cond.code yX12_over cX12_over 5 (some .int) :: TBL) ({ frames := 9, cells := 0, slots := 0, locals := 258 } : Room) (PcW G (wR G ad S) sz [.ref (ad 0), .int (c), .int (n_), .int (w_)]) (va_Qi (fun (r : Int32) (S' : FS) => QP (setF S 0 8 0) S' ∧ r = overP (fF S 0 2) (lstW 3 1 C) (lstW 2 5 C) τ C n (gR S) c n_ w_) (fun S' t => BW G (va_A (wR G ad S) sz) (wR G ad S') t) (va_A (wR G ad S) sz)) 0 0 (va_A (wR G ad S) sz) := by
  refine Met.ofW (cc := cX12_over) (maxL := 5) (ret := (some .int)) (by decide) rfl ?_
  intro p e s m args below meth c₀ s₁ B hml hv
  obtain ⟨rfl, hsz, hP, hK, hD0⟩ := hv
  have hx := B.exec
  have hb := B.bytes
  have hr := B.returns
  have hT : ∀ w ∈ TBL, w.before ([.ref (ad 0), .int (c), .int (n_), .int (w_)] : List Value).toArray s = true := fun w h => atoms_spec (ws := Cond.code yX12_over cX12_over 5 (some .int) :: TBL) B.pre w (List.mem_cons_of_mem _ h)
  have hown : s.vm.findClass "LittleMoreModel" = some m.cls := findClass_of_methodNamed B.named
  have hlocks := B.notSynchronized
  subst hsz
  have hD := hD0.self (sz := s.heap.size)
  generalize hAe : va_A (wR G ad S) s.heap.size = A at hD ⊢
  have hA : ∀ q : Nat, s.heap.size ≤ q → A q := fun q h => by rw [← hAe]; exact Or.inr h
  have hS : va_S A s.heap s.heap [] := va_S.rf
  have hP : va_P G.1 vwCl (wR G ad S) s.heap := hP
  have hl := lv_entry ([.ref (ad 0), .int (c), .int (n_), .int (w_)]) (n := 5) (Nat.le_of_ble_eq_true rfl)
  rw [lg_entry_eq]
  generalize (lg_sl ([.ref (ad 0), .int (c), .int (n_), .int (w_)]) ++ List.replicate (5 - (lg_sl ([.ref (ad 0), .int (c), .int (n_), .int (w_)])).length) Slot.unset).toArray = ls at hl ⊢
  have hl : lv_has ls 5 [(0, .ref (ad 0)), (1, .int (c)), (2, .int (n_)), (3, .int (w_))] := hl
  refine W_abs (fun Q hQ => ?_)
  generalize ([.ref (ad 0), .int (c), .int (n_), .int (w_)] : List Value).toArray = args at hT hQ ⊢
  refine lv_aload_n hx hb (fk_get fk_cX12_over_0 0 rfl) rfl (lv_at hl 0 rfl) ?_
  refine lv_iconst (v := 0) hx hb (fk_get fk_cX12_over_0 1 rfl) (by decide) ?_
  refine va_put (D := G.1) (ci := 14) (v := .int (0)) (ty := .int) (C := RX12) (T := TX12) (N := 49) hx hb hT inX12 tyX12 tyX12_ok nmX12 hown hK hP hD hS 0 (ix_at (by decide) (cR_0 G ad S)) rfl 8 (by decide) (hT _ m5_109) (fun _ h9 => h9) rfl (by decide +kernel) rfl rfl (Nat.le_of_ble_eq_true rfl) (fk_get fk_cX12_over_0 2 rfl) (fun H locs hP hD hS => ?_)
  rw [pR_thrown G ad S (0)] at hP hD
  refine lv_aload_n hx hb (fk_get fk_cX12_over_0 3 rfl) rfl (lv_at hl 0 rfl) ?_
  refine lv_iload_n hx hb (fk_get fk_cX12_over_0 4 rfl) rfl (lv_at hl 1 rfl) ?_
  refine vp_callSi (W.runV (As := [.int (c)]) (rest := []) ⟨hx, hb, hml, hown, hT⟩ (c_isCustomer l G ad (setF S 0 8 (0)) H.size (c) ) (tV 1 hT m6_110 m6_112 mp_32 m1_17 m6_113 rfl rfl (by decide +kernel) ⟨Nat.le_of_ble_eq_true rfl, Nat.le_of_ble_eq_true rfl⟩) ⟨PcW_blind, va_recv hK hP (ci := 14) (q0 := 0) rfl (ix_at (by decide) (cR_0 G ad (setF S 0 8 (0)))), PcW_of hP hK hD _⟩ rfl rfl hl.1 rfl (lv_room (Nat.le_of_ble_eq_true rfl)) (fk_get fk_cX12_over_0 5 rfl) ⟨Nat.zero_le _, Nat.zero_le _⟩) (fun r_1 hw_2 => ?_)
  try dsimp only at hw_2
  have hw_2 : r_1 = if 0 ≤ c ∧ c ≤ fF S 0 1 - 1 then 1 else 0 := hw_2
  refine lv_if_ne (tgt := 17) hx hb (fk_get fk_cX12_over_0 6 rfl) (by decide) (fun c_3 => ?_) (fun c_3 => ?_)
  · have p_c_3 := if1_t hw_2 c_3
    have hC_ : isC n c := by
      show 0 ≤ c ∧ c ≤ nI n - 1
      rw [← hn]
      exact p_c_3
    obtain ⟨hj, ej⟩ := isC_n p_c_3 hn hn6
    refine lv_iload_n hx hb (fk_get fk_cX12_over_0 9 rfl) rfl (lv_at hl 2 rfl) ?_
    refine lv_i2l hx hb (fk_get fk_cX12_over_0 10 rfl) rfl ?_
    refine lv_lconst (v := 1) hx hb (fk_get fk_cX12_over_0 11 rfl) (by decide) ?_
    refine lv_ldc2 (v := 99) hx hb hown (hT _ m6_101) (fk_get fk_cX12_over_0 12 rfl) ?_
    refine vp_callSi (W.runS (As := [.long ((n_).toInt64), .long (1), .long (99)]) (rest := []) ⟨hx, hb, hml, hown, hT⟩ (c_in l ((n_).toInt64) (1) (99) ) (tS 3 hT m6_31 m6_32 m1_17 m6_33 rfl rfl (by decide +kernel) ⟨Nat.le_of_ble_eq_true rfl, Nat.le_of_ble_eq_true rfl⟩) ⟨PcN_blind, PcN_of _ _ _⟩ rfl rfl hl.1 rfl (lv_room (Nat.le_of_ble_eq_true rfl)) (fk_get fk_cX12_over_0 13 rfl) ⟨Nat.zero_le _, Nat.zero_le _⟩) (fun r_4 hw_5 => ?_)
    try dsimp only at hw_5
    have hw_5 := in_eq hw_5 (n_) 1 99 (rfl) (by decide) (by decide)
    refine lv_if_eq (tgt := 41) hx hb (fk_get fk_cX12_over_0 14 rfl) (by decide) (fun c_6 => ?_) (fun c_6 => ?_)
    · have p_c_6 := if1_f hw_5 c_6
      refine lv_ldcw (v := (-1000002)) hx hb hown (hT _ m7_26) (fk_get fk_cX12_over_0 21 rfl) ?_
      subst hQ
      have hpost : QP (setF S 0 8 0) (setF S 0 8 (0)) ∧ ((-1000002) : Int32) = overP (fF S 0 2) (lstW 3 1 C) (lstW 2 5 C) τ C n (gR S) c n_ w_ := by
        first | exact ⟨QP.rf h15, over_1 hnC_⟩ | exact ⟨QP.rf h15, over_2 hC_ (Or.inl (by assumption))⟩ | exact ⟨QP.rf h15, over_2 hC_ (Or.inr (by assumption))⟩ | exact ⟨hZq, over_r hC_ (by assumption) (by assumption) hA2⟩
      exact W.iret (v := (-1000002)) hx hb hr (fun t_ ht_ hW_ => ⟨⟨(-1000002), (setF S 0 8 (0)), rfl, hpost, by rw [ht_]; exact hP, va_K.moved hW_.alike hK, hD⟩, hS.F ht_⟩) hS.2.2 (fk_get fk_cX12_over_0 22 rfl)
    have p_c_6 := if1_t hw_5 c_6
    refine lv_iload_n hx hb (fk_get fk_cX12_over_0 15 rfl) rfl (lv_at hl 3 rfl) ?_
    refine lv_i2l hx hb (fk_get fk_cX12_over_0 16 rfl) rfl ?_
    refine lv_lconst (v := 1) hx hb (fk_get fk_cX12_over_0 17 rfl) (by decide) ?_
    refine lv_ldc2 (v := 40) hx hb hown (hT _ m6_217) (fk_get fk_cX12_over_0 18 rfl) ?_
    refine vp_callSi (W.runS (As := [.long ((w_).toInt64), .long (1), .long (40)]) (rest := []) ⟨hx, hb, hml, hown, hT⟩ (c_in l ((w_).toInt64) (1) (40) ) (tS 3 hT m6_31 m6_32 m1_17 m6_33 rfl rfl (by decide +kernel) ⟨Nat.le_of_ble_eq_true rfl, Nat.le_of_ble_eq_true rfl⟩) ⟨PcN_blind, PcN_of _ _ _⟩ rfl rfl hl.1 rfl (lv_room (Nat.le_of_ble_eq_true rfl)) (fk_get fk_cX12_over_0 19 rfl) ⟨Nat.zero_le _, Nat.zero_le _⟩) (fun r_7 hw_8 => ?_)
    try dsimp only at hw_8
    have hw_8 := in_eq hw_8 (w_) 1 40 (rfl) (by decide) (by decide)
    refine lv_if_ne (tgt := 45) hx hb (fk_get fk_cX12_over_0 20 rfl) (by decide) (fun c_9 => ?_) (fun c_9 => ?_)
    · have p_c_9 := if1_t hw_8 c_9
      obtain ⟨hw40, ew⟩ := in_n (b := 40) ⟨Int32.le_trans (by decide) p_c_9.1, p_c_9.2⟩ (by decide)
      refine lv_aload_n hx hb (fk_get fk_cX12_over_0 23 rfl) rfl (lv_at hl 0 rfl) ?_
      have hFc := va_self hD hS hA
      refine va_callv (va_runV (As := []) (rest := []) ⟨hx, hb, hml, hown, hT⟩ (c_openX l G ad (setF S 0 8 (0)) H.size (9999) (hSV)) (tV 0 hT m6_218 m6_220 mp_49 m1_17 m6_221 rfl rfl (by decide +kernel) ⟨Nat.le_of_ble_eq_true rfl, Nat.le_of_ble_eq_true rfl⟩) ⟨PcW_blind, va_recv hK hP (ci := 14) (q0 := 0) rfl (ix_at (by decide) (cR_0 G ad (setF S 0 8 (0)))), PcW_of hP hK hD _⟩ rfl rfl hl.1 rfl (lv_room (Nat.le_of_ble_eq_true rfl)) (fk_get fk_cX12_over_0 24 rfl) ⟨Nat.zero_le _, Nat.zero_le _⟩) hS (fun q _ h => hFc q h) hFc (fun S_12 t_ H locs ht_ hvm_ hw_11 hB_ hz_ hk_ hS => ?_)
      obtain ⟨hP, -, hD1_⟩ := hB_
      rw [ht_] at hP
      have hD : va_D A (wR G ad S_12) := hD1_.weaken (fun k q _ h => hFc q.1 h)
      try dsimp only at hw_11
      obtain ⟨hI0, hg0_, ho0_⟩ := hw_11
      have hg0_ : ∀ d, d < 6 → gR S_12 d = gR S d := hg0_
      have ho0_ : fF S_12 0 2 = fF S 0 2 := ho0_
      have h10_ : fF S_12 0 15 = 1 := hI0.2.2.1
      refine lv_aload_n hx hb (fk_get fk_cX12_over_0 25 rfl) rfl (lv_at hl 0 rfl) ?_
      refine lv_iload_n hx hb (fk_get fk_cX12_over_0 26 rfl) rfl (lv_at hl 1 rfl) ?_
      refine lv_iload_n hx hb (fk_get fk_cX12_over_0 27 rfl) rfl (lv_at hl 3 rfl) ?_
      have hFc := va_self hD hS hA
      refine va_calli (va_runV (As := [.int (c), .int (w_)]) (rest := []) ⟨hx, hb, hml, hown, hT⟩ (c_buysInXE l G ad S_12 H.size (z) (τ) (C) (c) (c.toNatClampNeg) (9999) (w_.toNatClampNeg) (hI0.HOK hHOK) ((HOX.MI (S := (setF S 0 8 0)) hHX hI0)) (hI0.SV) (by omega) (ej) (by omega) (hw40) (w_) (ew)) (tV 2 hT m6_222 m6_224 mp_50 m1_17 m6_225 rfl rfl (by decide +kernel) ⟨Nat.le_of_ble_eq_true rfl, Nat.le_of_ble_eq_true rfl⟩) ⟨PcW_blind, va_recv hK hP (ci := 14) (q0 := 0) rfl (ix_at (by decide) (cR_0 G ad S_12)), PcW_of hP hK hD _⟩ rfl rfl hl.1 rfl (lv_room (Nat.le_of_ble_eq_true rfl)) (fk_get fk_cX12_over_0 28 rfl) ⟨Nat.zero_le _, Nat.zero_le _⟩) hS (fun q _ h => hFc q h) hFc (fun r_13 S_15 t_ H locs ht_ hvm_ hw_14 hB_ hz_ hk_ hS => ?_)
      obtain ⟨hP, -, hD1_⟩ := hB_
      rw [ht_] at hP
      have hD : va_D A (wR G ad S_15) := hD1_.weaken (fun k q _ h => hFc q.1 h)
      try dsimp only at hw_14
      obtain ⟨hM2, hS2, hA2, -⟩ := hw_14
      have hI1 := hI0.M hM2 hS2
      rw [h10_, ho0_, hg0_ _ (by omega)] at hA2
      refine lv_aload_n hx hb (fk_get fk_cX12_over_0 29 rfl) rfl (lv_at hl 0 rfl) ?_
      refine lv_iconst (v := 2) hx hb (fk_get fk_cX12_over_0 30 rfl) (by decide) ?_
      refine lv_iconst (v := 5) hx hb (fk_get fk_cX12_over_0 31 rfl) (by decide) ?_
      refine vp_callSi (W.runV (As := [.int (2), .int (5)]) (rest := [.int (r_13)]) ⟨hx, hb, hml, hown, hT⟩ (c_lastOfE l G ad S_15 H.size (2) (z) (τ) (C) (5) (hI1.HOK hHOK) ((HOX.MI (S := (setF S 0 8 0)) hHX hI1)) (by decide)) (tV 2 hT m6_180 m6_182 mp_43 m1_17 m6_183 rfl rfl (by decide +kernel) ⟨Nat.le_of_ble_eq_true rfl, Nat.le_of_ble_eq_true rfl⟩) ⟨PcW_blind, va_recv hK hP (ci := 14) (q0 := 0) rfl (ix_at (by decide) (cR_0 G ad S_15)), PcW_of hP hK hD _⟩ rfl rfl hl.1 rfl (lv_room (Nat.le_of_ble_eq_true rfl)) (fk_get fk_cX12_over_1 0 rfl) ⟨Nat.zero_le _, Nat.zero_le _⟩) (fun r_16 hw_17 => ?_)
      try dsimp only at hw_17
      subst hw_17
      refine lv_imul hx hb (fk_get fk_cX12_over_1 1 rfl) ?_
      refine lv_istore (lv' := [(4, .int ((r_13 * ((lstW 2 5 C))))), (0, .ref (ad 0)), (1, .int (c)), (2, .int (n_)), (3, .int (w_))]) hx hb (fk_get fk_cX12_over_1 2 rfl) hl (by decide) rfl (fun ls hl => ?_)
      refine lv_aload_n hx hb (fk_get fk_cX12_over_1 3 rfl) rfl (lv_at hl 1 rfl) ?_
      have hFc := va_self hD hS hA
      refine va_callv (va_runV (As := []) (rest := []) ⟨hx, hb, hml, hown, hT⟩ (c_close l G ad S_15 H.size ((setF S 0 8 0)) (9999 + w_.toNatClampNeg) (hI1)) (tV 0 hT m6_226 m6_228 mp_51 m1_17 m6_229 rfl rfl (by decide +kernel) ⟨Nat.le_of_ble_eq_true rfl, Nat.le_of_ble_eq_true rfl⟩) ⟨PcW_blind, va_recv hK hP (ci := 14) (q0 := 0) rfl (ix_at (by decide) (cR_0 G ad S_15)), PcW_of hP hK hD _⟩ rfl rfl hl.1 rfl (lv_room (Nat.le_of_ble_eq_true rfl)) (fk_get fk_cX12_over_1 4 rfl) ⟨Nat.zero_le _, Nat.zero_le _⟩) hS (fun q _ h => hFc q h) hFc (fun S_20 t_ H locs ht_ hvm_ hw_19 hB_ hz_ hk_ hS => ?_)
      obtain ⟨hP, -, hD1_⟩ := hB_
      rw [ht_] at hP
      have hD : va_D A (wR G ad S_20) := hD1_.weaken (fun k q _ h => hFc q.1 h)
      try dsimp only at hw_19
      have hZq := hw_19
      refine lv_iload hx hb (fk_get fk_cX12_over_1 5 rfl) (lv_at hl 0 rfl) ?_
      refine lv_iload_n hx hb (fk_get fk_cX12_over_1 6 rfl) rfl (lv_at hl 4 rfl) ?_
      refine lv_aload_n hx hb (fk_get fk_cX12_over_1 7 rfl) rfl (lv_at hl 1 rfl) ?_
      refine lv_iload_n hx hb (fk_get fk_cX12_over_1 8 rfl) rfl (lv_at hl 2 rfl) ?_
      refine lv_iconst (v := 2) hx hb (fk_get fk_cX12_over_1 9 rfl) (by decide) ?_
      refine vp_callSi (W.runV (As := [.int (c), .int (2)]) (rest := [.int (w_), .int ((r_13 * ((lstW 2 5 C))))]) ⟨hx, hb, hml, hown, hT⟩ (c_of0 l G ad S_20 H.size (c) (2) (((12 * c.toNatClampNeg) + 2)) (n_add (n_mul (rfl) (ej)) (rfl)) (by omega)) (tV 2 hT m6_119 m6_121 mp_34 m1_17 m6_122 rfl rfl (by decide +kernel) ⟨Nat.le_of_ble_eq_true rfl, Nat.le_of_ble_eq_true rfl⟩) ⟨PcW_blind, va_recv hK hP (ci := 14) (q0 := 0) rfl (ix_at (by decide) (cR_0 G ad S_20)), PcW_of hP hK hD _⟩ rfl rfl hl.1 rfl (lv_room (Nat.le_of_ble_eq_true rfl)) (fk_get fk_cX12_over_1 10 rfl) ⟨Nat.zero_le _, Nat.zero_le _⟩) (fun r_21 hw_22 => ?_)
      try dsimp only at hw_22
      rw [show fA S_20 1 (12 * c.toNatClampNeg + 2) = gR S c.toNatClampNeg 2 from congrFun (gr_Q hZq c.toNatClampNeg (by omega)) 2] at hw_22
      subst hw_22
      refine lv_imul hx hb (fk_get fk_cX12_over_1 11 rfl) ?_
      refine lv_iload_n hx hb (fk_get fk_cX12_over_1 12 rfl) rfl (lv_at hl 3 rfl) ?_
      refine lv_imul hx hb (fk_get fk_cX12_over_1 13 rfl) ?_
      refine lv_isub hx hb (fk_get fk_cX12_over_1 14 rfl) ?_
      subst hQ
      have hpost : QP (setF S 0 8 0) S_20 ∧ (((r_13 * ((lstW 2 5 C))) - ((w_ * ((gR S c.toNatClampNeg 2))) * n_)) : Int32) = overP (fF S 0 2) (lstW 3 1 C) (lstW 2 5 C) τ C n (gR S) c n_ w_ := by
        first | exact ⟨QP.rf h15, over_1 hnC_⟩ | exact ⟨QP.rf h15, over_2 hC_ (Or.inl (by assumption))⟩ | exact ⟨QP.rf h15, over_2 hC_ (Or.inr (by assumption))⟩ | exact ⟨hZq, over_r hC_ (by assumption) (by assumption) hA2⟩
      exact W.iret (v := ((r_13 * ((lstW 2 5 C))) - ((w_ * ((gR S c.toNatClampNeg 2))) * n_))) hx hb hr (fun t_ ht_ hW_ => ⟨⟨((r_13 * ((lstW 2 5 C))) - ((w_ * ((gR S c.toNatClampNeg 2))) * n_)), S_20, rfl, hpost, by rw [ht_]; exact hP, va_K.moved hW_.alike hK, hD⟩, hS.F ht_⟩) hS.2.2 (fk_get fk_cX12_over_1 15 rfl)
    have p_c_9 := if1_f hw_8 c_9
    refine lv_ldcw (v := (-1000002)) hx hb hown (hT _ m7_26) (fk_get fk_cX12_over_0 21 rfl) ?_
    subst hQ
    have hpost : QP (setF S 0 8 0) (setF S 0 8 (0)) ∧ ((-1000002) : Int32) = overP (fF S 0 2) (lstW 3 1 C) (lstW 2 5 C) τ C n (gR S) c n_ w_ := by
      first | exact ⟨QP.rf h15, over_1 hnC_⟩ | exact ⟨QP.rf h15, over_2 hC_ (Or.inl (by assumption))⟩ | exact ⟨QP.rf h15, over_2 hC_ (Or.inr (by assumption))⟩ | exact ⟨hZq, over_r hC_ (by assumption) (by assumption) hA2⟩
    exact W.iret (v := (-1000002)) hx hb hr (fun t_ ht_ hW_ => ⟨⟨(-1000002), (setF S 0 8 (0)), rfl, hpost, by rw [ht_]; exact hP, va_K.moved hW_.alike hK, hD⟩, hS.F ht_⟩) hS.2.2 (fk_get fk_cX12_over_0 22 rfl)
  have p_c_3 := if1_f hw_2 c_3
  have hnC_ : ¬ isC n c := by
    show ¬ (0 ≤ c ∧ c ≤ nI n - 1)
    rw [← hn]
    exact p_c_3
  refine lv_ldcw (v := (-1000001)) hx hb hown (hT _ m7_25) (fk_get fk_cX12_over_0 7 rfl) ?_
  subst hQ
  have hpost : QP (setF S 0 8 0) (setF S 0 8 (0)) ∧ ((-1000001) : Int32) = overP (fF S 0 2) (lstW 3 1 C) (lstW 2 5 C) τ C n (gR S) c n_ w_ := by
    first | exact ⟨QP.rf h15, over_1 hnC_⟩ | exact ⟨QP.rf h15, over_2 hC_ (Or.inl (by assumption))⟩ | exact ⟨QP.rf h15, over_2 hC_ (Or.inr (by assumption))⟩ | exact ⟨hZq, over_r hC_ (by assumption) (by assumption) hA2⟩
  exact W.iret (v := (-1000001)) hx hb hr (fun t_ ht_ hW_ => ⟨⟨(-1000001), (setF S 0 8 (0)), rfl, hpost, by rw [ht_]; exact hP, va_K.moved hW_.alike hK, hD⟩, hS.F ht_⟩) hS.2.2 (fk_get fk_cX12_over_0 8 rfl)
set_option maxHeartbeats 800000 in
set_option maxRecDepth 100000 in
theorem c_onX (l : Launch) (G : GG) (ad : Nat → Nat) (S : FS) (sz : Nat) (z : Nat) (τ : Nat → Int32) (C : ClU) (n : Nat) (c n_ w_ : Int32) (hn : fF S 0 1 = nI n) (hn6 : n ≤ 6) (hHOK : HOK S) (hSV : SV 9999 S) (h15 : fF S 0 15 = 0) (hHX : HOX S z τ C) : Met l yX12_on (Cond.code yX12_on cX12_on 7 (some .int) :: TBL) ({ frames := 9, cells := 0, slots := 0, locals := 258 } : Room) (PcW G (wR G ad S) sz [.ref (ad 0), .int (c), .int (n_), .int (w_)]) (va_Qi (fun (r : Int32) (S' : FS) => QP (setF S 0 8 0) S' ∧ r = onP (fF S 0 2) (lstW 3 1 C) (lstW 2 5 C) τ C n (gR S) c n_ w_) (fun S' t => BW G (va_A (wR G ad S) sz) (wR G ad S') t) (va_A (wR G ad S) sz)) 0 0 (va_A (wR G ad S) sz) := by
  refine Met.ofW (cc := cX12_on) (maxL := 7) (ret := (some .int)) (by decide) rfl ?_
  intro p e s m args below meth c₀ s₁ B hml hv
  obtain ⟨rfl, hsz, hP, hK, hD0⟩ := hv
  have hx := B.exec
  have hb := B.bytes
  have hr := B.returns
  have hT : ∀ w ∈ TBL, w.before ([.ref (ad 0), .int (c), .int (n_), .int (w_)] : List Value).toArray s = true := fun w h => atoms_spec (ws := Cond.code yX12_on cX12_on 7 (some .int) :: TBL) B.pre w (List.mem_cons_of_mem _ h)
  have hown : s.vm.findClass "LittleMoreModel" = some m.cls := findClass_of_methodNamed B.named
  have hlocks := B.notSynchronized
  subst hsz
  have hD := hD0.self (sz := s.heap.size)
  generalize hAe : va_A (wR G ad S) s.heap.size = A at hD ⊢
  have hA : ∀ q : Nat, s.heap.size ≤ q → A q := fun q h => by rw [← hAe]; exact Or.inr h
  have hS : va_S A s.heap s.heap [] := va_S.rf
  have hP : va_P G.1 vwCl (wR G ad S) s.heap := hP
  have hl := lv_entry ([.ref (ad 0), .int (c), .int (n_), .int (w_)]) (n := 7) (Nat.le_of_ble_eq_true rfl)
  rw [lg_entry_eq]
  generalize (lg_sl ([.ref (ad 0), .int (c), .int (n_), .int (w_)]) ++ List.replicate (7 - (lg_sl ([.ref (ad 0), .int (c), .int (n_), .int (w_)])).length) Slot.unset).toArray = ls at hl ⊢
  have hl : lv_has ls 7 [(0, .ref (ad 0)), (1, .int (c)), (2, .int (n_)), (3, .int (w_))] := hl
  refine W_abs (fun Q hQ => ?_)
  generalize ([.ref (ad 0), .int (c), .int (n_), .int (w_)] : List Value).toArray = args at hT hQ ⊢
  refine lv_aload_n hx hb (fk_get fk_cX12_on_0 0 rfl) rfl (lv_at hl 0 rfl) ?_
  refine lv_iconst (v := 0) hx hb (fk_get fk_cX12_on_0 1 rfl) (by decide) ?_
  refine va_put (D := G.1) (ci := 14) (v := .int (0)) (ty := .int) (C := RX12) (T := TX12) (N := 49) hx hb hT inX12 tyX12 tyX12_ok nmX12 hown hK hP hD hS 0 (ix_at (by decide) (cR_0 G ad S)) rfl 8 (by decide) (hT _ m5_109) (fun _ h9 => h9) rfl (by decide +kernel) rfl rfl (Nat.le_of_ble_eq_true rfl) (fk_get fk_cX12_on_0 2 rfl) (fun H locs hP hD hS => ?_)
  rw [pR_thrown G ad S (0)] at hP hD
  refine lv_aload_n hx hb (fk_get fk_cX12_on_0 3 rfl) rfl (lv_at hl 0 rfl) ?_
  refine lv_iload_n hx hb (fk_get fk_cX12_on_0 4 rfl) rfl (lv_at hl 1 rfl) ?_
  refine vp_callSi (W.runV (As := [.int (c)]) (rest := []) ⟨hx, hb, hml, hown, hT⟩ (c_isCustomer l G ad (setF S 0 8 (0)) H.size (c) ) (tV 1 hT m6_110 m6_112 mp_32 m1_17 m6_113 rfl rfl (by decide +kernel) ⟨Nat.le_of_ble_eq_true rfl, Nat.le_of_ble_eq_true rfl⟩) ⟨PcW_blind, va_recv hK hP (ci := 14) (q0 := 0) rfl (ix_at (by decide) (cR_0 G ad (setF S 0 8 (0)))), PcW_of hP hK hD _⟩ rfl rfl hl.1 rfl (lv_room (Nat.le_of_ble_eq_true rfl)) (fk_get fk_cX12_on_0 5 rfl) ⟨Nat.zero_le _, Nat.zero_le _⟩) (fun r_1 hw_2 => ?_)
  try dsimp only at hw_2
  have hw_2 : r_1 = if 0 ≤ c ∧ c ≤ fF S 0 1 - 1 then 1 else 0 := hw_2
  refine lv_if_eq (tgt := 25) hx hb (fk_get fk_cX12_on_0 6 rfl) (by decide) (fun c_3 => ?_) (fun c_3 => ?_)
  · have p_c_3 := if1_f hw_2 c_3
    have hnC_ : ¬ isC n c := by
      show ¬ (0 ≤ c ∧ c ≤ nI n - 1)
      rw [← hn]
      exact p_c_3
    refine lv_iconst (v := (-1)) hx hb (fk_get fk_cX12_on_0 13 rfl) (by decide) ?_
    subst hQ
    have hpost : QP (setF S 0 8 0) (setF S 0 8 (0)) ∧ ((-1) : Int32) = onP (fF S 0 2) (lstW 3 1 C) (lstW 2 5 C) τ C n (gR S) c n_ w_ := by
      first | exact ⟨QP.rf h15, on_1 (Or.inl hnC_)⟩ | exact ⟨QP.rf h15, on_1 (Or.inr (by assumption))⟩ | exact ⟨QP.rf h15, on_2 hC_ (by assumption) (by assumption)⟩ | exact ⟨hZq, hv7.trans (on_3 hC_ (by assumption) (by assumption))⟩
    exact W.iret (v := (-1)) hx hb hr (fun t_ ht_ hW_ => ⟨⟨(-1), (setF S 0 8 (0)), rfl, hpost, by rw [ht_]; exact hP, va_K.moved hW_.alike hK, hD⟩, hS.F ht_⟩) hS.2.2 (fk_get fk_cX12_on_0 14 rfl)
  have p_c_3 := if1_t hw_2 c_3
  have hC_ : isC n c := by
    show 0 ≤ c ∧ c ≤ nI n - 1
    rw [← hn]
    exact p_c_3
  obtain ⟨hj, ej⟩ := isC_n p_c_3 hn hn6
  refine lv_iload_n hx hb (fk_get fk_cX12_on_0 7 rfl) rfl (lv_at hl 3 rfl) ?_
  refine lv_i2l hx hb (fk_get fk_cX12_on_0 8 rfl) rfl ?_
  refine lv_lconst (v := 0) hx hb (fk_get fk_cX12_on_0 9 rfl) (by decide) ?_
  refine lv_ldc2 (v := 4) hx hb hown (hT _ m6_216) (fk_get fk_cX12_on_0 10 rfl) ?_
  refine vp_callSi (W.runS (As := [.long ((w_).toInt64), .long (0), .long (4)]) (rest := []) ⟨hx, hb, hml, hown, hT⟩ (c_in l ((w_).toInt64) (0) (4) ) (tS 3 hT m6_31 m6_32 m1_17 m6_33 rfl rfl (by decide +kernel) ⟨Nat.le_of_ble_eq_true rfl, Nat.le_of_ble_eq_true rfl⟩) ⟨PcN_blind, PcN_of _ _ _⟩ rfl rfl hl.1 rfl (lv_room (Nat.le_of_ble_eq_true rfl)) (fk_get fk_cX12_on_0 11 rfl) ⟨Nat.zero_le _, Nat.zero_le _⟩) (fun r_4 hw_5 => ?_)
  try dsimp only at hw_5
  have hw_5 := in_eq hw_5 (w_) 0 4 (rfl) (by decide) (by decide)
  refine lv_if_ne (tgt := 27) hx hb (fk_get fk_cX12_on_0 12 rfl) (by decide) (fun c_6 => ?_) (fun c_6 => ?_)
  · have p_c_6 := if1_t hw_5 c_6
    refine lv_iload_n hx hb (fk_get fk_cX12_on_0 15 rfl) rfl (lv_at hl 2 rfl) ?_
    refine lv_i2l hx hb (fk_get fk_cX12_on_0 16 rfl) rfl ?_
    refine lv_lconst (v := 0) hx hb (fk_get fk_cX12_on_0 17 rfl) (by decide) ?_
    refine lv_ldc2 (v := 40) hx hb hown (hT _ m6_217) (fk_get fk_cX12_on_0 18 rfl) ?_
    refine vp_callSi (W.runS (As := [.long ((n_).toInt64), .long (0), .long (40)]) (rest := []) ⟨hx, hb, hml, hown, hT⟩ (c_in l ((n_).toInt64) (0) (40) ) (tS 3 hT m6_31 m6_32 m1_17 m6_33 rfl rfl (by decide +kernel) ⟨Nat.le_of_ble_eq_true rfl, Nat.le_of_ble_eq_true rfl⟩) ⟨PcN_blind, PcN_of _ _ _⟩ rfl rfl hl.1 rfl (lv_room (Nat.le_of_ble_eq_true rfl)) (fk_get fk_cX12_on_0 19 rfl) ⟨Nat.zero_le _, Nat.zero_le _⟩) (fun r_7 hw_8 => ?_)
    try dsimp only at hw_8
    have hw_8 := in_eq hw_8 (n_) 0 40 (rfl) (by decide) (by decide)
    refine lv_if_ne (tgt := 42) hx hb (fk_get fk_cX12_on_0 20 rfl) (by decide) (fun c_9 => ?_) (fun c_9 => ?_)
    · have p_c_9 := if1_t hw_8 c_9
      obtain ⟨hw40, ew⟩ := in_n (b := 40) p_c_9 (by decide)
      refine lv_aload_n hx hb (fk_get fk_cX12_on_0 23 rfl) rfl (lv_at hl 0 rfl) ?_
      have hFc := va_self hD hS hA
      refine va_callv (va_runV (As := []) (rest := []) ⟨hx, hb, hml, hown, hT⟩ (c_openX l G ad (setF S 0 8 (0)) H.size (9999) (hSV)) (tV 0 hT m6_218 m6_220 mp_49 m1_17 m6_221 rfl rfl (by decide +kernel) ⟨Nat.le_of_ble_eq_true rfl, Nat.le_of_ble_eq_true rfl⟩) ⟨PcW_blind, va_recv hK hP (ci := 14) (q0 := 0) rfl (ix_at (by decide) (cR_0 G ad (setF S 0 8 (0)))), PcW_of hP hK hD _⟩ rfl rfl hl.1 rfl (lv_room (Nat.le_of_ble_eq_true rfl)) (fk_get fk_cX12_on_0 24 rfl) ⟨Nat.zero_le _, Nat.zero_le _⟩) hS (fun q _ h => hFc q h) hFc (fun S_12 t_ H locs ht_ hvm_ hw_11 hB_ hz_ hk_ hS => ?_)
      obtain ⟨hP, -, hD1_⟩ := hB_
      rw [ht_] at hP
      have hD : va_D A (wR G ad S_12) := hD1_.weaken (fun k q _ h => hFc q.1 h)
      try dsimp only at hw_11
      obtain ⟨hI0, hg0_, ho0_⟩ := hw_11
      have hg0_ : ∀ d, d < 6 → gR S_12 d = gR S d := hg0_
      have ho0_ : fF S_12 0 2 = fF S 0 2 := ho0_
      have h10_ : fF S_12 0 15 = 1 := hI0.2.2.1
      refine lv_aload_n hx hb (fk_get fk_cX12_on_0 25 rfl) rfl (lv_at hl 0 rfl) ?_
      refine lv_iload_n hx hb (fk_get fk_cX12_on_0 26 rfl) rfl (lv_at hl 1 rfl) ?_
      refine lv_iconst (v := 5) hx hb (fk_get fk_cX12_on_0 27 rfl) (by decide) ?_
      refine vp_callSi (W.runV (As := [.int (c), .int (5)]) (rest := []) ⟨hx, hb, hml, hown, hT⟩ (c_of0 l G ad S_12 H.size (c) (5) (((12 * c.toNatClampNeg) + 5)) (n_add (n_mul (rfl) (ej)) (rfl)) (by omega)) (tV 2 hT m6_119 m6_121 mp_34 m1_17 m6_122 rfl rfl (by decide +kernel) ⟨Nat.le_of_ble_eq_true rfl, Nat.le_of_ble_eq_true rfl⟩) ⟨PcW_blind, va_recv hK hP (ci := 14) (q0 := 0) rfl (ix_at (by decide) (cR_0 G ad S_12)), PcW_of hP hK hD _⟩ rfl rfl hl.1 rfl (lv_room (Nat.le_of_ble_eq_true rfl)) (fk_get fk_cX12_on_0 28 rfl) ⟨Nat.zero_le _, Nat.zero_le _⟩) (fun r_13 hw_14 => ?_)
      try dsimp only at hw_14
      rw [show fA S_12 1 (12 * c.toNatClampNeg + 5) = gR S c.toNatClampNeg 5 from congrFun (hg0_ c.toNatClampNeg (by omega)) 5] at hw_14
      subst hw_14
      refine lv_istore (lv' := [(4, .int (((gR S c.toNatClampNeg 5)))), (0, .ref (ad 0)), (1, .int (c)), (2, .int (n_)), (3, .int (w_))]) hx hb (fk_get fk_cX12_on_0 29 rfl) hl (by decide) rfl (fun ls hl => ?_)
      refine lv_aload_n hx hb (fk_get fk_cX12_on_0 30 rfl) rfl (lv_at hl 1 rfl) ?_
      refine lv_iload_n hx hb (fk_get fk_cX12_on_0 31 rfl) rfl (lv_at hl 2 rfl) ?_
      refine lv_iload_n hx hb (fk_get fk_cX12_on_1 0 rfl) rfl (lv_at hl 3 rfl) ?_
      have hFc := va_self hD hS hA
      refine va_calli (va_runV (As := [.int (c), .int (n_)]) (rest := []) ⟨hx, hb, hml, hown, hT⟩ (c_buysInXE l G ad S_12 H.size (z) (τ) (C) (c) (c.toNatClampNeg) (9999) (n_.toNatClampNeg) (hI0.HOK hHOK) ((HOX.MI (S := (setF S 0 8 0)) hHX hI0)) (hI0.SV) (by omega) (ej) (by omega) (hw40) (n_) (ew)) (tV 2 hT m6_222 m6_224 mp_50 m1_17 m6_225 rfl rfl (by decide +kernel) ⟨Nat.le_of_ble_eq_true rfl, Nat.le_of_ble_eq_true rfl⟩) ⟨PcW_blind, va_recv hK hP (ci := 14) (q0 := 0) rfl (ix_at (by decide) (cR_0 G ad S_12)), PcW_of hP hK hD _⟩ rfl rfl hl.1 rfl (lv_room (Nat.le_of_ble_eq_true rfl)) (fk_get fk_cX12_on_1 1 rfl) ⟨Nat.zero_le _, Nat.zero_le _⟩) hS (fun q _ h => hFc q h) hFc (fun r_15 S_17 t_ H locs ht_ hvm_ hw_16 hB_ hz_ hk_ hS => ?_)
      obtain ⟨hP, -, hD1_⟩ := hB_
      rw [ht_] at hP
      have hD : va_D A (wR G ad S_17) := hD1_.weaken (fun k q _ h => hFc q.1 h)
      try dsimp only at hw_16
      obtain ⟨hM2, hS2, hA2, -⟩ := hw_16
      have hI1 := hI0.M hM2 hS2
      rw [h10_, ho0_, hg0_ _ (by omega)] at hA2
      refine lv_istore (lv' := [(5, .int (r_15)), (4, .int (((gR S c.toNatClampNeg 5)))), (0, .ref (ad 0)), (1, .int (c)), (2, .int (n_)), (3, .int (w_))]) hx hb (fk_get fk_cX12_on_1 2 rfl) hl (by decide) rfl (fun ls hl => ?_)
      refine lv_iload_n hx hb (fk_get fk_cX12_on_1 3 rfl) rfl (lv_at hl 5 rfl) ?_
      have jn_18 : ∀ (v7 : Int32) (ls : Array Slot),  (v7 = onV (fF S 0 2) (lstW 3 1 C) (lstW 2 5 C) τ C (gR S c.toNatClampNeg) c n_.toNatClampNeg w_) → lv_has ls 7 [(5, .int (r_15)), (4, .int (((gR S c.toNatClampNeg 5)))), (0, .ref (ad 0)), (1, .int (c)), (2, .int (n_)), (3, .int (w_))] → W p l e ({ frames := 9, cells := 0, slots := 0, locals := 258 } : Room) s m args below meth c₀ H locs 0 0 Q (F0 m 120 ls [.int (v7)]) := by
        intro v7 ls hv7 hl
        refine lv_istore (lv' := [(6, .int (v7)), (5, .int (r_15)), (4, .int (((gR S c.toNatClampNeg 5)))), (0, .ref (ad 0)), (1, .int (c)), (2, .int (n_)), (3, .int (w_))]) hx hb (fk_get fk_cX12_on_2 4 rfl) hl (by decide) rfl (fun ls hl => ?_)
        refine lv_aload_n hx hb (fk_get fk_cX12_on_2 5 rfl) rfl (lv_at hl 3 rfl) ?_
        have hFc := va_self hD hS hA
        refine va_callv (va_runV (As := []) (rest := []) ⟨hx, hb, hml, hown, hT⟩ (c_close l G ad S_17 H.size ((setF S 0 8 0)) (9999 + n_.toNatClampNeg) (hI1)) (tV 0 hT m6_226 m6_228 mp_51 m1_17 m6_229 rfl rfl (by decide +kernel) ⟨Nat.le_of_ble_eq_true rfl, Nat.le_of_ble_eq_true rfl⟩) ⟨PcW_blind, va_recv hK hP (ci := 14) (q0 := 0) rfl (ix_at (by decide) (cR_0 G ad S_17)), PcW_of hP hK hD _⟩ rfl rfl hl.1 rfl (lv_room (Nat.le_of_ble_eq_true rfl)) (fk_get fk_cX12_on_2 6 rfl) ⟨Nat.zero_le _, Nat.zero_le _⟩) hS (fun q _ h => hFc q h) hFc (fun S_21 t_ H locs ht_ hvm_ hw_20 hB_ hz_ hk_ hS => ?_)
        obtain ⟨hP, -, hD1_⟩ := hB_
        rw [ht_] at hP
        have hD : va_D A (wR G ad S_21) := hD1_.weaken (fun k q _ h => hFc q.1 h)
        try dsimp only at hw_20
        have hZq := hw_20
        refine lv_iload hx hb (fk_get fk_cX12_on_2 7 rfl) (lv_at hl 0 rfl) ?_
        subst hQ
        have hpost : QP (setF S 0 8 0) S_21 ∧ (v7 : Int32) = onP (fF S 0 2) (lstW 3 1 C) (lstW 2 5 C) τ C n (gR S) c n_ w_ := by
          first | exact ⟨QP.rf h15, on_1 (Or.inl hnC_)⟩ | exact ⟨QP.rf h15, on_1 (Or.inr (by assumption))⟩ | exact ⟨QP.rf h15, on_2 hC_ (by assumption) (by assumption)⟩ | exact ⟨hZq, hv7.trans (on_3 hC_ (by assumption) (by assumption))⟩
        exact W.iret (v := v7) hx hb hr (fun t_ ht_ hW_ => ⟨⟨v7, S_21, rfl, hpost, by rw [ht_]; exact hP, va_K.moved hW_.alike hK, hD⟩, hS.F ht_⟩) hS.2.2 (fk_get fk_cX12_on_2 8 rfl)
      refine lv_if_ne (tgt := 71) hx hb (fk_get fk_cX12_on_1 4 rfl) (by decide) (fun c_22 => ?_) (fun c_22 => ?_)
      · refine lv_iload_n hx hb (fk_get fk_cX12_on_1 7 rfl) rfl (lv_at hl 5 rfl) ?_
        refine lv_iconst (v := 1) hx hb (fk_get fk_cX12_on_1 8 rfl) (by decide) ?_
        refine lv_icmp_ne (tgt := 88) hx hb (fk_get fk_cX12_on_1 9 rfl) (by decide) (fun c_23 => ?_) (fun c_23 => ?_)
        · refine lv_iload_n hx hb (fk_get fk_cX12_on_1 17 rfl) rfl (lv_at hl 5 rfl) ?_
          refine lv_iconst (v := 2) hx hb (fk_get fk_cX12_on_1 18 rfl) (by decide) ?_
          refine lv_icmp_ne (tgt := 105) hx hb (fk_get fk_cX12_on_1 19 rfl) (by decide) (fun c_24 => ?_) (fun c_24 => ?_)
          · refine lv_aload_n hx hb (fk_get fk_cX12_on_1 27 rfl) rfl (lv_at hl 2 rfl) ?_
            refine lv_iload_n hx hb (fk_get fk_cX12_on_1 28 rfl) rfl (lv_at hl 3 rfl) ?_
            refine lv_iload_n hx hb (fk_get fk_cX12_on_1 29 rfl) rfl (lv_at hl 5 rfl) ?_
            refine lv_iconst (v := 3) hx hb (fk_get fk_cX12_on_1 30 rfl) (by decide) ?_
            refine lv_icmp_ne (tgt := 116) hx hb (fk_get fk_cX12_on_1 31 rfl) (by decide) (fun c_25 => ?_) (fun c_25 => ?_)
            · refine lv_iconst (v := 4) hx hb (fk_get fk_cX12_on_2 2 rfl) (by decide) ?_
              refine vp_callSi (W.runV (As := [.int (c), .int (4)]) (rest := []) ⟨hx, hb, hml, hown, hT⟩ (c_of0 l G ad S_17 H.size (c) (4) (((12 * c.toNatClampNeg) + 4)) (n_add (n_mul (rfl) (ej)) (rfl)) (by omega)) (tV 2 hT m6_119 m6_121 mp_34 m1_17 m6_122 rfl rfl (by decide +kernel) ⟨Nat.le_of_ble_eq_true rfl, Nat.le_of_ble_eq_true rfl⟩) ⟨PcW_blind, va_recv hK hP (ci := 14) (q0 := 0) rfl (ix_at (by decide) (cR_0 G ad S_17)), PcW_of hP hK hD _⟩ rfl rfl hl.1 rfl (lv_room (Nat.le_of_ble_eq_true rfl)) (fk_get fk_cX12_on_2 3 rfl) ⟨Nat.zero_le _, Nat.zero_le _⟩) (fun r_26 hw_27 => ?_)
              try dsimp only at hw_27
              exact jn_18 ((r_26)) ls ((by first | exact on_v hA2 (Or.inl ⟨by assumption, rfl⟩) | exact on_v hA2 (Or.inl ⟨Decidable.not_not.mp (by assumption), rfl⟩) | exact on_v hA2 (Or.inr (Or.inl ⟨by assumption, by first | assumption | exact Decidable.not_not.mp (by assumption), rfl⟩)) | exact on_v hA2 (Or.inr (Or.inr (Or.inl ⟨by assumption, by assumption, by first | assumption | exact Decidable.not_not.mp (by assumption), rfl⟩))) | exact on_v hA2 (Or.inr (Or.inr (Or.inr (Or.inl ⟨by assumption, by assumption, by assumption, by first | assumption | exact Decidable.not_not.mp (by assumption), by assumption⟩)))) | exact on_v hA2 (Or.inr (Or.inr (Or.inr (Or.inr ⟨by assumption, by assumption, by assumption, by assumption, by assumption⟩)))))) (lv_sub hl [0, 1, 2, 3, 4, 5] rfl)
            refine lv_iconst (v := 3) hx hb (fk_get fk_cX12_on_2 0 rfl) (by decide) ?_
            refine lv_goto (tgt := 117) hx hb (fk_get fk_cX12_on_2 1 rfl) (by decide) ?_
            refine vp_callSi (W.runV (As := [.int (c), .int (3)]) (rest := []) ⟨hx, hb, hml, hown, hT⟩ (c_of0 l G ad S_17 H.size (c) (3) (((12 * c.toNatClampNeg) + 3)) (n_add (n_mul (rfl) (ej)) (rfl)) (by omega)) (tV 2 hT m6_119 m6_121 mp_34 m1_17 m6_122 rfl rfl (by decide +kernel) ⟨Nat.le_of_ble_eq_true rfl, Nat.le_of_ble_eq_true rfl⟩) ⟨PcW_blind, va_recv hK hP (ci := 14) (q0 := 0) rfl (ix_at (by decide) (cR_0 G ad S_17)), PcW_of hP hK hD _⟩ rfl rfl hl.1 rfl (lv_room (Nat.le_of_ble_eq_true rfl)) (fk_get fk_cX12_on_2 3 rfl) ⟨Nat.zero_le _, Nat.zero_le _⟩) (fun r_28 hw_29 => ?_)
            try dsimp only at hw_29
            exact jn_18 ((r_28)) ls ((by first | exact on_v hA2 (Or.inl ⟨by assumption, rfl⟩) | exact on_v hA2 (Or.inl ⟨Decidable.not_not.mp (by assumption), rfl⟩) | exact on_v hA2 (Or.inr (Or.inl ⟨by assumption, by first | assumption | exact Decidable.not_not.mp (by assumption), rfl⟩)) | exact on_v hA2 (Or.inr (Or.inr (Or.inl ⟨by assumption, by assumption, by first | assumption | exact Decidable.not_not.mp (by assumption), rfl⟩))) | exact on_v hA2 (Or.inr (Or.inr (Or.inr (Or.inl ⟨by assumption, by assumption, by assumption, by first | assumption | exact Decidable.not_not.mp (by assumption), by assumption⟩)))) | exact on_v hA2 (Or.inr (Or.inr (Or.inr (Or.inr ⟨by assumption, by assumption, by assumption, by assumption, by assumption⟩)))))) (lv_sub hl [0, 1, 2, 3, 4, 5] rfl)
          refine lv_aload_n hx hb (fk_get fk_cX12_on_1 20 rfl) rfl (lv_at hl 2 rfl) ?_
          refine lv_iload_n hx hb (fk_get fk_cX12_on_1 21 rfl) rfl (lv_at hl 3 rfl) ?_
          refine lv_iconst (v := 5) hx hb (fk_get fk_cX12_on_1 22 rfl) (by decide) ?_
          refine vp_callSi (W.runV (As := [.int (c), .int (5)]) (rest := []) ⟨hx, hb, hml, hown, hT⟩ (c_of0 l G ad S_17 H.size (c) (5) (((12 * c.toNatClampNeg) + 5)) (n_add (n_mul (rfl) (ej)) (rfl)) (by omega)) (tV 2 hT m6_119 m6_121 mp_34 m1_17 m6_122 rfl rfl (by decide +kernel) ⟨Nat.le_of_ble_eq_true rfl, Nat.le_of_ble_eq_true rfl⟩) ⟨PcW_blind, va_recv hK hP (ci := 14) (q0 := 0) rfl (ix_at (by decide) (cR_0 G ad S_17)), PcW_of hP hK hD _⟩ rfl rfl hl.1 rfl (lv_room (Nat.le_of_ble_eq_true rfl)) (fk_get fk_cX12_on_1 23 rfl) ⟨Nat.zero_le _, Nat.zero_le _⟩) (fun r_30 hw_31 => ?_)
          try dsimp only at hw_31
          subst hw_31
          refine lv_iload hx hb (fk_get fk_cX12_on_1 24 rfl) (lv_at hl 1 rfl) ?_
          refine lv_isub hx hb (fk_get fk_cX12_on_1 25 rfl) ?_
          refine lv_goto (tgt := 120) hx hb (fk_get fk_cX12_on_1 26 rfl) (by decide) ?_
          exact jn_18 ((((fA S_17 1 (12 * c.toNatClampNeg + 5)) - ((gR S c.toNatClampNeg 5))))) ls ((by first | exact on_v hA2 (Or.inl ⟨by assumption, rfl⟩) | exact on_v hA2 (Or.inl ⟨Decidable.not_not.mp (by assumption), rfl⟩) | exact on_v hA2 (Or.inr (Or.inl ⟨by assumption, by first | assumption | exact Decidable.not_not.mp (by assumption), rfl⟩)) | exact on_v hA2 (Or.inr (Or.inr (Or.inl ⟨by assumption, by assumption, by first | assumption | exact Decidable.not_not.mp (by assumption), rfl⟩))) | exact on_v hA2 (Or.inr (Or.inr (Or.inr (Or.inl ⟨by assumption, by assumption, by assumption, by first | assumption | exact Decidable.not_not.mp (by assumption), by assumption⟩)))) | exact on_v hA2 (Or.inr (Or.inr (Or.inr (Or.inr ⟨by assumption, by assumption, by assumption, by assumption, by assumption⟩)))))) (lv_sub hl [0, 1, 2, 3, 4, 5] rfl)
        refine lv_iload hx hb (fk_get fk_cX12_on_1 10 rfl) (lv_at hl 0 rfl) ?_
        refine lv_aload_n hx hb (fk_get fk_cX12_on_1 11 rfl) rfl (lv_at hl 2 rfl) ?_
        refine lv_iconst (v := 2) hx hb (fk_get fk_cX12_on_1 12 rfl) (by decide) ?_
        refine lv_iconst (v := 5) hx hb (fk_get fk_cX12_on_1 13 rfl) (by decide) ?_
        refine vp_callSi (W.runV (As := [.int (2), .int (5)]) (rest := [.int (r_15)]) ⟨hx, hb, hml, hown, hT⟩ (c_lastOfE l G ad S_17 H.size (2) (z) (τ) (C) (5) (hI1.HOK hHOK) ((HOX.MI (S := (setF S 0 8 0)) hHX hI1)) (by decide)) (tV 2 hT m6_180 m6_182 mp_43 m1_17 m6_183 rfl rfl (by decide +kernel) ⟨Nat.le_of_ble_eq_true rfl, Nat.le_of_ble_eq_true rfl⟩) ⟨PcW_blind, va_recv hK hP (ci := 14) (q0 := 0) rfl (ix_at (by decide) (cR_0 G ad S_17)), PcW_of hP hK hD _⟩ rfl rfl hl.1 rfl (lv_room (Nat.le_of_ble_eq_true rfl)) (fk_get fk_cX12_on_1 14 rfl) ⟨Nat.zero_le _, Nat.zero_le _⟩) (fun r_32 hw_33 => ?_)
        try dsimp only at hw_33
        subst hw_33
        refine lv_imul hx hb (fk_get fk_cX12_on_1 15 rfl) ?_
        refine lv_goto (tgt := 120) hx hb (fk_get fk_cX12_on_1 16 rfl) (by decide) ?_
        exact jn_18 (((r_15 * ((lstW 2 5 C))))) ls ((by first | exact on_v hA2 (Or.inl ⟨by assumption, rfl⟩) | exact on_v hA2 (Or.inl ⟨Decidable.not_not.mp (by assumption), rfl⟩) | exact on_v hA2 (Or.inr (Or.inl ⟨by assumption, by first | assumption | exact Decidable.not_not.mp (by assumption), rfl⟩)) | exact on_v hA2 (Or.inr (Or.inr (Or.inl ⟨by assumption, by assumption, by first | assumption | exact Decidable.not_not.mp (by assumption), rfl⟩))) | exact on_v hA2 (Or.inr (Or.inr (Or.inr (Or.inl ⟨by assumption, by assumption, by assumption, by first | assumption | exact Decidable.not_not.mp (by assumption), by assumption⟩)))) | exact on_v hA2 (Or.inr (Or.inr (Or.inr (Or.inr ⟨by assumption, by assumption, by assumption, by assumption, by assumption⟩)))))) (lv_sub hl [0, 1, 2, 3, 4, 5] rfl)
      refine lv_iload hx hb (fk_get fk_cX12_on_1 5 rfl) (lv_at hl 0 rfl) ?_
      refine lv_goto (tgt := 120) hx hb (fk_get fk_cX12_on_1 6 rfl) (by decide) ?_
      exact jn_18 ((r_15)) ls ((by first | exact on_v hA2 (Or.inl ⟨by assumption, rfl⟩) | exact on_v hA2 (Or.inl ⟨Decidable.not_not.mp (by assumption), rfl⟩) | exact on_v hA2 (Or.inr (Or.inl ⟨by assumption, by first | assumption | exact Decidable.not_not.mp (by assumption), rfl⟩)) | exact on_v hA2 (Or.inr (Or.inr (Or.inl ⟨by assumption, by assumption, by first | assumption | exact Decidable.not_not.mp (by assumption), rfl⟩))) | exact on_v hA2 (Or.inr (Or.inr (Or.inr (Or.inl ⟨by assumption, by assumption, by assumption, by first | assumption | exact Decidable.not_not.mp (by assumption), by assumption⟩)))) | exact on_v hA2 (Or.inr (Or.inr (Or.inr (Or.inr ⟨by assumption, by assumption, by assumption, by assumption, by assumption⟩)))))) (lv_sub hl [0, 1, 2, 3, 4, 5] rfl)
    have p_c_9 := if1_f hw_8 c_9
    refine lv_bipush (v := (-2)) hx hb (fk_get fk_cX12_on_0 21 rfl) (by decide) ?_
    subst hQ
    have hpost : QP (setF S 0 8 0) (setF S 0 8 (0)) ∧ ((-2) : Int32) = onP (fF S 0 2) (lstW 3 1 C) (lstW 2 5 C) τ C n (gR S) c n_ w_ := by
      first | exact ⟨QP.rf h15, on_1 (Or.inl hnC_)⟩ | exact ⟨QP.rf h15, on_1 (Or.inr (by assumption))⟩ | exact ⟨QP.rf h15, on_2 hC_ (by assumption) (by assumption)⟩ | exact ⟨hZq, hv7.trans (on_3 hC_ (by assumption) (by assumption))⟩
    exact W.iret (v := (-2)) hx hb hr (fun t_ ht_ hW_ => ⟨⟨(-2), (setF S 0 8 (0)), rfl, hpost, by rw [ht_]; exact hP, va_K.moved hW_.alike hK, hD⟩, hS.F ht_⟩) hS.2.2 (fk_get fk_cX12_on_0 22 rfl)
  have p_c_6 := if1_f hw_5 c_6
  refine lv_iconst (v := (-1)) hx hb (fk_get fk_cX12_on_0 13 rfl) (by decide) ?_
  subst hQ
  have hpost : QP (setF S 0 8 0) (setF S 0 8 (0)) ∧ ((-1) : Int32) = onP (fF S 0 2) (lstW 3 1 C) (lstW 2 5 C) τ C n (gR S) c n_ w_ := by
    first | exact ⟨QP.rf h15, on_1 (Or.inl hnC_)⟩ | exact ⟨QP.rf h15, on_1 (Or.inr (by assumption))⟩ | exact ⟨QP.rf h15, on_2 hC_ (by assumption) (by assumption)⟩ | exact ⟨hZq, hv7.trans (on_3 hC_ (by assumption) (by assumption))⟩
  exact W.iret (v := (-1)) hx hb hr (fun t_ ht_ hW_ => ⟨⟨(-1), (setF S 0 8 (0)), rfl, hpost, by rw [ht_]; exact hP, va_K.moved hW_.alike hK, hD⟩, hS.F ht_⟩) hS.2.2 (fk_get fk_cX12_on_0 14 rfl)
set_option maxHeartbeats 800000 in
set_option maxRecDepth 100000 in
theorem c_dareX (l : Launch) (G : GG) (ad : Nat → Nat) (S : FS) (sz : Nat) (z : Nat) (τ : Nat → Int32) (C : ClU) (n : Nat) (n_ what : Int32) (hn : fF S 0 1 = nI n) (hn6 : n ≤ 6) (hHOK : HOK S) (hSV : SV 9999 S) (h15 : fF S 0 15 = 0) (hHX : HOX S z τ C) : Met l yX12_dare (Cond.code yX12_dare cX12_dare 7 (some .int) :: TBL) ({ frames := 10, cells := 0, slots := 0, locals := 281 } : Room) (PcW G (wR G ad S) sz [.ref (ad 0), .int (n_), .int (what)]) (va_Qi (fun (r : Int32) (S' : FS) => QP (setF S 0 8 0) S' ∧ r = darP (lstW 3 1 C) (lstW 2 5 C) τ C n (gR S) n_ what) (fun S' t => BW G (va_A (wR G ad S) sz) (wR G ad S') t) (va_A (wR G ad S) sz)) 0 0 (va_A (wR G ad S) sz) := by
  refine Met.ofW (cc := cX12_dare) (maxL := 7) (ret := (some .int)) (by decide) rfl ?_
  intro p e s m args below meth c₀ s₁ B hml hv
  obtain ⟨rfl, hsz, hP, hK, hD0⟩ := hv
  have hx := B.exec
  have hb := B.bytes
  have hr := B.returns
  have hT : ∀ w ∈ TBL, w.before ([.ref (ad 0), .int (n_), .int (what)] : List Value).toArray s = true := fun w h => atoms_spec (ws := Cond.code yX12_dare cX12_dare 7 (some .int) :: TBL) B.pre w (List.mem_cons_of_mem _ h)
  have hown : s.vm.findClass "LittleMoreModel" = some m.cls := findClass_of_methodNamed B.named
  have hlocks := B.notSynchronized
  subst hsz
  have hD := hD0.self (sz := s.heap.size)
  generalize hAe : va_A (wR G ad S) s.heap.size = A at hD ⊢
  have hA : ∀ q : Nat, s.heap.size ≤ q → A q := fun q h => by rw [← hAe]; exact Or.inr h
  have hS : va_S A s.heap s.heap [] := va_S.rf
  have hP : va_P G.1 vwCl (wR G ad S) s.heap := hP
  have hl := lv_entry ([.ref (ad 0), .int (n_), .int (what)]) (n := 7) (Nat.le_of_ble_eq_true rfl)
  rw [lg_entry_eq]
  generalize (lg_sl ([.ref (ad 0), .int (n_), .int (what)]) ++ List.replicate (7 - (lg_sl ([.ref (ad 0), .int (n_), .int (what)])).length) Slot.unset).toArray = ls at hl ⊢
  have hl : lv_has ls 7 [(0, .ref (ad 0)), (1, .int (n_)), (2, .int (what))] := hl
  refine W_abs (fun Q hQ => ?_)
  generalize ([.ref (ad 0), .int (n_), .int (what)] : List Value).toArray = args at hT hQ ⊢
  refine lv_aload_n hx hb (fk_get fk_cX12_dare_0 0 rfl) rfl (lv_at hl 0 rfl) ?_
  refine lv_iconst (v := 0) hx hb (fk_get fk_cX12_dare_0 1 rfl) (by decide) ?_
  refine va_put (D := G.1) (ci := 14) (v := .int (0)) (ty := .int) (C := RX12) (T := TX12) (N := 49) hx hb hT inX12 tyX12 tyX12_ok nmX12 hown hK hP hD hS 0 (ix_at (by decide) (cR_0 G ad S)) rfl 8 (by decide) (hT _ m5_109) (fun _ h9 => h9) rfl (by decide +kernel) rfl rfl (Nat.le_of_ble_eq_true rfl) (fk_get fk_cX12_dare_0 2 rfl) (fun H locs hP hD hS => ?_)
  rw [pR_thrown G ad S (0)] at hP hD
  refine lv_iload_n hx hb (fk_get fk_cX12_dare_0 3 rfl) rfl (lv_at hl 2 rfl) ?_
  refine lv_i2l hx hb (fk_get fk_cX12_dare_0 4 rfl) rfl ?_
  refine lv_lconst (v := 0) hx hb (fk_get fk_cX12_dare_0 5 rfl) (by decide) ?_
  refine lv_lconst (v := 1) hx hb (fk_get fk_cX12_dare_0 6 rfl) (by decide) ?_
  refine vp_callSi (W.runS (As := [.long ((what).toInt64), .long (0), .long (1)]) (rest := []) ⟨hx, hb, hml, hown, hT⟩ (c_in l ((what).toInt64) (0) (1) ) (tS 3 hT m6_31 m6_32 m1_17 m6_33 rfl rfl (by decide +kernel) ⟨Nat.le_of_ble_eq_true rfl, Nat.le_of_ble_eq_true rfl⟩) ⟨PcN_blind, PcN_of _ _ _⟩ rfl rfl hl.1 rfl (lv_room (Nat.le_of_ble_eq_true rfl)) (fk_get fk_cX12_dare_0 7 rfl) ⟨Nat.zero_le _, Nat.zero_le _⟩) (fun r_1 hw_2 => ?_)
  try dsimp only at hw_2
  have hw_2 := in_eq hw_2 (what) 0 1 (rfl) (by decide) (by decide)
  refine lv_if_ne (tgt := 17) hx hb (fk_get fk_cX12_dare_0 8 rfl) (by decide) (fun c_3 => ?_) (fun c_3 => ?_)
  · have p_c_3 := if1_t hw_2 c_3
    refine lv_iload_n hx hb (fk_get fk_cX12_dare_0 11 rfl) rfl (lv_at hl 1 rfl) ?_
    refine lv_i2l hx hb (fk_get fk_cX12_dare_0 12 rfl) rfl ?_
    refine lv_lconst (v := 1) hx hb (fk_get fk_cX12_dare_0 13 rfl) (by decide) ?_
    refine lv_ldc2 (v := 20) hx hb hown (hT _ m6_166) (fk_get fk_cX12_dare_0 14 rfl) ?_
    refine vp_callSi (W.runS (As := [.long ((n_).toInt64), .long (1), .long (20)]) (rest := []) ⟨hx, hb, hml, hown, hT⟩ (c_in l ((n_).toInt64) (1) (20) ) (tS 3 hT m6_31 m6_32 m1_17 m6_33 rfl rfl (by decide +kernel) ⟨Nat.le_of_ble_eq_true rfl, Nat.le_of_ble_eq_true rfl⟩) ⟨PcN_blind, PcN_of _ _ _⟩ rfl rfl hl.1 rfl (lv_room (Nat.le_of_ble_eq_true rfl)) (fk_get fk_cX12_dare_0 15 rfl) ⟨Nat.zero_le _, Nat.zero_le _⟩) (fun r_4 hw_5 => ?_)
    try dsimp only at hw_5
    have hw_5 := in_eq hw_5 (n_) 1 20 (rfl) (by decide) (by decide)
    refine lv_if_ne (tgt := 32) hx hb (fk_get fk_cX12_dare_0 16 rfl) (by decide) (fun c_6 => ?_) (fun c_6 => ?_)
    · have p_c_6 := if1_t hw_5 c_6
      obtain ⟨hw20, ew⟩ := in_n (b := 20) ⟨Int32.le_trans (by decide) p_c_6.1, p_c_6.2⟩ (by decide)
      have hw40 : n_.toNatClampNeg ≤ 40 := by omega
      refine lv_iconst (v := 0) hx hb (fk_get fk_cX12_dare_0 19 rfl) (by decide) ?_
      refine lv_istore_n (lv' := [(3, .int (0)), (0, .ref (ad 0)), (1, .int (n_)), (2, .int (what))]) hx hb (fk_get fk_cX12_dare_0 20 rfl) rfl hl (by decide) rfl (fun ls hl => ?_)
      refine lv_iconst (v := (-1)) hx hb (fk_get fk_cX12_dare_0 21 rfl) (by decide) ?_
      refine lv_istore (lv' := [(4, .int ((-1))), (3, .int (0)), (0, .ref (ad 0)), (1, .int (n_)), (2, .int (what))]) hx hb (fk_get fk_cX12_dare_0 22 rfl) hl (by decide) rfl (fun ls hl => ?_)
      refine lv_aload_n hx hb (fk_get fk_cX12_dare_0 23 rfl) rfl (lv_at hl 2 rfl) ?_
      have hFc := va_self hD hS hA
      refine va_callv (va_runV (As := []) (rest := []) ⟨hx, hb, hml, hown, hT⟩ (c_openX l G ad (setF S 0 8 (0)) H.size (9999) (hSV)) (tV 0 hT m6_218 m6_220 mp_49 m1_17 m6_221 rfl rfl (by decide +kernel) ⟨Nat.le_of_ble_eq_true rfl, Nat.le_of_ble_eq_true rfl⟩) ⟨PcW_blind, va_recv hK hP (ci := 14) (q0 := 0) rfl (ix_at (by decide) (cR_0 G ad (setF S 0 8 (0)))), PcW_of hP hK hD _⟩ rfl rfl hl.1 rfl (lv_room (Nat.le_of_ble_eq_true rfl)) (fk_get fk_cX12_dare_0 24 rfl) ⟨Nat.zero_le _, Nat.zero_le _⟩) hS (fun q _ h => hFc q h) hFc (fun S_9 t_ H locs ht_ hvm_ hw_8 hB_ hz_ hk_ hS => ?_)
      obtain ⟨hP, -, hD1_⟩ := hB_
      rw [ht_] at hP
      have hD : va_D A (wR G ad S_9) := hD1_.weaken (fun k q _ h => hFc q.1 h)
      try dsimp only at hw_8
      obtain ⟨hI0, hg0_, ho0_⟩ := hw_8
      have hg0_ : ∀ d, d < 6 → gR S_9 d = gR S d := hg0_
      have ho0_ : fF S_9 0 2 = fF S 0 2 := ho0_
      have h10_ : fF S_9 0 15 = 1 := hI0.2.2.1
      refine lv_iconst (v := 0) hx hb (fk_get fk_cX12_dare_0 25 rfl) (by decide) ?_
      refine lv_istore (lv' := [(5, .int (0)), (4, .int ((-1))), (3, .int (0)), (0, .ref (ad 0)), (1, .int (n_)), (2, .int (what))]) hx hb (fk_get fk_cX12_dare_0 26 rfl) hl (by decide) rfl (fun ls hl => ?_)
      have lp_10 : ∀ (fu : Nat) (k : Nat) (v3 v4 : Int32) (SL : FS) (H_12 : Heap) (locs_13 : List Loc) (ls : Array Slot),  (k ≤ 31) → (31 < k + fu) → (MI (setF S 0 8 0) SL 11000) → ((v3, v4) = daN (darF (lstW 3 1 C) (lstW 2 5 C) τ C n (gR S) n_.toNatClampNeg) k) → va_P G.1 vwCl (wR G ad SL) H_12 → va_D A (wR G ad SL) → va_S A s.heap H_12 locs_13 → lv_has ls 7 [(5, .int ((nI k))), (4, .int (v4)), (3, .int (v3)), (0, .ref (ad 0)), (1, .int (n_)), (2, .int (what))] → W p l e ({ frames := 10, cells := 0, slots := 0, locals := 281 } : Room) s m args below meth c₀ H_12 locs_13 0 0 Q (F0 m 44 ls []) := by
        intro fu
        induction fu with
        | zero =>
          intro k v3 v4 SL H_12 locs_13 ls hk hf hI hD_ hP hD hS hl
          exact absurd hf (by omega)
        | succ fu ih =>
          intro k v3 v4 SL H_12 locs_13 ls hk hf hI hD_ hP hD hS hl
          refine lv_iload hx hb (fk_get fk_cX12_dare_0 27 rfl) (lv_at hl 0 rfl) ?_
          refine lv_bipush (v := 30) hx hb (fk_get fk_cX12_dare_0 28 rfl) (by decide) ?_
          refine lv_icmp_gt (tgt := 115) hx hb (fk_get fk_cX12_dare_0 29 rfl) (by decide) (fun c_14 => ?_) (fun c_14 => ?_)
          · have hk31 : k = 31 := by have z_ := (nI_ltI (a := 30) (b := k) (by omega) (by omega)).mp c_14; omega
            subst hk31
            refine lv_aload_n hx hb (fk_get fk_cX12_dare_1 30 rfl) rfl (lv_at hl 3 rfl) ?_
            have hFc := va_self hD hS hA
            refine va_callv (va_runV (As := []) (rest := []) ⟨hx, hb, hml, hown, hT⟩ (c_close l G ad SL H_12.size ((setF S 0 8 0)) (11000) (hI)) (tV 0 hT m6_226 m6_228 mp_51 m1_17 m6_229 rfl rfl (by decide +kernel) ⟨Nat.le_of_ble_eq_true rfl, Nat.le_of_ble_eq_true rfl⟩) ⟨PcW_blind, va_recv hK hP (ci := 14) (q0 := 0) rfl (ix_at (by decide) (cR_0 G ad SL)), PcW_of hP hK hD _⟩ rfl rfl hl.1 rfl (lv_room (Nat.le_of_ble_eq_true rfl)) (fk_get fk_cX12_dare_1 31 rfl) ⟨Nat.zero_le _, Nat.zero_le _⟩) hS (fun q _ h => hFc q h) hFc (fun S_17 t_ H locs ht_ hvm_ hw_16 hB_ hz_ hk_ hS => ?_)
            obtain ⟨hP, -, hD1_⟩ := hB_
            rw [ht_] at hP
            have hD : va_D A (wR G ad S_17) := hD1_.weaken (fun k q _ h => hFc q.1 h)
            try dsimp only at hw_16
            have hZq := hw_16
            refine lv_iload_n hx hb (fk_get fk_cX12_dare_2 0 rfl) rfl (lv_at hl 5 rfl) ?_
            refine lv_if_ne (tgt := 127) hx hb (fk_get fk_cX12_dare_2 1 rfl) (by decide) (fun c_18 => ?_) (fun c_18 => ?_)
            · refine lv_iload hx hb (fk_get fk_cX12_dare_2 4 rfl) (lv_at hl 1 rfl) ?_
              subst hQ
              have hpost : QP (setF S 0 8 0) S_17 ∧ (v4 : Int32) = darP (lstW 3 1 C) (lstW 2 5 C) τ C n (gR S) n_ what := by
                first | exact ⟨QP.rf h15, dar_1 (by assumption)⟩ | exact ⟨QP.rf h15, dar_2 (by assumption) (by assumption)⟩ | exact ⟨hZq, (dar_r (by assumption) (by assumption) hD_).1 (by first | assumption | exact Decidable.not_not.mp (by assumption))⟩ | exact ⟨hZq, (dar_r (by assumption) (by assumption) hD_).2 (by assumption)⟩
              exact W.iret (v := v4) hx hb hr (fun t_ ht_ hW_ => ⟨⟨v4, S_17, rfl, hpost, by rw [ht_]; exact hP, va_K.moved hW_.alike hK, hD⟩, hS.F ht_⟩) hS.2.2 (fk_get fk_cX12_dare_2 5 rfl)
            refine lv_iload_n hx hb (fk_get fk_cX12_dare_2 2 rfl) rfl (lv_at hl 2 rfl) ?_
            refine lv_goto (tgt := 129) hx hb (fk_get fk_cX12_dare_2 3 rfl) (by decide) ?_
            subst hQ
            have hpost : QP (setF S 0 8 0) S_17 ∧ (v3 : Int32) = darP (lstW 3 1 C) (lstW 2 5 C) τ C n (gR S) n_ what := by
              first | exact ⟨QP.rf h15, dar_1 (by assumption)⟩ | exact ⟨QP.rf h15, dar_2 (by assumption) (by assumption)⟩ | exact ⟨hZq, (dar_r (by assumption) (by assumption) hD_).1 (by first | assumption | exact Decidable.not_not.mp (by assumption))⟩ | exact ⟨hZq, (dar_r (by assumption) (by assumption) hD_).2 (by assumption)⟩
            exact W.iret (v := v3) hx hb hr (fun t_ ht_ hW_ => ⟨⟨v3, S_17, rfl, hpost, by rw [ht_]; exact hP, va_K.moved hW_.alike hK, hD⟩, hS.F ht_⟩) hS.2.2 (fk_get fk_cX12_dare_2 5 rfl)
          have hlt : k ≤ 30 := (nI_leI (a := k) (b := 30) (by omega) (by omega)).mp (Int32.not_lt.mp c_14)
          refine lv_aload_n hx hb (fk_get fk_cX12_dare_0 30 rfl) rfl (lv_at hl 3 rfl) ?_
          have hFc := va_self hD hS hA
          refine va_callv (va_runV (As := []) (rest := []) ⟨hx, hb, hml, hown, hT⟩ (c_againX l G ad SL H_12.size ((setF S 0 8 0)) (11000) (9999) (hI) (hSV)) (tV 0 hT m7_1 m7_3 mp_52 m1_17 m7_4 rfl rfl (by decide +kernel) ⟨Nat.le_of_ble_eq_true rfl, Nat.le_of_ble_eq_true rfl⟩) ⟨PcW_blind, va_recv hK hP (ci := 14) (q0 := 0) rfl (ix_at (by decide) (cR_0 G ad SL)), PcW_of hP hK hD _⟩ rfl rfl hl.1 rfl (lv_room (Nat.le_of_ble_eq_true rfl)) (fk_get fk_cX12_dare_0 31 rfl) ⟨Nat.zero_le _, Nat.zero_le _⟩) hS (fun q _ h => hFc q h) hFc (fun S_21 t_ H locs ht_ hvm_ hw_20 hB_ hz_ hk_ hS => ?_)
          obtain ⟨hP, -, hD1_⟩ := hB_
          rw [ht_] at hP
          have hD : va_D A (wR G ad S_21) := hD1_.weaken (fun k q _ h => hFc q.1 h)
          try dsimp only at hw_20
          obtain ⟨hI1, hg1_, -⟩ := hw_20
          have hg1_ : ∀ d, d < 6 → gR S_21 d = gR S d := hg1_
          refine lv_aload_n hx hb (fk_get fk_cX12_dare_1 0 rfl) rfl (lv_at hl 3 rfl) ?_
          refine lv_iload hx hb (fk_get fk_cX12_dare_1 1 rfl) (lv_at hl 0 rfl) ?_
          refine va_put (D := G.1) (ci := 14) (v := .int ((nI k))) (ty := .int) (C := RX12) (T := TX12) (N := 49) hx hb hT inX12 tyX12 tyX12_ok nmX12 hown hK hP hD hS 0 (ix_at (by decide) (cR_0 G ad S_21)) rfl 2 (by decide) (hT _ m5_103) (fun _ h9 => h9) rfl (by decide +kernel) rfl rfl (Nat.le_of_ble_eq_true rfl) (fk_get fk_cX12_dare_1 2 rfl) (fun H locs hP hD hS => ?_)
          rw [pR_off G ad S_21 ((nI k))] at hP hD
          have hI2 := hI1.off (nI k)
          refine lv_aload_n hx hb (fk_get fk_cX12_dare_1 3 rfl) rfl (lv_at hl 3 rfl) ?_
          refine lv_iload_n hx hb (fk_get fk_cX12_dare_1 4 rfl) rfl (lv_at hl 4 rfl) ?_
          have hFc := va_self hD hS hA
          refine va_callv (va_runV (As := [.int (n_)]) (rest := []) ⟨hx, hb, hml, hown, hT⟩ (c_saturdaysOnXE l G ad (setF S_21 0 2 ((nI k))) H.size (z) (τ) (C) (n) (9999) (n_.toNatClampNeg) (hI2.f (by decide) hn) (hn6) (hI2.HOK hHOK) ((HOX.MI (S := (setF S 0 8 0)) hHX hI2)) (hI2.SV) (by omega) (by omega) (n_) (ew)) (tV 1 hT m6_204 m6_206 mp_47 m1_17 m6_207 rfl rfl (by decide +kernel) ⟨Nat.le_of_ble_eq_true rfl, Nat.le_of_ble_eq_true rfl⟩) ⟨PcW_blind, va_recv hK hP (ci := 14) (q0 := 0) rfl (ix_at (by decide) (cR_0 G ad (setF S_21 0 2 ((nI k))))), PcW_of hP hK hD _⟩ rfl rfl hl.1 rfl (lv_room (Nat.le_of_ble_eq_true rfl)) (fk_get fk_cX12_dare_1 5 rfl) ⟨Nat.zero_le _, Nat.zero_le _⟩) hS (fun q _ h => hFc q h) hFc (fun S_24 t_ H locs ht_ hvm_ hw_23 hB_ hz_ hk_ hS => ?_)
          obtain ⟨hP, -, hD1_⟩ := hB_
          rw [ht_] at hP
          have hD : va_D A (wR G ad S_24) := hD1_.weaken (fun k q _ h => hFc q.1 h)
          try dsimp only at hw_23
          obtain ⟨hM2, hS2, -, -, hb_, -⟩ := hw_23
          have hI3 := (hI2.M hM2 hS2).mono (C := 11000) (by omega)
          rw [hI2.2.2.1, cut_cg (n := n) (G := gR (setF _ 0 2 (nI k))) (G' := gR S) (fun d hd => hg1_ d (by omega)), show fF (setF _ 0 2 (nI k)) 0 2 = nI k from rfl] at hb_
          refine lv_aload_n hx hb (fk_get fk_cX12_dare_1 6 rfl) rfl (lv_at hl 3 rfl) ?_
          refine va_get (D := G.1) (ci := 14) (v := .int ((fF S_24 0 36))) (C := RX12) (T := TX12) (N := 49) hx hb hT inX12 hown hK hP 0 (ix_at (by decide) (cR_0 G ad S_24)) rfl 36 (by decide) (hT _ m5_137) (fun _ h9 => h9) rfl (fk_get fk_cX12_dare_1 7 rfl) ?_
          refine lv_aload_n hx hb (fk_get fk_cX12_dare_1 8 rfl) rfl (lv_at hl 3 rfl) ?_
          refine lv_iconst (v := 2) hx hb (fk_get fk_cX12_dare_1 9 rfl) (by decide) ?_
          refine lv_iconst (v := 5) hx hb (fk_get fk_cX12_dare_1 10 rfl) (by decide) ?_
          refine vp_callSi (W.runV (As := [.int (2), .int (5)]) (rest := [.int ((fF S_24 0 36))]) ⟨hx, hb, hml, hown, hT⟩ (c_lastOfE l G ad S_24 H.size (2) (z) (τ) (C) (5) (hI3.HOK hHOK) ((HOX.MI (S := (setF S 0 8 0)) hHX hI3)) (by decide)) (tV 2 hT m6_180 m6_182 mp_43 m1_17 m6_183 rfl rfl (by decide +kernel) ⟨Nat.le_of_ble_eq_true rfl, Nat.le_of_ble_eq_true rfl⟩) ⟨PcW_blind, va_recv hK hP (ci := 14) (q0 := 0) rfl (ix_at (by decide) (cR_0 G ad S_24)), PcW_of hP hK hD _⟩ rfl rfl hl.1 rfl (lv_room (Nat.le_of_ble_eq_true rfl)) (fk_get fk_cX12_dare_1 11 rfl) ⟨Nat.zero_le _, Nat.zero_le _⟩) (fun r_25 hw_26 => ?_)
          try dsimp only at hw_26
          subst hw_26
          refine lv_imul hx hb (fk_get fk_cX12_dare_1 12 rfl) ?_
          have hv_ : (((fF S_24 0 36) * ((lstW 2 5 C)))) = (darF (lstW 3 1 C) (lstW 2 5 C) τ C n (gR S) n_.toNatClampNeg) k := by show _ = bsF 1 (nI k) (lstW 3 1 C) τ C n n_.toNatClampNeg (cutF n (gR S)) * (lstW 2 5 C); rw [← hb_]
          refine lv_istore (lv' := [(6, .int (((fF S_24 0 36) * ((lstW 2 5 C))))), (5, .int ((nI k))), (4, .int (v4)), (3, .int (v3)), (0, .ref (ad 0)), (1, .int (n_)), (2, .int (what))]) hx hb (fk_get fk_cX12_dare_1 13 rfl) hl (by decide) rfl (fun ls hl => ?_)
          refine lv_iload hx hb (fk_get fk_cX12_dare_1 14 rfl) (lv_at hl 0 rfl) ?_
          refine lv_iload hx hb (fk_get fk_cX12_dare_1 15 rfl) (lv_at hl 2 rfl) ?_
          refine lv_icmp_le (tgt := 91) hx hb (fk_get fk_cX12_dare_1 16 rfl) (by decide) (fun c_27 => ?_) (fun c_27 => ?_)
          · refine lv_iload_n hx hb (fk_get fk_cX12_dare_1 19 rfl) rfl (lv_at hl 3 rfl) ?_
            refine lv_istore_n (lv' := [(3, .int (v3)), (6, .int (((fF S_24 0 36) * ((lstW 2 5 C))))), (5, .int ((nI k))), (4, .int (v4)), (0, .ref (ad 0)), (1, .int (n_)), (2, .int (what))]) hx hb (fk_get fk_cX12_dare_1 20 rfl) rfl hl (by decide) rfl (fun ls hl => ?_)
            refine lv_iload hx hb (fk_get fk_cX12_dare_1 21 rfl) (lv_at hl 1 rfl) ?_
            refine lv_iload hx hb (fk_get fk_cX12_dare_1 22 rfl) (lv_at hl 3 rfl) ?_
            refine lv_icmp_le (tgt := 105) hx hb (fk_get fk_cX12_dare_1 23 rfl) (by decide) (fun _ => ?_) (fun c_28 => absurd (by first | assumption | exact Int32.not_lt.mp (by assumption) | exact Int32.not_le.mp (by assumption) | exact Int32.not_lt.mpr (by assumption) | exact Int32.not_le.mpr (by assumption) ) c_28)
            refine lv_iload hx hb (fk_get fk_cX12_dare_1 26 rfl) (lv_at hl 3 rfl) ?_
            refine lv_istore (lv' := [(4, .int (v4)), (3, .int (v3)), (6, .int (((fF S_24 0 36) * ((lstW 2 5 C))))), (5, .int ((nI k))), (0, .ref (ad 0)), (1, .int (n_)), (2, .int (what))]) hx hb (fk_get fk_cX12_dare_1 27 rfl) hl (by decide) rfl (fun ls hl => ?_)
            refine lv_iinc (v := (nI (k + 1))) (lv' := [(5, .int ((nI (k + 1)))), (4, .int (v4)), (3, .int (v3)), (6, .int (((fF S_24 0 36) * ((lstW 2 5 C))))), (0, .ref (ad 0)), (1, .int (n_)), (2, .int (what))]) hx hb (fk_get fk_cX12_dare_1 28 rfl) hl (k := 3) rfl ((nI_1 k)) (by decide) rfl (fun ls hl => ?_)
            refine lv_goto (tgt := 44) hx hb (fk_get fk_cX12_dare_1 29 rfl) (by decide) ?_
            exact ih (k + 1) (v3) (v4) (S_24) _ _ ls (by omega) (by omega) (hI3) ((by first | exact da_y hD_ hv_ (by assumption) | exact da_y hD_ hv_ (Int32.not_le.mp (by assumption)) | exact da_n hD_ hv_ (Int32.not_lt.mpr (by assumption)) | exact da_n hD_ hv_ (by assumption))) hP hD hS (lv_sub hl [0, 1, 2, 4, 5, 6] rfl)
          refine lv_iload hx hb (fk_get fk_cX12_dare_1 17 rfl) (lv_at hl 1 rfl) ?_
          refine lv_goto (tgt := 92) hx hb (fk_get fk_cX12_dare_1 18 rfl) (by decide) ?_
          refine lv_istore_n (lv' := [(3, .int ((nI k))), (6, .int (((fF S_24 0 36) * ((lstW 2 5 C))))), (5, .int ((nI k))), (4, .int (v4)), (0, .ref (ad 0)), (1, .int (n_)), (2, .int (what))]) hx hb (fk_get fk_cX12_dare_1 20 rfl) rfl hl (by decide) rfl (fun ls hl => ?_)
          refine lv_iload hx hb (fk_get fk_cX12_dare_1 21 rfl) (lv_at hl 1 rfl) ?_
          refine lv_iload hx hb (fk_get fk_cX12_dare_1 22 rfl) (lv_at hl 3 rfl) ?_
          refine lv_icmp_le (tgt := 105) hx hb (fk_get fk_cX12_dare_1 23 rfl) (by decide) (fun c_29 => absurd c_29 (by first | assumption | exact Int32.not_lt.mp (by assumption) | exact Int32.not_le.mp (by assumption) | exact Int32.not_lt.mpr (by assumption) | exact Int32.not_le.mpr (by assumption) )) (fun _ => ?_)
          refine lv_iload hx hb (fk_get fk_cX12_dare_1 24 rfl) (lv_at hl 1 rfl) ?_
          refine lv_goto (tgt := 107) hx hb (fk_get fk_cX12_dare_1 25 rfl) (by decide) ?_
          refine lv_istore (lv' := [(4, .int (((fF S_24 0 36) * ((lstW 2 5 C))))), (3, .int ((nI k))), (6, .int (((fF S_24 0 36) * ((lstW 2 5 C))))), (5, .int ((nI k))), (0, .ref (ad 0)), (1, .int (n_)), (2, .int (what))]) hx hb (fk_get fk_cX12_dare_1 27 rfl) hl (by decide) rfl (fun ls hl => ?_)
          refine lv_iinc (v := (nI (k + 1))) (lv' := [(5, .int ((nI (k + 1)))), (4, .int (((fF S_24 0 36) * ((lstW 2 5 C))))), (3, .int ((nI k))), (6, .int (((fF S_24 0 36) * ((lstW 2 5 C))))), (0, .ref (ad 0)), (1, .int (n_)), (2, .int (what))]) hx hb (fk_get fk_cX12_dare_1 28 rfl) hl (k := 3) rfl ((nI_1 k)) (by decide) rfl (fun ls hl => ?_)
          refine lv_goto (tgt := 44) hx hb (fk_get fk_cX12_dare_1 29 rfl) (by decide) ?_
          exact ih (k + 1) ((nI k)) (((fF S_24 0 36) * ((lstW 2 5 C)))) (S_24) _ _ ls (by omega) (by omega) (hI3) ((by first | exact da_y hD_ hv_ (by assumption) | exact da_y hD_ hv_ (Int32.not_le.mp (by assumption)) | exact da_n hD_ hv_ (Int32.not_lt.mpr (by assumption)) | exact da_n hD_ hv_ (by assumption))) hP hD hS (lv_sub hl [0, 1, 2, 4, 5, 6] rfl)
      exact lp_10 (32) (0) (0) ((-1)) (S_9) _ _ ls (by omega) (by omega) (hI0.mono (by omega)) (rfl) hP hD hS (lv_sub hl [0, 1, 2, 3, 4, 5] rfl)
    have p_c_6 := if1_f hw_5 c_6
    refine lv_bipush (v := (-2)) hx hb (fk_get fk_cX12_dare_0 17 rfl) (by decide) ?_
    subst hQ
    have hpost : QP (setF S 0 8 0) (setF S 0 8 (0)) ∧ ((-2) : Int32) = darP (lstW 3 1 C) (lstW 2 5 C) τ C n (gR S) n_ what := by
      first | exact ⟨QP.rf h15, dar_1 (by assumption)⟩ | exact ⟨QP.rf h15, dar_2 (by assumption) (by assumption)⟩ | exact ⟨hZq, (dar_r (by assumption) (by assumption) hD_).1 (by first | assumption | exact Decidable.not_not.mp (by assumption))⟩ | exact ⟨hZq, (dar_r (by assumption) (by assumption) hD_).2 (by assumption)⟩
    exact W.iret (v := (-2)) hx hb hr (fun t_ ht_ hW_ => ⟨⟨(-2), (setF S 0 8 (0)), rfl, hpost, by rw [ht_]; exact hP, va_K.moved hW_.alike hK, hD⟩, hS.F ht_⟩) hS.2.2 (fk_get fk_cX12_dare_0 18 rfl)
  have p_c_3 := if1_f hw_2 c_3
  refine lv_iconst (v := (-1)) hx hb (fk_get fk_cX12_dare_0 9 rfl) (by decide) ?_
  subst hQ
  have hpost : QP (setF S 0 8 0) (setF S 0 8 (0)) ∧ ((-1) : Int32) = darP (lstW 3 1 C) (lstW 2 5 C) τ C n (gR S) n_ what := by
    first | exact ⟨QP.rf h15, dar_1 (by assumption)⟩ | exact ⟨QP.rf h15, dar_2 (by assumption) (by assumption)⟩ | exact ⟨hZq, (dar_r (by assumption) (by assumption) hD_).1 (by first | assumption | exact Decidable.not_not.mp (by assumption))⟩ | exact ⟨hZq, (dar_r (by assumption) (by assumption) hD_).2 (by assumption)⟩
  exact W.iret (v := (-1)) hx hb hr (fun t_ ht_ hW_ => ⟨⟨(-1), (setF S 0 8 (0)), rfl, hpost, by rw [ht_]; exact hP, va_K.moved hW_.alike hK, hD⟩, hS.F ht_⟩) hS.2.2 (fk_get fk_cX12_dare_0 10 rfl)
set_option maxHeartbeats 800000 in
set_option maxRecDepth 100000 in
theorem c_nearestX (l : Launch) (G : GG) (ad : Nat → Nat) (S : FS) (sz : Nat) (z : Nat) (τ : Nat → Int32) (C : ClU) (n : Nat) (n_ : Int32) (hn : fF S 0 1 = nI n) (hn6 : n ≤ 6) (hHOK : HOK S) (hSV : SV 9999 S) (h15 : fF S 0 15 = 0) (hHX : HOX S z τ C) : Met l yX12_nearest (Cond.code yX12_nearest cX12_nearest 7 (some .int) :: TBL) ({ frames := 9, cells := 0, slots := 0, locals := 258 } : Room) (PcW G (wR G ad S) sz [.ref (ad 0), .int (n_)]) (va_Qi (fun (r : Int32) (S' : FS) => QP (setF S 0 8 0) S' ∧ r = neaP (fF S 0 2) (lstW 3 1 C) τ C n (gR S) n_) (fun S' t => BW G (va_A (wR G ad S) sz) (wR G ad S') t) (va_A (wR G ad S) sz)) 0 0 (va_A (wR G ad S) sz) := by
  refine Met.ofW (cc := cX12_nearest) (maxL := 7) (ret := (some .int)) (by decide) rfl ?_
  intro p e s m args below meth c₀ s₁ B hml hv
  obtain ⟨rfl, hsz, hP, hK, hD0⟩ := hv
  have hx := B.exec
  have hb := B.bytes
  have hr := B.returns
  have hT : ∀ w ∈ TBL, w.before ([.ref (ad 0), .int (n_)] : List Value).toArray s = true := fun w h => atoms_spec (ws := Cond.code yX12_nearest cX12_nearest 7 (some .int) :: TBL) B.pre w (List.mem_cons_of_mem _ h)
  have hown : s.vm.findClass "LittleMoreModel" = some m.cls := findClass_of_methodNamed B.named
  have hlocks := B.notSynchronized
  subst hsz
  have hD := hD0.self (sz := s.heap.size)
  generalize hAe : va_A (wR G ad S) s.heap.size = A at hD ⊢
  have hA : ∀ q : Nat, s.heap.size ≤ q → A q := fun q h => by rw [← hAe]; exact Or.inr h
  have hS : va_S A s.heap s.heap [] := va_S.rf
  have hP : va_P G.1 vwCl (wR G ad S) s.heap := hP
  have hl := lv_entry ([.ref (ad 0), .int (n_)]) (n := 7) (Nat.le_of_ble_eq_true rfl)
  rw [lg_entry_eq]
  generalize (lg_sl ([.ref (ad 0), .int (n_)]) ++ List.replicate (7 - (lg_sl ([.ref (ad 0), .int (n_)])).length) Slot.unset).toArray = ls at hl ⊢
  have hl : lv_has ls 7 [(0, .ref (ad 0)), (1, .int (n_))] := hl
  refine W_abs (fun Q hQ => ?_)
  generalize ([.ref (ad 0), .int (n_)] : List Value).toArray = args at hT hQ ⊢
  refine lv_aload_n hx hb (fk_get fk_cX12_nearest_0 0 rfl) rfl (lv_at hl 0 rfl) ?_
  refine lv_iconst (v := 0) hx hb (fk_get fk_cX12_nearest_0 1 rfl) (by decide) ?_
  refine va_put (D := G.1) (ci := 14) (v := .int (0)) (ty := .int) (C := RX12) (T := TX12) (N := 49) hx hb hT inX12 tyX12 tyX12_ok nmX12 hown hK hP hD hS 0 (ix_at (by decide) (cR_0 G ad S)) rfl 8 (by decide) (hT _ m5_109) (fun _ h9 => h9) rfl (by decide +kernel) rfl rfl (Nat.le_of_ble_eq_true rfl) (fk_get fk_cX12_nearest_0 2 rfl) (fun H locs hP hD hS => ?_)
  rw [pR_thrown G ad S (0)] at hP hD
  refine lv_iload_n hx hb (fk_get fk_cX12_nearest_0 3 rfl) rfl (lv_at hl 1 rfl) ?_
  refine lv_i2l hx hb (fk_get fk_cX12_nearest_0 4 rfl) rfl ?_
  refine lv_lconst (v := 1) hx hb (fk_get fk_cX12_nearest_0 5 rfl) (by decide) ?_
  refine lv_ldc2 (v := 20) hx hb hown (hT _ m6_166) (fk_get fk_cX12_nearest_0 6 rfl) ?_
  refine vp_callSi (W.runS (As := [.long ((n_).toInt64), .long (1), .long (20)]) (rest := []) ⟨hx, hb, hml, hown, hT⟩ (c_in l ((n_).toInt64) (1) (20) ) (tS 3 hT m6_31 m6_32 m1_17 m6_33 rfl rfl (by decide +kernel) ⟨Nat.le_of_ble_eq_true rfl, Nat.le_of_ble_eq_true rfl⟩) ⟨PcN_blind, PcN_of _ _ _⟩ rfl rfl hl.1 rfl (lv_room (Nat.le_of_ble_eq_true rfl)) (fk_get fk_cX12_nearest_0 7 rfl) ⟨Nat.zero_le _, Nat.zero_le _⟩) (fun r_1 hw_2 => ?_)
  try dsimp only at hw_2
  have hw_2 := in_eq hw_2 (n_) 1 20 (rfl) (by decide) (by decide)
  refine lv_if_ne (tgt := 20) hx hb (fk_get fk_cX12_nearest_0 8 rfl) (by decide) (fun c_3 => ?_) (fun c_3 => ?_)
  · have p_c_3 := if1_t hw_2 c_3
    obtain ⟨hw20, ew⟩ := in_n (b := 20) ⟨Int32.le_trans (by decide) p_c_3.1, p_c_3.2⟩ (by decide)
    refine lv_bipush (v := (-5)) hx hb (fk_get fk_cX12_nearest_0 11 rfl) (by decide) ?_
    refine lv_istore_n (lv' := [(2, .int ((-5))), (0, .ref (ad 0)), (1, .int (n_))]) hx hb (fk_get fk_cX12_nearest_0 12 rfl) rfl hl (by decide) rfl (fun ls hl => ?_)
    refine lv_iconst (v := 0) hx hb (fk_get fk_cX12_nearest_0 13 rfl) (by decide) ?_
    refine lv_istore_n (lv' := [(3, .int (0)), (2, .int ((-5))), (0, .ref (ad 0)), (1, .int (n_))]) hx hb (fk_get fk_cX12_nearest_0 14 rfl) rfl hl (by decide) rfl (fun ls hl => ?_)
    refine lv_aload_n hx hb (fk_get fk_cX12_nearest_0 15 rfl) rfl (lv_at hl 2 rfl) ?_
    have hFc := va_self hD hS hA
    refine va_callv (va_runV (As := []) (rest := []) ⟨hx, hb, hml, hown, hT⟩ (c_openX l G ad (setF S 0 8 (0)) H.size (9999) (hSV)) (tV 0 hT m6_218 m6_220 mp_49 m1_17 m6_221 rfl rfl (by decide +kernel) ⟨Nat.le_of_ble_eq_true rfl, Nat.le_of_ble_eq_true rfl⟩) ⟨PcW_blind, va_recv hK hP (ci := 14) (q0 := 0) rfl (ix_at (by decide) (cR_0 G ad (setF S 0 8 (0)))), PcW_of hP hK hD _⟩ rfl rfl hl.1 rfl (lv_room (Nat.le_of_ble_eq_true rfl)) (fk_get fk_cX12_nearest_0 16 rfl) ⟨Nat.zero_le _, Nat.zero_le _⟩) hS (fun q _ h => hFc q h) hFc (fun S_6 t_ H locs ht_ hvm_ hw_5 hB_ hz_ hk_ hS => ?_)
    obtain ⟨hP, -, hD1_⟩ := hB_
    rw [ht_] at hP
    have hD : va_D A (wR G ad S_6) := hD1_.weaken (fun k q _ h => hFc q.1 h)
    try dsimp only at hw_5
    obtain ⟨hI0, hg0_, ho0_⟩ := hw_5
    have hg0_ : ∀ d, d < 6 → gR S_6 d = gR S d := hg0_
    have ho0_ : fF S_6 0 2 = fF S 0 2 := ho0_
    have h10_ : fF S_6 0 15 = 1 := hI0.2.2.1
    refine lv_iconst (v := 0) hx hb (fk_get fk_cX12_nearest_0 17 rfl) (by decide) ?_
    refine lv_istore (lv' := [(4, .int (0)), (3, .int (0)), (2, .int ((-5))), (0, .ref (ad 0)), (1, .int (n_))]) hx hb (fk_get fk_cX12_nearest_0 18 rfl) hl (by decide) rfl (fun ls hl => ?_)
    have lp_7 : ∀ (fu : Nat) (k : Nat) (v2 v3 : Int32) (SL : FS) (H_9 : Heap) (locs_10 : List Loc) (ls : Array Slot),  (k ≤ n) → (n < k + fu) → (MI (setF S 0 8 0) SL (9999 + 20 * k)) → (fF SL 0 2 = fF S 0 2) → (∀ d, k ≤ d → d < 6 → gR SL d = gR S d) → ((v2, v3) = neaN (neaF (fF S 0 2) (lstW 3 1 C) τ C (gR S) n_) k) → va_P G.1 vwCl (wR G ad SL) H_9 → va_D A (wR G ad SL) → va_S A s.heap H_9 locs_10 → lv_has ls 7 [(4, .int ((nI k))), (3, .int (v3)), (2, .int (v2)), (0, .ref (ad 0)), (1, .int (n_))] → W p l e ({ frames := 9, cells := 0, slots := 0, locals := 258 } : Room) s m args below meth c₀ H_9 locs_10 0 0 Q (F0 m 32 ls []) := by
      intro fu
      induction fu with
      | zero =>
        intro k v2 v3 SL H_9 locs_10 ls hk hf hI hO hrest hN hP hD hS hl
        exact absurd hf (by omega)
      | succ fu ih =>
        intro k v2 v3 SL H_9 locs_10 ls hk hf hI hO hrest hN hP hD hS hl
        refine lv_iload hx hb (fk_get fk_cX12_nearest_0 19 rfl) (lv_at hl 0 rfl) ?_
        refine lv_aload_n hx hb (fk_get fk_cX12_nearest_0 20 rfl) rfl (lv_at hl 3 rfl) ?_
        refine va_get (D := G.1) (ci := 14) (v := .int ((fF SL 0 1))) (C := RX12) (T := TX12) (N := 49) hx hb hT inX12 hown hK hP 0 (ix_at (by decide) (cR_0 G ad SL)) rfl 1 (by decide) (hT _ m5_102) (fun _ h9 => h9) rfl (fk_get fk_cX12_nearest_0 21 rfl) ?_
        refine lv_icmp_ge (tgt := 110) hx hb (fk_get fk_cX12_nearest_0 22 rfl) (by decide) (fun c_11 => ?_) (fun c_11 => ?_)
        · have hkn : n = k := by have z_ := (nI_leI (a := n) (b := k) (by omega) (by omega)).mp (by rw [← show fF SL 0 1 = nI n from hI.f (by decide) hn]; exact c_11); omega
          rw [← hkn] at hN
          refine lv_aload_n hx hb (fk_get fk_cX12_nearest_1 27 rfl) rfl (lv_at hl 3 rfl) ?_
          have hFc := va_self hD hS hA
          refine va_callv (va_runV (As := []) (rest := []) ⟨hx, hb, hml, hown, hT⟩ (c_close l G ad SL H_9.size ((setF S 0 8 0)) (9999 + 20 * k) (hI)) (tV 0 hT m6_226 m6_228 mp_51 m1_17 m6_229 rfl rfl (by decide +kernel) ⟨Nat.le_of_ble_eq_true rfl, Nat.le_of_ble_eq_true rfl⟩) ⟨PcW_blind, va_recv hK hP (ci := 14) (q0 := 0) rfl (ix_at (by decide) (cR_0 G ad SL)), PcW_of hP hK hD _⟩ rfl rfl hl.1 rfl (lv_room (Nat.le_of_ble_eq_true rfl)) (fk_get fk_cX12_nearest_1 28 rfl) ⟨Nat.zero_le _, Nat.zero_le _⟩) hS (fun q _ h => hFc q h) hFc (fun S_14 t_ H locs ht_ hvm_ hw_13 hB_ hz_ hk_ hS => ?_)
          obtain ⟨hP, -, hD1_⟩ := hB_
          rw [ht_] at hP
          have hD : va_D A (wR G ad S_14) := hD1_.weaken (fun k q _ h => hFc q.1 h)
          try dsimp only at hw_13
          have hZq := hw_13
          refine lv_iload_n hx hb (fk_get fk_cX12_nearest_1 29 rfl) rfl (lv_at hl 2 rfl) ?_
          subst hQ
          have hpost : QP (setF S 0 8 0) S_14 ∧ (v2 : Int32) = neaP (fF S 0 2) (lstW 3 1 C) τ C n (gR S) n_ := by
            first | exact ⟨QP.rf h15, (if_neg (by assumption)).symm⟩ | exact ⟨hZq, nea_r (by assumption) hN⟩
          exact W.iret (v := v2) hx hb hr (fun t_ ht_ hW_ => ⟨⟨v2, S_14, rfl, hpost, by rw [ht_]; exact hP, va_K.moved hW_.alike hK, hD⟩, hS.F ht_⟩) hS.2.2 (fk_get fk_cX12_nearest_1 30 rfl)
        have hlt : k < n := Nat.lt_of_not_le (fun wk => c_11 (by rw [show fF SL 0 1 = nI n from hI.f (by decide) hn]; exact (nI_leI (a := n) (b := k) (by omega) (by omega)).mpr wk))
        refine lv_aload_n hx hb (fk_get fk_cX12_nearest_0 23 rfl) rfl (lv_at hl 3 rfl) ?_
        refine lv_iload hx hb (fk_get fk_cX12_nearest_0 24 rfl) (lv_at hl 0 rfl) ?_
        refine lv_iload_n hx hb (fk_get fk_cX12_nearest_0 25 rfl) rfl (lv_at hl 4 rfl) ?_
        have hFc := va_self hD hS hA
        refine va_calli (va_runV (As := [.int ((nI k)), .int (n_)]) (rest := []) ⟨hx, hb, hml, hown, hT⟩ (c_buysInXE l G ad SL H_9.size (z) (τ) (C) ((nI k)) (k) (9999 + 20 * k) (n_.toNatClampNeg) (hI.HOK hHOK) ((HOX.MI (S := (setF S 0 8 0)) hHX hI)) (hI.SV) (by omega) (rfl) (by omega) (by omega) (n_) (ew)) (tV 2 hT m6_222 m6_224 mp_50 m1_17 m6_225 rfl rfl (by decide +kernel) ⟨Nat.le_of_ble_eq_true rfl, Nat.le_of_ble_eq_true rfl⟩) ⟨PcW_blind, va_recv hK hP (ci := 14) (q0 := 0) rfl (ix_at (by decide) (cR_0 G ad SL)), PcW_of hP hK hD _⟩ rfl rfl hl.1 rfl (lv_room (Nat.le_of_ble_eq_true rfl)) (fk_get fk_cX12_nearest_0 26 rfl) ⟨Nat.zero_le _, Nat.zero_le _⟩) hS (fun q _ h => hFc q h) hFc (fun r_15 S_17 t_ H locs ht_ hvm_ hw_16 hB_ hz_ hk_ hS => ?_)
        obtain ⟨hP, -, hD1_⟩ := hB_
        rw [ht_] at hP
        have hD : va_D A (wR G ad S_17) := hD1_.weaken (fun k q _ h => hFc q.1 h)
        try dsimp only at hw_16
        obtain ⟨hM2, hS2, hA2, hoth_⟩ := hw_16
        have hI1 := (hI.M hM2 hS2).mono (C := 9999 + 20 * (k + 1)) (by omega)
        rw [hI.2.2.1, hO, hrest k (Nat.le_refl k) (by omega)] at hA2
        have hO2 : fF S_17 0 2 = fF S 0 2 := (hM2.2.2.1 2 (by omega) (by omega) (by omega) (by omega) (by omega) (by omega)).trans hO
        have hres2 : ∀ d, k + 1 ≤ d → d < 6 → gR S_17 d = gR S d := fun d hd hd6 => (hoth_ d (by omega)).trans (hrest d (by omega) hd6)
        have hwt_ : fA S_17 1 (12 * k + 2) = gR S k 2 := by
          have q_ := congrArg Prod.snd hA2
          exact (congrFun q_ 2).trans (al_2 _ _)
        refine lv_iload_n hx hb (fk_get fk_cX12_nearest_0 27 rfl) rfl (lv_at hl 4 rfl) ?_
        refine lv_aload_n hx hb (fk_get fk_cX12_nearest_0 28 rfl) rfl (lv_at hl 3 rfl) ?_
        refine lv_iload hx hb (fk_get fk_cX12_nearest_0 29 rfl) (lv_at hl 0 rfl) ?_
        refine lv_iconst (v := 2) hx hb (fk_get fk_cX12_nearest_0 30 rfl) (by decide) ?_
        refine vp_callSi (W.runV (As := [.int ((nI k)), .int (2)]) (rest := [.int (n_), .int (r_15)]) ⟨hx, hb, hml, hown, hT⟩ (c_of0 l G ad S_17 H.size ((nI k)) (2) (((12 * k) + 2)) (n_add (n_mul (rfl) (rfl)) (rfl)) (by omega)) (tV 2 hT m6_119 m6_121 mp_34 m1_17 m6_122 rfl rfl (by decide +kernel) ⟨Nat.le_of_ble_eq_true rfl, Nat.le_of_ble_eq_true rfl⟩) ⟨PcW_blind, va_recv hK hP (ci := 14) (q0 := 0) rfl (ix_at (by decide) (cR_0 G ad S_17)), PcW_of hP hK hD _⟩ rfl rfl hl.1 rfl (lv_room (Nat.le_of_ble_eq_true rfl)) (fk_get fk_cX12_nearest_0 31 rfl) ⟨Nat.zero_le _, Nat.zero_le _⟩) (fun r_18 hw_19 => ?_)
        try dsimp only at hw_19
        rw [hwt_] at hw_19
        subst hw_19
        refine lv_imul hx hb (fk_get fk_cX12_nearest_1 0 rfl) ?_
        refine lv_isub hx hb (fk_get fk_cX12_nearest_1 1 rfl) ?_
        refine vp_callSi (W.runS (As := [.int ((r_15 - (n_ * ((gR S k 2)))))]) (rest := []) ⟨hx, hb, hml, hown, hT⟩ (c_plainly l ((r_15 - (n_ * ((gR S k 2))))) ) (tS 1 hT m6_234 m6_235 m1_17 m6_236 rfl rfl (by decide +kernel) ⟨Nat.le_of_ble_eq_true rfl, Nat.le_of_ble_eq_true rfl⟩) ⟨PcN_blind, PcN_of _ _ _⟩ rfl rfl hl.1 rfl (lv_room (Nat.le_of_ble_eq_true rfl)) (fk_get fk_cX12_nearest_1 2 rfl) ⟨Nat.zero_le _, Nat.zero_le _⟩) (fun r_20 hw_21 => ?_)
        try dsimp only at hw_21
        have habs_ := hw_21
        have hv_ : (r_20) = (neaF (fF S 0 2) (lstW 3 1 C) τ C (gR S) n_) k := by
          rw [habs_]
          show absI _ = absI ((alN 1 _ _ τ C (nI k) _ (gR S k)).1 - n_ * gR S k 2)
          rw [← hA2]
        refine lv_istore (lv' := [(5, .int (r_20)), (4, .int ((nI k))), (3, .int (v3)), (2, .int (v2)), (0, .ref (ad 0)), (1, .int (n_))]) hx hb (fk_get fk_cX12_nearest_1 3 rfl) hl (by decide) rfl (fun ls hl => ?_)
        refine lv_iload_n hx hb (fk_get fk_cX12_nearest_1 4 rfl) rfl (lv_at hl 3 rfl) ?_
        refine lv_if_lt (tgt := 73) hx hb (fk_get fk_cX12_nearest_1 5 rfl) (by decide) (fun c_22 => ?_) (fun c_22 => ?_)
        · refine lv_iconst (v := 1) hx hb (fk_get fk_cX12_nearest_1 9 rfl) (by decide) ?_
          refine lv_goto (tgt := 78) hx hb (fk_get fk_cX12_nearest_1 10 rfl) (by decide) ?_
          refine lv_istore (lv' := [(6, .int (1)), (5, .int (r_20)), (4, .int ((nI k))), (3, .int (v3)), (2, .int (v2)), (0, .ref (ad 0)), (1, .int (n_))]) hx hb (fk_get fk_cX12_nearest_1 12 rfl) hl (by decide) rfl (fun ls hl => ?_)
          refine lv_iload hx hb (fk_get fk_cX12_nearest_1 13 rfl) (lv_at hl 0 rfl) ?_
          refine lv_if_eq (tgt := 90) hx hb (fk_get fk_cX12_nearest_1 14 rfl) (by decide) (fun c_23 => absurd c_23 ((by decide))) (fun _ => ?_)
          refine lv_iload hx hb (fk_get fk_cX12_nearest_1 15 rfl) (lv_at hl 2 rfl) ?_
          refine lv_goto (tgt := 91) hx hb (fk_get fk_cX12_nearest_1 16 rfl) (by decide) ?_
          refine lv_istore_n (lv' := [(2, .int ((nI k))), (6, .int (1)), (5, .int (r_20)), (4, .int ((nI k))), (3, .int (v3)), (0, .ref (ad 0)), (1, .int (n_))]) hx hb (fk_get fk_cX12_nearest_1 18 rfl) rfl hl (by decide) rfl (fun ls hl => ?_)
          refine lv_iload hx hb (fk_get fk_cX12_nearest_1 19 rfl) (lv_at hl 1 rfl) ?_
          refine lv_if_eq (tgt := 102) hx hb (fk_get fk_cX12_nearest_1 20 rfl) (by decide) (fun c_24 => absurd c_24 ((by decide))) (fun _ => ?_)
          refine lv_iload hx hb (fk_get fk_cX12_nearest_1 21 rfl) (lv_at hl 2 rfl) ?_
          refine lv_goto (tgt := 103) hx hb (fk_get fk_cX12_nearest_1 22 rfl) (by decide) ?_
          refine lv_istore_n (lv' := [(3, .int (r_20)), (2, .int ((nI k))), (6, .int (1)), (5, .int (r_20)), (4, .int ((nI k))), (0, .ref (ad 0)), (1, .int (n_))]) hx hb (fk_get fk_cX12_nearest_1 24 rfl) rfl hl (by decide) rfl (fun ls hl => ?_)
          refine lv_iinc (v := (nI (k + 1))) (lv' := [(4, .int ((nI (k + 1)))), (3, .int (r_20)), (2, .int ((nI k))), (6, .int (1)), (5, .int (r_20)), (0, .ref (ad 0)), (1, .int (n_))]) hx hb (fk_get fk_cX12_nearest_1 25 rfl) hl (k := 4) rfl ((nI_1 k)) (by decide) rfl (fun ls hl => ?_)
          refine lv_goto (tgt := 32) hx hb (fk_get fk_cX12_nearest_1 26 rfl) (by decide) ?_
          exact ih (k + 1) ((nI k)) (r_20) (S_17) _ _ ls (by omega) (by omega) (hI1) (hO2) (hres2) ((by first | exact ne_y hN hv_ (Or.inl (by assumption)) | exact ne_y hN hv_ (Or.inr (by first | assumption | exact Int32.not_le.mp (by assumption))) | exact ne_n hN hv_ (by first | assumption | exact Int32.not_lt.mpr (by assumption)) (by first | assumption | exact Int32.not_lt.mpr (by assumption)))) hP hD hS (lv_sub hl [0, 1, 2, 5, 6] rfl)
        refine lv_iload hx hb (fk_get fk_cX12_nearest_1 6 rfl) (lv_at hl 0 rfl) ?_
        refine lv_iload_n hx hb (fk_get fk_cX12_nearest_1 7 rfl) rfl (lv_at hl 2 rfl) ?_
        refine lv_icmp_ge (tgt := 77) hx hb (fk_get fk_cX12_nearest_1 8 rfl) (by decide) (fun c_25 => ?_) (fun c_25 => ?_)
        · refine lv_iconst (v := 0) hx hb (fk_get fk_cX12_nearest_1 11 rfl) (by decide) ?_
          refine lv_istore (lv' := [(6, .int (0)), (5, .int (r_20)), (4, .int ((nI k))), (3, .int (v3)), (2, .int (v2)), (0, .ref (ad 0)), (1, .int (n_))]) hx hb (fk_get fk_cX12_nearest_1 12 rfl) hl (by decide) rfl (fun ls hl => ?_)
          refine lv_iload hx hb (fk_get fk_cX12_nearest_1 13 rfl) (lv_at hl 0 rfl) ?_
          refine lv_if_eq (tgt := 90) hx hb (fk_get fk_cX12_nearest_1 14 rfl) (by decide) (fun _ => ?_) (fun c_26 => absurd ((by decide)) c_26)
          refine lv_iload_n hx hb (fk_get fk_cX12_nearest_1 17 rfl) rfl (lv_at hl 4 rfl) ?_
          refine lv_istore_n (lv' := [(2, .int (v2)), (6, .int (0)), (5, .int (r_20)), (4, .int ((nI k))), (3, .int (v3)), (0, .ref (ad 0)), (1, .int (n_))]) hx hb (fk_get fk_cX12_nearest_1 18 rfl) rfl hl (by decide) rfl (fun ls hl => ?_)
          refine lv_iload hx hb (fk_get fk_cX12_nearest_1 19 rfl) (lv_at hl 1 rfl) ?_
          refine lv_if_eq (tgt := 102) hx hb (fk_get fk_cX12_nearest_1 20 rfl) (by decide) (fun _ => ?_) (fun c_27 => absurd ((by decide)) c_27)
          refine lv_iload_n hx hb (fk_get fk_cX12_nearest_1 23 rfl) rfl (lv_at hl 4 rfl) ?_
          refine lv_istore_n (lv' := [(3, .int (v3)), (2, .int (v2)), (6, .int (0)), (5, .int (r_20)), (4, .int ((nI k))), (0, .ref (ad 0)), (1, .int (n_))]) hx hb (fk_get fk_cX12_nearest_1 24 rfl) rfl hl (by decide) rfl (fun ls hl => ?_)
          refine lv_iinc (v := (nI (k + 1))) (lv' := [(4, .int ((nI (k + 1)))), (3, .int (v3)), (2, .int (v2)), (6, .int (0)), (5, .int (r_20)), (0, .ref (ad 0)), (1, .int (n_))]) hx hb (fk_get fk_cX12_nearest_1 25 rfl) hl (k := 4) rfl ((nI_1 k)) (by decide) rfl (fun ls hl => ?_)
          refine lv_goto (tgt := 32) hx hb (fk_get fk_cX12_nearest_1 26 rfl) (by decide) ?_
          exact ih (k + 1) (v2) (v3) (S_17) _ _ ls (by omega) (by omega) (hI1) (hO2) (hres2) ((by first | exact ne_y hN hv_ (Or.inl (by assumption)) | exact ne_y hN hv_ (Or.inr (by first | assumption | exact Int32.not_le.mp (by assumption))) | exact ne_n hN hv_ (by first | assumption | exact Int32.not_lt.mpr (by assumption)) (by first | assumption | exact Int32.not_lt.mpr (by assumption)))) hP hD hS (lv_sub hl [0, 1, 2, 5, 6] rfl)
        refine lv_iconst (v := 1) hx hb (fk_get fk_cX12_nearest_1 9 rfl) (by decide) ?_
        refine lv_goto (tgt := 78) hx hb (fk_get fk_cX12_nearest_1 10 rfl) (by decide) ?_
        refine lv_istore (lv' := [(6, .int (1)), (5, .int (r_20)), (4, .int ((nI k))), (3, .int (v3)), (2, .int (v2)), (0, .ref (ad 0)), (1, .int (n_))]) hx hb (fk_get fk_cX12_nearest_1 12 rfl) hl (by decide) rfl (fun ls hl => ?_)
        refine lv_iload hx hb (fk_get fk_cX12_nearest_1 13 rfl) (lv_at hl 0 rfl) ?_
        refine lv_if_eq (tgt := 90) hx hb (fk_get fk_cX12_nearest_1 14 rfl) (by decide) (fun c_28 => absurd c_28 ((by decide))) (fun _ => ?_)
        refine lv_iload hx hb (fk_get fk_cX12_nearest_1 15 rfl) (lv_at hl 2 rfl) ?_
        refine lv_goto (tgt := 91) hx hb (fk_get fk_cX12_nearest_1 16 rfl) (by decide) ?_
        refine lv_istore_n (lv' := [(2, .int ((nI k))), (6, .int (1)), (5, .int (r_20)), (4, .int ((nI k))), (3, .int (v3)), (0, .ref (ad 0)), (1, .int (n_))]) hx hb (fk_get fk_cX12_nearest_1 18 rfl) rfl hl (by decide) rfl (fun ls hl => ?_)
        refine lv_iload hx hb (fk_get fk_cX12_nearest_1 19 rfl) (lv_at hl 1 rfl) ?_
        refine lv_if_eq (tgt := 102) hx hb (fk_get fk_cX12_nearest_1 20 rfl) (by decide) (fun c_29 => absurd c_29 ((by decide))) (fun _ => ?_)
        refine lv_iload hx hb (fk_get fk_cX12_nearest_1 21 rfl) (lv_at hl 2 rfl) ?_
        refine lv_goto (tgt := 103) hx hb (fk_get fk_cX12_nearest_1 22 rfl) (by decide) ?_
        refine lv_istore_n (lv' := [(3, .int (r_20)), (2, .int ((nI k))), (6, .int (1)), (5, .int (r_20)), (4, .int ((nI k))), (0, .ref (ad 0)), (1, .int (n_))]) hx hb (fk_get fk_cX12_nearest_1 24 rfl) rfl hl (by decide) rfl (fun ls hl => ?_)
        refine lv_iinc (v := (nI (k + 1))) (lv' := [(4, .int ((nI (k + 1)))), (3, .int (r_20)), (2, .int ((nI k))), (6, .int (1)), (5, .int (r_20)), (0, .ref (ad 0)), (1, .int (n_))]) hx hb (fk_get fk_cX12_nearest_1 25 rfl) hl (k := 4) rfl ((nI_1 k)) (by decide) rfl (fun ls hl => ?_)
        refine lv_goto (tgt := 32) hx hb (fk_get fk_cX12_nearest_1 26 rfl) (by decide) ?_
        exact ih (k + 1) ((nI k)) (r_20) (S_17) _ _ ls (by omega) (by omega) (hI1) (hO2) (hres2) ((by first | exact ne_y hN hv_ (Or.inl (by assumption)) | exact ne_y hN hv_ (Or.inr (by first | assumption | exact Int32.not_le.mp (by assumption))) | exact ne_n hN hv_ (by first | assumption | exact Int32.not_lt.mpr (by assumption)) (by first | assumption | exact Int32.not_lt.mpr (by assumption)))) hP hD hS (lv_sub hl [0, 1, 2, 5, 6] rfl)
    exact lp_7 (n + 1) (0) ((-5)) (0) (S_6) _ _ ls (by omega) (by omega) (hI0) (ho0_) (fun d _ hd => hg0_ d hd) (rfl) hP hD hS (lv_sub hl [0, 1, 2, 3, 4] rfl)
  have p_c_3 := if1_f hw_2 c_3
  refine lv_bipush (v := (-2)) hx hb (fk_get fk_cX12_nearest_0 9 rfl) (by decide) ?_
  subst hQ
  have hpost : QP (setF S 0 8 0) (setF S 0 8 (0)) ∧ ((-2) : Int32) = neaP (fF S 0 2) (lstW 3 1 C) τ C n (gR S) n_ := by
    first | exact ⟨QP.rf h15, (if_neg (by assumption)).symm⟩ | exact ⟨hZq, nea_r (by assumption) hN⟩
  exact W.iret (v := (-2)) hx hb hr (fun t_ ht_ hW_ => ⟨⟨(-2), (setF S 0 8 (0)), rfl, hpost, by rw [ht_]; exact hP, va_K.moved hW_.alike hK, hD⟩, hS.F ht_⟩) hS.2.2 (fk_get fk_cX12_nearest_0 10 rfl)
set_option maxHeartbeats 800000 in
set_option maxRecDepth 100000 in
theorem c_whoX (l : Launch) (G : GG) (ad : Nat → Nat) (S : FS) (sz : Nat) (z : Nat) (τ : Nat → Int32) (C : ClU) (n : Nat) (zs : Nat) (hn : fF S 0 1 = nI n) (hn6 : n ≤ 6) (hHOK : HOK S) (hSV : SV 9999 S) (h15 : fF S 0 15 = 0) (hHX : HOX S z τ C) (hz : fF S 0 5 = nI zs) (hz4 : zs ≤ 4) : Met l yX12_who (Cond.code yX12_who cX12_who 3 (some .int) :: TBL) ({ frames := 9, cells := 0, slots := 0, locals := 257 } : Room) (PcW G (wR G ad S) sz [.ref (ad 0)]) (va_Qi (fun (r : Int32) (S' : FS) => QP (setF S 0 8 0) S' ∧ r = whoP (fF S 0 2) (lstW 3 1 C) τ C n (gR S) (fA S 2) zs) (fun S' t => BW G (va_A (wR G ad S) sz) (wR G ad S') t) (va_A (wR G ad S) sz)) 0 0 (va_A (wR G ad S) sz) := by
  refine Met.ofW (cc := cX12_who) (maxL := 3) (ret := (some .int)) (by decide) rfl ?_
  intro p e s m args below meth c₀ s₁ B hml hv
  obtain ⟨rfl, hsz, hP, hK, hD0⟩ := hv
  have hx := B.exec
  have hb := B.bytes
  have hr := B.returns
  have hT : ∀ w ∈ TBL, w.before ([.ref (ad 0)] : List Value).toArray s = true := fun w h => atoms_spec (ws := Cond.code yX12_who cX12_who 3 (some .int) :: TBL) B.pre w (List.mem_cons_of_mem _ h)
  have hown : s.vm.findClass "LittleMoreModel" = some m.cls := findClass_of_methodNamed B.named
  have hlocks := B.notSynchronized
  subst hsz
  have hD := hD0.self (sz := s.heap.size)
  generalize hAe : va_A (wR G ad S) s.heap.size = A at hD ⊢
  have hA : ∀ q : Nat, s.heap.size ≤ q → A q := fun q h => by rw [← hAe]; exact Or.inr h
  have hS : va_S A s.heap s.heap [] := va_S.rf
  have hP : va_P G.1 vwCl (wR G ad S) s.heap := hP
  have hl := lv_entry ([.ref (ad 0)]) (n := 3) (Nat.le_of_ble_eq_true rfl)
  rw [lg_entry_eq]
  generalize (lg_sl ([.ref (ad 0)]) ++ List.replicate (3 - (lg_sl ([.ref (ad 0)])).length) Slot.unset).toArray = ls at hl ⊢
  have hl : lv_has ls 3 [(0, .ref (ad 0))] := hl
  refine W_abs (fun Q hQ => ?_)
  generalize ([.ref (ad 0)] : List Value).toArray = args at hT hQ ⊢
  refine lv_aload_n hx hb (fk_get fk_cX12_who_0 0 rfl) rfl (lv_at hl 0 rfl) ?_
  refine lv_iconst (v := 0) hx hb (fk_get fk_cX12_who_0 1 rfl) (by decide) ?_
  refine va_put (D := G.1) (ci := 14) (v := .int (0)) (ty := .int) (C := RX12) (T := TX12) (N := 49) hx hb hT inX12 tyX12 tyX12_ok nmX12 hown hK hP hD hS 0 (ix_at (by decide) (cR_0 G ad S)) rfl 8 (by decide) (hT _ m5_109) (fun _ h9 => h9) rfl (by decide +kernel) rfl rfl (Nat.le_of_ble_eq_true rfl) (fk_get fk_cX12_who_0 2 rfl) (fun H locs hP hD hS => ?_)
  rw [pR_thrown G ad S (0)] at hP hD
  refine lv_iconst (v := 0) hx hb (fk_get fk_cX12_who_0 3 rfl) (by decide) ?_
  refine lv_istore_n (lv' := [(1, .int (0)), (0, .ref (ad 0))]) hx hb (fk_get fk_cX12_who_0 4 rfl) rfl hl (by decide) rfl (fun ls hl => ?_)
  refine lv_aload_n hx hb (fk_get fk_cX12_who_0 5 rfl) rfl (lv_at hl 1 rfl) ?_
  have hFc := va_self hD hS hA
  refine va_callv (va_runV (As := []) (rest := []) ⟨hx, hb, hml, hown, hT⟩ (c_openX l G ad (setF S 0 8 (0)) H.size (9999) (hSV)) (tV 0 hT m6_218 m6_220 mp_49 m1_17 m6_221 rfl rfl (by decide +kernel) ⟨Nat.le_of_ble_eq_true rfl, Nat.le_of_ble_eq_true rfl⟩) ⟨PcW_blind, va_recv hK hP (ci := 14) (q0 := 0) rfl (ix_at (by decide) (cR_0 G ad (setF S 0 8 (0)))), PcW_of hP hK hD _⟩ rfl rfl hl.1 rfl (lv_room (Nat.le_of_ble_eq_true rfl)) (fk_get fk_cX12_who_0 6 rfl) ⟨Nat.zero_le _, Nat.zero_le _⟩) hS (fun q _ h => hFc q h) hFc (fun S_3 t_ H locs ht_ hvm_ hw_2 hB_ hz_ hk_ hS => ?_)
  obtain ⟨hP, -, hD1_⟩ := hB_
  rw [ht_] at hP
  have hD : va_D A (wR G ad S_3) := hD1_.weaken (fun k q _ h => hFc q.1 h)
  try dsimp only at hw_2
  obtain ⟨hI0, hg0_, ho0_⟩ := hw_2
  have hg0_ : ∀ d, d < 6 → gR S_3 d = gR S d := hg0_
  have ho0_ : fF S_3 0 2 = fF S 0 2 := ho0_
  have h10_ : fF S_3 0 15 = 1 := hI0.2.2.1
  refine lv_iconst (v := 0) hx hb (fk_get fk_cX12_who_0 7 rfl) (by decide) ?_
  refine lv_istore_n (lv' := [(2, .int (0)), (1, .int (0)), (0, .ref (ad 0))]) hx hb (fk_get fk_cX12_who_0 8 rfl) rfl hl (by decide) rfl (fun ls hl => ?_)
  have lp_4 : ∀ (fu : Nat) (k : Nat) (v1 : Int32) (SL : FS) (H_6 : Heap) (locs_7 : List Loc) (ls : Array Slot),  (k ≤ n) → (n < k + fu) → (MI (setF S 0 8 0) SL (9999 + 4 * k)) → (fF SL 0 2 = fF S 0 2) → (∀ d, k ≤ d → d < 6 → gR SL d = gR S d) → (v1 = nI (whN (fun d => csN (fF S 0 2) (lstW 3 1 C) τ C (nI d) (fA S 2) zs 0 (gR S d)) k)) → va_P G.1 vwCl (wR G ad SL) H_6 → va_D A (wR G ad SL) → va_S A s.heap H_6 locs_7 → lv_has ls 3 [(2, .int ((nI k))), (1, .int (v1)), (0, .ref (ad 0))] → W p l e ({ frames := 9, cells := 0, slots := 0, locals := 257 } : Room) s m args below meth c₀ H_6 locs_7 0 0 Q (F0 m 13 ls []) := by
    intro fu
    induction fu with
    | zero =>
      intro k v1 SL H_6 locs_7 ls hk hf hI hO hrest hW_ hP hD hS hl
      exact absurd hf (by omega)
    | succ fu ih =>
      intro k v1 SL H_6 locs_7 ls hk hf hI hO hrest hW_ hP hD hS hl
      refine lv_iload_n hx hb (fk_get fk_cX12_who_0 9 rfl) rfl (lv_at hl 0 rfl) ?_
      refine lv_aload_n hx hb (fk_get fk_cX12_who_0 10 rfl) rfl (lv_at hl 2 rfl) ?_
      refine va_get (D := G.1) (ci := 14) (v := .int ((fF SL 0 1))) (C := RX12) (T := TX12) (N := 49) hx hb hT inX12 hown hK hP 0 (ix_at (by decide) (cR_0 G ad SL)) rfl 1 (by decide) (hT _ m5_102) (fun _ h9 => h9) rfl (fk_get fk_cX12_who_0 11 rfl) ?_
      refine lv_icmp_ge (tgt := 45) hx hb (fk_get fk_cX12_who_0 12 rfl) (by decide) (fun c_8 => ?_) (fun c_8 => ?_)
      · have hkn : n = k := by have z_ := (nI_leI (a := n) (b := k) (by omega) (by omega)).mp (by rw [← show fF SL 0 1 = nI n from hI.f (by decide) hn]; exact c_8); omega
        rw [← hkn] at hW_
        refine lv_aload_n hx hb (fk_get fk_cX12_who_0 27 rfl) rfl (lv_at hl 2 rfl) ?_
        have hFc := va_self hD hS hA
        refine va_callv (va_runV (As := []) (rest := []) ⟨hx, hb, hml, hown, hT⟩ (c_close l G ad SL H_6.size ((setF S 0 8 0)) (9999 + 4 * k) (hI)) (tV 0 hT m6_226 m6_228 mp_51 m1_17 m6_229 rfl rfl (by decide +kernel) ⟨Nat.le_of_ble_eq_true rfl, Nat.le_of_ble_eq_true rfl⟩) ⟨PcW_blind, va_recv hK hP (ci := 14) (q0 := 0) rfl (ix_at (by decide) (cR_0 G ad SL)), PcW_of hP hK hD _⟩ rfl rfl hl.1 rfl (lv_room (Nat.le_of_ble_eq_true rfl)) (fk_get fk_cX12_who_0 28 rfl) ⟨Nat.zero_le _, Nat.zero_le _⟩) hS (fun q _ h => hFc q h) hFc (fun S_11 t_ H locs ht_ hvm_ hw_10 hB_ hz_ hk_ hS => ?_)
        obtain ⟨hP, -, hD1_⟩ := hB_
        rw [ht_] at hP
        have hD : va_D A (wR G ad S_11) := hD1_.weaken (fun k q _ h => hFc q.1 h)
        try dsimp only at hw_10
        have hZq := hw_10
        refine lv_iload_n hx hb (fk_get fk_cX12_who_0 29 rfl) rfl (lv_at hl 1 rfl) ?_
        subst hQ
        have hpost : QP (setF S 0 8 0) S_11 ∧ (v1 : Int32) = whoP (fF S 0 2) (lstW 3 1 C) τ C n (gR S) (fA S 2) zs := by
          exact ⟨hZq, hW_⟩
        exact W.iret (v := v1) hx hb hr (fun t_ ht_ hW_ => ⟨⟨v1, S_11, rfl, hpost, by rw [ht_]; exact hP, va_K.moved hW_.alike hK, hD⟩, hS.F ht_⟩) hS.2.2 (fk_get fk_cX12_who_0 30 rfl)
      have hlt : k < n := Nat.lt_of_not_le (fun wk => c_8 (by rw [show fF SL 0 1 = nI n from hI.f (by decide) hn]; exact (nI_leI (a := n) (b := k) (by omega) (by omega)).mpr wk))
      refine lv_iload_n hx hb (fk_get fk_cX12_who_0 13 rfl) rfl (lv_at hl 1 rfl) ?_
      refine lv_aload_n hx hb (fk_get fk_cX12_who_0 14 rfl) rfl (lv_at hl 2 rfl) ?_
      refine lv_iload_n hx hb (fk_get fk_cX12_who_0 15 rfl) rfl (lv_at hl 0 rfl) ?_
      have hFc := va_self hD hS hA
      refine va_calli (va_runV (As := [.int ((nI k))]) (rest := [.int (v1)]) ⟨hx, hb, hml, hown, hT⟩ (c_areSeenX l G ad SL H_6.size (z) (τ) (C) ((nI k)) (k) (9999 + 4 * k) (zs) (hI.HOK hHOK) ((HOX.MI (S := (setF S 0 8 0)) hHX hI)) (hI.SV) (by omega) (rfl) (by omega) (hI.f (by decide) hz) (hz4) (hI.2.2.1)) (tV 1 hT m7_40 m7_42 mp_54 m1_17 m7_43 rfl rfl (by decide +kernel) ⟨Nat.le_of_ble_eq_true rfl, Nat.le_of_ble_eq_true rfl⟩) ⟨PcW_blind, va_recv hK hP (ci := 14) (q0 := 0) rfl (ix_at (by decide) (cR_0 G ad SL)), PcW_of hP hK hD _⟩ rfl rfl hl.1 rfl (lv_room (Nat.le_of_ble_eq_true rfl)) (fk_get fk_cX12_who_0 16 rfl) ⟨Nat.zero_le _, Nat.zero_le _⟩) hS (fun q _ h => hFc q h) hFc (fun r_12 S_14 t_ H locs ht_ hvm_ hw_13 hB_ hz_ hk_ hS => ?_)
      obtain ⟨hP, -, hD1_⟩ := hB_
      rw [ht_] at hP
      have hD : va_D A (wR G ad S_14) := hD1_.weaken (fun k q _ h => hFc q.1 h)
      try dsimp only at hw_13
      obtain ⟨hM2, hS2, hcs_, hoth_⟩ := hw_13
      have hI1 := (hI.M hM2 hS2).mono (C := 9999 + 4 * (k + 1)) (by omega)
      rw [hO, hrest k (Nat.le_refl k) (by omega), cs_cg (s := fA SL 2) (s' := fA S 2) zs 0 _ (fun i a b => hI.2.2.2.2.2.1 i (by omega))] at hcs_
      have hO2 : fF S_14 0 2 = fF S 0 2 := (hM2.2.2.1 2 (by omega) (by omega) (by omega) (by omega) (by omega) (by omega)).trans hO
      have hres2 : ∀ d, k + 1 ≤ d → d < 6 → gR S_14 d = gR S d := fun d hd hd6 => (hoth_ d (by omega)).trans (hrest d (by omega) hd6)
      refine lv_if_eq (tgt := 36) hx hb (fk_get fk_cX12_who_0 17 rfl) (by decide) (fun c_15 => ?_) (fun c_15 => ?_)
      · refine lv_iconst (v := 0) hx hb (fk_get fk_cX12_who_0 22 rfl) (by decide) ?_
        refine lv_ior hx hb (fk_get fk_cX12_who_0 23 rfl) ?_
        refine lv_istore_n (lv' := [(1, .int ((v1 ||| 0))), (2, .int ((nI k))), (0, .ref (ad 0))]) hx hb (fk_get fk_cX12_who_0 24 rfl) rfl hl (by decide) rfl (fun ls hl => ?_)
        refine lv_iinc (v := (nI (k + 1))) (lv' := [(2, .int ((nI (k + 1)))), (1, .int ((v1 ||| 0))), (0, .ref (ad 0))]) hx hb (fk_get fk_cX12_who_0 25 rfl) hl (k := 1) rfl ((nI_1 k)) (by decide) rfl (fun ls hl => ?_)
        refine lv_goto (tgt := 13) hx hb (fk_get fk_cX12_who_0 26 rfl) (by decide) ?_
        exact ih (k + 1) ((v1 ||| 0)) (S_14) _ _ ls (by omega) (by omega) (hI1) (hO2) (hres2) ((by first | exact wh_y (p := (fun d => csN (fF S 0 2) (lstW 3 1 C) τ C (nI d) (fA S 2) zs 0 (gR S d))) hW_ (by omega) (i01_t2 hcs_ (by assumption)) | exact wh_z (p := (fun d => csN (fF S 0 2) (lstW 3 1 C) τ C (nI d) (fA S 2) zs 0 (gR S d))) hW_ (i01_f hcs_ (by assumption)))) hP hD hS (lv_sub hl [0, 1, 2] rfl)
      refine lv_iconst (v := 1) hx hb (fk_get fk_cX12_who_0 18 rfl) (by decide) ?_
      refine lv_iload_n hx hb (fk_get fk_cX12_who_0 19 rfl) rfl (lv_at hl 0 rfl) ?_
      refine lv_ishl hx hb (fk_get fk_cX12_who_0 20 rfl) ?_
      refine lv_goto (tgt := 37) hx hb (fk_get fk_cX12_who_0 21 rfl) (by decide) ?_
      refine lv_ior hx hb (fk_get fk_cX12_who_0 23 rfl) ?_
      refine lv_istore_n (lv' := [(1, .int ((v1 ||| (1 <<< ((nI k) &&& 31))))), (2, .int ((nI k))), (0, .ref (ad 0))]) hx hb (fk_get fk_cX12_who_0 24 rfl) rfl hl (by decide) rfl (fun ls hl => ?_)
      refine lv_iinc (v := (nI (k + 1))) (lv' := [(2, .int ((nI (k + 1)))), (1, .int ((v1 ||| (1 <<< ((nI k) &&& 31))))), (0, .ref (ad 0))]) hx hb (fk_get fk_cX12_who_0 25 rfl) hl (k := 1) rfl ((nI_1 k)) (by decide) rfl (fun ls hl => ?_)
      refine lv_goto (tgt := 13) hx hb (fk_get fk_cX12_who_0 26 rfl) (by decide) ?_
      exact ih (k + 1) ((v1 ||| (1 <<< ((nI k) &&& 31)))) (S_14) _ _ ls (by omega) (by omega) (hI1) (hO2) (hres2) ((by first | exact wh_y (p := (fun d => csN (fF S 0 2) (lstW 3 1 C) τ C (nI d) (fA S 2) zs 0 (gR S d))) hW_ (by omega) (i01_t2 hcs_ (by assumption)) | exact wh_z (p := (fun d => csN (fF S 0 2) (lstW 3 1 C) τ C (nI d) (fA S 2) zs 0 (gR S d))) hW_ (i01_f hcs_ (by assumption)))) hP hD hS (lv_sub hl [0, 1, 2] rfl)
  exact lp_4 (n + 1) (0) (0) (S_3) _ _ ls (by omega) (by omega) (hI0) (ho0_) (fun d _ hd => hg0_ d hd) (rfl) hP hD hS (lv_sub hl [0, 1, 2] rfl)
set_option maxHeartbeats 800000 in
set_option maxRecDepth 100000 in
theorem c_offsX (l : Launch) (G : GG) (ad : Nat → Nat) (S : FS) (sz : Nat) (z : Nat) (τ : Nat → Int32) (C : ClU) (n : Nat) (zs : Nat) (c n_ : Int32) (hn : fF S 0 1 = nI n) (hn6 : n ≤ 6) (hHOK : HOK S) (hSV : SV 9999 S) (h15 : fF S 0 15 = 0) (hHX : HOX S z τ C) (hz : fF S 0 5 = nI zs) (hz4 : zs ≤ 4) : Met l yX12_offs (Cond.code yX12_offs cX12_offs 6 (some .int) :: TBL) ({ frames := 9, cells := 0, slots := 0, locals := 257 } : Room) (PcW G (wR G ad S) sz [.ref (ad 0), .int (c), .int (n_)]) (va_Qi (fun (r : Int32) (S' : FS) => QP (setF S 0 8 0) S' ∧ r = offP (lstW 3 1 C) τ C n (gR S) (fA S 2) zs c n_) (fun S' t => BW G (va_A (wR G ad S) sz) (wR G ad S') t) (va_A (wR G ad S) sz)) 0 0 (va_A (wR G ad S) sz) := by
  refine Met.ofW (cc := cX12_offs) (maxL := 6) (ret := (some .int)) (by decide) rfl ?_
  intro p e s m args below meth c₀ s₁ B hml hv
  obtain ⟨rfl, hsz, hP, hK, hD0⟩ := hv
  have hx := B.exec
  have hb := B.bytes
  have hr := B.returns
  have hT : ∀ w ∈ TBL, w.before ([.ref (ad 0), .int (c), .int (n_)] : List Value).toArray s = true := fun w h => atoms_spec (ws := Cond.code yX12_offs cX12_offs 6 (some .int) :: TBL) B.pre w (List.mem_cons_of_mem _ h)
  have hown : s.vm.findClass "LittleMoreModel" = some m.cls := findClass_of_methodNamed B.named
  have hlocks := B.notSynchronized
  subst hsz
  have hD := hD0.self (sz := s.heap.size)
  generalize hAe : va_A (wR G ad S) s.heap.size = A at hD ⊢
  have hA : ∀ q : Nat, s.heap.size ≤ q → A q := fun q h => by rw [← hAe]; exact Or.inr h
  have hS : va_S A s.heap s.heap [] := va_S.rf
  have hP : va_P G.1 vwCl (wR G ad S) s.heap := hP
  have hl := lv_entry ([.ref (ad 0), .int (c), .int (n_)]) (n := 6) (Nat.le_of_ble_eq_true rfl)
  rw [lg_entry_eq]
  generalize (lg_sl ([.ref (ad 0), .int (c), .int (n_)]) ++ List.replicate (6 - (lg_sl ([.ref (ad 0), .int (c), .int (n_)])).length) Slot.unset).toArray = ls at hl ⊢
  have hl : lv_has ls 6 [(0, .ref (ad 0)), (1, .int (c)), (2, .int (n_))] := hl
  refine W_abs (fun Q hQ => ?_)
  generalize ([.ref (ad 0), .int (c), .int (n_)] : List Value).toArray = args at hT hQ ⊢
  refine lv_aload_n hx hb (fk_get fk_cX12_offs_0 0 rfl) rfl (lv_at hl 0 rfl) ?_
  refine lv_iconst (v := 0) hx hb (fk_get fk_cX12_offs_0 1 rfl) (by decide) ?_
  refine va_put (D := G.1) (ci := 14) (v := .int (0)) (ty := .int) (C := RX12) (T := TX12) (N := 49) hx hb hT inX12 tyX12 tyX12_ok nmX12 hown hK hP hD hS 0 (ix_at (by decide) (cR_0 G ad S)) rfl 8 (by decide) (hT _ m5_109) (fun _ h9 => h9) rfl (by decide +kernel) rfl rfl (Nat.le_of_ble_eq_true rfl) (fk_get fk_cX12_offs_0 2 rfl) (fun H locs hP hD hS => ?_)
  rw [pR_thrown G ad S (0)] at hP hD
  refine lv_aload_n hx hb (fk_get fk_cX12_offs_0 3 rfl) rfl (lv_at hl 0 rfl) ?_
  refine lv_iload_n hx hb (fk_get fk_cX12_offs_0 4 rfl) rfl (lv_at hl 1 rfl) ?_
  refine vp_callSi (W.runV (As := [.int (c)]) (rest := []) ⟨hx, hb, hml, hown, hT⟩ (c_isCustomer l G ad (setF S 0 8 (0)) H.size (c) ) (tV 1 hT m6_110 m6_112 mp_32 m1_17 m6_113 rfl rfl (by decide +kernel) ⟨Nat.le_of_ble_eq_true rfl, Nat.le_of_ble_eq_true rfl⟩) ⟨PcW_blind, va_recv hK hP (ci := 14) (q0 := 0) rfl (ix_at (by decide) (cR_0 G ad (setF S 0 8 (0)))), PcW_of hP hK hD _⟩ rfl rfl hl.1 rfl (lv_room (Nat.le_of_ble_eq_true rfl)) (fk_get fk_cX12_offs_0 5 rfl) ⟨Nat.zero_le _, Nat.zero_le _⟩) (fun r_1 hw_2 => ?_)
  try dsimp only at hw_2
  have hw_2 : r_1 = if 0 ≤ c ∧ c ≤ fF S 0 1 - 1 then 1 else 0 := hw_2
  refine lv_if_eq (tgt := 23) hx hb (fk_get fk_cX12_offs_0 6 rfl) (by decide) (fun c_3 => ?_) (fun c_3 => ?_)
  · have p_c_3 := if1_f hw_2 c_3
    have hnC_ : ¬ isC n c := by
      show ¬ (0 ≤ c ∧ c ≤ nI n - 1)
      rw [← hn]
      exact p_c_3
    refine lv_iconst (v := (-1)) hx hb (fk_get fk_cX12_offs_0 13 rfl) (by decide) ?_
    subst hQ
    have hpost : QP (setF S 0 8 0) (setF S 0 8 (0)) ∧ ((-1) : Int32) = offP (lstW 3 1 C) τ C n (gR S) (fA S 2) zs c n_ := by
      first | exact ⟨QP.rf h15, off_1 (Or.inl hnC_)⟩ | exact ⟨QP.rf h15, off_1 (Or.inr (by assumption))⟩ | exact ⟨hZq, (off_r hC_ (by assumption) hF_).1 (by first | assumption | exact Decidable.not_not.mp (by assumption))⟩ | exact ⟨hZq, (off_r hC_ (by assumption) hF_).2 (by assumption)⟩
    exact W.iret (v := (-1)) hx hb hr (fun t_ ht_ hW_ => ⟨⟨(-1), (setF S 0 8 (0)), rfl, hpost, by rw [ht_]; exact hP, va_K.moved hW_.alike hK, hD⟩, hS.F ht_⟩) hS.2.2 (fk_get fk_cX12_offs_0 14 rfl)
  have p_c_3 := if1_t hw_2 c_3
  have hC_ : isC n c := by
    show 0 ≤ c ∧ c ≤ nI n - 1
    rw [← hn]
    exact p_c_3
  obtain ⟨hj, ej⟩ := isC_n p_c_3 hn hn6
  refine lv_iload_n hx hb (fk_get fk_cX12_offs_0 7 rfl) rfl (lv_at hl 2 rfl) ?_
  refine lv_i2l hx hb (fk_get fk_cX12_offs_0 8 rfl) rfl ?_
  refine lv_lconst (v := 0) hx hb (fk_get fk_cX12_offs_0 9 rfl) (by decide) ?_
  refine lv_lconst (v := 1) hx hb (fk_get fk_cX12_offs_0 10 rfl) (by decide) ?_
  refine vp_callSi (W.runS (As := [.long ((n_).toInt64), .long (0), .long (1)]) (rest := []) ⟨hx, hb, hml, hown, hT⟩ (c_in l ((n_).toInt64) (0) (1) ) (tS 3 hT m6_31 m6_32 m1_17 m6_33 rfl rfl (by decide +kernel) ⟨Nat.le_of_ble_eq_true rfl, Nat.le_of_ble_eq_true rfl⟩) ⟨PcN_blind, PcN_of _ _ _⟩ rfl rfl hl.1 rfl (lv_room (Nat.le_of_ble_eq_true rfl)) (fk_get fk_cX12_offs_0 11 rfl) ⟨Nat.zero_le _, Nat.zero_le _⟩) (fun r_4 hw_5 => ?_)
  try dsimp only at hw_5
  have hw_5 := in_eq hw_5 (n_) 0 1 (rfl) (by decide) (by decide)
  refine lv_if_ne (tgt := 25) hx hb (fk_get fk_cX12_offs_0 12 rfl) (by decide) (fun c_6 => ?_) (fun c_6 => ?_)
  · have p_c_6 := if1_t hw_5 c_6
    refine lv_iconst (v := 0) hx hb (fk_get fk_cX12_offs_0 15 rfl) (by decide) ?_
    refine lv_istore_n (lv' := [(3, .int (0)), (0, .ref (ad 0)), (1, .int (c)), (2, .int (n_))]) hx hb (fk_get fk_cX12_offs_0 16 rfl) rfl hl (by decide) rfl (fun ls hl => ?_)
    refine lv_bipush (v := (-5)) hx hb (fk_get fk_cX12_offs_0 17 rfl) (by decide) ?_
    refine lv_istore (lv' := [(4, .int ((-5))), (3, .int (0)), (0, .ref (ad 0)), (1, .int (c)), (2, .int (n_))]) hx hb (fk_get fk_cX12_offs_0 18 rfl) hl (by decide) rfl (fun ls hl => ?_)
    refine lv_aload_n hx hb (fk_get fk_cX12_offs_0 19 rfl) rfl (lv_at hl 2 rfl) ?_
    have hFc := va_self hD hS hA
    refine va_callv (va_runV (As := []) (rest := []) ⟨hx, hb, hml, hown, hT⟩ (c_openX l G ad (setF S 0 8 (0)) H.size (9999) (hSV)) (tV 0 hT m6_218 m6_220 mp_49 m1_17 m6_221 rfl rfl (by decide +kernel) ⟨Nat.le_of_ble_eq_true rfl, Nat.le_of_ble_eq_true rfl⟩) ⟨PcW_blind, va_recv hK hP (ci := 14) (q0 := 0) rfl (ix_at (by decide) (cR_0 G ad (setF S 0 8 (0)))), PcW_of hP hK hD _⟩ rfl rfl hl.1 rfl (lv_room (Nat.le_of_ble_eq_true rfl)) (fk_get fk_cX12_offs_0 20 rfl) ⟨Nat.zero_le _, Nat.zero_le _⟩) hS (fun q _ h => hFc q h) hFc (fun S_9 t_ H locs ht_ hvm_ hw_8 hB_ hz_ hk_ hS => ?_)
    obtain ⟨hP, -, hD1_⟩ := hB_
    rw [ht_] at hP
    have hD : va_D A (wR G ad S_9) := hD1_.weaken (fun k q _ h => hFc q.1 h)
    try dsimp only at hw_8
    obtain ⟨hI0, hg0_, ho0_⟩ := hw_8
    have hg0_ : ∀ d, d < 6 → gR S_9 d = gR S d := hg0_
    have ho0_ : fF S_9 0 2 = fF S 0 2 := ho0_
    have h10_ : fF S_9 0 15 = 1 := hI0.2.2.1
    refine lv_bipush (v := 30) hx hb (fk_get fk_cX12_offs_0 21 rfl) (by decide) ?_
    refine lv_istore (lv' := [(5, .int (30)), (4, .int ((-5))), (3, .int (0)), (0, .ref (ad 0)), (1, .int (c)), (2, .int (n_))]) hx hb (fk_get fk_cX12_offs_0 22 rfl) hl (by decide) rfl (fun ls hl => ?_)
    have lp_10 : ∀ (fu : Nat) (k : Nat) (v3 v4 : Int32) (SL : FS) (H_12 : Heap) (locs_13 : List Loc) (ls : Array Slot),  (k ≤ 31) → (k < fu) → (MI (setF S 0 8 0) SL 11000) → ((v3, v4) = ofN (fun o => csN (nI o) (lstW 3 1 C) τ C c (fA S 2) zs 0 (gR S c.toNatClampNeg)) (31 - k)) → va_P G.1 vwCl (wR G ad SL) H_12 → va_D A (wR G ad SL) → va_S A s.heap H_12 locs_13 → lv_has ls 6 [(5, .int ((nI k - 1))), (4, .int (v4)), (3, .int (v3)), (0, .ref (ad 0)), (1, .int (c)), (2, .int (n_))] → W p l e ({ frames := 9, cells := 0, slots := 0, locals := 257 } : Room) s m args below meth c₀ H_12 locs_13 0 0 Q (F0 m 39 ls []) := by
      intro fu
      induction fu with
      | zero =>
        intro k v3 v4 SL H_12 locs_13 ls hk hf hI hF_ hP hD hS hl
        exact absurd hf (by omega)
      | succ fu ih =>
        intro k v3 v4 SL H_12 locs_13 ls hk hf hI hF_ hP hD hS hl
        refine lv_iload hx hb (fk_get fk_cX12_offs_0 23 rfl) (lv_at hl 0 rfl) ?_
        refine lv_if_lt (tgt := 75) hx hb (fk_get fk_cX12_offs_0 24 rfl) (by decide) (fun c_14 => ?_) (fun c_14 => ?_)
        · have hk0 : k = 0 := Nat.eq_zero_of_not_pos (fun q => absurd c_14 (by
            obtain ⟨j_, rfl⟩ : ∃ j, k = j + 1 := ⟨k - 1, by omega⟩
            rw [nI_pred]
            exact nI_nn (by omega)))
          subst hk0
          refine lv_aload_n hx hb (fk_get fk_cX12_offs_1 7 rfl) rfl (lv_at hl 3 rfl) ?_
          have hFc := va_self hD hS hA
          refine va_callv (va_runV (As := []) (rest := []) ⟨hx, hb, hml, hown, hT⟩ (c_close l G ad SL H_12.size ((setF S 0 8 0)) (11000) (hI)) (tV 0 hT m6_226 m6_228 mp_51 m1_17 m6_229 rfl rfl (by decide +kernel) ⟨Nat.le_of_ble_eq_true rfl, Nat.le_of_ble_eq_true rfl⟩) ⟨PcW_blind, va_recv hK hP (ci := 14) (q0 := 0) rfl (ix_at (by decide) (cR_0 G ad SL)), PcW_of hP hK hD _⟩ rfl rfl hl.1 rfl (lv_room (Nat.le_of_ble_eq_true rfl)) (fk_get fk_cX12_offs_1 8 rfl) ⟨Nat.zero_le _, Nat.zero_le _⟩) hS (fun q _ h => hFc q h) hFc (fun S_17 t_ H locs ht_ hvm_ hw_16 hB_ hz_ hk_ hS => ?_)
          obtain ⟨hP, -, hD1_⟩ := hB_
          rw [ht_] at hP
          have hD : va_D A (wR G ad S_17) := hD1_.weaken (fun k q _ h => hFc q.1 h)
          try dsimp only at hw_16
          have hZq := hw_16
          refine lv_iload_n hx hb (fk_get fk_cX12_offs_1 9 rfl) rfl (lv_at hl 5 rfl) ?_
          refine lv_if_ne (tgt := 87) hx hb (fk_get fk_cX12_offs_1 10 rfl) (by decide) (fun c_18 => ?_) (fun c_18 => ?_)
          · refine lv_iload hx hb (fk_get fk_cX12_offs_1 13 rfl) (lv_at hl 1 rfl) ?_
            subst hQ
            have hpost : QP (setF S 0 8 0) S_17 ∧ (v4 : Int32) = offP (lstW 3 1 C) τ C n (gR S) (fA S 2) zs c n_ := by
              first | exact ⟨QP.rf h15, off_1 (Or.inl hnC_)⟩ | exact ⟨QP.rf h15, off_1 (Or.inr (by assumption))⟩ | exact ⟨hZq, (off_r hC_ (by assumption) hF_).1 (by first | assumption | exact Decidable.not_not.mp (by assumption))⟩ | exact ⟨hZq, (off_r hC_ (by assumption) hF_).2 (by assumption)⟩
            exact W.iret (v := v4) hx hb hr (fun t_ ht_ hW_ => ⟨⟨v4, S_17, rfl, hpost, by rw [ht_]; exact hP, va_K.moved hW_.alike hK, hD⟩, hS.F ht_⟩) hS.2.2 (fk_get fk_cX12_offs_1 14 rfl)
          refine lv_iload_n hx hb (fk_get fk_cX12_offs_1 11 rfl) rfl (lv_at hl 2 rfl) ?_
          refine lv_goto (tgt := 89) hx hb (fk_get fk_cX12_offs_1 12 rfl) (by decide) ?_
          subst hQ
          have hpost : QP (setF S 0 8 0) S_17 ∧ (v3 : Int32) = offP (lstW 3 1 C) τ C n (gR S) (fA S 2) zs c n_ := by
            first | exact ⟨QP.rf h15, off_1 (Or.inl hnC_)⟩ | exact ⟨QP.rf h15, off_1 (Or.inr (by assumption))⟩ | exact ⟨hZq, (off_r hC_ (by assumption) hF_).1 (by first | assumption | exact Decidable.not_not.mp (by assumption))⟩ | exact ⟨hZq, (off_r hC_ (by assumption) hF_).2 (by assumption)⟩
          exact W.iret (v := v3) hx hb hr (fun t_ ht_ hW_ => ⟨⟨v3, S_17, rfl, hpost, by rw [ht_]; exact hP, va_K.moved hW_.alike hK, hD⟩, hS.F ht_⟩) hS.2.2 (fk_get fk_cX12_offs_1 14 rfl)
        have hk1 : 1 ≤ k := Nat.pos_of_ne_zero (fun q => c_14 (by rw [q]; decide))
        have ek1_ : nI k - 1 = nI (k - 1) := by
          obtain ⟨j_, rfl⟩ : ∃ j, k = j + 1 := ⟨k - 1, by omega⟩
          exact nI_pred j_
        refine lv_aload_n hx hb (fk_get fk_cX12_offs_0 25 rfl) rfl (lv_at hl 3 rfl) ?_
        have hFc := va_self hD hS hA
        refine va_callv (va_runV (As := []) (rest := []) ⟨hx, hb, hml, hown, hT⟩ (c_againX l G ad SL H_12.size ((setF S 0 8 0)) (11000) (9999) (hI) (hSV)) (tV 0 hT m7_1 m7_3 mp_52 m1_17 m7_4 rfl rfl (by decide +kernel) ⟨Nat.le_of_ble_eq_true rfl, Nat.le_of_ble_eq_true rfl⟩) ⟨PcW_blind, va_recv hK hP (ci := 14) (q0 := 0) rfl (ix_at (by decide) (cR_0 G ad SL)), PcW_of hP hK hD _⟩ rfl rfl hl.1 rfl (lv_room (Nat.le_of_ble_eq_true rfl)) (fk_get fk_cX12_offs_0 26 rfl) ⟨Nat.zero_le _, Nat.zero_le _⟩) hS (fun q _ h => hFc q h) hFc (fun S_21 t_ H locs ht_ hvm_ hw_20 hB_ hz_ hk_ hS => ?_)
        obtain ⟨hP, -, hD1_⟩ := hB_
        rw [ht_] at hP
        have hD : va_D A (wR G ad S_21) := hD1_.weaken (fun k q _ h => hFc q.1 h)
        try dsimp only at hw_20
        obtain ⟨hI1, hg1_, -⟩ := hw_20
        have hg1_ : ∀ d, d < 6 → gR S_21 d = gR S d := hg1_
        refine lv_aload_n hx hb (fk_get fk_cX12_offs_0 27 rfl) rfl (lv_at hl 3 rfl) ?_
        refine lv_iload hx hb (fk_get fk_cX12_offs_0 28 rfl) (lv_at hl 0 rfl) ?_
        refine va_put (D := G.1) (ci := 14) (v := .int ((nI k - 1))) (ty := .int) (C := RX12) (T := TX12) (N := 49) hx hb hT inX12 tyX12 tyX12_ok nmX12 hown hK hP hD hS 0 (ix_at (by decide) (cR_0 G ad S_21)) rfl 2 (by decide) (hT _ m5_103) (fun _ h9 => h9) rfl (by decide +kernel) rfl rfl (Nat.le_of_ble_eq_true rfl) (fk_get fk_cX12_offs_0 29 rfl) (fun H locs hP hD hS => ?_)
        rw [pR_off G ad S_21 ((nI k - 1))] at hP hD
        have hI2 := hI1.off (nI k - 1)
        refine lv_aload_n hx hb (fk_get fk_cX12_offs_0 30 rfl) rfl (lv_at hl 3 rfl) ?_
        refine lv_iload_n hx hb (fk_get fk_cX12_offs_0 31 rfl) rfl (lv_at hl 4 rfl) ?_
        have hFc := va_self hD hS hA
        refine va_calli (va_runV (As := [.int (c)]) (rest := []) ⟨hx, hb, hml, hown, hT⟩ (c_areSeenX l G ad (setF S_21 0 2 ((nI k - 1))) H.size (z) (τ) (C) (c) (c.toNatClampNeg) (9999) (zs) (hI2.HOK hHOK) ((HOX.MI (S := (setF S 0 8 0)) hHX hI2)) (hI2.SV) (by omega) (ej) (by omega) (hI2.f (by decide) hz) (hz4) (hI2.2.2.1)) (tV 1 hT m7_40 m7_42 mp_54 m1_17 m7_43 rfl rfl (by decide +kernel) ⟨Nat.le_of_ble_eq_true rfl, Nat.le_of_ble_eq_true rfl⟩) ⟨PcW_blind, va_recv hK hP (ci := 14) (q0 := 0) rfl (ix_at (by decide) (cR_0 G ad (setF S_21 0 2 ((nI k - 1))))), PcW_of hP hK hD _⟩ rfl rfl hl.1 rfl (lv_room (Nat.le_of_ble_eq_true rfl)) (fk_get fk_cX12_offs_1 0 rfl) ⟨Nat.zero_le _, Nat.zero_le _⟩) hS (fun q _ h => hFc q h) hFc (fun r_22 S_24 t_ H locs ht_ hvm_ hw_23 hB_ hz_ hk_ hS => ?_)
        obtain ⟨hP, -, hD1_⟩ := hB_
        rw [ht_] at hP
        have hD : va_D A (wR G ad S_24) := hD1_.weaken (fun k q _ h => hFc q.1 h)
        try dsimp only at hw_23
        obtain ⟨hM2, hS2, hcs_, -⟩ := hw_23
        have hI3 := (hI2.M hM2 hS2).mono (C := 11000) (by omega)
        rw [show gR (setF _ 0 2 (nI k - 1)) c.toNatClampNeg = gR S c.toNatClampNeg from hg1_ _ (by omega), show fF (setF _ 0 2 (nI k - 1)) 0 2 = nI (k - 1) from ek1_, cs_cg (s' := fA S 2) zs 0 _ (fun i a b => hI2.2.2.2.2.2.1 i (by omega))] at hcs_
        refine lv_if_eq (tgt := 69) hx hb (fk_get fk_cX12_offs_1 1 rfl) (by decide) (fun c_25 => ?_) (fun c_25 => ?_)
        · refine lv_iinc (v := (nI (k - 1) - 1)) (lv' := [(5, .int ((nI (k - 1) - 1))), (4, .int (v4)), (3, .int (v3)), (0, .ref (ad 0)), (1, .int (c)), (2, .int (n_))]) hx hb (fk_get fk_cX12_offs_1 5 rfl) hl (k := 0) rfl ((nI_dn hk1)) (by decide) rfl (fun ls hl => ?_)
          refine lv_goto (tgt := 39) hx hb (fk_get fk_cX12_offs_1 6 rfl) (by decide) ?_
          exact ih (k - 1) (v3) (v4) (S_24) _ _ ls (by omega) (by omega) (hI3) ((by first | exact of_y (p := (fun o => csN (nI o) (lstW 3 1 C) τ C c (fA S 2) zs 0 (gR S c.toNatClampNeg))) hk hk1 hF_ (i01_t2 hcs_ (by assumption)) | exact of_n (p := (fun o => csN (nI o) (lstW 3 1 C) τ C c (fA S 2) zs 0 (gR S c.toNatClampNeg))) hk hk1 hF_ (i01_f hcs_ (by assumption)))) hP hD hS (lv_sub hl [0, 1, 2, 3, 4, 5] rfl)
        refine lv_iinc (v := v3 + 1) (lv' := [(3, .int (v3 + 1)), (5, .int ((nI k - 1))), (4, .int (v4)), (0, .ref (ad 0)), (1, .int (c)), (2, .int (n_))]) hx hb (fk_get fk_cX12_offs_1 2 rfl) hl (k := 2) rfl (rfl) (by decide) rfl (fun ls hl => ?_)
        refine lv_iload hx hb (fk_get fk_cX12_offs_1 3 rfl) (lv_at hl 1 rfl) ?_
        refine lv_istore (lv' := [(4, .int ((nI k - 1))), (3, .int (v3 + 1)), (5, .int ((nI k - 1))), (0, .ref (ad 0)), (1, .int (c)), (2, .int (n_))]) hx hb (fk_get fk_cX12_offs_1 4 rfl) hl (by decide) rfl (fun ls hl => ?_)
        refine lv_iinc (v := (nI (k - 1) - 1)) (lv' := [(5, .int ((nI (k - 1) - 1))), (4, .int ((nI k - 1))), (3, .int (v3 + 1)), (0, .ref (ad 0)), (1, .int (c)), (2, .int (n_))]) hx hb (fk_get fk_cX12_offs_1 5 rfl) hl (k := 2) rfl ((nI_dn hk1)) (by decide) rfl (fun ls hl => ?_)
        refine lv_goto (tgt := 39) hx hb (fk_get fk_cX12_offs_1 6 rfl) (by decide) ?_
        exact ih (k - 1) (v3 + 1) ((nI k - 1)) (S_24) _ _ ls (by omega) (by omega) (hI3) ((by first | exact of_y (p := (fun o => csN (nI o) (lstW 3 1 C) τ C c (fA S 2) zs 0 (gR S c.toNatClampNeg))) hk hk1 hF_ (i01_t2 hcs_ (by assumption)) | exact of_n (p := (fun o => csN (nI o) (lstW 3 1 C) τ C c (fA S 2) zs 0 (gR S c.toNatClampNeg))) hk hk1 hF_ (i01_f hcs_ (by assumption)))) hP hD hS (lv_sub hl [0, 1, 2, 3, 4, 5] rfl)
    exact lp_10 (32) (31) (0) ((-5)) (S_9) _ _ ls (by omega) (by omega) (hI0.mono (by omega)) (rfl) hP hD hS (lv_sub hl [0, 1, 2, 3, 4, 5] rfl)
  have p_c_6 := if1_f hw_5 c_6
  refine lv_iconst (v := (-1)) hx hb (fk_get fk_cX12_offs_0 13 rfl) (by decide) ?_
  subst hQ
  have hpost : QP (setF S 0 8 0) (setF S 0 8 (0)) ∧ ((-1) : Int32) = offP (lstW 3 1 C) τ C n (gR S) (fA S 2) zs c n_ := by
    first | exact ⟨QP.rf h15, off_1 (Or.inl hnC_)⟩ | exact ⟨QP.rf h15, off_1 (Or.inr (by assumption))⟩ | exact ⟨hZq, (off_r hC_ (by assumption) hF_).1 (by first | assumption | exact Decidable.not_not.mp (by assumption))⟩ | exact ⟨hZq, (off_r hC_ (by assumption) hF_).2 (by assumption)⟩
  exact W.iret (v := (-1)) hx hb hr (fun t_ ht_ hW_ => ⟨⟨(-1), (setF S 0 8 (0)), rfl, hpost, by rw [ht_]; exact hP, va_K.moved hW_.alike hK, hD⟩, hS.F ht_⟩) hS.2.2 (fk_get fk_cX12_offs_0 14 rfl)
