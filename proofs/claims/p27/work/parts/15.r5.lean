set_option maxHeartbeats 800000 in
set_option maxRecDepth 100000 in
theorem c_here (l : Launch) (G : GG) (ad : Nat → Nat) (S : FS) (sz : Nat) (z u : Nat) (hz : fF S 0 17 = nI z) (hz1 : z ≤ 100) (hp : fF S 0 25 = nI u) (hp1 : u ≤ 200) : Met l yX12_here (Cond.code yX12_here cX12_here 1 (some .int) :: TBL) ({ frames := 2, cells := 0, slots := 0, locals := 64 } : Room) (PcW G (wR G ad S) sz [.ref (ad 0)]) (vp_Si (fun (r : Int32) => r = hrS (fA S 6) z u)) 0 0 (fun _ => False) := by
  refine Met.ofW (cc := cX12_here) (maxL := 1) (ret := (some .int)) (by decide) rfl ?_
  intro p e s m args below meth c₀ s₁ B hml hv
  obtain ⟨rfl, hsz, hP, hK, hD0⟩ := hv
  have hx := B.exec
  have hb := B.bytes
  have hr := B.returns
  have hT : ∀ w ∈ TBL, w.before ([.ref (ad 0)] : List Value).toArray s = true := fun w h => atoms_spec (ws := Cond.code yX12_here cX12_here 1 (some .int) :: TBL) B.pre w (List.mem_cons_of_mem _ h)
  have hown : s.vm.findClass "LittleMoreModel" = some m.cls := findClass_of_methodNamed B.named
  have hlocks := B.notSynchronized
  have hD := hD0
  have hP : va_P G.1 vwCl (wR G ad S) s.heap := hP
  have hl := lv_entry ([.ref (ad 0)]) (n := 1) (Nat.le_of_ble_eq_true rfl)
  rw [lg_entry_eq]
  generalize (lg_sl ([.ref (ad 0)]) ++ List.replicate (1 - (lg_sl ([.ref (ad 0)])).length) Slot.unset).toArray = ls at hl ⊢
  have hl : lv_has ls 1 [(0, .ref (ad 0))] := hl
  refine W_abs (fun Q hQ => ?_)
  generalize ([.ref (ad 0)] : List Value).toArray = args at hT hQ ⊢
  refine lv_aload_n hx hb (fk_get fk_cX12_here_0 0 rfl) rfl (lv_at hl 0 rfl) ?_
  refine va_get (D := G.1) (ci := 14) (v := .int ((fF S 0 25))) (C := RX12) (T := TX12) (N := 49) hx hb hT inX12 hown hK hP 0 (ix_at (by decide) (cR_0 G ad S)) rfl 25 (by decide) (hT _ m5_126) (fun _ h9 => h9) rfl (fk_get fk_cX12_here_0 1 rfl) ?_
  refine lv_aload_n hx hb (fk_get fk_cX12_here_0 2 rfl) rfl (lv_at hl 0 rfl) ?_
  refine va_get (D := G.1) (ci := 14) (v := .int ((fF S 0 17))) (C := RX12) (T := TX12) (N := 49) hx hb hT inX12 hown hK hP 0 (ix_at (by decide) (cR_0 G ad S)) rfl 17 (by decide) (hT _ m5_118) (fun _ h9 => h9) rfl (fk_get fk_cX12_here_0 3 rfl) ?_
  refine lv_icmp_ge (tgt := 23) hx hb (fk_get fk_cX12_here_0 4 rfl) (by decide) (fun c_1 => ?_) (fun c_1 => ?_)
  · have hge : ¬ u < z := Nat.not_lt.mpr ((nI_leI (a := z) (b := u) (by omega) (by omega)).mp (by rw [← hp, ← hz]; exact c_1))
    refine lv_iconst (v := (-1)) hx hb (fk_get fk_cX12_here_0 11 rfl) (by decide) ?_
    subst hQ
    have hpost : ((-1) : Int32) = hrS (fA S 6) z u := by
      unfold hrS
      first | (rw [if_pos (by assumption)]; done) | (rw [if_neg (by assumption)]; done)
    exact W.iret (v := (-1)) hx hb hr (fun t_ ht_ hW_ => ⟨(-1), rfl, hpost, ht_⟩) (fun q h => by cases h) (fk_get fk_cX12_here_0 12 rfl)
  have hlt : u < z := Nat.lt_of_not_le (fun q => c_1 (by rw [hp, hz]; exact (nI_leI (a := z) (b := u) (by omega) (by omega)).mpr q))
  refine lv_aload_n hx hb (fk_get fk_cX12_here_0 5 rfl) rfl (lv_at hl 0 rfl) ?_
  refine va_get (D := G.1) (ci := 14) (v := .ref (ad 6)) (C := RX12) (T := TX12) (N := 49) hx hb hT inX12 hown hK hP 0 (ix_at (by decide) (cR_0 G ad S)) rfl 16 (by decide) (hT _ m5_117) (fun _ h9 => h9) rfl (fk_get fk_cX12_here_0 6 rfl) ?_
  refine lv_aload_n hx hb (fk_get fk_cX12_here_0 7 rfl) rfl (lv_at hl 0 rfl) ?_
  refine va_get (D := G.1) (ci := 14) (v := .int ((fF S 0 25))) (C := RX12) (T := TX12) (N := 49) hx hb hT inX12 hown hK hP 0 (ix_at (by decide) (cR_0 G ad S)) rfl 25 (by decide) (hT _ m5_126) (fun _ h9 => h9) rfl (fk_get fk_cX12_here_0 8 rfl) ?_
  refine r_iald (f := fA S 6) hx hb hK hP 6 0 (ix_at (by decide) (cR_text G ad S)) rfl (u) (hp) (by omega) (by decide) (fk_get fk_cX12_here_0 9 rfl) ?_
  refine lv_goto (tgt := 24) hx hb (fk_get fk_cX12_here_0 10 rfl) (by decide) ?_
  subst hQ
  have hpost : ((fA S 6 (u)) : Int32) = hrS (fA S 6) z u := by
    unfold hrS
    first | (rw [if_pos (by assumption)]; done) | (rw [if_neg (by assumption)]; done)
  exact W.iret (v := (fA S 6 (u))) hx hb hr (fun t_ ht_ hW_ => ⟨(fA S 6 (u)), rfl, hpost, ht_⟩) (fun q h => by cases h) (fk_get fk_cX12_here_0 12 rfl)
set_option maxHeartbeats 800000 in
set_option maxRecDepth 100000 in
theorem c_take (l : Launch) (G : GG) (ad : Nat → Nat) (S : FS) (sz : Nat) (z u : Nat) (c : Int32) (hz : fF S 0 17 = nI z) (hz1 : z ≤ 100) (hp : fF S 0 25 = nI u) (hp1 : u ≤ 200) : Met l yX12_take (Cond.code yX12_take cX12_take 2 none :: TBL) ({ frames := 3, cells := 0, slots := 0, locals := 88 } : Room) (PcW G (wR G ad S) sz [.ref (ad 0), .int (c)]) (va_Qv (fun (S' : FS) => TKP z u c S S') (fun S' t => BW G (va_A (wR G ad S) sz) (wR G ad S') t) (va_A (wR G ad S) sz)) 0 0 (va_A (wR G ad S) sz) := by
  refine Met.ofW (cc := cX12_take) (maxL := 2) (ret := none) (by decide) rfl ?_
  intro p e s m args below meth c₀ s₁ B hml hv
  obtain ⟨rfl, hsz, hP, hK, hD0⟩ := hv
  have hx := B.exec
  have hb := B.bytes
  have hr := B.returns
  have hT : ∀ w ∈ TBL, w.before ([.ref (ad 0), .int (c)] : List Value).toArray s = true := fun w h => atoms_spec (ws := Cond.code yX12_take cX12_take 2 none :: TBL) B.pre w (List.mem_cons_of_mem _ h)
  have hown : s.vm.findClass "LittleMoreModel" = some m.cls := findClass_of_methodNamed B.named
  have hlocks := B.notSynchronized
  subst hsz
  have hD := hD0.self (sz := s.heap.size)
  generalize hAe : va_A (wR G ad S) s.heap.size = A at hD ⊢
  have hA : ∀ q : Nat, s.heap.size ≤ q → A q := fun q h => by rw [← hAe]; exact Or.inr h
  have hS : va_S A s.heap s.heap [] := va_S.rf
  have hP : va_P G.1 vwCl (wR G ad S) s.heap := hP
  have hl := lv_entry ([.ref (ad 0), .int (c)]) (n := 2) (Nat.le_of_ble_eq_true rfl)
  rw [lg_entry_eq]
  generalize (lg_sl ([.ref (ad 0), .int (c)]) ++ List.replicate (2 - (lg_sl ([.ref (ad 0), .int (c)])).length) Slot.unset).toArray = ls at hl ⊢
  have hl : lv_has ls 2 [(0, .ref (ad 0)), (1, .int (c))] := hl
  refine W_abs (fun Q hQ => ?_)
  generalize ([.ref (ad 0), .int (c)] : List Value).toArray = args at hT hQ ⊢
  refine lv_aload_n hx hb (fk_get fk_cX12_take_0 0 rfl) rfl (lv_at hl 0 rfl) ?_
  refine lv_aload_n hx hb (fk_get fk_cX12_take_0 1 rfl) rfl (lv_at hl 0 rfl) ?_
  refine va_get (D := G.1) (ci := 14) (v := .int ((fF S 0 26))) (C := RX12) (T := TX12) (N := 49) hx hb hT inX12 hown hK hP 0 (ix_at (by decide) (cR_0 G ad S)) rfl 26 (by decide) (hT _ m5_127) (fun _ h9 => h9) rfl (fk_get fk_cX12_take_0 2 rfl) ?_
  refine lv_if_ne (tgt := 16) hx hb (fk_get fk_cX12_take_0 3 rfl) (by decide) (fun c_1 => ?_) (fun c_1 => ?_)
  · refine lv_iconst (v := 1) hx hb (fk_get fk_cX12_take_0 8 rfl) (by decide) ?_
    refine lv_goto (tgt := 21) hx hb (fk_get fk_cX12_take_0 9 rfl) (by decide) ?_
    refine va_put (D := G.1) (ci := 14) (v := .int (1)) (ty := .boolean) (C := RX12) (T := TX12) (N := 49) hx hb hT inX12 tyX12 tyX12_ok nmX12 hown hK hP hD hS 0 (ix_at (by decide) (cR_0 G ad S)) rfl 26 (by decide) (hT _ m5_127) (fun _ h9 => h9) rfl (by decide +kernel) rfl rfl (Nat.le_of_ble_eq_true rfl) (fk_get fk_cX12_take_0 11 rfl) (fun H locs hP hD hS => ?_)
    rw [pR_isBad G ad S (1)] at hP hD
    refine lv_aload_n hx hb (fk_get fk_cX12_take_0 12 rfl) rfl (lv_at hl 0 rfl) ?_
    refine lv_dup hx hb (fk_get fk_cX12_take_0 13 rfl) rfl ?_
    refine va_get (D := G.1) (ci := 14) (v := .int ((fF S 0 25))) (C := RX12) (T := TX12) (N := 49) hx hb hT inX12 hown hK hP 0 (ix_at (by decide) (cR_0 G ad (setF S 0 26 (1)))) rfl 25 (by decide) (hT _ m5_126) (fun _ h9 => h9) rfl (fk_get fk_cX12_take_0 14 rfl) ?_
    refine lv_aload_n hx hb (fk_get fk_cX12_take_0 15 rfl) rfl (lv_at hl 0 rfl) ?_
    refine va_get (D := G.1) (ci := 14) (v := .int (1)) (C := RX12) (T := TX12) (N := 49) hx hb hT inX12 hown hK hP 0 (ix_at (by decide) (cR_0 G ad (setF S 0 26 (1)))) rfl 26 (by decide) (hT _ m5_127) (fun _ h9 => h9) rfl (fk_get fk_cX12_take_0 16 rfl) ?_
    refine lv_if_eq (tgt := 40) hx hb (fk_get fk_cX12_take_0 17 rfl) (by decide) (fun c_2 => absurd c_2 ((by decide))) (fun _ => ?_)
    refine lv_iconst (v := 0) hx hb (fk_get fk_cX12_take_0 18 rfl) (by decide) ?_
    refine lv_goto (tgt := 41) hx hb (fk_get fk_cX12_take_0 19 rfl) (by decide) ?_
    refine lv_iadd hx hb (fk_get fk_cX12_take_0 21 rfl) ?_
    rw [show ((fF S 0 25) + 0) = (nI u) from (by rw [hp]; exact Int32.add_zero _)]
    refine va_put (D := G.1) (ci := 14) (v := .int ((nI u))) (ty := .int) (C := RX12) (T := TX12) (N := 49) hx hb hT inX12 tyX12 tyX12_ok nmX12 hown hK hP hD hS 0 (ix_at (by decide) (cR_0 G ad (setF S 0 26 (1)))) rfl 25 (by decide) (hT _ m5_126) (fun _ h9 => h9) rfl (by decide +kernel) rfl rfl (Nat.le_of_ble_eq_true rfl) (fk_get fk_cX12_take_0 22 rfl) (fun H locs hP hD hS => ?_)
    rw [pR_at G ad (setF S 0 26 (1)) ((nI u))] at hP hD
    subst hQ
    have hpost : TKP z u c S (setF (setF S 0 26 (1)) 0 25 ((nI u))) := by
      refine ⟨by (repeat (first | assumption | exact QFr.rf _ | refine QFr.setF ?_ (by decide) _)), ?_⟩
      first | exact Or.inl ⟨by assumption, by assumption, rfl, rfl⟩ | exact Or.inr ⟨fun q => by first | exact absurd q.1 (by assumption) | exact absurd q.2 (by assumption), rfl, rfl⟩
    exact W.vret hx hb hr (fun t_ ht_ hW_ => ⟨⟨(setF (setF S 0 26 (1)) 0 25 ((nI u))), rfl, hpost, by rw [ht_]; exact hP, va_K.moved hW_.alike hK, hD⟩, hS.F ht_⟩) hS.2.2 (fk_get fk_cX12_take_0 23 rfl)
  refine lv_aload_n hx hb (fk_get fk_cX12_take_0 4 rfl) rfl (lv_at hl 0 rfl) ?_
  refine vp_callSi (W.runV (As := []) (rest := [.ref (ad 0)]) ⟨hx, hb, hml, hown, hT⟩ (c_here l G ad S s.heap.size (z) (u) (hz) (hz1) (hp) (hp1)) (tV 0 hT m6_46 m6_48 mp_22 m1_17 m6_49 rfl rfl (by decide +kernel) ⟨Nat.le_of_ble_eq_true rfl, Nat.le_of_ble_eq_true rfl⟩) ⟨PcW_blind, va_recv hK hP (ci := 14) (q0 := 0) rfl (ix_at (by decide) (cR_0 G ad S)), PcW_of hP hK hD _⟩ rfl rfl hl.1 rfl (lv_room (Nat.le_of_ble_eq_true rfl)) (fk_get fk_cX12_take_0 5 rfl) ⟨Nat.zero_le _, Nat.zero_le _⟩) (fun r_3 hw_4 => ?_)
  try dsimp only at hw_4
  subst hw_4
  refine lv_iload_n hx hb (fk_get fk_cX12_take_0 6 rfl) rfl (lv_at hl 1 rfl) ?_
  refine lv_icmp_eq (tgt := 20) hx hb (fk_get fk_cX12_take_0 7 rfl) (by decide) (fun c_5 => ?_) (fun c_5 => ?_)
  · refine lv_iconst (v := 0) hx hb (fk_get fk_cX12_take_0 10 rfl) (by decide) ?_
    refine va_put (D := G.1) (ci := 14) (v := .int (0)) (ty := .boolean) (C := RX12) (T := TX12) (N := 49) hx hb hT inX12 tyX12 tyX12_ok nmX12 hown hK hP hD hS 0 (ix_at (by decide) (cR_0 G ad S)) rfl 26 (by decide) (hT _ m5_127) (fun _ h9 => h9) rfl (by decide +kernel) rfl rfl (Nat.le_of_ble_eq_true rfl) (fk_get fk_cX12_take_0 11 rfl) (fun H locs hP hD hS => ?_)
    rw [pR_isBad G ad S (0)] at hP hD
    refine lv_aload_n hx hb (fk_get fk_cX12_take_0 12 rfl) rfl (lv_at hl 0 rfl) ?_
    refine lv_dup hx hb (fk_get fk_cX12_take_0 13 rfl) rfl ?_
    refine va_get (D := G.1) (ci := 14) (v := .int ((fF S 0 25))) (C := RX12) (T := TX12) (N := 49) hx hb hT inX12 hown hK hP 0 (ix_at (by decide) (cR_0 G ad (setF S 0 26 (0)))) rfl 25 (by decide) (hT _ m5_126) (fun _ h9 => h9) rfl (fk_get fk_cX12_take_0 14 rfl) ?_
    refine lv_aload_n hx hb (fk_get fk_cX12_take_0 15 rfl) rfl (lv_at hl 0 rfl) ?_
    refine va_get (D := G.1) (ci := 14) (v := .int (0)) (C := RX12) (T := TX12) (N := 49) hx hb hT inX12 hown hK hP 0 (ix_at (by decide) (cR_0 G ad (setF S 0 26 (0)))) rfl 26 (by decide) (hT _ m5_127) (fun _ h9 => h9) rfl (fk_get fk_cX12_take_0 16 rfl) ?_
    refine lv_if_eq (tgt := 40) hx hb (fk_get fk_cX12_take_0 17 rfl) (by decide) (fun _ => ?_) (fun c_6 => absurd ((by decide)) c_6)
    refine lv_iconst (v := 1) hx hb (fk_get fk_cX12_take_0 20 rfl) (by decide) ?_
    refine lv_iadd hx hb (fk_get fk_cX12_take_0 21 rfl) ?_
    rw [show ((fF S 0 25) + 1) = (nI (u + 1)) from (by rw [hp]; exact nI_1 u)]
    refine va_put (D := G.1) (ci := 14) (v := .int ((nI (u + 1)))) (ty := .int) (C := RX12) (T := TX12) (N := 49) hx hb hT inX12 tyX12 tyX12_ok nmX12 hown hK hP hD hS 0 (ix_at (by decide) (cR_0 G ad (setF S 0 26 (0)))) rfl 25 (by decide) (hT _ m5_126) (fun _ h9 => h9) rfl (by decide +kernel) rfl rfl (Nat.le_of_ble_eq_true rfl) (fk_get fk_cX12_take_0 22 rfl) (fun H locs hP hD hS => ?_)
    rw [pR_at G ad (setF S 0 26 (0)) ((nI (u + 1)))] at hP hD
    subst hQ
    have hpost : TKP z u c S (setF (setF S 0 26 (0)) 0 25 ((nI (u + 1)))) := by
      refine ⟨by (repeat (first | assumption | exact QFr.rf _ | refine QFr.setF ?_ (by decide) _)), ?_⟩
      first | exact Or.inl ⟨by assumption, by assumption, rfl, rfl⟩ | exact Or.inr ⟨fun q => by first | exact absurd q.1 (by assumption) | exact absurd q.2 (by assumption), rfl, rfl⟩
    exact W.vret hx hb hr (fun t_ ht_ hW_ => ⟨⟨(setF (setF S 0 26 (0)) 0 25 ((nI (u + 1)))), rfl, hpost, by rw [ht_]; exact hP, va_K.moved hW_.alike hK, hD⟩, hS.F ht_⟩) hS.2.2 (fk_get fk_cX12_take_0 23 rfl)
  refine lv_iconst (v := 1) hx hb (fk_get fk_cX12_take_0 8 rfl) (by decide) ?_
  refine lv_goto (tgt := 21) hx hb (fk_get fk_cX12_take_0 9 rfl) (by decide) ?_
  refine va_put (D := G.1) (ci := 14) (v := .int (1)) (ty := .boolean) (C := RX12) (T := TX12) (N := 49) hx hb hT inX12 tyX12 tyX12_ok nmX12 hown hK hP hD hS 0 (ix_at (by decide) (cR_0 G ad S)) rfl 26 (by decide) (hT _ m5_127) (fun _ h9 => h9) rfl (by decide +kernel) rfl rfl (Nat.le_of_ble_eq_true rfl) (fk_get fk_cX12_take_0 11 rfl) (fun H locs hP hD hS => ?_)
  rw [pR_isBad G ad S (1)] at hP hD
  refine lv_aload_n hx hb (fk_get fk_cX12_take_0 12 rfl) rfl (lv_at hl 0 rfl) ?_
  refine lv_dup hx hb (fk_get fk_cX12_take_0 13 rfl) rfl ?_
  refine va_get (D := G.1) (ci := 14) (v := .int ((fF S 0 25))) (C := RX12) (T := TX12) (N := 49) hx hb hT inX12 hown hK hP 0 (ix_at (by decide) (cR_0 G ad (setF S 0 26 (1)))) rfl 25 (by decide) (hT _ m5_126) (fun _ h9 => h9) rfl (fk_get fk_cX12_take_0 14 rfl) ?_
  refine lv_aload_n hx hb (fk_get fk_cX12_take_0 15 rfl) rfl (lv_at hl 0 rfl) ?_
  refine va_get (D := G.1) (ci := 14) (v := .int (1)) (C := RX12) (T := TX12) (N := 49) hx hb hT inX12 hown hK hP 0 (ix_at (by decide) (cR_0 G ad (setF S 0 26 (1)))) rfl 26 (by decide) (hT _ m5_127) (fun _ h9 => h9) rfl (fk_get fk_cX12_take_0 16 rfl) ?_
  refine lv_if_eq (tgt := 40) hx hb (fk_get fk_cX12_take_0 17 rfl) (by decide) (fun c_7 => absurd c_7 ((by decide))) (fun _ => ?_)
  refine lv_iconst (v := 0) hx hb (fk_get fk_cX12_take_0 18 rfl) (by decide) ?_
  refine lv_goto (tgt := 41) hx hb (fk_get fk_cX12_take_0 19 rfl) (by decide) ?_
  refine lv_iadd hx hb (fk_get fk_cX12_take_0 21 rfl) ?_
  rw [show ((fF S 0 25) + 0) = (nI u) from (by rw [hp]; exact Int32.add_zero _)]
  refine va_put (D := G.1) (ci := 14) (v := .int ((nI u))) (ty := .int) (C := RX12) (T := TX12) (N := 49) hx hb hT inX12 tyX12 tyX12_ok nmX12 hown hK hP hD hS 0 (ix_at (by decide) (cR_0 G ad (setF S 0 26 (1)))) rfl 25 (by decide) (hT _ m5_126) (fun _ h9 => h9) rfl (by decide +kernel) rfl rfl (Nat.le_of_ble_eq_true rfl) (fk_get fk_cX12_take_0 22 rfl) (fun H locs hP hD hS => ?_)
  rw [pR_at G ad (setF S 0 26 (1)) ((nI u))] at hP hD
  subst hQ
  have hpost : TKP z u c S (setF (setF S 0 26 (1)) 0 25 ((nI u))) := by
    refine ⟨by (repeat (first | assumption | exact QFr.rf _ | refine QFr.setF ?_ (by decide) _)), ?_⟩
    first | exact Or.inl ⟨by assumption, by assumption, rfl, rfl⟩ | exact Or.inr ⟨fun q => by first | exact absurd q.1 (by assumption) | exact absurd q.2 (by assumption), rfl, rfl⟩
  exact W.vret hx hb hr (fun t_ ht_ hW_ => ⟨⟨(setF (setF S 0 26 (1)) 0 25 ((nI u))), rfl, hpost, by rw [ht_]; exact hP, va_K.moved hW_.alike hK, hD⟩, hS.F ht_⟩) hS.2.2 (fk_get fk_cX12_take_0 23 rfl)
set_option maxHeartbeats 800000 in
set_option maxRecDepth 100000 in
theorem c_isLetter (l : Launch) (c : Int32) : Met l yX12_isLetter (Cond.code yX12_isLetter cX12_isLetter 1 (some .boolean) :: TBL) ({ frames := 2, cells := 0, slots := 0, locals := 64 } : Room) (PcN [.int (c)]) (vp_Si (fun (r : Int32) => (r = 1 ∧ isLet c) ∨ (r = 0 ∧ ¬ isLet c))) 0 0 (fun _ => False) := by
  refine Met.ofW (cc := cX12_isLetter) (maxL := 1) (ret := (some .boolean)) (by decide) rfl ?_
  intro p e s m args below meth c₀ s₁ B hml hv
  obtain ⟨rfl, -⟩ := hv
  have hx := B.exec
  have hb := B.bytes
  have hr := B.returns
  have hT : ∀ w ∈ TBL, w.before ([.int (c)] : List Value).toArray s = true := fun w h => atoms_spec (ws := Cond.code yX12_isLetter cX12_isLetter 1 (some .boolean) :: TBL) B.pre w (List.mem_cons_of_mem _ h)
  have hown : s.vm.findClass "LittleMoreModel" = some m.cls := findClass_of_methodNamed B.named
  have hlocks := B.notSynchronized
  have hl := lv_entry ([.int (c)]) (n := 1) (Nat.le_of_ble_eq_true rfl)
  rw [lg_entry_eq]
  generalize (lg_sl ([.int (c)]) ++ List.replicate (1 - (lg_sl ([.int (c)])).length) Slot.unset).toArray = ls at hl ⊢
  have hl : lv_has ls 1 [(0, .int (c))] := hl
  refine W_abs (fun Q hQ => ?_)
  generalize ([.int (c)] : List Value).toArray = args at hT hQ ⊢
  refine lv_iload_n hx hb (fk_get fk_cX12_isLetter_0 0 rfl) rfl (lv_at hl 0 rfl) ?_
  refine lv_bipush (v := 99) hx hb (fk_get fk_cX12_isLetter_0 1 rfl) (by decide) ?_
  refine lv_icmp_eq (tgt := 36) hx hb (fk_get fk_cX12_isLetter_0 2 rfl) (by decide) (fun c_1 => ?_) (fun c_1 => ?_)
  · refine lv_iconst (v := 1) hx hb (fk_get fk_cX12_isLetter_0 18 rfl) (by decide) ?_
    refine lv_goto (tgt := 41) hx hb (fk_get fk_cX12_isLetter_0 19 rfl) (by decide) ?_
    subst hQ
    have hpost : ((1 : Int32) = 1 ∧ isLet c) ∨ ((1 : Int32) = 0 ∧ ¬ isLet c) := by
      first | exact Or.inl ⟨rfl, Or.inl (by assumption)⟩ | exact Or.inl ⟨rfl, Or.inr (Or.inl (by assumption))⟩ | exact Or.inl ⟨rfl, Or.inr (Or.inr (Or.inl (by assumption)))⟩ | exact Or.inl ⟨rfl, Or.inr (Or.inr (Or.inr (Or.inl (by assumption))))⟩ | exact Or.inl ⟨rfl, Or.inr (Or.inr (Or.inr (Or.inr (Or.inl (by assumption)))))⟩ | exact Or.inl ⟨rfl, Or.inr (Or.inr (Or.inr (Or.inr (Or.inr (by assumption)))))⟩ | exact Or.inr ⟨rfl, by rintro (q | q | q | q | q | q) <;> exact absurd q (by assumption)⟩
    exact W.zret (v := 1) hx hb hr rfl (fun t_ ht_ hW_ => ⟨1, rfl, hpost, ht_⟩) (fun q h => by cases h) (fk_get fk_cX12_isLetter_0 21 rfl)
  refine lv_iload_n hx hb (fk_get fk_cX12_isLetter_0 3 rfl) rfl (lv_at hl 0 rfl) ?_
  refine lv_bipush (v := 107) hx hb (fk_get fk_cX12_isLetter_0 4 rfl) (by decide) ?_
  refine lv_icmp_eq (tgt := 36) hx hb (fk_get fk_cX12_isLetter_0 5 rfl) (by decide) (fun c_2 => ?_) (fun c_2 => ?_)
  · refine lv_iconst (v := 1) hx hb (fk_get fk_cX12_isLetter_0 18 rfl) (by decide) ?_
    refine lv_goto (tgt := 41) hx hb (fk_get fk_cX12_isLetter_0 19 rfl) (by decide) ?_
    subst hQ
    have hpost : ((1 : Int32) = 1 ∧ isLet c) ∨ ((1 : Int32) = 0 ∧ ¬ isLet c) := by
      first | exact Or.inl ⟨rfl, Or.inl (by assumption)⟩ | exact Or.inl ⟨rfl, Or.inr (Or.inl (by assumption))⟩ | exact Or.inl ⟨rfl, Or.inr (Or.inr (Or.inl (by assumption)))⟩ | exact Or.inl ⟨rfl, Or.inr (Or.inr (Or.inr (Or.inl (by assumption))))⟩ | exact Or.inl ⟨rfl, Or.inr (Or.inr (Or.inr (Or.inr (Or.inl (by assumption)))))⟩ | exact Or.inl ⟨rfl, Or.inr (Or.inr (Or.inr (Or.inr (Or.inr (by assumption)))))⟩ | exact Or.inr ⟨rfl, by rintro (q | q | q | q | q | q) <;> exact absurd q (by assumption)⟩
    exact W.zret (v := 1) hx hb hr rfl (fun t_ ht_ hW_ => ⟨1, rfl, hpost, ht_⟩) (fun q h => by cases h) (fk_get fk_cX12_isLetter_0 21 rfl)
  refine lv_iload_n hx hb (fk_get fk_cX12_isLetter_0 6 rfl) rfl (lv_at hl 0 rfl) ?_
  refine lv_bipush (v := 116) hx hb (fk_get fk_cX12_isLetter_0 7 rfl) (by decide) ?_
  refine lv_icmp_eq (tgt := 36) hx hb (fk_get fk_cX12_isLetter_0 8 rfl) (by decide) (fun c_3 => ?_) (fun c_3 => ?_)
  · refine lv_iconst (v := 1) hx hb (fk_get fk_cX12_isLetter_0 18 rfl) (by decide) ?_
    refine lv_goto (tgt := 41) hx hb (fk_get fk_cX12_isLetter_0 19 rfl) (by decide) ?_
    subst hQ
    have hpost : ((1 : Int32) = 1 ∧ isLet c) ∨ ((1 : Int32) = 0 ∧ ¬ isLet c) := by
      first | exact Or.inl ⟨rfl, Or.inl (by assumption)⟩ | exact Or.inl ⟨rfl, Or.inr (Or.inl (by assumption))⟩ | exact Or.inl ⟨rfl, Or.inr (Or.inr (Or.inl (by assumption)))⟩ | exact Or.inl ⟨rfl, Or.inr (Or.inr (Or.inr (Or.inl (by assumption))))⟩ | exact Or.inl ⟨rfl, Or.inr (Or.inr (Or.inr (Or.inr (Or.inl (by assumption)))))⟩ | exact Or.inl ⟨rfl, Or.inr (Or.inr (Or.inr (Or.inr (Or.inr (by assumption)))))⟩ | exact Or.inr ⟨rfl, by rintro (q | q | q | q | q | q) <;> exact absurd q (by assumption)⟩
    exact W.zret (v := 1) hx hb hr rfl (fun t_ ht_ hW_ => ⟨1, rfl, hpost, ht_⟩) (fun q h => by cases h) (fk_get fk_cX12_isLetter_0 21 rfl)
  refine lv_iload_n hx hb (fk_get fk_cX12_isLetter_0 9 rfl) rfl (lv_at hl 0 rfl) ?_
  refine lv_bipush (v := 111) hx hb (fk_get fk_cX12_isLetter_0 10 rfl) (by decide) ?_
  refine lv_icmp_eq (tgt := 36) hx hb (fk_get fk_cX12_isLetter_0 11 rfl) (by decide) (fun c_4 => ?_) (fun c_4 => ?_)
  · refine lv_iconst (v := 1) hx hb (fk_get fk_cX12_isLetter_0 18 rfl) (by decide) ?_
    refine lv_goto (tgt := 41) hx hb (fk_get fk_cX12_isLetter_0 19 rfl) (by decide) ?_
    subst hQ
    have hpost : ((1 : Int32) = 1 ∧ isLet c) ∨ ((1 : Int32) = 0 ∧ ¬ isLet c) := by
      first | exact Or.inl ⟨rfl, Or.inl (by assumption)⟩ | exact Or.inl ⟨rfl, Or.inr (Or.inl (by assumption))⟩ | exact Or.inl ⟨rfl, Or.inr (Or.inr (Or.inl (by assumption)))⟩ | exact Or.inl ⟨rfl, Or.inr (Or.inr (Or.inr (Or.inl (by assumption))))⟩ | exact Or.inl ⟨rfl, Or.inr (Or.inr (Or.inr (Or.inr (Or.inl (by assumption)))))⟩ | exact Or.inl ⟨rfl, Or.inr (Or.inr (Or.inr (Or.inr (Or.inr (by assumption)))))⟩ | exact Or.inr ⟨rfl, by rintro (q | q | q | q | q | q) <;> exact absurd q (by assumption)⟩
    exact W.zret (v := 1) hx hb hr rfl (fun t_ ht_ hW_ => ⟨1, rfl, hpost, ht_⟩) (fun q h => by cases h) (fk_get fk_cX12_isLetter_0 21 rfl)
  refine lv_iload_n hx hb (fk_get fk_cX12_isLetter_0 12 rfl) rfl (lv_at hl 0 rfl) ?_
  refine lv_bipush (v := 110) hx hb (fk_get fk_cX12_isLetter_0 13 rfl) (by decide) ?_
  refine lv_icmp_eq (tgt := 36) hx hb (fk_get fk_cX12_isLetter_0 14 rfl) (by decide) (fun c_5 => ?_) (fun c_5 => ?_)
  · refine lv_iconst (v := 1) hx hb (fk_get fk_cX12_isLetter_0 18 rfl) (by decide) ?_
    refine lv_goto (tgt := 41) hx hb (fk_get fk_cX12_isLetter_0 19 rfl) (by decide) ?_
    subst hQ
    have hpost : ((1 : Int32) = 1 ∧ isLet c) ∨ ((1 : Int32) = 0 ∧ ¬ isLet c) := by
      first | exact Or.inl ⟨rfl, Or.inl (by assumption)⟩ | exact Or.inl ⟨rfl, Or.inr (Or.inl (by assumption))⟩ | exact Or.inl ⟨rfl, Or.inr (Or.inr (Or.inl (by assumption)))⟩ | exact Or.inl ⟨rfl, Or.inr (Or.inr (Or.inr (Or.inl (by assumption))))⟩ | exact Or.inl ⟨rfl, Or.inr (Or.inr (Or.inr (Or.inr (Or.inl (by assumption)))))⟩ | exact Or.inl ⟨rfl, Or.inr (Or.inr (Or.inr (Or.inr (Or.inr (by assumption)))))⟩ | exact Or.inr ⟨rfl, by rintro (q | q | q | q | q | q) <;> exact absurd q (by assumption)⟩
    exact W.zret (v := 1) hx hb hr rfl (fun t_ ht_ hW_ => ⟨1, rfl, hpost, ht_⟩) (fun q h => by cases h) (fk_get fk_cX12_isLetter_0 21 rfl)
  refine lv_iload_n hx hb (fk_get fk_cX12_isLetter_0 15 rfl) rfl (lv_at hl 0 rfl) ?_
  refine lv_bipush (v := 100) hx hb (fk_get fk_cX12_isLetter_0 16 rfl) (by decide) ?_
  refine lv_icmp_ne (tgt := 40) hx hb (fk_get fk_cX12_isLetter_0 17 rfl) (by decide) (fun c_6 => ?_) (fun c_6 => ?_)
  · refine lv_iconst (v := 0) hx hb (fk_get fk_cX12_isLetter_0 20 rfl) (by decide) ?_
    subst hQ
    have hpost : ((0 : Int32) = 1 ∧ isLet c) ∨ ((0 : Int32) = 0 ∧ ¬ isLet c) := by
      first | exact Or.inl ⟨rfl, Or.inl (by assumption)⟩ | exact Or.inl ⟨rfl, Or.inr (Or.inl (by assumption))⟩ | exact Or.inl ⟨rfl, Or.inr (Or.inr (Or.inl (by assumption)))⟩ | exact Or.inl ⟨rfl, Or.inr (Or.inr (Or.inr (Or.inl (by assumption))))⟩ | exact Or.inl ⟨rfl, Or.inr (Or.inr (Or.inr (Or.inr (Or.inl (by assumption)))))⟩ | exact Or.inl ⟨rfl, Or.inr (Or.inr (Or.inr (Or.inr (Or.inr (by assumption)))))⟩ | exact Or.inr ⟨rfl, by rintro (q | q | q | q | q | q) <;> exact absurd q (by assumption)⟩
    exact W.zret (v := 0) hx hb hr rfl (fun t_ ht_ hW_ => ⟨0, rfl, hpost, ht_⟩) (fun q h => by cases h) (fk_get fk_cX12_isLetter_0 21 rfl)
  refine lv_iconst (v := 1) hx hb (fk_get fk_cX12_isLetter_0 18 rfl) (by decide) ?_
  refine lv_goto (tgt := 41) hx hb (fk_get fk_cX12_isLetter_0 19 rfl) (by decide) ?_
  subst hQ
  have hpost : ((1 : Int32) = 1 ∧ isLet c) ∨ ((1 : Int32) = 0 ∧ ¬ isLet c) := by
    first | exact Or.inl ⟨rfl, Or.inl (by assumption)⟩ | exact Or.inl ⟨rfl, Or.inr (Or.inl (by assumption))⟩ | exact Or.inl ⟨rfl, Or.inr (Or.inr (Or.inl (by assumption)))⟩ | exact Or.inl ⟨rfl, Or.inr (Or.inr (Or.inr (Or.inl (by assumption))))⟩ | exact Or.inl ⟨rfl, Or.inr (Or.inr (Or.inr (Or.inr (Or.inl (by assumption)))))⟩ | exact Or.inl ⟨rfl, Or.inr (Or.inr (Or.inr (Or.inr (Or.inr (by assumption)))))⟩ | exact Or.inr ⟨rfl, by rintro (q | q | q | q | q | q) <;> exact absurd q (by assumption)⟩
  exact W.zret (v := 1) hx hb hr rfl (fun t_ ht_ hW_ => ⟨1, rfl, hpost, ht_⟩) (fun q h => by cases h) (fk_get fk_cX12_isLetter_0 21 rfl)
set_option maxHeartbeats 800000 in
set_option maxRecDepth 100000 in
theorem c_readDigit (l : Launch) (G : GG) (ad : Nat → Nat) (S : FS) (sz : Nat) (z u : Nat) (hz : fF S 0 17 = nI z) (hz1 : z ≤ 100) (hp : fF S 0 25 = nI u) (hp1 : u ≤ 200) : Met l yX12_readDigit (Cond.code yX12_readDigit cX12_readDigit 1 (some .int) :: TBL) ({ frames := 3, cells := 0, slots := 0, locals := 93 } : Room) (PcW G (wR G ad S) sz [.ref (ad 0)]) (va_Qi (fun (r : Int32) (S' : FS) => RDP z u S r S') (fun S' t => BW G (va_A (wR G ad S) sz) (wR G ad S') t) (va_A (wR G ad S) sz)) 0 0 (va_A (wR G ad S) sz) := by
  refine Met.ofW (cc := cX12_readDigit) (maxL := 1) (ret := (some .int)) (by decide) rfl ?_
  intro p e s m args below meth c₀ s₁ B hml hv
  obtain ⟨rfl, hsz, hP, hK, hD0⟩ := hv
  have hx := B.exec
  have hb := B.bytes
  have hr := B.returns
  have hT : ∀ w ∈ TBL, w.before ([.ref (ad 0)] : List Value).toArray s = true := fun w h => atoms_spec (ws := Cond.code yX12_readDigit cX12_readDigit 1 (some .int) :: TBL) B.pre w (List.mem_cons_of_mem _ h)
  have hown : s.vm.findClass "LittleMoreModel" = some m.cls := findClass_of_methodNamed B.named
  have hlocks := B.notSynchronized
  subst hsz
  have hD := hD0.self (sz := s.heap.size)
  generalize hAe : va_A (wR G ad S) s.heap.size = A at hD ⊢
  have hA : ∀ q : Nat, s.heap.size ≤ q → A q := fun q h => by rw [← hAe]; exact Or.inr h
  have hS : va_S A s.heap s.heap [] := va_S.rf
  have hP : va_P G.1 vwCl (wR G ad S) s.heap := hP
  have hl := lv_entry ([.ref (ad 0)]) (n := 1) (Nat.le_of_ble_eq_true rfl)
  rw [lg_entry_eq]
  generalize (lg_sl ([.ref (ad 0)]) ++ List.replicate (1 - (lg_sl ([.ref (ad 0)])).length) Slot.unset).toArray = ls at hl ⊢
  have hl : lv_has ls 1 [(0, .ref (ad 0))] := hl
  refine W_abs (fun Q hQ => ?_)
  generalize ([.ref (ad 0)] : List Value).toArray = args at hT hQ ⊢
  refine lv_aload_n hx hb (fk_get fk_cX12_readDigit_0 0 rfl) rfl (lv_at hl 0 rfl) ?_
  refine lv_aload_n hx hb (fk_get fk_cX12_readDigit_0 1 rfl) rfl (lv_at hl 0 rfl) ?_
  refine va_get (D := G.1) (ci := 14) (v := .int ((fF S 0 26))) (C := RX12) (T := TX12) (N := 49) hx hb hT inX12 hown hK hP 0 (ix_at (by decide) (cR_0 G ad S)) rfl 26 (by decide) (hT _ m5_127) (fun _ h9 => h9) rfl (fk_get fk_cX12_readDigit_0 2 rfl) ?_
  refine lv_if_ne (tgt := 25) hx hb (fk_get fk_cX12_readDigit_0 3 rfl) (by decide) (fun c_1 => ?_) (fun c_1 => ?_)
  · refine lv_iconst (v := 1) hx hb (fk_get fk_cX12_readDigit_0 11 rfl) (by decide) ?_
    refine lv_goto (tgt := 30) hx hb (fk_get fk_cX12_readDigit_0 12 rfl) (by decide) ?_
    refine va_put (D := G.1) (ci := 14) (v := .int (1)) (ty := .boolean) (C := RX12) (T := TX12) (N := 49) hx hb hT inX12 tyX12 tyX12_ok nmX12 hown hK hP hD hS 0 (ix_at (by decide) (cR_0 G ad S)) rfl 26 (by decide) (hT _ m5_127) (fun _ h9 => h9) rfl (by decide +kernel) rfl rfl (Nat.le_of_ble_eq_true rfl) (fk_get fk_cX12_readDigit_0 14 rfl) (fun H locs hP hD hS => ?_)
    rw [pR_isBad G ad S (1)] at hP hD
    refine lv_aload_n hx hb (fk_get fk_cX12_readDigit_0 15 rfl) rfl (lv_at hl 0 rfl) ?_
    refine va_get (D := G.1) (ci := 14) (v := .int (1)) (C := RX12) (T := TX12) (N := 49) hx hb hT inX12 hown hK hP 0 (ix_at (by decide) (cR_0 G ad (setF S 0 26 (1)))) rfl 26 (by decide) (hT _ m5_127) (fun _ h9 => h9) rfl (fk_get fk_cX12_readDigit_0 16 rfl) ?_
    refine lv_if_eq (tgt := 42) hx hb (fk_get fk_cX12_readDigit_0 17 rfl) (by decide) (fun c_2 => absurd c_2 ((by decide))) (fun _ => ?_)
    refine lv_iconst (v := 0) hx hb (fk_get fk_cX12_readDigit_0 18 rfl) (by decide) ?_
    subst hQ
    have hpost : RDP z u S (0 : Int32) (setF S 0 26 (1)) := by
      refine ⟨by (repeat (first | assumption | exact QFr.rf _ | refine QFr.setF ?_ (by decide) _)), ?_⟩
      first | exact Or.inl ⟨by assumption, by assumption, rfl, rfl, rfl⟩ | exact Or.inr ⟨fun q => by first | exact absurd q.1 (by assumption) | exact absurd q.2 (by assumption), by assumption, rfl, rfl⟩
    exact W.iret (v := 0) hx hb hr (fun t_ ht_ hW_ => ⟨⟨0, (setF S 0 26 (1)), rfl, hpost, by rw [ht_]; exact hP, va_K.moved hW_.alike hK, hD⟩, hS.F ht_⟩) hS.2.2 (fk_get fk_cX12_readDigit_0 19 rfl)
  refine lv_aload_n hx hb (fk_get fk_cX12_readDigit_0 4 rfl) rfl (lv_at hl 0 rfl) ?_
  refine vp_callSi (W.runV (As := []) (rest := [.ref (ad 0)]) ⟨hx, hb, hml, hown, hT⟩ (c_here l G ad S s.heap.size (z) (u) (hz) (hz1) (hp) (hp1)) (tV 0 hT m6_46 m6_48 mp_22 m1_17 m6_49 rfl rfl (by decide +kernel) ⟨Nat.le_of_ble_eq_true rfl, Nat.le_of_ble_eq_true rfl⟩) ⟨PcW_blind, va_recv hK hP (ci := 14) (q0 := 0) rfl (ix_at (by decide) (cR_0 G ad S)), PcW_of hP hK hD _⟩ rfl rfl hl.1 rfl (lv_room (Nat.le_of_ble_eq_true rfl)) (fk_get fk_cX12_readDigit_0 5 rfl) ⟨Nat.zero_le _, Nat.zero_le _⟩) (fun r_3 hw_4 => ?_)
  try dsimp only at hw_4
  subst hw_4
  refine lv_i2l hx hb (fk_get fk_cX12_readDigit_0 6 rfl) rfl ?_
  refine lv_ldc2 (v := 48) hx hb hown (hT _ m6_71) (fk_get fk_cX12_readDigit_0 7 rfl) ?_
  refine lv_ldc2 (v := 57) hx hb hown (hT _ m6_72) (fk_get fk_cX12_readDigit_0 8 rfl) ?_
  refine vp_callSi (W.runS (As := [.long (((hrS (fA S 6) z u)).toInt64), .long (48), .long (57)]) (rest := [.ref (ad 0)]) ⟨hx, hb, hml, hown, hT⟩ (c_in l (((hrS (fA S 6) z u)).toInt64) (48) (57) ) (tS 3 hT m6_31 m6_32 m1_17 m6_33 rfl rfl (by decide +kernel) ⟨Nat.le_of_ble_eq_true rfl, Nat.le_of_ble_eq_true rfl⟩) ⟨PcN_blind, PcN_of _ _ _⟩ rfl rfl hl.1 rfl (lv_room (Nat.le_of_ble_eq_true rfl)) (fk_get fk_cX12_readDigit_0 9 rfl) ⟨Nat.zero_le _, Nat.zero_le _⟩) (fun r_5 hw_6 => ?_)
  try dsimp only at hw_6
  have hw_6 := in_eq hw_6 ((hrS (fA S 6) z u)) 48 57 (rfl) (by decide) (by decide)
  refine lv_if_ne (tgt := 29) hx hb (fk_get fk_cX12_readDigit_0 10 rfl) (by decide) (fun c_7 => ?_) (fun c_7 => ?_)
  · have p_c_7 := if1_t hw_6 c_7
    have hdg : dgS (fA S 6) z u := p_c_7
    have hlt : u < z := (hrS_dig p_c_7).1
    refine lv_iconst (v := 0) hx hb (fk_get fk_cX12_readDigit_0 13 rfl) (by decide) ?_
    refine va_put (D := G.1) (ci := 14) (v := .int (0)) (ty := .boolean) (C := RX12) (T := TX12) (N := 49) hx hb hT inX12 tyX12 tyX12_ok nmX12 hown hK hP hD hS 0 (ix_at (by decide) (cR_0 G ad S)) rfl 26 (by decide) (hT _ m5_127) (fun _ h9 => h9) rfl (by decide +kernel) rfl rfl (Nat.le_of_ble_eq_true rfl) (fk_get fk_cX12_readDigit_0 14 rfl) (fun H locs hP hD hS => ?_)
    rw [pR_isBad G ad S (0)] at hP hD
    refine lv_aload_n hx hb (fk_get fk_cX12_readDigit_0 15 rfl) rfl (lv_at hl 0 rfl) ?_
    refine va_get (D := G.1) (ci := 14) (v := .int (0)) (C := RX12) (T := TX12) (N := 49) hx hb hT inX12 hown hK hP 0 (ix_at (by decide) (cR_0 G ad (setF S 0 26 (0)))) rfl 26 (by decide) (hT _ m5_127) (fun _ h9 => h9) rfl (fk_get fk_cX12_readDigit_0 16 rfl) ?_
    refine lv_if_eq (tgt := 42) hx hb (fk_get fk_cX12_readDigit_0 17 rfl) (by decide) (fun _ => ?_) (fun c_8 => absurd ((by decide)) c_8)
    refine lv_aload_n hx hb (fk_get fk_cX12_readDigit_0 20 rfl) rfl (lv_at hl 0 rfl) ?_
    refine lv_dup hx hb (fk_get fk_cX12_readDigit_0 21 rfl) rfl ?_
    refine va_get (D := G.1) (ci := 14) (v := .int ((fF S 0 25))) (C := RX12) (T := TX12) (N := 49) hx hb hT inX12 hown hK hP 0 (ix_at (by decide) (cR_0 G ad (setF S 0 26 (0)))) rfl 25 (by decide) (hT _ m5_126) (fun _ h9 => h9) rfl (fk_get fk_cX12_readDigit_0 22 rfl) ?_
    refine lv_iconst (v := 1) hx hb (fk_get fk_cX12_readDigit_0 23 rfl) (by decide) ?_
    refine lv_iadd hx hb (fk_get fk_cX12_readDigit_0 24 rfl) ?_
    rw [show ((fF S 0 25) + 1) = (nI (u + 1)) from (by rw [hp]; exact nI_1 u)]
    refine va_put (D := G.1) (ci := 14) (v := .int ((nI (u + 1)))) (ty := .int) (C := RX12) (T := TX12) (N := 49) hx hb hT inX12 tyX12 tyX12_ok nmX12 hown hK hP hD hS 0 (ix_at (by decide) (cR_0 G ad (setF S 0 26 (0)))) rfl 25 (by decide) (hT _ m5_126) (fun _ h9 => h9) rfl (by decide +kernel) rfl rfl (Nat.le_of_ble_eq_true rfl) (fk_get fk_cX12_readDigit_0 25 rfl) (fun H locs hP hD hS => ?_)
    rw [pR_at G ad (setF S 0 26 (0)) ((nI (u + 1)))] at hP hD
    refine lv_aload_n hx hb (fk_get fk_cX12_readDigit_0 26 rfl) rfl (lv_at hl 0 rfl) ?_
    refine va_get (D := G.1) (ci := 14) (v := .ref (ad 6)) (C := RX12) (T := TX12) (N := 49) hx hb hT inX12 hown hK hP 0 (ix_at (by decide) (cR_0 G ad (setF (setF S 0 26 (0)) 0 25 ((nI (u + 1)))))) rfl 16 (by decide) (hT _ m5_117) (fun _ h9 => h9) rfl (fk_get fk_cX12_readDigit_0 27 rfl) ?_
    refine lv_aload_n hx hb (fk_get fk_cX12_readDigit_0 28 rfl) rfl (lv_at hl 0 rfl) ?_
    refine va_get (D := G.1) (ci := 14) (v := .int ((nI (u + 1)))) (C := RX12) (T := TX12) (N := 49) hx hb hT inX12 hown hK hP 0 (ix_at (by decide) (cR_0 G ad (setF (setF S 0 26 (0)) 0 25 ((nI (u + 1)))))) rfl 25 (by decide) (hT _ m5_126) (fun _ h9 => h9) rfl (fk_get fk_cX12_readDigit_0 29 rfl) ?_
    refine lv_iconst (v := 1) hx hb (fk_get fk_cX12_readDigit_0 30 rfl) (by decide) ?_
    refine lv_isub hx hb (fk_get fk_cX12_readDigit_0 31 rfl) ?_
    rw [show ((nI (u + 1)) - 1) = (nI u) from (nI_pred u)]
    refine r_iald (f := fA S 6) hx hb hK hP 6 0 (ix_at (by decide) (cR_text G ad (setF (setF S 0 26 (0)) 0 25 ((nI (u + 1)))))) rfl (u) (rfl) (by omega) (by decide) (fk_get fk_cX12_readDigit_1 0 rfl) ?_
    refine lv_bipush (v := 48) hx hb (fk_get fk_cX12_readDigit_1 1 rfl) (by decide) ?_
    refine lv_isub hx hb (fk_get fk_cX12_readDigit_1 2 rfl) ?_
    subst hQ
    have hpost : RDP z u S (((fA S 6 (u)) - 48) : Int32) (setF (setF S 0 26 (0)) 0 25 ((nI (u + 1)))) := by
      refine ⟨by (repeat (first | assumption | exact QFr.rf _ | refine QFr.setF ?_ (by decide) _)), ?_⟩
      first | exact Or.inl ⟨by assumption, by assumption, rfl, rfl, rfl⟩ | exact Or.inr ⟨fun q => by first | exact absurd q.1 (by assumption) | exact absurd q.2 (by assumption), by assumption, rfl, rfl⟩
    exact W.iret (v := ((fA S 6 (u)) - 48)) hx hb hr (fun t_ ht_ hW_ => ⟨⟨((fA S 6 (u)) - 48), (setF (setF S 0 26 (0)) 0 25 ((nI (u + 1)))), rfl, hpost, by rw [ht_]; exact hP, va_K.moved hW_.alike hK, hD⟩, hS.F ht_⟩) hS.2.2 (fk_get fk_cX12_readDigit_1 3 rfl)
  have p_c_7 := if1_f hw_6 c_7
  have hdg : ¬ dgS (fA S 6) z u := p_c_7
  refine lv_iconst (v := 1) hx hb (fk_get fk_cX12_readDigit_0 11 rfl) (by decide) ?_
  refine lv_goto (tgt := 30) hx hb (fk_get fk_cX12_readDigit_0 12 rfl) (by decide) ?_
  refine va_put (D := G.1) (ci := 14) (v := .int (1)) (ty := .boolean) (C := RX12) (T := TX12) (N := 49) hx hb hT inX12 tyX12 tyX12_ok nmX12 hown hK hP hD hS 0 (ix_at (by decide) (cR_0 G ad S)) rfl 26 (by decide) (hT _ m5_127) (fun _ h9 => h9) rfl (by decide +kernel) rfl rfl (Nat.le_of_ble_eq_true rfl) (fk_get fk_cX12_readDigit_0 14 rfl) (fun H locs hP hD hS => ?_)
  rw [pR_isBad G ad S (1)] at hP hD
  refine lv_aload_n hx hb (fk_get fk_cX12_readDigit_0 15 rfl) rfl (lv_at hl 0 rfl) ?_
  refine va_get (D := G.1) (ci := 14) (v := .int (1)) (C := RX12) (T := TX12) (N := 49) hx hb hT inX12 hown hK hP 0 (ix_at (by decide) (cR_0 G ad (setF S 0 26 (1)))) rfl 26 (by decide) (hT _ m5_127) (fun _ h9 => h9) rfl (fk_get fk_cX12_readDigit_0 16 rfl) ?_
  refine lv_if_eq (tgt := 42) hx hb (fk_get fk_cX12_readDigit_0 17 rfl) (by decide) (fun c_9 => absurd c_9 ((by decide))) (fun _ => ?_)
  refine lv_iconst (v := 0) hx hb (fk_get fk_cX12_readDigit_0 18 rfl) (by decide) ?_
  subst hQ
  have hpost : RDP z u S (0 : Int32) (setF S 0 26 (1)) := by
    refine ⟨by (repeat (first | assumption | exact QFr.rf _ | refine QFr.setF ?_ (by decide) _)), ?_⟩
    first | exact Or.inl ⟨by assumption, by assumption, rfl, rfl, rfl⟩ | exact Or.inr ⟨fun q => by first | exact absurd q.1 (by assumption) | exact absurd q.2 (by assumption), by assumption, rfl, rfl⟩
  exact W.iret (v := 0) hx hb hr (fun t_ ht_ hW_ => ⟨⟨0, (setF S 0 26 (1)), rfl, hpost, by rw [ht_]; exact hP, va_K.moved hW_.alike hK, hD⟩, hS.F ht_⟩) hS.2.2 (fk_get fk_cX12_readDigit_0 19 rfl)
