set_option maxHeartbeats 800000 in
set_option maxRecDepth 100000 in
theorem c_x11_setX (l : Launch) (G : GG) (ad : Nat → Nat) (S : FS) (sz : Nat) (n pz : Nat) (K : Nat → Nat) (τ : Nat → Int32) (C : Cls) (x w_ v_ : Int32) (hn : fF S (9 + 0) 3 = nI n) (hn6 : n ≤ 6) (hcf : CuF S 0 n pz τ C K) (hgc : ∀ d, d < n → GC 9999 (gX S (21 + 6 * 0 + d) (K d))) (h99 : N99 C) (hX : XI S) : Met l yX11_set (Cond.code yX11_set cX11_set 6 (some .int) :: TBL) ({ frames := 3, cells := 0, slots := 0, locals := 90 } : Room) (PcW G (wX G ad S) sz [.ref (ad 0), .int (x), .int (w_), .int (v_)]) (va_Qi (fun (r : Int32) (S' : FS) => XI S' ∧ Fr (fun j k => 21 ≤ j ∧ j < 27 ∧ 4 ≤ k ∧ k ≤ 9) S S' ∧ SetP n x w_ v_ r S S') (fun S' t => BW G (va_A (wX G ad S) sz) (wX G ad S') t) (va_A (wX G ad S) sz)) 0 0 (va_A (wX G ad S) sz) := by
  refine Met.ofW (cc := cX11_set) (maxL := 6) (ret := (some .int)) (by decide) rfl ?_
  intro p e s m args below meth c₀ s₁ B hml hv
  obtain ⟨rfl, hsz, hP, hK, hD0⟩ := hv
  have hx := B.exec
  have hb := B.bytes
  have hr := B.returns
  have hT : ∀ w ∈ TBL, w.before ([.ref (ad 0), .int (x), .int (w_), .int (v_)] : List Value).toArray s = true := fun w h => atoms_spec (ws := Cond.code yX11_set cX11_set 6 (some .int) :: TBL) B.pre w (List.mem_cons_of_mem _ h)
  have hown : s.vm.findClass "LittleMore" = some m.cls := findClass_of_methodNamed B.named
  have hlocks := B.notSynchronized
  subst hsz
  have hD := hD0.self (sz := s.heap.size)
  generalize hAe : va_A (wX G ad S) s.heap.size = A at hD ⊢
  have hA : ∀ q : Nat, s.heap.size ≤ q → A q := fun q h => by rw [← hAe]; exact Or.inr h
  have hS : va_S A s.heap s.heap [] := va_S.rf
  have hP : va_P G.1 vwCl (wX G ad S) s.heap := hP
  have hl := lv_entry ([.ref (ad 0), .int (x), .int (w_), .int (v_)]) (n := 6) (Nat.le_of_ble_eq_true rfl)
  rw [lg_entry_eq]
  generalize (lg_sl ([.ref (ad 0), .int (x), .int (w_), .int (v_)]) ++ List.replicate (6 - (lg_sl ([.ref (ad 0), .int (x), .int (w_), .int (v_)])).length) Slot.unset).toArray = ls at hl ⊢
  have hl : lv_has ls 6 [(0, .ref (ad 0)), (1, .int (x)), (2, .int (w_)), (3, .int (v_))] := hl
  refine W_abs (fun Q hQ => ?_)
  generalize ([.ref (ad 0), .int (x), .int (w_), .int (v_)] : List Value).toArray = args at hT hQ ⊢
  obtain ⟨-, hpz0, hcok0, hctx0, hsay0⟩ := id hcf
  obtain ⟨lz, hlz, hln⟩ := lst_99 (k := 3) C 1 ⟨1, by omega, rfl⟩ h99.2
  refine lv_aload_n hx hb (fk_get fk_cX11_set_0 0 rfl) rfl (lv_at hl 0 rfl) ?_
  refine va_get (D := G.1) (ci := 13) (v := .ref (ad (9 + 0))) (C := RX11) (T := TX11) (N := 11) hx hb hT inX11 hown hK hP 0 (ix_at (lt71 (by omega)) (cX_0 G ad S)) rfl 1 (by decide) (hT _ m2_70) (fun _ h9 => h9) rfl (fk_get fk_cX11_set_0 1 rfl) ?_
  refine lv_iload_n hx hb (fk_get fk_cX11_set_0 2 rfl) rfl (lv_at hl 1 rfl) ?_
  refine va_csq (W.runV (As := [.int (x)]) (rest := []) ⟨hx, hb, hml, hown, hT⟩ (c_x7_at l G ad S s.heap.size (0) (n) (x) ((by decide : 0 < 3)) (hn) (hn6) (hX)) (tV 1 hT m2_120 m2_121 m2_122 m1_9 m2_123 rfl rfl (by decide +kernel) ⟨Nat.le_of_ble_eq_true rfl, Nat.le_of_ble_eq_true rfl⟩) ⟨PcW_blind, va_recv hK hP (ci := 9) (q0 := (9 + 0)) rfl (ix_at (lt71 (by omega)) (cX_shop (pk_shop (by decide : 0 < 3)))), PcW_of hP hK hD _⟩ rfl rfl hl.1 rfl (lv_room (Nat.le_of_ble_eq_true rfl)) (fk_get fk_cX11_set_0 3 rfl) ⟨Nat.zero_le _, Nat.zero_le _⟩) (fun r_1 hw_2 => ?_)
  try dsimp only at hw_2
  rcases hw_2 with ⟨j_5, hj_5, ej_5, rfl⟩ | ⟨rfl, hn_5⟩
  · rw [show va_rf (some (ad (21 + 6 * 0 + j_5))) = .ref (ad (21 + 6 * 0 + j_5)) from rfl]
    generalize hg_i_5 : 21 + 6 * 0 + j_5 = i_5
    have hp_i_5 : pk i_5 = 7 := by rw [← hg_i_5]; exact pk_c (by decide : 0 < 3) (show j_5 < 6 by omega)
    have hb_i_5 := pk7 hp_i_5
    refine lv_astore (lv' := [(4, .ref (ad i_5)), (0, .ref (ad 0)), (1, .int (x)), (2, .int (w_)), (3, .int (v_))]) hx hb (fk_get fk_cX11_set_0 4 rfl) hl (by decide) rfl (fun ls hl => ?_)
    refine lv_aload hx hb (fk_get fk_cX11_set_0 5 rfl) (lv_at hl 0 rfl) ?_
    refine lv_ifnull hx hb (fk_get fk_cX11_set_0 6 rfl) ?_
    have hC_ : isC n x := inC hn6 hj_5 ej_5
    have hcl_ : x.toNatClampNeg = j_5 := by rw [ej_5]; exact nI_clamp (by omega)
    have hcn_ : fF S i_5 0 = x := by rw [← hg_i_5, ej_5]; exact XI.num hX (by omega) (by omega)
    have hgx_ : gX S i_5 (K j_5) = gX S (21 + 6 * 0 + x.toNatClampNeg) (K x.toNatClampNeg) := by rw [hcl_, ← hg_i_5]
    have hcu_ : CuC S 0 i_5 (K j_5) pz τ C := by rw [← hg_i_5]; exact hcf.at hj_5
    have hgb_ : GB 9999 (gX S i_5 (K j_5)) := by rw [← hg_i_5]; exact (hgc _ hj_5).1
    have hg7z_ : fF S i_5 9 = 0 ∨ fF S i_5 9 = 1 := hgb_.2.2.2
    refine lv_iload_n hx hb (fk_get fk_cX11_set_0 7 rfl) rfl (lv_at hl 3 rfl) ?_
    refine lv_iconst (v := 0) hx hb (fk_get fk_cX11_set_0 8 rfl) (by decide) ?_
    refine lv_iconst (v := 3) hx hb (fk_get fk_cX11_set_0 9 rfl) (by decide) ?_
    refine vp_callSi (W.runS (As := [.int (w_), .int (0), .int (3)]) (rest := []) ⟨hx, hb, hml, hown, hT⟩ (c_xisOutside l (w_) (0) (3) ) (tS 3 hT m2_108 m2_109 m1_1 m2_110 rfl rfl (by decide +kernel) ⟨Nat.le_of_ble_eq_true rfl, Nat.le_of_ble_eq_true rfl⟩) ⟨PcN_blind, PcN_of _ _ _⟩ rfl rfl hl.1 rfl (lv_room (Nat.le_of_ble_eq_true rfl)) (fk_get fk_cX11_set_0 10 rfl) ⟨Nat.zero_le _, Nat.zero_le _⟩) (fun r_3 hw_4 => ?_)
    try dsimp only at hw_4
    refine lv_if_eq (tgt := 26) hx hb (fk_get fk_cX11_set_0 11 rfl) (by decide) (fun c_5 => ?_) (fun c_5 => ?_)
    · have p_c_5 := if1_f hw_4 c_5
      have hw_ := p_c_5
      refine lv_iload_n hx hb (fk_get fk_cX11_set_0 14 rfl) rfl (lv_at hl 3 rfl) ?_
      by_cases c_6 : w_ = (0 : Int32)
      · refine lv_tableIn (off := 25) (tgt := 52) hx hb (dk_get dk_cX11_set_0 0 rfl) (by rw [c_6]; decide) (by rw [c_6]; decide) (by rw [c_6]; rfl) (by decide) ?_
        refine lv_iload_n hx hb (fk_get fk_cX11_set_0 15 rfl) rfl (lv_at hl 4 rfl) ?_
        refine lv_bipush (v := 10) hx hb (fk_get fk_cX11_set_0 16 rfl) (by decide) ?_
        refine lv_bipush (v := 99) hx hb (fk_get fk_cX11_set_0 17 rfl) (by decide) ?_
        refine vp_callSi (W.runS (As := [.int (v_), .int (10), .int (99)]) (rest := []) ⟨hx, hb, hml, hown, hT⟩ (c_xisOutside l (v_) (10) (99) ) (tS 3 hT m2_108 m2_109 m1_1 m2_110 rfl rfl (by decide +kernel) ⟨Nat.le_of_ble_eq_true rfl, Nat.le_of_ble_eq_true rfl⟩) ⟨PcN_blind, PcN_of _ _ _⟩ rfl rfl hl.1 rfl (lv_room (Nat.le_of_ble_eq_true rfl)) (fk_get fk_cX11_set_0 18 rfl) ⟨Nat.zero_le _, Nat.zero_le _⟩) (fun r_7 hw_8 => ?_)
        try dsimp only at hw_8
        refine lv_if_eq (tgt := 66) hx hb (fk_get fk_cX11_set_0 19 rfl) (by decide) (fun c_9 => ?_) (fun c_9 => ?_)
        · have p_c_9 := if1_f hw_8 c_9
          have hok_ : okS w_ v_ := (ok0 (by assumption)).mpr (nor2.mp p_c_9)
          refine lv_aload hx hb (fk_get fk_cX11_set_0 22 rfl) (lv_at hl 0 rfl) ?_
          refine va_get (D := G.1) (ci := 5) (v := .int (fF S i_5 4)) (C := RX3) (T := TX3) (N := 10) hx hb hT inX3 hown hK hP i_5 (ix_at (lt71 (by omega)) (cX_cust hp_i_5)) rfl 4 (by decide) (hT _ m1_157) (fun _ h9 => h9) rfl (fk_get fk_cX11_set_0 23 rfl) ?_
          refine lv_istore (lv' := [(5, .int ((fF S i_5 4))), (4, .ref (ad i_5)), (0, .ref (ad 0)), (1, .int (x)), (2, .int (w_)), (3, .int (v_))]) hx hb (fk_get fk_cX11_set_0 24 rfl) hl (by decide) rfl (fun ls hl => ?_)
          refine lv_aload hx hb (fk_get fk_cX11_set_0 25 rfl) (lv_at hl 1 rfl) ?_
          refine lv_iload_n hx hb (fk_get fk_cX11_set_0 26 rfl) rfl (lv_at hl 5 rfl) ?_
          refine va_put (D := G.1) (ci := 5) (v := .int (v_)) (ty := .int) (C := RX3) (T := TX3) (N := 10) hx hb hT inX3 tyX3 tyX3_ok nmX3 hown hK hP hD hS i_5 (ix_at (lt71 (by omega)) (cX_cust hp_i_5)) rfl 4 (by decide) (hT _ m1_157) (fun _ h9 => h9) rfl (by decide +kernel) rfl rfl (Nat.le_of_ble_eq_true rfl) (fk_get fk_cX11_set_0 27 rfl) (fun H locs hP hD hS => ?_)
          rw [pX_cust_4 (S := S) (lt71 (by omega)) (hp_i_5) (v_)] at hP hD
          have hX_10 : XI (setF S i_5 4 (v_)) := XI.sF hX _ ⟨by omega, by omega, by omega, by omega, by omega, by omega, by omega, by omega⟩
          have hF_11 : Fr (fun j k => 21 ≤ j ∧ j < 27 ∧ 4 ≤ k ∧ k ≤ 9) S (setF S i_5 4 (v_)) := Fr.sF (Fr.rf : Fr (fun j k => 21 ≤ j ∧ j < 27 ∧ 4 ≤ k ∧ k ≤ 9) S S) (by omega)
          refine lv_iload hx hb (fk_get fk_cX11_set_0 28 rfl) (lv_at hl 0 rfl) ?_
          subst hQ
          have hpost : XI (setF S i_5 4 (v_)) ∧ Fr (fun j k => 21 ≤ j ∧ j < 27 ∧ 4 ≤ k ∧ k ≤ 9) S (setF S i_5 4 (v_)) ∧ SetP n x w_ v_ ((fF S i_5 4) : Int32) S (setF S i_5 4 (v_)) := by
            exact ⟨hX_10, hF_11, (by first | exact Or.inl ⟨Or.inl hn_5, rfl, rfl⟩ | exact Or.inl ⟨Or.inr hnw_, rfl, rfl⟩ | exact Or.inr (Or.inl ⟨⟨j_5, hj_5, ej_5⟩, hw_, hnok_, rfl, rfl⟩) | exact sp_y hj_5 ej_5 hw_ hok_ (sl0 (by assumption)) hg_i_5 rfl rfl | exact sp_y hj_5 ej_5 hw_ hok_ (sl1 (by assumption) (by assumption)) hg_i_5 rfl rfl | exact sp_y hj_5 ej_5 hw_ hok_ (sl2 (by assumption) (by assumption) (by assumption)) hg_i_5 rfl rfl | exact sp_y hj_5 ej_5 hw_ hok_ (sl3 (by assumption) (by assumption) (by assumption)) hg_i_5 hgv_ hgr_)⟩
          exact W.iret (v := (fF S i_5 4)) hx hb hr (fun t_ ht_ hW_ => ⟨⟨(fF S i_5 4), (setF S i_5 4 (v_)), rfl, hpost, by rw [ht_]; exact hP, va_K.moved hW_.alike hK, hD⟩, hS.F ht_⟩) hS.2.2 (fk_get fk_cX11_set_0 29 rfl)
        have p_c_9 := if1_t hw_8 c_9
        have hnok_ : ¬ okS w_ v_ := fun z_ => nan2 p_c_9 ((ok0 (by assumption)).mp z_)
        refine lv_bipush (v := (-2)) hx hb (fk_get fk_cX11_set_0 20 rfl) (by decide) ?_
        subst hQ
        have hpost : XI S ∧ Fr (fun j k => 21 ≤ j ∧ j < 27 ∧ 4 ≤ k ∧ k ≤ 9) S S ∧ SetP n x w_ v_ ((-2) : Int32) S S := by
          exact ⟨hX, (Fr.rf : Fr (fun j k => 21 ≤ j ∧ j < 27 ∧ 4 ≤ k ∧ k ≤ 9) S S), (by first | exact Or.inl ⟨Or.inl hn_5, rfl, rfl⟩ | exact Or.inl ⟨Or.inr hnw_, rfl, rfl⟩ | exact Or.inr (Or.inl ⟨⟨j_5, hj_5, ej_5⟩, hw_, hnok_, rfl, rfl⟩) | exact sp_y hj_5 ej_5 hw_ hok_ (sl0 (by assumption)) hg_i_5 rfl rfl | exact sp_y hj_5 ej_5 hw_ hok_ (sl1 (by assumption) (by assumption)) hg_i_5 rfl rfl | exact sp_y hj_5 ej_5 hw_ hok_ (sl2 (by assumption) (by assumption) (by assumption)) hg_i_5 rfl rfl | exact sp_y hj_5 ej_5 hw_ hok_ (sl3 (by assumption) (by assumption) (by assumption)) hg_i_5 hgv_ hgr_)⟩
        exact W.iret (v := (-2)) hx hb hr (fun t_ ht_ hW_ => ⟨⟨(-2), S, rfl, hpost, by rw [ht_]; exact hP, va_K.moved hW_.alike hK, hD⟩, hS.F ht_⟩) hS.2.2 (fk_get fk_cX11_set_0 21 rfl)
      by_cases c_12 : w_ = (1 : Int32)
      · refine lv_tableIn (off := 55) (tgt := 82) hx hb (dk_get dk_cX11_set_0 0 rfl) (by rw [c_12]; decide) (by rw [c_12]; decide) (by rw [c_12]; rfl) (by decide) ?_
        refine lv_iload_n hx hb (fk_get fk_cX11_set_0 30 rfl) rfl (lv_at hl 4 rfl) ?_
        refine lv_iconst (v := 0) hx hb (fk_get fk_cX11_set_0 31 rfl) (by decide) ?_
        refine lv_bipush (v := 20) hx hb (fk_get fk_cX11_set_1 0 rfl) (by decide) ?_
        refine vp_callSi (W.runS (As := [.int (v_), .int (0), .int (20)]) (rest := []) ⟨hx, hb, hml, hown, hT⟩ (c_xisOutside l (v_) (0) (20) ) (tS 3 hT m2_108 m2_109 m1_1 m2_110 rfl rfl (by decide +kernel) ⟨Nat.le_of_ble_eq_true rfl, Nat.le_of_ble_eq_true rfl⟩) ⟨PcN_blind, PcN_of _ _ _⟩ rfl rfl hl.1 rfl (lv_room (Nat.le_of_ble_eq_true rfl)) (fk_get fk_cX11_set_1 1 rfl) ⟨Nat.zero_le _, Nat.zero_le _⟩) (fun r_13 hw_14 => ?_)
        try dsimp only at hw_14
        refine lv_if_eq (tgt := 95) hx hb (fk_get fk_cX11_set_1 2 rfl) (by decide) (fun c_15 => ?_) (fun c_15 => ?_)
        · have p_c_15 := if1_f hw_14 c_15
          have hok_ : okS w_ v_ := (ok1 (by assumption) (by assumption)).mpr (nor2.mp p_c_15)
          refine lv_aload hx hb (fk_get fk_cX11_set_1 5 rfl) (lv_at hl 0 rfl) ?_
          refine va_get (D := G.1) (ci := 5) (v := .int (fF S i_5 5)) (C := RX3) (T := TX3) (N := 10) hx hb hT inX3 hown hK hP i_5 (ix_at (lt71 (by omega)) (cX_cust hp_i_5)) rfl 5 (by decide) (hT _ m1_160) (fun _ h9 => h9) rfl (fk_get fk_cX11_set_1 6 rfl) ?_
          refine lv_istore (lv' := [(5, .int ((fF S i_5 5))), (4, .ref (ad i_5)), (0, .ref (ad 0)), (1, .int (x)), (2, .int (w_)), (3, .int (v_))]) hx hb (fk_get fk_cX11_set_1 7 rfl) hl (by decide) rfl (fun ls hl => ?_)
          refine lv_aload hx hb (fk_get fk_cX11_set_1 8 rfl) (lv_at hl 1 rfl) ?_
          refine lv_iload_n hx hb (fk_get fk_cX11_set_1 9 rfl) rfl (lv_at hl 5 rfl) ?_
          refine va_put (D := G.1) (ci := 5) (v := .int (v_)) (ty := .int) (C := RX3) (T := TX3) (N := 10) hx hb hT inX3 tyX3 tyX3_ok nmX3 hown hK hP hD hS i_5 (ix_at (lt71 (by omega)) (cX_cust hp_i_5)) rfl 5 (by decide) (hT _ m1_160) (fun _ h9 => h9) rfl (by decide +kernel) rfl rfl (Nat.le_of_ble_eq_true rfl) (fk_get fk_cX11_set_1 10 rfl) (fun H locs hP hD hS => ?_)
          rw [pX_cust_5 (S := S) (lt71 (by omega)) (hp_i_5) (v_)] at hP hD
          have hX_16 : XI (setF S i_5 5 (v_)) := XI.sF hX _ ⟨by omega, by omega, by omega, by omega, by omega, by omega, by omega, by omega⟩
          have hF_17 : Fr (fun j k => 21 ≤ j ∧ j < 27 ∧ 4 ≤ k ∧ k ≤ 9) S (setF S i_5 5 (v_)) := Fr.sF (Fr.rf : Fr (fun j k => 21 ≤ j ∧ j < 27 ∧ 4 ≤ k ∧ k ≤ 9) S S) (by omega)
          refine lv_iload hx hb (fk_get fk_cX11_set_1 11 rfl) (lv_at hl 0 rfl) ?_
          subst hQ
          have hpost : XI (setF S i_5 5 (v_)) ∧ Fr (fun j k => 21 ≤ j ∧ j < 27 ∧ 4 ≤ k ∧ k ≤ 9) S (setF S i_5 5 (v_)) ∧ SetP n x w_ v_ ((fF S i_5 5) : Int32) S (setF S i_5 5 (v_)) := by
            exact ⟨hX_16, hF_17, (by first | exact Or.inl ⟨Or.inl hn_5, rfl, rfl⟩ | exact Or.inl ⟨Or.inr hnw_, rfl, rfl⟩ | exact Or.inr (Or.inl ⟨⟨j_5, hj_5, ej_5⟩, hw_, hnok_, rfl, rfl⟩) | exact sp_y hj_5 ej_5 hw_ hok_ (sl0 (by assumption)) hg_i_5 rfl rfl | exact sp_y hj_5 ej_5 hw_ hok_ (sl1 (by assumption) (by assumption)) hg_i_5 rfl rfl | exact sp_y hj_5 ej_5 hw_ hok_ (sl2 (by assumption) (by assumption) (by assumption)) hg_i_5 rfl rfl | exact sp_y hj_5 ej_5 hw_ hok_ (sl3 (by assumption) (by assumption) (by assumption)) hg_i_5 hgv_ hgr_)⟩
          exact W.iret (v := (fF S i_5 5)) hx hb hr (fun t_ ht_ hW_ => ⟨⟨(fF S i_5 5), (setF S i_5 5 (v_)), rfl, hpost, by rw [ht_]; exact hP, va_K.moved hW_.alike hK, hD⟩, hS.F ht_⟩) hS.2.2 (fk_get fk_cX11_set_1 12 rfl)
        have p_c_15 := if1_t hw_14 c_15
        have hnok_ : ¬ okS w_ v_ := fun z_ => nan2 p_c_15 ((ok1 (by assumption) (by assumption)).mp z_)
        refine lv_bipush (v := (-2)) hx hb (fk_get fk_cX11_set_1 3 rfl) (by decide) ?_
        subst hQ
        have hpost : XI S ∧ Fr (fun j k => 21 ≤ j ∧ j < 27 ∧ 4 ≤ k ∧ k ≤ 9) S S ∧ SetP n x w_ v_ ((-2) : Int32) S S := by
          exact ⟨hX, (Fr.rf : Fr (fun j k => 21 ≤ j ∧ j < 27 ∧ 4 ≤ k ∧ k ≤ 9) S S), (by first | exact Or.inl ⟨Or.inl hn_5, rfl, rfl⟩ | exact Or.inl ⟨Or.inr hnw_, rfl, rfl⟩ | exact Or.inr (Or.inl ⟨⟨j_5, hj_5, ej_5⟩, hw_, hnok_, rfl, rfl⟩) | exact sp_y hj_5 ej_5 hw_ hok_ (sl0 (by assumption)) hg_i_5 rfl rfl | exact sp_y hj_5 ej_5 hw_ hok_ (sl1 (by assumption) (by assumption)) hg_i_5 rfl rfl | exact sp_y hj_5 ej_5 hw_ hok_ (sl2 (by assumption) (by assumption) (by assumption)) hg_i_5 rfl rfl | exact sp_y hj_5 ej_5 hw_ hok_ (sl3 (by assumption) (by assumption) (by assumption)) hg_i_5 hgv_ hgr_)⟩
        exact W.iret (v := (-2)) hx hb hr (fun t_ ht_ hW_ => ⟨⟨(-2), S, rfl, hpost, by rw [ht_]; exact hP, va_K.moved hW_.alike hK, hD⟩, hS.F ht_⟩) hS.2.2 (fk_get fk_cX11_set_1 4 rfl)
      by_cases c_18 : w_ = (2 : Int32)
      · refine lv_tableIn (off := 84) (tgt := 111) hx hb (dk_get dk_cX11_set_0 0 rfl) (by rw [c_18]; decide) (by rw [c_18]; decide) (by rw [c_18]; rfl) (by decide) ?_
        refine lv_iload_n hx hb (fk_get fk_cX11_set_1 13 rfl) rfl (lv_at hl 4 rfl) ?_
        refine lv_iconst (v := 0) hx hb (fk_get fk_cX11_set_1 14 rfl) (by decide) ?_
        refine lv_bipush (v := 99) hx hb (fk_get fk_cX11_set_1 15 rfl) (by decide) ?_
        refine vp_callSi (W.runS (As := [.int (v_), .int (0), .int (99)]) (rest := []) ⟨hx, hb, hml, hown, hT⟩ (c_xisOutside l (v_) (0) (99) ) (tS 3 hT m2_108 m2_109 m1_1 m2_110 rfl rfl (by decide +kernel) ⟨Nat.le_of_ble_eq_true rfl, Nat.le_of_ble_eq_true rfl⟩) ⟨PcN_blind, PcN_of _ _ _⟩ rfl rfl hl.1 rfl (lv_room (Nat.le_of_ble_eq_true rfl)) (fk_get fk_cX11_set_1 16 rfl) ⟨Nat.zero_le _, Nat.zero_le _⟩) (fun r_19 hw_20 => ?_)
        try dsimp only at hw_20
        refine lv_if_eq (tgt := 124) hx hb (fk_get fk_cX11_set_1 17 rfl) (by decide) (fun c_21 => ?_) (fun c_21 => ?_)
        · have p_c_21 := if1_f hw_20 c_21
          have hok_ : okS w_ v_ := (ok2 (by assumption) (by assumption) (by assumption)).mpr (nor2.mp p_c_21)
          refine lv_aload hx hb (fk_get fk_cX11_set_1 20 rfl) (lv_at hl 0 rfl) ?_
          refine va_get (D := G.1) (ci := 5) (v := .int (fF S i_5 6)) (C := RX3) (T := TX3) (N := 10) hx hb hT inX3 hown hK hP i_5 (ix_at (lt71 (by omega)) (cX_cust hp_i_5)) rfl 6 (by decide) (hT _ m1_166) (fun _ h9 => h9) rfl (fk_get fk_cX11_set_1 21 rfl) ?_
          refine lv_istore (lv' := [(5, .int ((fF S i_5 6))), (4, .ref (ad i_5)), (0, .ref (ad 0)), (1, .int (x)), (2, .int (w_)), (3, .int (v_))]) hx hb (fk_get fk_cX11_set_1 22 rfl) hl (by decide) rfl (fun ls hl => ?_)
          refine lv_aload hx hb (fk_get fk_cX11_set_1 23 rfl) (lv_at hl 1 rfl) ?_
          refine lv_iload_n hx hb (fk_get fk_cX11_set_1 24 rfl) rfl (lv_at hl 5 rfl) ?_
          refine va_put (D := G.1) (ci := 5) (v := .int (v_)) (ty := .int) (C := RX3) (T := TX3) (N := 10) hx hb hT inX3 tyX3 tyX3_ok nmX3 hown hK hP hD hS i_5 (ix_at (lt71 (by omega)) (cX_cust hp_i_5)) rfl 6 (by decide) (hT _ m1_166) (fun _ h9 => h9) rfl (by decide +kernel) rfl rfl (Nat.le_of_ble_eq_true rfl) (fk_get fk_cX11_set_1 25 rfl) (fun H locs hP hD hS => ?_)
          rw [pX_cust_6 (S := S) (lt71 (by omega)) (hp_i_5) (v_)] at hP hD
          have hX_22 : XI (setF S i_5 6 (v_)) := XI.sF hX _ ⟨by omega, by omega, by omega, by omega, by omega, by omega, by omega, by omega⟩
          have hF_23 : Fr (fun j k => 21 ≤ j ∧ j < 27 ∧ 4 ≤ k ∧ k ≤ 9) S (setF S i_5 6 (v_)) := Fr.sF (Fr.rf : Fr (fun j k => 21 ≤ j ∧ j < 27 ∧ 4 ≤ k ∧ k ≤ 9) S S) (by omega)
          refine lv_iload hx hb (fk_get fk_cX11_set_1 26 rfl) (lv_at hl 0 rfl) ?_
          subst hQ
          have hpost : XI (setF S i_5 6 (v_)) ∧ Fr (fun j k => 21 ≤ j ∧ j < 27 ∧ 4 ≤ k ∧ k ≤ 9) S (setF S i_5 6 (v_)) ∧ SetP n x w_ v_ ((fF S i_5 6) : Int32) S (setF S i_5 6 (v_)) := by
            exact ⟨hX_22, hF_23, (by first | exact Or.inl ⟨Or.inl hn_5, rfl, rfl⟩ | exact Or.inl ⟨Or.inr hnw_, rfl, rfl⟩ | exact Or.inr (Or.inl ⟨⟨j_5, hj_5, ej_5⟩, hw_, hnok_, rfl, rfl⟩) | exact sp_y hj_5 ej_5 hw_ hok_ (sl0 (by assumption)) hg_i_5 rfl rfl | exact sp_y hj_5 ej_5 hw_ hok_ (sl1 (by assumption) (by assumption)) hg_i_5 rfl rfl | exact sp_y hj_5 ej_5 hw_ hok_ (sl2 (by assumption) (by assumption) (by assumption)) hg_i_5 rfl rfl | exact sp_y hj_5 ej_5 hw_ hok_ (sl3 (by assumption) (by assumption) (by assumption)) hg_i_5 hgv_ hgr_)⟩
          exact W.iret (v := (fF S i_5 6)) hx hb hr (fun t_ ht_ hW_ => ⟨⟨(fF S i_5 6), (setF S i_5 6 (v_)), rfl, hpost, by rw [ht_]; exact hP, va_K.moved hW_.alike hK, hD⟩, hS.F ht_⟩) hS.2.2 (fk_get fk_cX11_set_1 27 rfl)
        have p_c_21 := if1_t hw_20 c_21
        have hnok_ : ¬ okS w_ v_ := fun z_ => nan2 p_c_21 ((ok2 (by assumption) (by assumption) (by assumption)).mp z_)
        refine lv_bipush (v := (-2)) hx hb (fk_get fk_cX11_set_1 18 rfl) (by decide) ?_
        subst hQ
        have hpost : XI S ∧ Fr (fun j k => 21 ≤ j ∧ j < 27 ∧ 4 ≤ k ∧ k ≤ 9) S S ∧ SetP n x w_ v_ ((-2) : Int32) S S := by
          exact ⟨hX, (Fr.rf : Fr (fun j k => 21 ≤ j ∧ j < 27 ∧ 4 ≤ k ∧ k ≤ 9) S S), (by first | exact Or.inl ⟨Or.inl hn_5, rfl, rfl⟩ | exact Or.inl ⟨Or.inr hnw_, rfl, rfl⟩ | exact Or.inr (Or.inl ⟨⟨j_5, hj_5, ej_5⟩, hw_, hnok_, rfl, rfl⟩) | exact sp_y hj_5 ej_5 hw_ hok_ (sl0 (by assumption)) hg_i_5 rfl rfl | exact sp_y hj_5 ej_5 hw_ hok_ (sl1 (by assumption) (by assumption)) hg_i_5 rfl rfl | exact sp_y hj_5 ej_5 hw_ hok_ (sl2 (by assumption) (by assumption) (by assumption)) hg_i_5 rfl rfl | exact sp_y hj_5 ej_5 hw_ hok_ (sl3 (by assumption) (by assumption) (by assumption)) hg_i_5 hgv_ hgr_)⟩
        exact W.iret (v := (-2)) hx hb hr (fun t_ ht_ hW_ => ⟨⟨(-2), S, rfl, hpost, by rw [ht_]; exact hP, va_K.moved hW_.alike hK, hD⟩, hS.F ht_⟩) hS.2.2 (fk_get fk_cX11_set_1 19 rfl)
      have o_24 : (w_).toInt < 0 ∨ 2 < (w_).toInt := by
        have qc_6 : ¬ (w_).toInt = 0 := lv_neT c_6 (by decide)
        have qc_12 : ¬ (w_).toInt = 1 := lv_neT c_12 (by decide)
        have qc_18 : ¬ (w_).toInt = 2 := lv_neT c_18 (by decide)
        omega
      refine lv_tableOut (tgt := 140) hx hb (dk_get dk_cX11_set_0 0 rfl) o_24 (by decide) ?_
      refine lv_iload_n hx hb (fk_get fk_cX11_set_1 28 rfl) rfl (lv_at hl 4 rfl) ?_
      refine lv_iconst (v := 0) hx hb (fk_get fk_cX11_set_1 29 rfl) (by decide) ?_
      refine lv_iconst (v := 1) hx hb (fk_get fk_cX11_set_1 30 rfl) (by decide) ?_
      refine vp_callSi (W.runS (As := [.int (v_), .int (0), .int (1)]) (rest := []) ⟨hx, hb, hml, hown, hT⟩ (c_xisOutside l (v_) (0) (1) ) (tS 3 hT m2_108 m2_109 m1_1 m2_110 rfl rfl (by decide +kernel) ⟨Nat.le_of_ble_eq_true rfl, Nat.le_of_ble_eq_true rfl⟩) ⟨PcN_blind, PcN_of _ _ _⟩ rfl rfl hl.1 rfl (lv_room (Nat.le_of_ble_eq_true rfl)) (fk_get fk_cX11_set_1 31 rfl) ⟨Nat.zero_le _, Nat.zero_le _⟩) (fun r_25 hw_26 => ?_)
      try dsimp only at hw_26
      refine lv_if_eq (tgt := 152) hx hb (fk_get fk_cX11_set_2 0 rfl) (by decide) (fun c_27 => ?_) (fun c_27 => ?_)
      · have p_c_27 := if1_f hw_26 c_27
        have hok_ : okS w_ v_ := (ok3 (by assumption) (by assumption) (by assumption)).mpr (nor2.mp p_c_27)
        refine lv_aload hx hb (fk_get fk_cX11_set_2 3 rfl) (lv_at hl 0 rfl) ?_
        refine va_get (D := G.1) (ci := 5) (v := .int (fF S i_5 9)) (C := RX3) (T := TX3) (N := 10) hx hb hT inX3 hown hK hP i_5 (ix_at (lt71 (by omega)) (cX_cust hp_i_5)) rfl 9 (by decide) (hT _ m1_179) (fun _ h9 => h9) rfl (fk_get fk_cX11_set_2 4 rfl) ?_
        refine lv_if_eq (tgt := 164) hx hb (fk_get fk_cX11_set_2 5 rfl) (by decide) (fun c_28 => ?_) (fun c_28 => ?_)
        · have hgr_ : (0 : Int32) = fF S i_5 9 := (by first | exact c_28 | exact Decidable.not_not.mp c_28 : fF S i_5 9 = 0).symm
          refine lv_iconst (v := 0) hx hb (fk_get fk_cX11_set_2 8 rfl) (by decide) ?_
          refine lv_istore (lv' := [(5, .int (0)), (4, .ref (ad i_5)), (0, .ref (ad 0)), (1, .int (x)), (2, .int (w_)), (3, .int (v_))]) hx hb (fk_get fk_cX11_set_2 9 rfl) hl (by decide) rfl (fun ls hl => ?_)
          refine lv_aload hx hb (fk_get fk_cX11_set_2 10 rfl) (lv_at hl 1 rfl) ?_
          refine lv_iload_n hx hb (fk_get fk_cX11_set_2 11 rfl) rfl (lv_at hl 5 rfl) ?_
          refine lv_iconst (v := 1) hx hb (fk_get fk_cX11_set_2 12 rfl) (by decide) ?_
          refine lv_icmp_ne (tgt := 178) hx hb (fk_get fk_cX11_set_2 13 rfl) (by decide) (fun c_29 => ?_) (fun c_29 => ?_)
          · have hgv_ : (0 : Int32) = v_ := v01 ((ok3 (by assumption) (by assumption) (by assumption)).mp hok_) c_29
            refine lv_iconst (v := 0) hx hb (fk_get fk_cX11_set_2 16 rfl) (by decide) ?_
            refine va_put (D := G.1) (ci := 5) (v := .int (0)) (ty := .boolean) (C := RX3) (T := TX3) (N := 10) hx hb hT inX3 tyX3 tyX3_ok nmX3 hown hK hP hD hS i_5 (ix_at (lt71 (by omega)) (cX_cust hp_i_5)) rfl 9 (by decide) (hT _ m1_179) (fun _ h9 => h9) rfl (by decide +kernel) rfl rfl (Nat.le_of_ble_eq_true rfl) (fk_get fk_cX11_set_2 17 rfl) (fun H locs hP hD hS => ?_)
            rw [pX_cust_9 (S := S) (lt71 (by omega)) (hp_i_5) (0)] at hP hD
            have hX_30 : XI (setF S i_5 9 (0)) := XI.gone_ hX hp_i_5 (Or.inl rfl)
            have hF_31 : Fr (fun j k => 21 ≤ j ∧ j < 27 ∧ 4 ≤ k ∧ k ≤ 9) S (setF S i_5 9 (0)) := Fr.sF (Fr.rf : Fr (fun j k => 21 ≤ j ∧ j < 27 ∧ 4 ≤ k ∧ k ≤ 9) S S) (by omega)
            refine lv_iload hx hb (fk_get fk_cX11_set_2 18 rfl) (lv_at hl 0 rfl) ?_
            subst hQ
            have hpost : XI (setF S i_5 9 (0)) ∧ Fr (fun j k => 21 ≤ j ∧ j < 27 ∧ 4 ≤ k ∧ k ≤ 9) S (setF S i_5 9 (0)) ∧ SetP n x w_ v_ (0 : Int32) S (setF S i_5 9 (0)) := by
              exact ⟨hX_30, hF_31, (by first | exact Or.inl ⟨Or.inl hn_5, rfl, rfl⟩ | exact Or.inl ⟨Or.inr hnw_, rfl, rfl⟩ | exact Or.inr (Or.inl ⟨⟨j_5, hj_5, ej_5⟩, hw_, hnok_, rfl, rfl⟩) | exact sp_y hj_5 ej_5 hw_ hok_ (sl0 (by assumption)) hg_i_5 rfl rfl | exact sp_y hj_5 ej_5 hw_ hok_ (sl1 (by assumption) (by assumption)) hg_i_5 rfl rfl | exact sp_y hj_5 ej_5 hw_ hok_ (sl2 (by assumption) (by assumption) (by assumption)) hg_i_5 rfl rfl | exact sp_y hj_5 ej_5 hw_ hok_ (sl3 (by assumption) (by assumption) (by assumption)) hg_i_5 hgv_ hgr_)⟩
            exact W.iret (v := 0) hx hb hr (fun t_ ht_ hW_ => ⟨⟨0, (setF S i_5 9 (0)), rfl, hpost, by rw [ht_]; exact hP, va_K.moved hW_.alike hK, hD⟩, hS.F ht_⟩) hS.2.2 (fk_get fk_cX11_set_2 19 rfl)
          have hgv_ : (1 : Int32) = v_ := (by first | exact c_29 | exact Decidable.not_not.mp c_29 : v_ = 1).symm
          refine lv_iconst (v := 1) hx hb (fk_get fk_cX11_set_2 14 rfl) (by decide) ?_
          refine lv_goto (tgt := 179) hx hb (fk_get fk_cX11_set_2 15 rfl) (by decide) ?_
          refine va_put (D := G.1) (ci := 5) (v := .int (1)) (ty := .boolean) (C := RX3) (T := TX3) (N := 10) hx hb hT inX3 tyX3 tyX3_ok nmX3 hown hK hP hD hS i_5 (ix_at (lt71 (by omega)) (cX_cust hp_i_5)) rfl 9 (by decide) (hT _ m1_179) (fun _ h9 => h9) rfl (by decide +kernel) rfl rfl (Nat.le_of_ble_eq_true rfl) (fk_get fk_cX11_set_2 17 rfl) (fun H locs hP hD hS => ?_)
          rw [pX_cust_9 (S := S) (lt71 (by omega)) (hp_i_5) (1)] at hP hD
          have hX_32 : XI (setF S i_5 9 (1)) := XI.gone_ hX hp_i_5 (Or.inr rfl)
          have hF_33 : Fr (fun j k => 21 ≤ j ∧ j < 27 ∧ 4 ≤ k ∧ k ≤ 9) S (setF S i_5 9 (1)) := Fr.sF (Fr.rf : Fr (fun j k => 21 ≤ j ∧ j < 27 ∧ 4 ≤ k ∧ k ≤ 9) S S) (by omega)
          refine lv_iload hx hb (fk_get fk_cX11_set_2 18 rfl) (lv_at hl 0 rfl) ?_
          subst hQ
          have hpost : XI (setF S i_5 9 (1)) ∧ Fr (fun j k => 21 ≤ j ∧ j < 27 ∧ 4 ≤ k ∧ k ≤ 9) S (setF S i_5 9 (1)) ∧ SetP n x w_ v_ (0 : Int32) S (setF S i_5 9 (1)) := by
            exact ⟨hX_32, hF_33, (by first | exact Or.inl ⟨Or.inl hn_5, rfl, rfl⟩ | exact Or.inl ⟨Or.inr hnw_, rfl, rfl⟩ | exact Or.inr (Or.inl ⟨⟨j_5, hj_5, ej_5⟩, hw_, hnok_, rfl, rfl⟩) | exact sp_y hj_5 ej_5 hw_ hok_ (sl0 (by assumption)) hg_i_5 rfl rfl | exact sp_y hj_5 ej_5 hw_ hok_ (sl1 (by assumption) (by assumption)) hg_i_5 rfl rfl | exact sp_y hj_5 ej_5 hw_ hok_ (sl2 (by assumption) (by assumption) (by assumption)) hg_i_5 rfl rfl | exact sp_y hj_5 ej_5 hw_ hok_ (sl3 (by assumption) (by assumption) (by assumption)) hg_i_5 hgv_ hgr_)⟩
          exact W.iret (v := 0) hx hb hr (fun t_ ht_ hW_ => ⟨⟨0, (setF S i_5 9 (1)), rfl, hpost, by rw [ht_]; exact hP, va_K.moved hW_.alike hK, hD⟩, hS.F ht_⟩) hS.2.2 (fk_get fk_cX11_set_2 19 rfl)
        have hgr_ : (1 : Int32) = fF S i_5 9 := (hg7z_.resolve_left c_28).symm
        refine lv_iconst (v := 1) hx hb (fk_get fk_cX11_set_2 6 rfl) (by decide) ?_
        refine lv_goto (tgt := 165) hx hb (fk_get fk_cX11_set_2 7 rfl) (by decide) ?_
        refine lv_istore (lv' := [(5, .int (1)), (4, .ref (ad i_5)), (0, .ref (ad 0)), (1, .int (x)), (2, .int (w_)), (3, .int (v_))]) hx hb (fk_get fk_cX11_set_2 9 rfl) hl (by decide) rfl (fun ls hl => ?_)
        refine lv_aload hx hb (fk_get fk_cX11_set_2 10 rfl) (lv_at hl 1 rfl) ?_
        refine lv_iload_n hx hb (fk_get fk_cX11_set_2 11 rfl) rfl (lv_at hl 5 rfl) ?_
        refine lv_iconst (v := 1) hx hb (fk_get fk_cX11_set_2 12 rfl) (by decide) ?_
        refine lv_icmp_ne (tgt := 178) hx hb (fk_get fk_cX11_set_2 13 rfl) (by decide) (fun c_34 => ?_) (fun c_34 => ?_)
        · have hgv_ : (0 : Int32) = v_ := v01 ((ok3 (by assumption) (by assumption) (by assumption)).mp hok_) c_34
          refine lv_iconst (v := 0) hx hb (fk_get fk_cX11_set_2 16 rfl) (by decide) ?_
          refine va_put (D := G.1) (ci := 5) (v := .int (0)) (ty := .boolean) (C := RX3) (T := TX3) (N := 10) hx hb hT inX3 tyX3 tyX3_ok nmX3 hown hK hP hD hS i_5 (ix_at (lt71 (by omega)) (cX_cust hp_i_5)) rfl 9 (by decide) (hT _ m1_179) (fun _ h9 => h9) rfl (by decide +kernel) rfl rfl (Nat.le_of_ble_eq_true rfl) (fk_get fk_cX11_set_2 17 rfl) (fun H locs hP hD hS => ?_)
          rw [pX_cust_9 (S := S) (lt71 (by omega)) (hp_i_5) (0)] at hP hD
          have hX_35 : XI (setF S i_5 9 (0)) := XI.gone_ hX hp_i_5 (Or.inl rfl)
          have hF_36 : Fr (fun j k => 21 ≤ j ∧ j < 27 ∧ 4 ≤ k ∧ k ≤ 9) S (setF S i_5 9 (0)) := Fr.sF (Fr.rf : Fr (fun j k => 21 ≤ j ∧ j < 27 ∧ 4 ≤ k ∧ k ≤ 9) S S) (by omega)
          refine lv_iload hx hb (fk_get fk_cX11_set_2 18 rfl) (lv_at hl 0 rfl) ?_
          subst hQ
          have hpost : XI (setF S i_5 9 (0)) ∧ Fr (fun j k => 21 ≤ j ∧ j < 27 ∧ 4 ≤ k ∧ k ≤ 9) S (setF S i_5 9 (0)) ∧ SetP n x w_ v_ (1 : Int32) S (setF S i_5 9 (0)) := by
            exact ⟨hX_35, hF_36, (by first | exact Or.inl ⟨Or.inl hn_5, rfl, rfl⟩ | exact Or.inl ⟨Or.inr hnw_, rfl, rfl⟩ | exact Or.inr (Or.inl ⟨⟨j_5, hj_5, ej_5⟩, hw_, hnok_, rfl, rfl⟩) | exact sp_y hj_5 ej_5 hw_ hok_ (sl0 (by assumption)) hg_i_5 rfl rfl | exact sp_y hj_5 ej_5 hw_ hok_ (sl1 (by assumption) (by assumption)) hg_i_5 rfl rfl | exact sp_y hj_5 ej_5 hw_ hok_ (sl2 (by assumption) (by assumption) (by assumption)) hg_i_5 rfl rfl | exact sp_y hj_5 ej_5 hw_ hok_ (sl3 (by assumption) (by assumption) (by assumption)) hg_i_5 hgv_ hgr_)⟩
          exact W.iret (v := 1) hx hb hr (fun t_ ht_ hW_ => ⟨⟨1, (setF S i_5 9 (0)), rfl, hpost, by rw [ht_]; exact hP, va_K.moved hW_.alike hK, hD⟩, hS.F ht_⟩) hS.2.2 (fk_get fk_cX11_set_2 19 rfl)
        have hgv_ : (1 : Int32) = v_ := (by first | exact c_34 | exact Decidable.not_not.mp c_34 : v_ = 1).symm
        refine lv_iconst (v := 1) hx hb (fk_get fk_cX11_set_2 14 rfl) (by decide) ?_
        refine lv_goto (tgt := 179) hx hb (fk_get fk_cX11_set_2 15 rfl) (by decide) ?_
        refine va_put (D := G.1) (ci := 5) (v := .int (1)) (ty := .boolean) (C := RX3) (T := TX3) (N := 10) hx hb hT inX3 tyX3 tyX3_ok nmX3 hown hK hP hD hS i_5 (ix_at (lt71 (by omega)) (cX_cust hp_i_5)) rfl 9 (by decide) (hT _ m1_179) (fun _ h9 => h9) rfl (by decide +kernel) rfl rfl (Nat.le_of_ble_eq_true rfl) (fk_get fk_cX11_set_2 17 rfl) (fun H locs hP hD hS => ?_)
        rw [pX_cust_9 (S := S) (lt71 (by omega)) (hp_i_5) (1)] at hP hD
        have hX_37 : XI (setF S i_5 9 (1)) := XI.gone_ hX hp_i_5 (Or.inr rfl)
        have hF_38 : Fr (fun j k => 21 ≤ j ∧ j < 27 ∧ 4 ≤ k ∧ k ≤ 9) S (setF S i_5 9 (1)) := Fr.sF (Fr.rf : Fr (fun j k => 21 ≤ j ∧ j < 27 ∧ 4 ≤ k ∧ k ≤ 9) S S) (by omega)
        refine lv_iload hx hb (fk_get fk_cX11_set_2 18 rfl) (lv_at hl 0 rfl) ?_
        subst hQ
        have hpost : XI (setF S i_5 9 (1)) ∧ Fr (fun j k => 21 ≤ j ∧ j < 27 ∧ 4 ≤ k ∧ k ≤ 9) S (setF S i_5 9 (1)) ∧ SetP n x w_ v_ (1 : Int32) S (setF S i_5 9 (1)) := by
          exact ⟨hX_37, hF_38, (by first | exact Or.inl ⟨Or.inl hn_5, rfl, rfl⟩ | exact Or.inl ⟨Or.inr hnw_, rfl, rfl⟩ | exact Or.inr (Or.inl ⟨⟨j_5, hj_5, ej_5⟩, hw_, hnok_, rfl, rfl⟩) | exact sp_y hj_5 ej_5 hw_ hok_ (sl0 (by assumption)) hg_i_5 rfl rfl | exact sp_y hj_5 ej_5 hw_ hok_ (sl1 (by assumption) (by assumption)) hg_i_5 rfl rfl | exact sp_y hj_5 ej_5 hw_ hok_ (sl2 (by assumption) (by assumption) (by assumption)) hg_i_5 rfl rfl | exact sp_y hj_5 ej_5 hw_ hok_ (sl3 (by assumption) (by assumption) (by assumption)) hg_i_5 hgv_ hgr_)⟩
        exact W.iret (v := 1) hx hb hr (fun t_ ht_ hW_ => ⟨⟨1, (setF S i_5 9 (1)), rfl, hpost, by rw [ht_]; exact hP, va_K.moved hW_.alike hK, hD⟩, hS.F ht_⟩) hS.2.2 (fk_get fk_cX11_set_2 19 rfl)
      have p_c_27 := if1_t hw_26 c_27
      have hnok_ : ¬ okS w_ v_ := fun z_ => nan2 p_c_27 ((ok3 (by assumption) (by assumption) (by assumption)).mp z_)
      refine lv_bipush (v := (-2)) hx hb (fk_get fk_cX11_set_2 1 rfl) (by decide) ?_
      subst hQ
      have hpost : XI S ∧ Fr (fun j k => 21 ≤ j ∧ j < 27 ∧ 4 ≤ k ∧ k ≤ 9) S S ∧ SetP n x w_ v_ ((-2) : Int32) S S := by
        exact ⟨hX, (Fr.rf : Fr (fun j k => 21 ≤ j ∧ j < 27 ∧ 4 ≤ k ∧ k ≤ 9) S S), (by first | exact Or.inl ⟨Or.inl hn_5, rfl, rfl⟩ | exact Or.inl ⟨Or.inr hnw_, rfl, rfl⟩ | exact Or.inr (Or.inl ⟨⟨j_5, hj_5, ej_5⟩, hw_, hnok_, rfl, rfl⟩) | exact sp_y hj_5 ej_5 hw_ hok_ (sl0 (by assumption)) hg_i_5 rfl rfl | exact sp_y hj_5 ej_5 hw_ hok_ (sl1 (by assumption) (by assumption)) hg_i_5 rfl rfl | exact sp_y hj_5 ej_5 hw_ hok_ (sl2 (by assumption) (by assumption) (by assumption)) hg_i_5 rfl rfl | exact sp_y hj_5 ej_5 hw_ hok_ (sl3 (by assumption) (by assumption) (by assumption)) hg_i_5 hgv_ hgr_)⟩
      exact W.iret (v := (-2)) hx hb hr (fun t_ ht_ hW_ => ⟨⟨(-2), S, rfl, hpost, by rw [ht_]; exact hP, va_K.moved hW_.alike hK, hD⟩, hS.F ht_⟩) hS.2.2 (fk_get fk_cX11_set_2 2 rfl)
    have p_c_5 := if1_t hw_4 c_5
    have hnw_ := p_c_5
    refine lv_iconst (v := (-1)) hx hb (fk_get fk_cX11_set_0 12 rfl) (by decide) ?_
    subst hQ
    have hpost : XI S ∧ Fr (fun j k => 21 ≤ j ∧ j < 27 ∧ 4 ≤ k ∧ k ≤ 9) S S ∧ SetP n x w_ v_ ((-1) : Int32) S S := by
      exact ⟨hX, (Fr.rf : Fr (fun j k => 21 ≤ j ∧ j < 27 ∧ 4 ≤ k ∧ k ≤ 9) S S), (by first | exact Or.inl ⟨Or.inl hn_5, rfl, rfl⟩ | exact Or.inl ⟨Or.inr hnw_, rfl, rfl⟩ | exact Or.inr (Or.inl ⟨⟨j_5, hj_5, ej_5⟩, hw_, hnok_, rfl, rfl⟩) | exact sp_y hj_5 ej_5 hw_ hok_ (sl0 (by assumption)) hg_i_5 rfl rfl | exact sp_y hj_5 ej_5 hw_ hok_ (sl1 (by assumption) (by assumption)) hg_i_5 rfl rfl | exact sp_y hj_5 ej_5 hw_ hok_ (sl2 (by assumption) (by assumption) (by assumption)) hg_i_5 rfl rfl | exact sp_y hj_5 ej_5 hw_ hok_ (sl3 (by assumption) (by assumption) (by assumption)) hg_i_5 hgv_ hgr_)⟩
    exact W.iret (v := (-1)) hx hb hr (fun t_ ht_ hW_ => ⟨⟨(-1), S, rfl, hpost, by rw [ht_]; exact hP, va_K.moved hW_.alike hK, hD⟩, hS.F ht_⟩) hS.2.2 (fk_get fk_cX11_set_0 13 rfl)
  rw [show va_rf none = .null from rfl]
  refine lv_astoreN (lv' := [(4, .null), (0, .ref (ad 0)), (1, .int (x)), (2, .int (w_)), (3, .int (v_))]) hx hb (fk_get fk_cX11_set_0 4 rfl) hl (by decide) rfl (fun ls hl => ?_)
  refine lv_aloadN hx hb (fk_get fk_cX11_set_0 5 rfl) (lv_at hl 0 rfl) ?_
  refine lv_ifnullN (tgt := 24) hx hb (fk_get fk_cX11_set_0 6 rfl) (by decide) ?_
  refine lv_iconst (v := (-1)) hx hb (fk_get fk_cX11_set_0 12 rfl) (by decide) ?_
  subst hQ
  have hpost : XI S ∧ Fr (fun j k => 21 ≤ j ∧ j < 27 ∧ 4 ≤ k ∧ k ≤ 9) S S ∧ SetP n x w_ v_ ((-1) : Int32) S S := by
    exact ⟨hX, (Fr.rf : Fr (fun j k => 21 ≤ j ∧ j < 27 ∧ 4 ≤ k ∧ k ≤ 9) S S), (by first | exact Or.inl ⟨Or.inl hn_5, rfl, rfl⟩ | exact Or.inl ⟨Or.inr hnw_, rfl, rfl⟩ | exact Or.inr (Or.inl ⟨⟨j_5, hj_5, ej_5⟩, hw_, hnok_, rfl, rfl⟩) | exact sp_y hj_5 ej_5 hw_ hok_ (sl0 (by assumption)) hg_i_5 rfl rfl | exact sp_y hj_5 ej_5 hw_ hok_ (sl1 (by assumption) (by assumption)) hg_i_5 rfl rfl | exact sp_y hj_5 ej_5 hw_ hok_ (sl2 (by assumption) (by assumption) (by assumption)) hg_i_5 rfl rfl | exact sp_y hj_5 ej_5 hw_ hok_ (sl3 (by assumption) (by assumption) (by assumption)) hg_i_5 hgv_ hgr_)⟩
  exact W.iret (v := (-1)) hx hb hr (fun t_ ht_ hW_ => ⟨⟨(-1), S, rfl, hpost, by rw [ht_]; exact hP, va_K.moved hW_.alike hK, hD⟩, hS.F ht_⟩) hS.2.2 (fk_get fk_cX11_set_0 13 rfl)
set_option maxHeartbeats 800000 in
set_option maxRecDepth 100000 in
theorem c_x11_imageX (l : Launch) (G : GG) (ad : Nat → Nat) (S : FS) (sz : Nat) (n : Nat) (hn : fF S (9 + 0) 3 = nI n) (hn6 : n ≤ 6) (hX : XI S) : Met l yX11_image (Cond.code yX11_image cX11_image 1 (some .int) :: TBL) ({ frames := 4, cells := 0, slots := 0, locals := 115 } : Room) (PcW G (wX G ad S) sz [.ref (ad 0)]) (va_Qi (fun (r : Int32) (S' : FS) => XI S' ∧ Fr (fun j k => (j = 0 ∧ k = 10) ∨ (j = 9 + 1 ∧ 3 ≤ k ∧ k ≤ 7) ∨ (21 + 6 * 1 ≤ j ∧ j < 27 + 6 * 1 ∧ 2 ≤ k ∧ k ≤ 9) ∨ (39 + 6 * 1 ≤ j ∧ j < 45 + 6 * 1 ∧ k = 99) ∨ ((j = 15 + 1 ∨ j = 18 + 1) ∧ k = 99)) S S' ∧ (r = nI n ∧ fF S' 0 10 = 1 ∧ BE S 1 0 n S' ∧ fR S' (9 + 1) 7 = fR S (9 + 0) 7)) (fun S' t => BW G (va_A (wX G ad S) sz) (wX G ad S') t) (va_A (wX G ad S) sz)) 0 0 (va_A (wX G ad S) sz) := by
  refine Met.ofW (cc := cX11_image) (maxL := 1) (ret := (some .int)) (by decide) rfl ?_
  intro p e s m args below meth c₀ s₁ B hml hv
  obtain ⟨rfl, hsz, hP, hK, hD0⟩ := hv
  have hx := B.exec
  have hb := B.bytes
  have hr := B.returns
  have hT : ∀ w ∈ TBL, w.before ([.ref (ad 0)] : List Value).toArray s = true := fun w h => atoms_spec (ws := Cond.code yX11_image cX11_image 1 (some .int) :: TBL) B.pre w (List.mem_cons_of_mem _ h)
  have hown : s.vm.findClass "LittleMore" = some m.cls := findClass_of_methodNamed B.named
  have hlocks := B.notSynchronized
  subst hsz
  have hD := hD0.self (sz := s.heap.size)
  generalize hAe : va_A (wX G ad S) s.heap.size = A at hD ⊢
  have hA : ∀ q : Nat, s.heap.size ≤ q → A q := fun q h => by rw [← hAe]; exact Or.inr h
  have hS : va_S A s.heap s.heap [] := va_S.rf
  have hP : va_P G.1 vwCl (wX G ad S) s.heap := hP
  have hl := lv_entry ([.ref (ad 0)]) (n := 1) (Nat.le_of_ble_eq_true rfl)
  rw [lg_entry_eq]
  generalize (lg_sl ([.ref (ad 0)]) ++ List.replicate (1 - (lg_sl ([.ref (ad 0)])).length) Slot.unset).toArray = ls at hl ⊢
  have hl : lv_has ls 1 [(0, .ref (ad 0))] := hl
  refine W_abs (fun Q hQ => ?_)
  generalize ([.ref (ad 0)] : List Value).toArray = args at hT hQ ⊢
  refine lv_aload_n hx hb (fk_get fk_cX11_image_0 0 rfl) rfl (lv_at hl 0 rfl) ?_
  refine va_get (D := G.1) (ci := 13) (v := .ref (ad (9 + 1))) (C := RX11) (T := TX11) (N := 11) hx hb hT inX11 hown hK hP 0 (ix_at (lt71 (by omega)) (cX_0 G ad S)) rfl 2 (by decide) (hT _ m2_71) (fun _ h9 => h9) rfl (fk_get fk_cX11_image_0 1 rfl) ?_
  refine lv_aload_n hx hb (fk_get fk_cX11_image_0 2 rfl) rfl (lv_at hl 0 rfl) ?_
  refine va_get (D := G.1) (ci := 13) (v := .ref (ad (9 + 0))) (C := RX11) (T := TX11) (N := 11) hx hb hT inX11 hown hK hP 0 (ix_at (lt71 (by omega)) (cX_0 G ad S)) rfl 1 (by decide) (hT _ m2_70) (fun _ h9 => h9) rfl (fk_get fk_cX11_image_0 3 rfl) ?_
  have hFc := va_self hD hS hA
  refine va_callv (va_runV (As := [.ref (ad (9 + 0))]) (rest := []) ⟨hx, hb, hml, hown, hT⟩ (c_x7_becomeX l G ad S s.heap.size (1) (0) (n) ((by decide : 1 < 3)) ((by decide : 0 < 3)) (by first | assumption | omega) (hn) (hn6) (hX)) (tV 1 hT m3_215 m3_216 m3_217 m1_9 m3_218 rfl rfl (by decide +kernel) ⟨Nat.le_of_ble_eq_true rfl, Nat.le_of_ble_eq_true rfl⟩) ⟨PcW_blind, va_recv hK hP (ci := 9) (q0 := (9 + 1)) rfl (ix_at (lt71 (by omega)) (cX_shop (pk_shop (by decide : 1 < 3)))), PcW_of hP hK hD _⟩ rfl rfl hl.1 rfl (lv_room (Nat.le_of_ble_eq_true rfl)) (fk_get fk_cX11_image_0 4 rfl) ⟨Nat.zero_le _, Nat.zero_le _⟩) hS (fun q _ h => hFc q h) hFc (fun S_3 t_ H locs ht_ hvm_ hw_2 hB_ hz_ hk_ hS => ?_)
  obtain ⟨hP, -, hD1_⟩ := hB_
  rw [ht_] at hP
  have hD : va_D A (wX G ad S_3) := hD1_.weaken (fun k q _ h => hFc q.1 h)
  try dsimp only at hw_2
  obtain ⟨hX_4, hF_5_, hw_2⟩ := hw_2
  have hF_5 : Fr (fun j k => (j = 0 ∧ k = 10) ∨ (j = 9 + 1 ∧ 3 ≤ k ∧ k ≤ 7) ∨ (21 + 6 * 1 ≤ j ∧ j < 27 + 6 * 1 ∧ 2 ≤ k ∧ k ≤ 9) ∨ (39 + 6 * 1 ≤ j ∧ j < 45 + 6 * 1 ∧ k = 99) ∨ ((j = 15 + 1 ∨ j = 18 + 1) ∧ k = 99)) S S_3 := Fr.trans (Fr.rf : Fr (fun j k => (j = 0 ∧ k = 10) ∨ (j = 9 + 1 ∧ 3 ≤ k ∧ k ≤ 7) ∨ (21 + 6 * 1 ≤ j ∧ j < 27 + 6 * 1 ∧ 2 ≤ k ∧ k ≤ 9) ∨ (39 + 6 * 1 ≤ j ∧ j < 45 + 6 * 1 ∧ k = 99) ∨ ((j = 15 + 1 ∨ j = 18 + 1) ∧ k = 99)) S S) (Fr.mono hF_5_ (fun j k h => by omega))
  have hff_ := hF_5_
  obtain ⟨hbe_, hrr_⟩ := hw_2
  have hn1_ := (hff_.F (j := 9 + 0) (k := 3) (lt71 (by omega)) (by omega)).trans hn
  refine lv_aload_n hx hb (fk_get fk_cX11_image_0 5 rfl) rfl (lv_at hl 0 rfl) ?_
  refine lv_iconst (v := 1) hx hb (fk_get fk_cX11_image_0 6 rfl) (by decide) ?_
  refine va_put (D := G.1) (ci := 13) (v := .int (1)) (ty := .boolean) (C := RX11) (T := TX11) (N := 11) hx hb hT inX11 tyX11 tyX11_ok nmX11 hown hK hP hD hS 0 (ix_at (lt71 (by omega)) (cX_0 G ad S_3)) rfl 10 (by decide) (hT _ m2_79) (fun _ h9 => h9) rfl (by decide +kernel) rfl rfl (Nat.le_of_ble_eq_true rfl) (fk_get fk_cX11_image_0 7 rfl) (fun H locs hP hD hS => ?_)
  rw [pX_main_10 (S := S_3) (1)] at hP hD
  have hX_6 : XI (setF S_3 0 10 (1)) := XI.sF hX_4 _ ⟨by omega, by omega, by omega, by omega, by omega, by omega, by omega, by omega⟩
  have hF_7 : Fr (fun j k => (j = 0 ∧ k = 10) ∨ (j = 9 + 1 ∧ 3 ≤ k ∧ k ≤ 7) ∨ (21 + 6 * 1 ≤ j ∧ j < 27 + 6 * 1 ∧ 2 ≤ k ∧ k ≤ 9) ∨ (39 + 6 * 1 ≤ j ∧ j < 45 + 6 * 1 ∧ k = 99) ∨ ((j = 15 + 1 ∨ j = 18 + 1) ∧ k = 99)) S (setF S_3 0 10 (1)) := Fr.sF hF_5 (by omega)
  refine lv_aload_n hx hb (fk_get fk_cX11_image_0 8 rfl) rfl (lv_at hl 0 rfl) ?_
  refine va_get (D := G.1) (ci := 13) (v := .ref (ad (9 + 0))) (C := RX11) (T := TX11) (N := 11) hx hb hT inX11 hown hK hP 0 (ix_at (lt71 (by omega)) (cX_0 G ad (setF S_3 0 10 (1)))) rfl 1 (by decide) (hT _ m2_70) (fun _ h9 => h9) rfl (fk_get fk_cX11_image_0 9 rfl) ?_
  refine va_get (D := G.1) (ci := 9) (v := .int (fF (setF S_3 0 10 (1)) (9 + 0) 3)) (C := RX7) (T := TX7) (N := 8) hx hb hT inX7 hown hK hP (9 + 0) (ix_at (lt71 (by omega)) (cX_shop (pk_shop (by decide : 0 < 3)))) rfl 3 (by decide) (hT _ m1_209) (fun _ h9 => h9) rfl (fk_get fk_cX11_image_0 10 rfl) ?_
  rw [show fF (setF S_3 0 10 (1)) (9 + 0) 3 = (fF S_3 (9 + 0) 3) from by simp [fF_setF, fF_setR, fF_setA, fF_setL]]
  rw [hn1_]
  subst hQ
  have hpost : XI (setF S_3 0 10 (1)) ∧ Fr (fun j k => (j = 0 ∧ k = 10) ∨ (j = 9 + 1 ∧ 3 ≤ k ∧ k ≤ 7) ∨ (21 + 6 * 1 ≤ j ∧ j < 27 + 6 * 1 ∧ 2 ≤ k ∧ k ≤ 9) ∨ (39 + 6 * 1 ≤ j ∧ j < 45 + 6 * 1 ∧ k = 99) ∨ ((j = 15 + 1 ∨ j = 18 + 1) ∧ k = 99)) S (setF S_3 0 10 (1)) ∧ (((nI n) : Int32) = nI n ∧ fF (setF S_3 0 10 (1)) 0 10 = 1 ∧ BE S 1 0 n (setF S_3 0 10 (1)) ∧ fR (setF S_3 0 10 (1)) (9 + 1) 7 = fR S (9 + 0) 7) := by
    exact ⟨hX_6, hF_7, ⟨rfl, by simp [fF_setF], hbe_.fr (Fr.sF (P := fun j k => j = 0 ∧ k = 10) Fr.rf ⟨rfl, rfl⟩) (by omega) hn6 (by omega) (by omega) (by omega) (by omega) (by omega), by simp [fR_setF]; exact hrr_⟩⟩
  exact W.iret (v := (nI n)) hx hb hr (fun t_ ht_ hW_ => ⟨⟨(nI n), (setF S_3 0 10 (1)), rfl, hpost, by rw [ht_]; exact hP, va_K.moved hW_.alike hK, hD⟩, hS.F ht_⟩) hS.2.2 (fk_get fk_cX11_image_0 11 rfl)
set_option maxHeartbeats 800000 in
set_option maxRecDepth 100000 in
theorem c_x11_undoX (l : Launch) (G : GG) (ad : Nat → Nat) (S : FS) (sz : Nat) (n mz : Nat) (hn : fF S (9 + 0) 3 = nI n) (hn6 : n ≤ 6) (hm : fF S (9 + 1) 3 = nI mz) (hm6 : mz ≤ 6) (hX : XI S) : Met l yX11_undo (Cond.code yX11_undo cX11_undo 1 (some .int) :: TBL) ({ frames := 4, cells := 0, slots := 0, locals := 115 } : Room) (PcW G (wX G ad S) sz [.ref (ad 0)]) (va_Qi (fun (r : Int32) (S' : FS) => XI S' ∧ Fr (fun j k => (j = 9 + 0 ∧ 3 ≤ k ∧ k ≤ 7) ∨ (21 + 6 * 0 ≤ j ∧ j < 27 + 6 * 0 ∧ 2 ≤ k ∧ k ≤ 9) ∨ (39 + 6 * 0 ≤ j ∧ j < 45 + 6 * 0 ∧ k = 99) ∨ ((j = 15 + 0 ∨ j = 18 + 0) ∧ k = 99)) S S' ∧ (fF S 0 10 = 0 ∧ r = -3 ∧ S' = S ∨ ¬ fF S 0 10 = 0 ∧ r = nI mz ∧ BE S 0 1 mz S' ∧ fR S' (9 + 0) 7 = fR S (9 + 1) 7)) (fun S' t => BW G (va_A (wX G ad S) sz) (wX G ad S') t) (va_A (wX G ad S) sz)) 0 0 (va_A (wX G ad S) sz) := by
  refine Met.ofW (cc := cX11_undo) (maxL := 1) (ret := (some .int)) (by decide) rfl ?_
  intro p e s m args below meth c₀ s₁ B hml hv
  obtain ⟨rfl, hsz, hP, hK, hD0⟩ := hv
  have hx := B.exec
  have hb := B.bytes
  have hr := B.returns
  have hT : ∀ w ∈ TBL, w.before ([.ref (ad 0)] : List Value).toArray s = true := fun w h => atoms_spec (ws := Cond.code yX11_undo cX11_undo 1 (some .int) :: TBL) B.pre w (List.mem_cons_of_mem _ h)
  have hown : s.vm.findClass "LittleMore" = some m.cls := findClass_of_methodNamed B.named
  have hlocks := B.notSynchronized
  subst hsz
  have hD := hD0.self (sz := s.heap.size)
  generalize hAe : va_A (wX G ad S) s.heap.size = A at hD ⊢
  have hA : ∀ q : Nat, s.heap.size ≤ q → A q := fun q h => by rw [← hAe]; exact Or.inr h
  have hS : va_S A s.heap s.heap [] := va_S.rf
  have hP : va_P G.1 vwCl (wX G ad S) s.heap := hP
  have hl := lv_entry ([.ref (ad 0)]) (n := 1) (Nat.le_of_ble_eq_true rfl)
  rw [lg_entry_eq]
  generalize (lg_sl ([.ref (ad 0)]) ++ List.replicate (1 - (lg_sl ([.ref (ad 0)])).length) Slot.unset).toArray = ls at hl ⊢
  have hl : lv_has ls 1 [(0, .ref (ad 0))] := hl
  refine W_abs (fun Q hQ => ?_)
  generalize ([.ref (ad 0)] : List Value).toArray = args at hT hQ ⊢
  refine lv_aload_n hx hb (fk_get fk_cX11_undo_0 0 rfl) rfl (lv_at hl 0 rfl) ?_
  refine va_get (D := G.1) (ci := 13) (v := .int (fF S 0 10)) (C := RX11) (T := TX11) (N := 11) hx hb hT inX11 hown hK hP 0 (ix_at (lt71 (by omega)) (cX_0 G ad S)) rfl 10 (by decide) (hT _ m2_79) (fun _ h9 => h9) rfl (fk_get fk_cX11_undo_0 1 rfl) ?_
  refine lv_if_ne (tgt := 10) hx hb (fk_get fk_cX11_undo_0 2 rfl) (by decide) (fun c_1 => ?_) (fun c_1 => ?_)
  · refine lv_aload_n hx hb (fk_get fk_cX11_undo_0 5 rfl) rfl (lv_at hl 0 rfl) ?_
    refine va_get (D := G.1) (ci := 13) (v := .ref (ad (9 + 0))) (C := RX11) (T := TX11) (N := 11) hx hb hT inX11 hown hK hP 0 (ix_at (lt71 (by omega)) (cX_0 G ad S)) rfl 1 (by decide) (hT _ m2_70) (fun _ h9 => h9) rfl (fk_get fk_cX11_undo_0 6 rfl) ?_
    refine lv_aload_n hx hb (fk_get fk_cX11_undo_0 7 rfl) rfl (lv_at hl 0 rfl) ?_
    refine va_get (D := G.1) (ci := 13) (v := .ref (ad (9 + 1))) (C := RX11) (T := TX11) (N := 11) hx hb hT inX11 hown hK hP 0 (ix_at (lt71 (by omega)) (cX_0 G ad S)) rfl 2 (by decide) (hT _ m2_71) (fun _ h9 => h9) rfl (fk_get fk_cX11_undo_0 8 rfl) ?_
    have hFc := va_self hD hS hA
    refine va_callv (va_runV (As := [.ref (ad (9 + 1))]) (rest := []) ⟨hx, hb, hml, hown, hT⟩ (c_x7_becomeX l G ad S s.heap.size (0) (1) (mz) ((by decide : 0 < 3)) ((by decide : 1 < 3)) (by first | assumption | omega) (hm) (hm6) (hX)) (tV 1 hT m3_215 m3_216 m3_217 m1_9 m3_218 rfl rfl (by decide +kernel) ⟨Nat.le_of_ble_eq_true rfl, Nat.le_of_ble_eq_true rfl⟩) ⟨PcW_blind, va_recv hK hP (ci := 9) (q0 := (9 + 0)) rfl (ix_at (lt71 (by omega)) (cX_shop (pk_shop (by decide : 0 < 3)))), PcW_of hP hK hD _⟩ rfl rfl hl.1 rfl (lv_room (Nat.le_of_ble_eq_true rfl)) (fk_get fk_cX11_undo_0 9 rfl) ⟨Nat.zero_le _, Nat.zero_le _⟩) hS (fun q _ h => hFc q h) hFc (fun S_4 t_ H locs ht_ hvm_ hw_3 hB_ hz_ hk_ hS => ?_)
    obtain ⟨hP, -, hD1_⟩ := hB_
    rw [ht_] at hP
    have hD : va_D A (wX G ad S_4) := hD1_.weaken (fun k q _ h => hFc q.1 h)
    try dsimp only at hw_3
    obtain ⟨hX_5, hF_6_, hw_3⟩ := hw_3
    have hF_6 : Fr (fun j k => (j = 9 + 0 ∧ 3 ≤ k ∧ k ≤ 7) ∨ (21 + 6 * 0 ≤ j ∧ j < 27 + 6 * 0 ∧ 2 ≤ k ∧ k ≤ 9) ∨ (39 + 6 * 0 ≤ j ∧ j < 45 + 6 * 0 ∧ k = 99) ∨ ((j = 15 + 0 ∨ j = 18 + 0) ∧ k = 99)) S S_4 := Fr.trans (Fr.rf : Fr (fun j k => (j = 9 + 0 ∧ 3 ≤ k ∧ k ≤ 7) ∨ (21 + 6 * 0 ≤ j ∧ j < 27 + 6 * 0 ∧ 2 ≤ k ∧ k ≤ 9) ∨ (39 + 6 * 0 ≤ j ∧ j < 45 + 6 * 0 ∧ k = 99) ∨ ((j = 15 + 0 ∨ j = 18 + 0) ∧ k = 99)) S S) (Fr.mono hF_6_ (fun j k h => by omega))
    have hff_ := hF_6_
    obtain ⟨hbe_, hrr_⟩ := hw_3
    have hn1_ := (hbe_.1 3 (by omega) (by omega)).trans hm
    refine lv_aload_n hx hb (fk_get fk_cX11_undo_0 10 rfl) rfl (lv_at hl 0 rfl) ?_
    refine va_get (D := G.1) (ci := 13) (v := .ref (ad (9 + 0))) (C := RX11) (T := TX11) (N := 11) hx hb hT inX11 hown hK hP 0 (ix_at (lt71 (by omega)) (cX_0 G ad S_4)) rfl 1 (by decide) (hT _ m2_70) (fun _ h9 => h9) rfl (fk_get fk_cX11_undo_0 11 rfl) ?_
    refine va_get (D := G.1) (ci := 9) (v := .int (fF S_4 (9 + 0) 3)) (C := RX7) (T := TX7) (N := 8) hx hb hT inX7 hown hK hP (9 + 0) (ix_at (lt71 (by omega)) (cX_shop (pk_shop (by decide : 0 < 3)))) rfl 3 (by decide) (hT _ m1_209) (fun _ h9 => h9) rfl (fk_get fk_cX11_undo_0 12 rfl) ?_
    rw [hn1_]
    subst hQ
    have hpost : XI S_4 ∧ Fr (fun j k => (j = 9 + 0 ∧ 3 ≤ k ∧ k ≤ 7) ∨ (21 + 6 * 0 ≤ j ∧ j < 27 + 6 * 0 ∧ 2 ≤ k ∧ k ≤ 9) ∨ (39 + 6 * 0 ≤ j ∧ j < 45 + 6 * 0 ∧ k = 99) ∨ ((j = 15 + 0 ∨ j = 18 + 0) ∧ k = 99)) S S_4 ∧ (fF S 0 10 = 0 ∧ ((nI mz) : Int32) = -3 ∧ S_4 = S ∨ ¬ fF S 0 10 = 0 ∧ ((nI mz) : Int32) = nI mz ∧ BE S 0 1 mz S_4 ∧ fR S_4 (9 + 0) 7 = fR S (9 + 1) 7) := by
      exact ⟨hX_5, hF_6, (by first | exact Or.inl ⟨by assumption, rfl, rfl⟩ | exact Or.inr ⟨by assumption, rfl, hbe_, hrr_⟩)⟩
    exact W.iret (v := (nI mz)) hx hb hr (fun t_ ht_ hW_ => ⟨⟨(nI mz), S_4, rfl, hpost, by rw [ht_]; exact hP, va_K.moved hW_.alike hK, hD⟩, hS.F ht_⟩) hS.2.2 (fk_get fk_cX11_undo_0 13 rfl)
  refine lv_bipush (v := (-3)) hx hb (fk_get fk_cX11_undo_0 3 rfl) (by decide) ?_
  subst hQ
  have hpost : XI S ∧ Fr (fun j k => (j = 9 + 0 ∧ 3 ≤ k ∧ k ≤ 7) ∨ (21 + 6 * 0 ≤ j ∧ j < 27 + 6 * 0 ∧ 2 ≤ k ∧ k ≤ 9) ∨ (39 + 6 * 0 ≤ j ∧ j < 45 + 6 * 0 ∧ k = 99) ∨ ((j = 15 + 0 ∨ j = 18 + 0) ∧ k = 99)) S S ∧ (fF S 0 10 = 0 ∧ ((-3) : Int32) = -3 ∧ S = S ∨ ¬ fF S 0 10 = 0 ∧ ((-3) : Int32) = nI mz ∧ BE S 0 1 mz S ∧ fR S (9 + 0) 7 = fR S (9 + 1) 7) := by
    exact ⟨hX, (Fr.rf : Fr (fun j k => (j = 9 + 0 ∧ 3 ≤ k ∧ k ≤ 7) ∨ (21 + 6 * 0 ≤ j ∧ j < 27 + 6 * 0 ∧ 2 ≤ k ∧ k ≤ 9) ∨ (39 + 6 * 0 ≤ j ∧ j < 45 + 6 * 0 ∧ k = 99) ∨ ((j = 15 + 0 ∨ j = 18 + 0) ∧ k = 99)) S S), (by first | exact Or.inl ⟨by assumption, rfl, rfl⟩ | exact Or.inr ⟨by assumption, rfl, hbe_, hrr_⟩)⟩
  exact W.iret (v := (-3)) hx hb hr (fun t_ ht_ hW_ => ⟨⟨(-3), S, rfl, hpost, by rw [ht_]; exact hP, va_K.moved hW_.alike hK, hD⟩, hS.F ht_⟩) hS.2.2 (fk_get fk_cX11_undo_0 4 rfl)
