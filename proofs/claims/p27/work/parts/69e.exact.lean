/-- what row() answers and leaves -/
def RowP (n : Nat) (x w v r : Int32) (S S' : FS) : Prop :=
  ((x < 0 ∨ nI n ≤ x) ∧ r = -1 ∧ S' = S) ∨ ((w < 0 ∨ 3 < w) ∧ r = -1 ∧ S' = S) ∨
  ((∃ j, j < n ∧ x = nI j) ∧ ¬ (w < 0 ∨ 3 < w) ∧ (v < 0 ∨ 9 < v) ∧ r = -2 ∧ S' = S) ∨
  ∃ j q wz, j < n ∧ x = nI j ∧ fR S (21 + 6 * 0 + j) 2 = some (2 + q) ∧ q < 7 ∧ wz ≤ 3 ∧ w = nI wz ∧ ¬ (w < 0 ∨ 3 < w) ∧ ¬ (v < 0 ∨ 9 < v) ∧ ((¬ isK q 6 = true ∧ r = -3 ∧ S' = S) ∨ (isK q 6 = true ∧ r = fA S (21 + 6 * 0 + j + 18) wz ∧ S' = setA S (21 + 6 * 0 + j + 18) (upd (fA S (21 + 6 * 0 + j + 18)) wz v)))
/-- what taken() answers -/
def TakP (n : Nat) (x w r : Int32) (S : FS) : Prop := ((w < 0 ∨ 6 < w) ∧ r = -2) ∨ (¬ (w < 0 ∨ 6 < w) ∧ (x < 0 ∨ nI n ≤ x) ∧ r = -11) ∨ ∃ j q k, j < n ∧ x = nI j ∧ fR S (21 + 6 * 0 + j) 2 = some (2 + q) ∧ q < 7 ∧ k < 7 ∧ w = nI k ∧ r = if isK q k = true then nI q else -12
/-- what tape() answers and leaves -/
def TapP (t so x r : Int32) (S S' : FS) : Prop := ((t < 0 ∨ 6 ≤ t) ∧ r = -1 ∧ S' = S) ∨ (¬ (t < 0 ∨ 6 ≤ t) ∧ (so < -1 ∨ 4 < so) ∧ r = -2 ∧ S' = S) ∨ (¬ (t < 0 ∨ 6 ≤ t) ∧ ¬ (so < -1 ∨ 4 < so) ∧ ¬ so = -1 ∧ ¬ x ≤ 60 ∧ r = -2 ∧ S' = S) ∨ (¬ (t < 0 ∨ 6 ≤ t) ∧ ¬ (so < -1 ∨ 4 < so) ∧ ¬ so = -1 ∧ x ≤ 60 ∧ x < 0 ∧ r = -14 ∧ S' = S) ∨
  ∃ ta len, ta < 6 ∧ t = nI ta ∧ ¬ (so < -1 ∨ 4 < so) ∧ ((so = -1 ∧ len = 0) ∨ (¬ so = -1 ∧ x ≤ 60 ∧ ¬ x < 0 ∧ len = x)) ∧ r = 1 ∧ fA S' 62 = upd (fA S 62) ta so ∧ fA S' 63 = upd (fA S 63) ta len ∧ (∀ k, k < 60 → fL S' (65 + ta) k = 0) ∧ ∀ u, u < 6 → u ≠ ta → fL S' (65 + u) = fL S (65 + u)
def ItP (t i : Int32) (v : Int64) (r : Int32) (S S' : FS) : Prop := ((t < 0 ∨ 6 ≤ t) ∧ r = -1 ∧ S' = S) ∨ ∃ ta, ta < 6 ∧ t = nI ta ∧ ((fA S 62 ta = -1 ∧ r = -11 ∧ S' = S) ∨ (¬ fA S 62 ta = -1 ∧ (i < 0 ∨ fA S 63 ta - 1 < i) ∧ r = -13 ∧ S' = S) ∨ ∃ ia, ¬ fA S 62 ta = -1 ∧ ¬ (i < 0 ∨ fA S 63 ta - 1 < i) ∧ i = nI ia ∧ ia < 60 ∧ r = 1 ∧ S' = setL S (65 + ta) (vp_updL (fL S (65 + ta)) ia (nrx v (fA S 62 ta))))
def ReP (t i : Int32) (r : Int64) (S : FS) : Prop := ((t < 0 ∨ 6 ≤ t) ∧ r = -9223372036854775808) ∨ ∃ ta, ta < 6 ∧ t = nI ta ∧ (((i < 0 ∨ fA S 63 ta - 1 < i) ∧ r = -9223372036854775808) ∨ ∃ ia, ¬ (i < 0 ∨ fA S 63 ta - 1 < i) ∧ i = nI ia ∧ ia < 60 ∧ r = fL S (65 + ta) ia)
def ShP (t i o j x r : Int32) (S S' : FS) : Prop := ((t < 0 ∨ 6 ≤ t) ∧ r = -1 ∧ S' = S) ∨ (¬ (t < 0 ∨ 6 ≤ t) ∧ (o < 0 ∨ 6 ≤ o) ∧ r = -1 ∧ S' = S) ∨ ∃ ta tb, ta < 6 ∧ t = nI ta ∧ tb < 6 ∧ o = nI tb ∧ ((fA S 62 ta = -1 ∧ r = -11 ∧ S' = S) ∨ (fA S 62 tb = -1 ∧ r = -11 ∧ S' = S) ∨ (¬ fA S 62 ta = -1 ∧ ¬ fA S 62 tb = -1 ∧ ((¬ fA S 62 ta = fA S 62 tb ∧ r = -12 ∧ S' = S) ∨ (fA S 62 ta = fA S 62 tb ∧ (((x < 0 ∨ (i < 0 ∨ fA S 63 ta - x < i) ∨ (j < 0 ∨ fA S 63 tb - x < j)) ∧ r = -13 ∧ S' = S) ∨ (¬ x < 0 ∧ ¬ (i < 0 ∨ fA S 63 ta - x < i) ∧ ¬ (j < 0 ∨ fA S 63 tb - x < j) ∧ r = x ∧ S' = setL S (65 + tb) (va_cpy (fL S (65 + ta)) (fL S (65 + tb)) i.toNatClampNeg j.toNatClampNeg x.toNatClampNeg)))))))
set_option maxHeartbeats 800000 in
set_option maxRecDepth 100000 in
theorem c_x11_rowE (l : Launch) (G : GG) (ad : Nat → Nat) (S : FS) (sz : Nat) (n : Nat) (x : Int32) (w_ : Int32) (v_ : Int32) (hn : fF S (9 + 0) 3 = nI n) (hn6 : n ≤ 6) (hX : XI S) : Met l yX11_row (Cond.code yX11_row cX11_row 6 (some .int) :: TBL) ({ frames := 3, cells := 0, slots := 0, locals := 90 } : Room) (PcE G (wX G ad S) sz [.ref (ad 0), .int (x), .int (w_), .int (v_)]) (va_Qi (fun (r : Int32) (S' : FS) => XI S' ∧ Fr (fun j k => 39 ≤ j ∧ j < 45 ∧ k = 99) S S' ∧ RowP n x w_ v_ r S S') (fun S' t => BW G (va_A (wX G ad S) sz) (wX G ad S') t) (va_A (wX G ad S) sz)) 0 0 (va_A (wX G ad S) sz) := by
  refine Met.ofW (cc := cX11_row) (maxL := 6) (ret := (some .int)) (by decide) rfl ?_
  intro p e s m args below meth c₀ s₁ B hml hv
  obtain ⟨rfl, hsz, hP, hK, hD0, hE⟩ := hv
  have hx := B.exec
  have hb := B.bytes
  have hr := B.returns
  have hT : ∀ w ∈ TBL, w.before ([.ref (ad 0), .int (x), .int (w_), .int (v_)] : List Value).toArray s = true := fun w h => atoms_spec (ws := Cond.code yX11_row cX11_row 6 (some .int) :: TBL) B.pre w (List.mem_cons_of_mem _ h)
  have hown : s.vm.findClass "LittleMore" = some m.cls := findClass_of_methodNamed B.named
  have hlocks := B.notSynchronized
  subst hsz
  have hD := hD0.self (sz := s.heap.size)
  generalize hAe : va_A (wX G ad S) s.heap.size = A at hD hE ⊢
  have hA : ∀ q : Nat, s.heap.size ≤ q → A q := fun q h => by rw [← hAe]; exact Or.inr h
  have hS : va_S A s.heap s.heap [] := va_S.rf
  have hP : va_P G.1 vwCl (wX G ad S) s.heap := hP
  have hl := lv_entry ([.ref (ad 0), .int (x), .int (w_), .int (v_)]) (n := 6) (Nat.le_of_ble_eq_true rfl)
  rw [lg_entry_eq]
  generalize (lg_sl ([.ref (ad 0), .int (x), .int (w_), .int (v_)]) ++ List.replicate (6 - (lg_sl ([.ref (ad 0), .int (x), .int (w_), .int (v_)])).length) Slot.unset).toArray = ls at hl ⊢
  have hl : lv_has ls 6 [(0, .ref (ad 0)), (1, .int (x)), (2, .int (w_)), (3, .int (v_))] := hl
  refine W_abs (fun Q hQ => ?_)
  generalize ([.ref (ad 0), .int (x), .int (w_), .int (v_)] : List Value).toArray = args at hT hQ ⊢
  refine lv_aload_n hx hb (fk_get fk_cX11_row_0 0 rfl) rfl (lv_at hl 0 rfl) ?_
  refine va_get (D := G.1) (ci := 13) (v := .ref (ad (9 + 0))) (C := RX11) (T := TX11) (N := 11) hx hb hT inX11 hown hK hP 0 (ix_at (lt71 (by omega)) (cX_0 G ad S)) rfl 1 (by decide) (hT _ m2_70) (fun _ h9 => h9) rfl (fk_get fk_cX11_row_0 1 rfl) ?_
  refine lv_iload_n hx hb (fk_get fk_cX11_row_0 2 rfl) rfl (lv_at hl 1 rfl) ?_
  refine va_csq (W.runV (As := [.int (x)]) (rest := []) ⟨hx, hb, hml, hown, hT⟩ (c_x7_at l G ad S s.heap.size (0) (n) (x) ((by decide : 0 < 3)) (hn) (hn6) (hX)) (tV 1 hT m2_120 m2_121 m2_122 m1_9 m2_123 rfl rfl (by decide +kernel) ⟨Nat.le_of_ble_eq_true rfl, Nat.le_of_ble_eq_true rfl⟩) ⟨PcW_blind, va_recv hK hP (ci := 9) (q0 := (9 + 0)) rfl (ix_at (lt71 (by omega)) (cX_shop (pk_shop (by decide : 0 < 3)))), PcW_of hP hK hD _⟩ rfl rfl hl.1 rfl (lv_room (Nat.le_of_ble_eq_true rfl)) (fk_get fk_cX11_row_0 3 rfl) ⟨Nat.zero_le _, Nat.zero_le _⟩) (fun r_1 hw_2 => ?_)
  try dsimp only at hw_2
  rcases hw_2 with ⟨j_5, hj_5, ej_5, rfl⟩ | ⟨rfl, hn_5⟩
  · rw [show va_rf (some (ad (21 + 6 * 0 + j_5))) = .ref (ad (21 + 6 * 0 + j_5)) from rfl]
    generalize hg_i_5 : 21 + 6 * 0 + j_5 = i_5
    have hp_i_5 : pk i_5 = 7 := by rw [← hg_i_5]; exact pk_c (by decide : 0 < 3) (show j_5 < 6 by omega)
    have hb_i_5 := pk7 hp_i_5
    refine lv_astore (lv' := [(4, .ref (ad i_5)), (0, .ref (ad 0)), (1, .int (x)), (2, .int (w_)), (3, .int (v_))]) hx hb (fk_get fk_cX11_row_0 4 rfl) hl (by decide) rfl (fun ls hl => ?_)
    refine lv_aload hx hb (fk_get fk_cX11_row_0 5 rfl) (lv_at hl 0 rfl) ?_
    refine lv_ifnull hx hb (fk_get fk_cX11_row_0 6 rfl) ?_
    refine lv_iload_n hx hb (fk_get fk_cX11_row_0 7 rfl) rfl (lv_at hl 3 rfl) ?_
    refine lv_iconst (v := 0) hx hb (fk_get fk_cX11_row_0 8 rfl) (by decide) ?_
    refine lv_iconst (v := 3) hx hb (fk_get fk_cX11_row_0 9 rfl) (by decide) ?_
    refine vp_callSi (W.runS (As := [.int (w_), .int (0), .int (3)]) (rest := []) ⟨hx, hb, hml, hown, hT⟩ (c_xisOutside l (w_) (0) (3) ) (tS 3 hT m2_108 m2_109 m1_1 m2_110 rfl rfl (by decide +kernel) ⟨Nat.le_of_ble_eq_true rfl, Nat.le_of_ble_eq_true rfl⟩) ⟨PcN_blind, PcN_of _ _ _⟩ rfl rfl hl.1 rfl (lv_room (Nat.le_of_ble_eq_true rfl)) (fk_get fk_cX11_row_0 10 rfl) ⟨Nat.zero_le _, Nat.zero_le _⟩) (fun r_3 hw_4 => ?_)
    try dsimp only at hw_4
    refine lv_if_eq (tgt := 26) hx hb (fk_get fk_cX11_row_0 11 rfl) (by decide) (fun c_5 => ?_) (fun c_5 => ?_)
    · have p_c_5 := if1_f hw_4 c_5
      obtain ⟨wz, hwz, ew⟩ := out_n (b := 3) p_c_5 (by decide)
      refine lv_iload_n hx hb (fk_get fk_cX11_row_0 14 rfl) rfl (lv_at hl 4 rfl) ?_
      refine lv_iconst (v := 0) hx hb (fk_get fk_cX11_row_0 15 rfl) (by decide) ?_
      refine lv_bipush (v := 9) hx hb (fk_get fk_cX11_row_0 16 rfl) (by decide) ?_
      refine vp_callSi (W.runS (As := [.int (v_), .int (0), .int (9)]) (rest := []) ⟨hx, hb, hml, hown, hT⟩ (c_xisOutside l (v_) (0) (9) ) (tS 3 hT m2_108 m2_109 m1_1 m2_110 rfl rfl (by decide +kernel) ⟨Nat.le_of_ble_eq_true rfl, Nat.le_of_ble_eq_true rfl⟩) ⟨PcN_blind, PcN_of _ _ _⟩ rfl rfl hl.1 rfl (lv_room (Nat.le_of_ble_eq_true rfl)) (fk_get fk_cX11_row_0 17 rfl) ⟨Nat.zero_le _, Nat.zero_le _⟩) (fun r_6 hw_7 => ?_)
      try dsimp only at hw_7
      refine lv_if_eq (tgt := 39) hx hb (fk_get fk_cX11_row_0 18 rfl) (by decide) (fun c_8 => ?_) (fun c_8 => ?_)
      · have p_c_8 := if1_f hw_7 c_8
        refine lv_aload hx hb (fk_get fk_cX11_row_0 21 rfl) (lv_at hl 0 rfl) ?_
        obtain ⟨n_9, en_9, bn_9⟩ := XI.kin hX hp_i_5
        refine va_get (D := G.1) (ci := 5) (v := va_rf ((fR S i_5 2).map ad)) (C := RX3) (T := TX3) (N := 10) hx hb hT inX3 hown hK hP i_5 (ix_at (lt71 (by omega)) (cX_cust hp_i_5)) rfl 2 (by decide) (hT _ m1_144) (fun _ h9 => h9) rfl (fk_get fk_cX11_row_0 22 rfl) ?_
        rw [show va_rf ((fR S i_5 2).map ad) = .ref (ad (2 + n_9)) from by rw [en_9]; rfl]
        have kk_44 : W p l e ({ frames := 3, cells := 0, slots := 0, locals := 90 } : Room) s m args below meth c₀ s.heap [] 0 0 Q (F0 m 47 ls [.int ((if isK n_9 6 = true then 1 else 0))]) := by
          refine lv_if_ne (tgt := 53) hx hb (fk_get fk_cX11_row_0 24 rfl) (by decide) (fun c_10 => ?_) (fun c_10 => ?_)
          · have p_c_10 := if1_t (rfl : (if isK n_9 6 = true then (1 : Int32) else 0) = (if isK n_9 6 = true then 1 else 0)) c_10
            refine lv_aload hx hb (fk_get fk_cX11_row_0 27 rfl) (lv_at hl 0 rfl) ?_
            refine va_get (D := G.1) (ci := 5) (v := .ref (ad (i_5 + 18))) (C := RX3) (T := TX3) (N := 10) hx hb hT inX3 hown hK hP i_5 (ix_at (lt71 (by omega)) (cX_cust hp_i_5)) rfl 1 (by decide) (hT _ m1_142) (fun _ h9 => h9) rfl (fk_get fk_cX11_row_0 28 rfl) ?_
            refine lv_iload_n hx hb (fk_get fk_cX11_row_0 29 rfl) rfl (lv_at hl 3 rfl) ?_
            refine r_iald (f := fA S (i_5 + 18)) hx hb hK hP (i_5 + 18) 0 (ix_at (lt71 (by omega)) (cX_arr (Or.inl ⟨rfl, rfl, Or.inr (pk_e7 hp_i_5)⟩))) rfl (j := wz) (ew) (by omega) (by decide) (fk_get fk_cX11_row_0 30 rfl) ?_
            refine lv_istore (lv' := [(5, .int ((fA S (i_5 + 18) wz))), (4, .ref (ad i_5)), (0, .ref (ad 0)), (1, .int (x)), (2, .int (w_)), (3, .int (v_))]) hx hb (fk_get fk_cX11_row_0 31 rfl) hl (by decide) rfl (fun ls hl => ?_)
            refine lv_aload hx hb (fk_get fk_cX11_row_1 0 rfl) (lv_at hl 1 rfl) ?_
            refine va_get (D := G.1) (ci := 5) (v := .ref (ad (i_5 + 18))) (C := RX3) (T := TX3) (N := 10) hx hb hT inX3 hown hK hP i_5 (ix_at (lt71 (by omega)) (cX_cust hp_i_5)) rfl 1 (by decide) (hT _ m1_142) (fun _ h9 => h9) rfl (fk_get fk_cX11_row_1 1 rfl) ?_
            refine lv_iload_n hx hb (fk_get fk_cX11_row_1 2 rfl) rfl (lv_at hl 4 rfl) ?_
            refine lv_iload_n hx hb (fk_get fk_cX11_row_1 3 rfl) rfl (lv_at hl 5 rfl) ?_
            refine r_iast hx hb hK hP hD hS (i_5 + 18) 0 (ix_at (lt71 (by omega)) (cX_arr (Or.inl ⟨rfl, rfl, Or.inr (pk_e7 hp_i_5)⟩))) rfl (j := wz) (ew) (by omega) (by decide) (fk_get fk_cX11_row_1 4 rfl) (fun H locs hP hD hS => ?_)
            rw [pX_arr (G := G) (ad := ad) (S := S) (lt71 (by omega)) (Or.inl ⟨rfl, rfl, Or.inr (pk_e7 hp_i_5)⟩) (upd (fA S (i_5 + 18)) wz (v_))] at hP hD
            have hX_11 : XI (setA S (i_5 + 18) (upd (fA S (i_5 + 18)) wz (v_))) := XI.sA hX _ (by omega)
            have hF_12 : Fr (fun j k => 39 ≤ j ∧ j < 45 ∧ k = 99) S (setA S (i_5 + 18) (upd (fA S (i_5 + 18)) wz (v_))) := Fr.sA (Fr.rf : Fr (fun j k => 39 ≤ j ∧ j < 45 ∧ k = 99) S S) (by omega)
            refine lv_iload hx hb (fk_get fk_cX11_row_1 5 rfl) (lv_at hl 0 rfl) ?_
            subst hQ
            have hpost : XI (setA S (i_5 + 18) (upd (fA S (i_5 + 18)) wz (v_))) ∧ Fr (fun j k => 39 ≤ j ∧ j < 45 ∧ k = 99) S (setA S (i_5 + 18) (upd (fA S (i_5 + 18)) wz (v_))) ∧ RowP n x w_ v_ ((fA S (i_5 + 18) wz) : Int32) S (setA S (i_5 + 18) (upd (fA S (i_5 + 18)) wz (v_))) := by
              first | exact ⟨hX_11, hF_12, Or.inl ⟨by assumption, rfl, rfl⟩⟩ | exact ⟨hX_11, hF_12, Or.inr (Or.inl ⟨by assumption, rfl, rfl⟩)⟩ | exact ⟨hX_11, hF_12, Or.inr (Or.inr (Or.inl ⟨⟨_, hj_5, ej_5⟩, p_c_5, by assumption, rfl, rfl⟩))⟩ | exact ⟨hX_11, hF_12, Or.inr (Or.inr (Or.inr ⟨j_5, n_9, wz, hj_5, ej_5, by rw [hg_i_5]; exact en_9, bn_9, by omega, ew, p_c_5, p_c_8, Or.inl ⟨p_c_10, rfl, rfl⟩⟩))⟩ | exact ⟨hX_11, hF_12, Or.inr (Or.inr (Or.inr ⟨j_5, n_9, wz, hj_5, ej_5, by rw [hg_i_5]; exact en_9, bn_9, by omega, ew, p_c_5, p_c_8, Or.inr ⟨p_c_10, by rw [hg_i_5], by rw [hg_i_5]⟩⟩))⟩
            exact W.iret (v := (fA S (i_5 + 18) wz)) hx hb hr (fun t_ ht_ hW_ => ⟨⟨(fA S (i_5 + 18) wz), (setA S (i_5 + 18) (upd (fA S (i_5 + 18)) wz (v_))), rfl, hpost, by rw [ht_]; exact hP, va_K.moved hW_.alike hK, hD⟩, hS.F ht_⟩) hS.2.2 (fk_get fk_cX11_row_1 6 rfl)
          have p_c_10 := if1_f (rfl : (if isK n_9 6 = true then (1 : Int32) else 0) = (if isK n_9 6 = true then 1 else 0)) c_10
          refine lv_bipush (v := (-3)) hx hb (fk_get fk_cX11_row_0 25 rfl) (by decide) ?_
          subst hQ
          have hpost : XI S ∧ Fr (fun j k => 39 ≤ j ∧ j < 45 ∧ k = 99) S S ∧ RowP n x w_ v_ ((-3) : Int32) S S := by
            first | exact ⟨hX, (Fr.rf : Fr (fun j k => 39 ≤ j ∧ j < 45 ∧ k = 99) S S), Or.inl ⟨by assumption, rfl, rfl⟩⟩ | exact ⟨hX, (Fr.rf : Fr (fun j k => 39 ≤ j ∧ j < 45 ∧ k = 99) S S), Or.inr (Or.inl ⟨by assumption, rfl, rfl⟩)⟩ | exact ⟨hX, (Fr.rf : Fr (fun j k => 39 ≤ j ∧ j < 45 ∧ k = 99) S S), Or.inr (Or.inr (Or.inl ⟨⟨_, hj_5, ej_5⟩, p_c_5, by assumption, rfl, rfl⟩))⟩ | exact ⟨hX, (Fr.rf : Fr (fun j k => 39 ≤ j ∧ j < 45 ∧ k = 99) S S), Or.inr (Or.inr (Or.inr ⟨j_5, n_9, wz, hj_5, ej_5, by rw [hg_i_5]; exact en_9, bn_9, by omega, ew, p_c_5, p_c_8, Or.inl ⟨p_c_10, rfl, rfl⟩⟩))⟩ | exact ⟨hX, (Fr.rf : Fr (fun j k => 39 ≤ j ∧ j < 45 ∧ k = 99) S S), Or.inr (Or.inr (Or.inr ⟨j_5, n_9, wz, hj_5, ej_5, by rw [hg_i_5]; exact en_9, bn_9, by omega, ew, p_c_5, p_c_8, Or.inr ⟨p_c_10, by rw [hg_i_5], by rw [hg_i_5]⟩⟩))⟩
          exact W.iret (v := (-3)) hx hb hr (fun t_ ht_ hW_ => ⟨⟨(-3), S, rfl, hpost, by rw [ht_]; exact hP, va_K.moved hW_.alike hK, hD⟩, hS.F ht_⟩) hS.2.2 (fk_get fk_cX11_row_0 26 rfl)
        rcases kq7 bn_9 with rfl | rfl | rfl | rfl | rfl | rfl | rfl
        · exact va_instNo (C := "LittleMore$Kind") hx hb hown (hT _ m1_91) (hE.2.2.2.2.2.2.1 0 6 (by omega) (by omega) (by omega) rfl) (va_recv hK hP (ci := 7) (q0 := 2 + 0) rfl (ix_at (lt71 (by omega)) (cX_knd (by omega)))) (fk_get fk_cX11_row_0 23 rfl) kk_44
        · exact va_instNo (C := "LittleMore$Strict") hx hb hown (hT _ m1_91) (hE.2.2.2.2.2.2.1 1 6 (by omega) (by omega) (by omega) rfl) (va_recv hK hP (ci := 10) (q0 := 2 + 1) rfl (ix_at (lt71 (by omega)) (cX_knd (by omega)))) (fk_get fk_cX11_row_0 23 rfl) kk_44
        · exact va_instNo (C := "LittleMore$Gentle") hx hb hown (hT _ m1_91) (hE.2.2.2.2.2.2.1 2 6 (by omega) (by omega) (by omega) rfl) (va_recv hK hP (ci := 6) (q0 := 2 + 2) rfl (ix_at (lt71 (by omega)) (cX_knd (by omega)))) (fk_get fk_cX11_row_0 23 rfl) kk_44
        · exact va_instNo (C := "LittleMore$Child") hx hb hown (hT _ m1_91) (hE.2.2.2.2.2.2.1 3 6 (by omega) (by omega) (by omega) rfl) (va_recv hK hP (ci := 2) (q0 := 2 + 3) rfl (ix_at (lt71 (by omega)) (cX_knd (by omega)))) (fk_get fk_cX11_row_0 23 rfl) kk_44
        · exact va_instNo (C := "LittleMore$Counting") hx hb hown (hT _ m1_91) (hE.2.2.2.2.2.2.1 4 6 (by omega) (by omega) (by omega) rfl) (va_recv hK hP (ci := 4) (q0 := 2 + 4) rfl (ix_at (lt71 (by omega)) (cX_knd (by omega)))) (fk_get fk_cX11_row_0 23 rfl) kk_44
        · exact va_instNo (C := "LittleMore$Leaving") hx hb hown (hT _ m1_91) (hE.2.2.2.2.2.2.1 5 6 (by omega) (by omega) (by omega) rfl) (va_recv hK hP (ci := 8) (q0 := 2 + 5) rfl (ix_at (lt71 (by omega)) (cX_knd (by omega)))) (fk_get fk_cX11_row_0 23 rfl) kk_44
        · exact va_instE hx hb hown (hT _ m1_91) (va_recv hK hP (ci := 12) (q0 := 2 + 6) rfl (ix_at (lt71 (by omega)) (cX_knd (by omega)))) (fk_get fk_cX11_row_0 23 rfl) kk_44
      have p_c_8 := if1_t hw_7 c_8
      refine lv_bipush (v := (-2)) hx hb (fk_get fk_cX11_row_0 19 rfl) (by decide) ?_
      subst hQ
      have hpost : XI S ∧ Fr (fun j k => 39 ≤ j ∧ j < 45 ∧ k = 99) S S ∧ RowP n x w_ v_ ((-2) : Int32) S S := by
        first | exact ⟨hX, (Fr.rf : Fr (fun j k => 39 ≤ j ∧ j < 45 ∧ k = 99) S S), Or.inl ⟨by assumption, rfl, rfl⟩⟩ | exact ⟨hX, (Fr.rf : Fr (fun j k => 39 ≤ j ∧ j < 45 ∧ k = 99) S S), Or.inr (Or.inl ⟨by assumption, rfl, rfl⟩)⟩ | exact ⟨hX, (Fr.rf : Fr (fun j k => 39 ≤ j ∧ j < 45 ∧ k = 99) S S), Or.inr (Or.inr (Or.inl ⟨⟨_, hj_5, ej_5⟩, p_c_5, by assumption, rfl, rfl⟩))⟩ | exact ⟨hX, (Fr.rf : Fr (fun j k => 39 ≤ j ∧ j < 45 ∧ k = 99) S S), Or.inr (Or.inr (Or.inr ⟨j_5, n_9, wz, hj_5, ej_5, by rw [hg_i_5]; exact en_9, bn_9, by omega, ew, p_c_5, p_c_8, Or.inl ⟨p_c_10, rfl, rfl⟩⟩))⟩ | exact ⟨hX, (Fr.rf : Fr (fun j k => 39 ≤ j ∧ j < 45 ∧ k = 99) S S), Or.inr (Or.inr (Or.inr ⟨j_5, n_9, wz, hj_5, ej_5, by rw [hg_i_5]; exact en_9, bn_9, by omega, ew, p_c_5, p_c_8, Or.inr ⟨p_c_10, by rw [hg_i_5], by rw [hg_i_5]⟩⟩))⟩
      exact W.iret (v := (-2)) hx hb hr (fun t_ ht_ hW_ => ⟨⟨(-2), S, rfl, hpost, by rw [ht_]; exact hP, va_K.moved hW_.alike hK, hD⟩, hS.F ht_⟩) hS.2.2 (fk_get fk_cX11_row_0 20 rfl)
    have p_c_5 := if1_t hw_4 c_5
    refine lv_iconst (v := (-1)) hx hb (fk_get fk_cX11_row_0 12 rfl) (by decide) ?_
    subst hQ
    have hpost : XI S ∧ Fr (fun j k => 39 ≤ j ∧ j < 45 ∧ k = 99) S S ∧ RowP n x w_ v_ ((-1) : Int32) S S := by
      first | exact ⟨hX, (Fr.rf : Fr (fun j k => 39 ≤ j ∧ j < 45 ∧ k = 99) S S), Or.inl ⟨by assumption, rfl, rfl⟩⟩ | exact ⟨hX, (Fr.rf : Fr (fun j k => 39 ≤ j ∧ j < 45 ∧ k = 99) S S), Or.inr (Or.inl ⟨by assumption, rfl, rfl⟩)⟩ | exact ⟨hX, (Fr.rf : Fr (fun j k => 39 ≤ j ∧ j < 45 ∧ k = 99) S S), Or.inr (Or.inr (Or.inl ⟨⟨_, hj_5, ej_5⟩, p_c_5, by assumption, rfl, rfl⟩))⟩ | exact ⟨hX, (Fr.rf : Fr (fun j k => 39 ≤ j ∧ j < 45 ∧ k = 99) S S), Or.inr (Or.inr (Or.inr ⟨j_5, n_9, wz, hj_5, ej_5, by rw [hg_i_5]; exact en_9, bn_9, by omega, ew, p_c_5, p_c_8, Or.inl ⟨p_c_10, rfl, rfl⟩⟩))⟩ | exact ⟨hX, (Fr.rf : Fr (fun j k => 39 ≤ j ∧ j < 45 ∧ k = 99) S S), Or.inr (Or.inr (Or.inr ⟨j_5, n_9, wz, hj_5, ej_5, by rw [hg_i_5]; exact en_9, bn_9, by omega, ew, p_c_5, p_c_8, Or.inr ⟨p_c_10, by rw [hg_i_5], by rw [hg_i_5]⟩⟩))⟩
    exact W.iret (v := (-1)) hx hb hr (fun t_ ht_ hW_ => ⟨⟨(-1), S, rfl, hpost, by rw [ht_]; exact hP, va_K.moved hW_.alike hK, hD⟩, hS.F ht_⟩) hS.2.2 (fk_get fk_cX11_row_0 13 rfl)
  rw [show va_rf none = .null from rfl]
  refine lv_astoreN (lv' := [(4, .null), (0, .ref (ad 0)), (1, .int (x)), (2, .int (w_)), (3, .int (v_))]) hx hb (fk_get fk_cX11_row_0 4 rfl) hl (by decide) rfl (fun ls hl => ?_)
  refine lv_aloadN hx hb (fk_get fk_cX11_row_0 5 rfl) (lv_at hl 0 rfl) ?_
  refine lv_ifnullN (tgt := 24) hx hb (fk_get fk_cX11_row_0 6 rfl) (by decide) ?_
  refine lv_iconst (v := (-1)) hx hb (fk_get fk_cX11_row_0 12 rfl) (by decide) ?_
  subst hQ
  have hpost : XI S ∧ Fr (fun j k => 39 ≤ j ∧ j < 45 ∧ k = 99) S S ∧ RowP n x w_ v_ ((-1) : Int32) S S := by
    first | exact ⟨hX, (Fr.rf : Fr (fun j k => 39 ≤ j ∧ j < 45 ∧ k = 99) S S), Or.inl ⟨by assumption, rfl, rfl⟩⟩ | exact ⟨hX, (Fr.rf : Fr (fun j k => 39 ≤ j ∧ j < 45 ∧ k = 99) S S), Or.inr (Or.inl ⟨by assumption, rfl, rfl⟩)⟩ | exact ⟨hX, (Fr.rf : Fr (fun j k => 39 ≤ j ∧ j < 45 ∧ k = 99) S S), Or.inr (Or.inr (Or.inl ⟨⟨_, hj_5, ej_5⟩, p_c_5, by assumption, rfl, rfl⟩))⟩ | exact ⟨hX, (Fr.rf : Fr (fun j k => 39 ≤ j ∧ j < 45 ∧ k = 99) S S), Or.inr (Or.inr (Or.inr ⟨j_5, n_9, wz, hj_5, ej_5, by rw [hg_i_5]; exact en_9, bn_9, by omega, ew, p_c_5, p_c_8, Or.inl ⟨p_c_10, rfl, rfl⟩⟩))⟩ | exact ⟨hX, (Fr.rf : Fr (fun j k => 39 ≤ j ∧ j < 45 ∧ k = 99) S S), Or.inr (Or.inr (Or.inr ⟨j_5, n_9, wz, hj_5, ej_5, by rw [hg_i_5]; exact en_9, bn_9, by omega, ew, p_c_5, p_c_8, Or.inr ⟨p_c_10, by rw [hg_i_5], by rw [hg_i_5]⟩⟩))⟩
  exact W.iret (v := (-1)) hx hb hr (fun t_ ht_ hW_ => ⟨⟨(-1), S, rfl, hpost, by rw [ht_]; exact hP, va_K.moved hW_.alike hK, hD⟩, hS.F ht_⟩) hS.2.2 (fk_get fk_cX11_row_0 13 rfl)
set_option maxHeartbeats 800000 in
set_option maxRecDepth 100000 in
theorem c_x11_takenE (l : Launch) (G : GG) (ad : Nat → Nat) (S : FS) (sz : Nat) (n : Nat) (x : Int32) (w_ : Int32) (hn : fF S (9 + 0) 3 = nI n) (hn6 : n ≤ 6) (hX : XI S) : Met l yX11_taken (Cond.code yX11_taken cX11_taken 4 (some .int) :: TBL) ({ frames := 3, cells := 0, slots := 0, locals := 90 } : Room) (PcE G (wX G ad S) sz [.ref (ad 0), .int (x), .int (w_)]) (vp_Si (fun (r : Int32) => TakP n x w_ r S)) 0 0 (fun _ => False) := by
  refine Met.ofW (cc := cX11_taken) (maxL := 4) (ret := (some .int)) (by decide) rfl ?_
  intro p e s m args below meth c₀ s₁ B hml hv
  obtain ⟨rfl, hsz, hP, hK, hD0, hE⟩ := hv
  have hx := B.exec
  have hb := B.bytes
  have hr := B.returns
  have hT : ∀ w ∈ TBL, w.before ([.ref (ad 0), .int (x), .int (w_)] : List Value).toArray s = true := fun w h => atoms_spec (ws := Cond.code yX11_taken cX11_taken 4 (some .int) :: TBL) B.pre w (List.mem_cons_of_mem _ h)
  have hown : s.vm.findClass "LittleMore" = some m.cls := findClass_of_methodNamed B.named
  have hlocks := B.notSynchronized
  have hD := hD0
  subst hsz
  have hFc : ∀ q, va_A (wX G ad S) s.heap.size q → va_A (wX G ad S) s.heap.size q := fun _ h => h
  have hS : va_S (va_A (wX G ad S) s.heap.size) s.heap s.heap [] := va_S.rf
  have hP : va_P G.1 vwCl (wX G ad S) s.heap := hP
  have hl := lv_entry ([.ref (ad 0), .int (x), .int (w_)]) (n := 4) (Nat.le_of_ble_eq_true rfl)
  rw [lg_entry_eq]
  generalize (lg_sl ([.ref (ad 0), .int (x), .int (w_)]) ++ List.replicate (4 - (lg_sl ([.ref (ad 0), .int (x), .int (w_)])).length) Slot.unset).toArray = ls at hl ⊢
  have hl : lv_has ls 4 [(0, .ref (ad 0)), (1, .int (x)), (2, .int (w_))] := hl
  refine W_abs (fun Q hQ => ?_)
  generalize ([.ref (ad 0), .int (x), .int (w_)] : List Value).toArray = args at hT hQ ⊢
  refine lv_iload_n hx hb (fk_get fk_cX11_taken_0 0 rfl) rfl (lv_at hl 2 rfl) ?_
  refine lv_iconst (v := 0) hx hb (fk_get fk_cX11_taken_0 1 rfl) (by decide) ?_
  refine lv_bipush (v := 6) hx hb (fk_get fk_cX11_taken_0 2 rfl) (by decide) ?_
  refine vp_callSi (W.runS (As := [.int (w_), .int (0), .int (6)]) (rest := []) ⟨hx, hb, hml, hown, hT⟩ (c_xisOutside l (w_) (0) (6) ) (tS 3 hT m2_108 m2_109 m1_1 m2_110 rfl rfl (by decide +kernel) ⟨Nat.le_of_ble_eq_true rfl, Nat.le_of_ble_eq_true rfl⟩) ⟨PcN_blind, PcN_of _ _ _⟩ rfl rfl hl.1 rfl (lv_room (Nat.le_of_ble_eq_true rfl)) (fk_get fk_cX11_taken_0 3 rfl) ⟨Nat.zero_le _, Nat.zero_le _⟩) (fun r_1 hw_2 => ?_)
  try dsimp only at hw_2
  refine lv_if_eq (tgt := 13) hx hb (fk_get fk_cX11_taken_0 4 rfl) (by decide) (fun c_3 => ?_) (fun c_3 => ?_)
  · have p_c_3 := if1_f hw_2 c_3
    refine lv_aload_n hx hb (fk_get fk_cX11_taken_0 7 rfl) rfl (lv_at hl 0 rfl) ?_
    refine va_get (D := G.1) (ci := 13) (v := .ref (ad (9 + 0))) (C := RX11) (T := TX11) (N := 11) hx hb hT inX11 hown hK hP 0 (ix_at (lt71 (by omega)) (cX_0 G ad S)) rfl 1 (by decide) (hT _ m2_70) (fun _ h9 => h9) rfl (fk_get fk_cX11_taken_0 8 rfl) ?_
    refine lv_iload_n hx hb (fk_get fk_cX11_taken_0 9 rfl) rfl (lv_at hl 1 rfl) ?_
    refine va_csq (W.runV (As := [.int (x)]) (rest := []) ⟨hx, hb, hml, hown, hT⟩ (c_x7_at l G ad S s.heap.size (0) (n) (x) ((by decide : 0 < 3)) (hn) (hn6) (hX)) (tV 1 hT m2_120 m2_121 m2_122 m1_9 m2_123 rfl rfl (by decide +kernel) ⟨Nat.le_of_ble_eq_true rfl, Nat.le_of_ble_eq_true rfl⟩) ⟨PcW_blind, va_recv hK hP (ci := 9) (q0 := (9 + 0)) rfl (ix_at (lt71 (by omega)) (cX_shop (pk_shop (by decide : 0 < 3)))), PcW_of hP hK hD _⟩ rfl rfl hl.1 rfl (lv_room (Nat.le_of_ble_eq_true rfl)) (fk_get fk_cX11_taken_0 10 rfl) ⟨Nat.zero_le _, Nat.zero_le _⟩) (fun r_4 hw_5 => ?_)
    try dsimp only at hw_5
    rcases hw_5 with ⟨j_18, hj_18, ej_18, rfl⟩ | ⟨rfl, hn_18⟩
    · rw [show va_rf (some (ad (21 + 6 * 0 + j_18))) = .ref (ad (21 + 6 * 0 + j_18)) from rfl]
      generalize hg_i_18 : 21 + 6 * 0 + j_18 = i_18
      have hp_i_18 : pk i_18 = 7 := by rw [← hg_i_18]; exact pk_c (by decide : 0 < 3) (show j_18 < 6 by omega)
      have hb_i_18 := pk7 hp_i_18
      refine lv_astore_n (lv' := [(3, .ref (ad i_18)), (0, .ref (ad 0)), (1, .int (x)), (2, .int (w_))]) hx hb (fk_get fk_cX11_taken_0 11 rfl) rfl hl (by decide) rfl (fun ls hl => ?_)
      refine lv_aload_n hx hb (fk_get fk_cX11_taken_0 12 rfl) rfl (lv_at hl 0 rfl) ?_
      refine lv_ifnonnull (tgt := 29) hx hb (fk_get fk_cX11_taken_0 13 rfl) (by decide) ?_
      refine lv_aload_n hx hb (fk_get fk_cX11_taken_0 16 rfl) rfl (lv_at hl 0 rfl) ?_
      obtain ⟨n_6, en_6, bn_6⟩ := XI.kin hX hp_i_18
      refine va_get (D := G.1) (ci := 5) (v := va_rf ((fR S i_18 2).map ad)) (C := RX3) (T := TX3) (N := 10) hx hb hT inX3 hown hK hP i_18 (ix_at (lt71 (by omega)) (cX_cust hp_i_18)) rfl 2 (by decide) (hT _ m1_144) (fun _ h9 => h9) rfl (fk_get fk_cX11_taken_0 17 rfl) ?_
      rw [show va_rf ((fR S i_18 2).map ad) = .ref (ad (2 + n_6)) from by rw [en_6]; rfl]
      refine lv_iload_n hx hb (fk_get fk_cX11_taken_0 18 rfl) rfl (lv_at hl 3 rfl) ?_
      refine vp_callSi (W.runS (As := [.ref (ad (2 + n_6)), .int (w_)]) (rest := []) ⟨hx, hb, hml, hown, hT⟩ (c_x11_isOfKind l G ad S s.heap.size (n_6) (w_) (bn_6) (hX)) (tS 2 hT m5_65 m5_66 m1_1 m5_67 rfl rfl (by decide +kernel) ⟨Nat.le_of_ble_eq_true rfl, Nat.le_of_ble_eq_true rfl⟩) ⟨PcE_blind, PcE_of hP hK hD hE hS (fun q h => hFc q h) _⟩ rfl rfl hl.1 rfl (lv_room (Nat.le_of_ble_eq_true rfl)) (fk_get fk_cX11_taken_0 19 rfl) ⟨Nat.zero_le _, Nat.zero_le _⟩) (fun r_7 hw_8 => ?_)
      try dsimp only at hw_8
      refine lv_if_eq (tgt := 50) hx hb (fk_get fk_cX11_taken_0 20 rfl) (by decide) (fun c_9 => ?_) (fun c_9 => ?_)
      · refine lv_bipush (v := (-12)) hx hb (fk_get fk_cX11_taken_0 25 rfl) (by decide) ?_
        subst hQ
        have hpost : TakP n x w_ ((-12) : Int32) S := by
          obtain ⟨k_, hk_, ek_⟩ := out_n (b := 6) p_c_3 (by decide)
          have hi_ := hw_8.2 k_ (by omega) ek_
          refine Or.inr (Or.inr ⟨j_18, n_6, k_, hj_18, ej_18, by rw [hg_i_18]; exact en_6, bn_6, by omega, ek_, ?_⟩)
          by_cases hb_ : isK n_6 k_ = true
          · rw [if_pos hb_] at hi_
            first | (rw [if_pos hb_]; done) | exact absurd (c_9.symm.trans hi_) (by decide)
          · rw [if_neg hb_] at hi_
            first | (rw [if_neg hb_]; done) | exact absurd hi_ c_9
        exact W.iret (v := (-12)) hx hb hr (fun t_ ht_ hW_ => ⟨(-12), rfl, hpost, ht_⟩) (fun q h => by cases h) (fk_get fk_cX11_taken_0 26 rfl)
      refine lv_aload_n hx hb (fk_get fk_cX11_taken_0 21 rfl) rfl (lv_at hl 0 rfl) ?_
      refine va_get (D := G.1) (ci := 5) (v := va_rf ((fR S i_18 2).map ad)) (C := RX3) (T := TX3) (N := 10) hx hb hT inX3 hown hK hP i_18 (ix_at (lt71 (by omega)) (cX_cust hp_i_18)) rfl 2 (by decide) (hT _ m1_144) (fun _ h9 => h9) rfl (fk_get fk_cX11_taken_0 22 rfl) ?_
      rw [show va_rf ((fR S i_18 2).map ad) = .ref (ad (2 + n_6)) from by rw [en_6]; rfl]
      have kk_44 : W p l e ({ frames := 3, cells := 0, slots := 0, locals := 90 } : Room) s m args below meth c₀ s.heap [] 0 0 Q (F0 m 47 ls [.int (fF S (2 + n_6) 0)]) := by
        rw [XI.knum hX bn_6]
        refine lv_goto (tgt := 52) hx hb (fk_get fk_cX11_taken_0 24 rfl) (by decide) ?_
        subst hQ
        have hpost : TakP n x w_ ((nI n_6) : Int32) S := by
          obtain ⟨k_, hk_, ek_⟩ := out_n (b := 6) p_c_3 (by decide)
          have hi_ := hw_8.2 k_ (by omega) ek_
          refine Or.inr (Or.inr ⟨j_18, n_6, k_, hj_18, ej_18, by rw [hg_i_18]; exact en_6, bn_6, by omega, ek_, ?_⟩)
          by_cases hb_ : isK n_6 k_ = true
          · rw [if_pos hb_] at hi_
            first | (rw [if_pos hb_]; done) | exact absurd (c_9.symm.trans hi_) (by decide)
          · rw [if_neg hb_] at hi_
            first | (rw [if_neg hb_]; done) | exact absurd hi_ c_9
        exact W.iret (v := (nI n_6)) hx hb hr (fun t_ ht_ hW_ => ⟨(nI n_6), rfl, hpost, ht_⟩) (fun q h => by cases h) (fk_get fk_cX11_taken_0 26 rfl)
      rcases kq7 bn_6 with rfl | rfl | rfl | rfl | rfl | rfl | rfl
      · exact va_get (D := G.1) (ci := 7) (v := .int (fF S (2 + 0) 0)) (C := RX5) (T := TX5) (N := 1) hx hb hT inX5 hown hK hP (2 + 0) (ix_at (lt71 (by omega)) (cX_knd (by omega))) rfl 0 (by decide) (hT _ m1_46) (fun _ h9 => h9) rfl (fk_get fk_cX11_taken_0 23 rfl) kk_44
      · exact va_get (D := G.1) (ci := 10) (v := .int (fF S (2 + 1) 0)) (C := RX8) (T := TX8) (N := 1) hx hb hT inX8 hown hK hP (2 + 1) (ix_at (lt71 (by omega)) (cX_knd (by omega))) rfl 0 (by decide) (hT _ m1_46) (fun _ h9 => h9) rfl (fk_get fk_cX11_taken_0 23 rfl) kk_44
      · exact va_get (D := G.1) (ci := 6) (v := .int (fF S (2 + 2) 0)) (C := RX4) (T := TX4) (N := 1) hx hb hT inX4 hown hK hP (2 + 2) (ix_at (lt71 (by omega)) (cX_knd (by omega))) rfl 0 (by decide) (hT _ m1_46) (fun _ h9 => h9) rfl (fk_get fk_cX11_taken_0 23 rfl) kk_44
      · exact va_get (D := G.1) (ci := 2) (v := .int (fF S (2 + 3) 0)) (C := RX0) (T := TX0) (N := 1) hx hb hT inX0 hown hK hP (2 + 3) (ix_at (lt71 (by omega)) (cX_knd (by omega))) rfl 0 (by decide) (hT _ m1_46) (fun _ h9 => h9) rfl (fk_get fk_cX11_taken_0 23 rfl) kk_44
      · exact va_get (D := G.1) (ci := 4) (v := .int (fF S (2 + 4) 0)) (C := RX2) (T := TX2) (N := 1) hx hb hT inX2 hown hK hP (2 + 4) (ix_at (lt71 (by omega)) (cX_knd (by omega))) rfl 0 (by decide) (hT _ m1_46) (fun _ h9 => h9) rfl (fk_get fk_cX11_taken_0 23 rfl) kk_44
      · exact va_get (D := G.1) (ci := 8) (v := .int (fF S (2 + 5) 0)) (C := RX6) (T := TX6) (N := 1) hx hb hT inX6 hown hK hP (2 + 5) (ix_at (lt71 (by omega)) (cX_knd (by omega))) rfl 0 (by decide) (hT _ m1_46) (fun _ h9 => h9) rfl (fk_get fk_cX11_taken_0 23 rfl) kk_44
      · exact va_get (D := G.1) (ci := 12) (v := .int (fF S (2 + 6) 0)) (C := RX10) (T := TX10) (N := 1) hx hb hT inX10 hown hK hP (2 + 6) (ix_at (lt71 (by omega)) (cX_knd (by omega))) rfl 0 (by decide) (hT _ m1_46) (fun _ h9 => h9) rfl (fk_get fk_cX11_taken_0 23 rfl) kk_44
    rw [show va_rf none = .null from rfl]
    refine lv_astore_nN (lv' := [(3, .null), (0, .ref (ad 0)), (1, .int (x)), (2, .int (w_))]) hx hb (fk_get fk_cX11_taken_0 11 rfl) rfl hl (by decide) rfl (fun ls hl => ?_)
    refine lv_aload_nN hx hb (fk_get fk_cX11_taken_0 12 rfl) rfl (lv_at hl 0 rfl) ?_
    refine lv_ifnonnullN hx hb (fk_get fk_cX11_taken_0 13 rfl) ?_
    refine lv_bipush (v := (-11)) hx hb (fk_get fk_cX11_taken_0 14 rfl) (by decide) ?_
    subst hQ
    have hpost : TakP n x w_ ((-11) : Int32) S := by
      exact Or.inr (Or.inl ⟨p_c_3, hn_18, rfl⟩)
    exact W.iret (v := (-11)) hx hb hr (fun t_ ht_ hW_ => ⟨(-11), rfl, hpost, ht_⟩) (fun q h => by cases h) (fk_get fk_cX11_taken_0 15 rfl)
  have p_c_3 := if1_t hw_2 c_3
  refine lv_bipush (v := (-2)) hx hb (fk_get fk_cX11_taken_0 5 rfl) (by decide) ?_
  subst hQ
  have hpost : TakP n x w_ ((-2) : Int32) S := by
    exact Or.inl ⟨p_c_3, rfl⟩
  exact W.iret (v := (-2)) hx hb hr (fun t_ ht_ hW_ => ⟨(-2), rfl, hpost, ht_⟩) (fun q h => by cases h) (fk_get fk_cX11_taken_0 6 rfl)
set_option maxHeartbeats 800000 in
set_option maxRecDepth 100000 in
theorem c_x11_tapeE (l : Launch) (G : GG) (ad : Nat → Nat) (S : FS) (sz : Nat) (n : Nat) (tt : Int32) (so : Int32) (x : Int32) (hn : fF S (9 + 0) 3 = nI n) (hn6 : n ≤ 6) (hX : XI S) : Met l yX11_tape (Cond.code yX11_tape cX11_tape 5 (some .int) :: TBL) ({ frames := 3, cells := 0, slots := 0, locals := 92 } : Room) (PcW G (wX G ad S) sz [.ref (ad 0), .int (tt), .int (so), .int (x)]) (va_Qi (fun (r : Int32) (S' : FS) => XI S' ∧ Fr (fun j k => ((j = 62 ∨ j = 63) ∧ k = 99) ∨ (65 ≤ j ∧ j < 71 ∧ k = 98)) S S' ∧ TapP tt so x r S S') (fun S' t => BW G (va_A (wX G ad S) sz) (wX G ad S') t) (va_A (wX G ad S) sz)) 0 0 (va_A (wX G ad S) sz) := by
  refine Met.ofW (cc := cX11_tape) (maxL := 5) (ret := (some .int)) (by decide) rfl ?_
  intro p e s m args below meth c₀ s₁ B hml hv
  obtain ⟨rfl, hsz, hP, hK, hD0⟩ := hv
  have hx := B.exec
  have hb := B.bytes
  have hr := B.returns
  have hT : ∀ w ∈ TBL, w.before ([.ref (ad 0), .int (tt), .int (so), .int (x)] : List Value).toArray s = true := fun w h => atoms_spec (ws := Cond.code yX11_tape cX11_tape 5 (some .int) :: TBL) B.pre w (List.mem_cons_of_mem _ h)
  have hown : s.vm.findClass "LittleMore" = some m.cls := findClass_of_methodNamed B.named
  have hlocks := B.notSynchronized
  subst hsz
  have hD := hD0.self (sz := s.heap.size)
  generalize hAe : va_A (wX G ad S) s.heap.size = A at hD ⊢
  have hA : ∀ q : Nat, s.heap.size ≤ q → A q := fun q h => by rw [← hAe]; exact Or.inr h
  have hS : va_S A s.heap s.heap [] := va_S.rf
  have hP : va_P G.1 vwCl (wX G ad S) s.heap := hP
  have hl := lv_entry ([.ref (ad 0), .int (tt), .int (so), .int (x)]) (n := 5) (Nat.le_of_ble_eq_true rfl)
  rw [lg_entry_eq]
  generalize (lg_sl ([.ref (ad 0), .int (tt), .int (so), .int (x)]) ++ List.replicate (5 - (lg_sl ([.ref (ad 0), .int (tt), .int (so), .int (x)])).length) Slot.unset).toArray = ls at hl ⊢
  have hl : lv_has ls 5 [(0, .ref (ad 0)), (1, .int (tt)), (2, .int (so)), (3, .int (x))] := hl
  refine W_abs (fun Q hQ => ?_)
  generalize ([.ref (ad 0), .int (tt), .int (so), .int (x)] : List Value).toArray = args at hT hQ ⊢
  refine lv_iload_n hx hb (fk_get fk_cX11_tape_0 0 rfl) rfl (lv_at hl 1 rfl) ?_
  refine vp_callSi (W.runS (As := [.int (tt)]) (rest := []) ⟨hx, hb, hml, hown, hT⟩ (c_xisNoTape l (tt) ) (tS 1 hT m4_102 m4_103 m1_1 m4_104 rfl rfl (by decide +kernel) ⟨Nat.le_of_ble_eq_true rfl, Nat.le_of_ble_eq_true rfl⟩) ⟨PcN_blind, PcN_of _ _ _⟩ rfl rfl hl.1 rfl (lv_room (Nat.le_of_ble_eq_true rfl)) (fk_get fk_cX11_tape_0 1 rfl) ⟨Nat.zero_le _, Nat.zero_le _⟩) (fun r_1 hw_2 => ?_)
  try dsimp only at hw_2
  refine lv_if_eq (tgt := 9) hx hb (fk_get fk_cX11_tape_0 2 rfl) (by decide) (fun c_3 => ?_) (fun c_3 => ?_)
  · have p_c_3 := if1_f hw_2 c_3
    obtain ⟨ta, hta, et⟩ := out_6 p_c_3
    refine lv_iload_n hx hb (fk_get fk_cX11_tape_0 5 rfl) rfl (lv_at hl 2 rfl) ?_
    refine lv_iconst (v := (-1)) hx hb (fk_get fk_cX11_tape_0 6 rfl) (by decide) ?_
    refine lv_iconst (v := 4) hx hb (fk_get fk_cX11_tape_0 7 rfl) (by decide) ?_
    refine vp_callSi (W.runS (As := [.int (so), .int ((-1)), .int (4)]) (rest := []) ⟨hx, hb, hml, hown, hT⟩ (c_xisOutside l (so) ((-1)) (4) ) (tS 3 hT m2_108 m2_109 m1_1 m2_110 rfl rfl (by decide +kernel) ⟨Nat.le_of_ble_eq_true rfl, Nat.le_of_ble_eq_true rfl⟩) ⟨PcN_blind, PcN_of _ _ _⟩ rfl rfl hl.1 rfl (lv_room (Nat.le_of_ble_eq_true rfl)) (fk_get fk_cX11_tape_0 8 rfl) ⟨Nat.zero_le _, Nat.zero_le _⟩) (fun r_4 hw_5 => ?_)
    try dsimp only at hw_5
    refine lv_if_eq (tgt := 21) hx hb (fk_get fk_cX11_tape_0 9 rfl) (by decide) (fun c_6 => ?_) (fun c_6 => ?_)
    · have p_c_6 := if1_f hw_5 c_6
      refine lv_iload_n hx hb (fk_get fk_cX11_tape_0 12 rfl) rfl (lv_at hl 2 rfl) ?_
      refine lv_iconst (v := (-1)) hx hb (fk_get fk_cX11_tape_0 13 rfl) (by decide) ?_
      refine lv_icmp_ne (tgt := 30) hx hb (fk_get fk_cX11_tape_0 14 rfl) (by decide) (fun c_7 => ?_) (fun c_7 => ?_)
      · refine lv_iload_n hx hb (fk_get fk_cX11_tape_0 17 rfl) rfl (lv_at hl 3 rfl) ?_
        refine lv_istore (lv' := [(4, .int (x)), (0, .ref (ad 0)), (1, .int (tt)), (2, .int (so)), (3, .int (x))]) hx hb (fk_get fk_cX11_tape_0 18 rfl) hl (by decide) rfl (fun ls hl => ?_)
        refine lv_iload hx hb (fk_get fk_cX11_tape_0 19 rfl) (lv_at hl 0 rfl) ?_
        refine lv_bipush (v := 60) hx hb (fk_get fk_cX11_tape_0 20 rfl) (by decide) ?_
        refine lv_icmp_le (tgt := 43) hx hb (fk_get fk_cX11_tape_0 21 rfl) (by decide) (fun c_8 => ?_) (fun c_8 => ?_)
        · refine lv_iload hx hb (fk_get fk_cX11_tape_0 24 rfl) (lv_at hl 0 rfl) ?_
          refine lv_if_ge (tgt := 51) hx hb (fk_get fk_cX11_tape_0 25 rfl) (by decide) (fun c_9 => ?_) (fun c_9 => ?_)
          · refine lv_aload_n hx hb (fk_get fk_cX11_tape_0 28 rfl) rfl (lv_at hl 1 rfl) ?_
            refine va_get (D := G.1) (ci := 13) (v := .ref (ad 62)) (C := RX11) (T := TX11) (N := 11) hx hb hT inX11 hown hK hP 0 (ix_at (lt71 (by omega)) (cX_0 G ad S)) rfl 6 (by decide) (hT _ m2_75) (fun _ h9 => h9) rfl (fk_get fk_cX11_tape_0 29 rfl) ?_
            refine lv_iload_n hx hb (fk_get fk_cX11_tape_0 30 rfl) rfl (lv_at hl 2 rfl) ?_
            refine lv_iload_n hx hb (fk_get fk_cX11_tape_0 31 rfl) rfl (lv_at hl 3 rfl) ?_
            refine r_iast hx hb hK hP hD hS 62 0 (ix_at (lt71 (by omega)) (cX_arr (show isA 62 0 6 from by decide))) rfl (j := ta) (et) (by omega) (by decide) (fk_get fk_cX11_tape_1 0 rfl) (fun H locs hP hD hS => ?_)
            rw [pX_arr (G := G) (ad := ad) (S := S) (lt71 (by omega)) (show isA 62 0 6 from by decide) (upd (fA S 62) ta (so))] at hP hD
            have hX_10 : XI (setA S 62 (upd (fA S 62) ta (so))) := XI.sA hX _ (by omega)
            have hF_11 : Fr (fun j k => ((j = 62 ∨ j = 63) ∧ k = 99) ∨ (65 ≤ j ∧ j < 71 ∧ k = 98)) S (setA S 62 (upd (fA S 62) ta (so))) := Fr.sA (Fr.rf : Fr (fun j k => ((j = 62 ∨ j = 63) ∧ k = 99) ∨ (65 ≤ j ∧ j < 71 ∧ k = 98)) S S) (by omega)
            refine lv_aload_n hx hb (fk_get fk_cX11_tape_1 1 rfl) rfl (lv_at hl 1 rfl) ?_
            refine va_get (D := G.1) (ci := 13) (v := .ref (ad 63)) (C := RX11) (T := TX11) (N := 11) hx hb hT inX11 hown hK hP 0 (ix_at (lt71 (by omega)) (cX_0 G ad (setA S 62 (upd (fA S 62) ta (so))))) rfl 7 (by decide) (hT _ m2_76) (fun _ h9 => h9) rfl (fk_get fk_cX11_tape_1 2 rfl) ?_
            refine lv_iload_n hx hb (fk_get fk_cX11_tape_1 3 rfl) rfl (lv_at hl 2 rfl) ?_
            refine lv_iload hx hb (fk_get fk_cX11_tape_1 4 rfl) (lv_at hl 0 rfl) ?_
            refine r_iast hx hb hK hP hD hS 63 0 (ix_at (lt71 (by omega)) (cX_arr (show isA 63 0 6 from by decide))) rfl (j := ta) (et) (by omega) (by decide) (fk_get fk_cX11_tape_1 5 rfl) (fun H locs hP hD hS => ?_)
            rw [pX_arr (G := G) (ad := ad) (S := (setA S 62 (upd (fA S 62) ta (so)))) (lt71 (by omega)) (show isA 63 0 6 from by decide) (upd (fA (setA S 62 (upd (fA S 62) ta (so))) 63) ta (x))] at hP hD
            have hX_12 : XI (setA (setA S 62 (upd (fA S 62) ta (so))) 63 (upd (fA (setA S 62 (upd (fA S 62) ta (so))) 63) ta (x))) := XI.lput hX_10 (by first | exact ⟨0, rfl, by omega⟩ | exact len60 (by first | assumption | exact Int32.not_lt.mpr (by assumption)) (by first | assumption | exact Int32.not_lt.mpr (by assumption)))
            have hF_13 : Fr (fun j k => ((j = 62 ∨ j = 63) ∧ k = 99) ∨ (65 ≤ j ∧ j < 71 ∧ k = 98)) S (setA (setA S 62 (upd (fA S 62) ta (so))) 63 (upd (fA (setA S 62 (upd (fA S 62) ta (so))) 63) ta (x))) := Fr.sA hF_11 (by omega)
            refine lv_aload_n hx hb (fk_get fk_cX11_tape_1 6 rfl) rfl (lv_at hl 1 rfl) ?_
            refine va_get (D := G.1) (ci := 13) (v := .ref (ad 64)) (C := RX11) (T := TX11) (N := 11) hx hb hT inX11 hown hK hP 0 (ix_at (lt71 (by omega)) (cX_0 G ad (setA (setA S 62 (upd (fA S 62) ta (so))) 63 (upd (fA (setA S 62 (upd (fA S 62) ta (so))) 63) ta (x))))) rfl 8 (by decide) (hT _ m2_77) (fun _ h9 => h9) rfl (fk_get fk_cX11_tape_1 7 rfl) ?_
            refine lv_iload_n hx hb (fk_get fk_cX11_tape_1 8 rfl) rfl (lv_at hl 2 rfl) ?_
            refine x_itm hx hb hK hP (k := ta) (by omega) (et) (fk_get fk_cX11_tape_1 9 rfl) ?_
            refine lv_lconst (v := 0) hx hb (fk_get fk_cX11_tape_1 10 rfl) (by decide) ?_
            have hFc := va_self hD hS hA
            refine va_callv (va_runS (As := [.ref (ad (65 + ta)), .long (0)]) (rest := []) ⟨hx, hb, hml, hown, hT⟩ (c_jfillL l G ad (setA (setA S 62 (upd (fA S 62) ta (so))) 63 (upd (fA (setA S 62 (upd (fA S 62) ta (so))) 63) ta (x))) H.size (ta) (0) ((show ta < 6 from by omega)) (hX_12)) (tS 2 hT m5_76 m5_77 m1_16 m5_78 rfl rfl (by decide +kernel) ⟨Nat.le_of_ble_eq_true rfl, Nat.le_of_ble_eq_true rfl⟩) ⟨PcW_blind, PcW_of hP hK hD _⟩ rfl rfl hl.1 rfl (lv_room (Nat.le_of_ble_eq_true rfl)) (fk_get fk_cX11_tape_1 11 rfl) ⟨Nat.zero_le _, Nat.zero_le _⟩) hS (fun q _ h => hFc q h) hFc (fun S_16 t_ H locs ht_ hvm_ hw_15 hB_ hz_ hk_ hS => ?_)
            obtain ⟨hP, -, hD1_⟩ := hB_
            rw [ht_] at hP
            have hD : va_D A (wX G ad S_16) := hD1_.weaken (fun k q _ h => hFc q.1 h)
            try dsimp only at hw_15
            obtain ⟨hX_17, hF_18_, hw_15⟩ := hw_15
            have hF_18 : Fr (fun j k => ((j = 62 ∨ j = 63) ∧ k = 99) ∨ (65 ≤ j ∧ j < 71 ∧ k = 98)) S S_16 := Fr.trans hF_13 (Fr.mono hF_18_ (fun j k h => by omega))
            refine lv_iconst (v := 1) hx hb (fk_get fk_cX11_tape_1 12 rfl) (by decide) ?_
            subst hQ
            have hpost : XI S_16 ∧ Fr (fun j k => ((j = 62 ∨ j = 63) ∧ k = 99) ∨ (65 ≤ j ∧ j < 71 ∧ k = 98)) S S_16 ∧ TapP tt so x (1 : Int32) S S_16 := by
              first | exact ⟨hX_17, hF_18, Or.inl ⟨p_c_3, rfl, rfl⟩⟩ | exact ⟨hX_17, hF_18, Or.inr (Or.inl ⟨p_c_3, p_c_6, rfl, rfl⟩)⟩ | exact ⟨hX_17, hF_18, Or.inr (Or.inr (Or.inl ⟨p_c_3, p_c_6, c_7, c_8, rfl, rfl⟩))⟩ | exact ⟨hX_17, hF_18, Or.inr (Or.inr (Or.inr (Or.inl ⟨p_c_3, p_c_6, c_7, c_8, Int32.not_le.mp c_9, rfl, rfl⟩)))⟩ | exact ⟨hX_17, hF_18, Or.inr (Or.inr (Or.inr (Or.inr ⟨ta, _, hta, et, p_c_6, Or.inr ⟨c_7, c_8, Int32.not_lt.mpr c_9, rfl⟩, rfl, (Fr.A hF_18_ (lt71 (by omega)) (fun q => by omega)).trans rfl, (Fr.A hF_18_ (lt71 (by omega)) (fun q => by omega)).trans rfl, hw_15, fun u hu hne => (Fr.L hF_18_ (lt71 (by omega)) (fun q => by omega)).trans rfl⟩)))⟩ | exact ⟨hX_17, hF_18, Or.inr (Or.inr (Or.inr (Or.inr ⟨ta, _, hta, et, p_c_6, Or.inl ⟨c_7, rfl⟩, rfl, (Fr.A hF_29_ (lt71 (by omega)) (fun q => by omega)).trans rfl, (Fr.A hF_29_ (lt71 (by omega)) (fun q => by omega)).trans rfl, hw_26, fun u hu hne => (Fr.L hF_29_ (lt71 (by omega)) (fun q => by omega)).trans rfl⟩)))⟩
            exact W.iret (v := 1) hx hb hr (fun t_ ht_ hW_ => ⟨⟨1, S_16, rfl, hpost, by rw [ht_]; exact hP, va_K.moved hW_.alike hK, hD⟩, hS.F ht_⟩) hS.2.2 (fk_get fk_cX11_tape_1 13 rfl)
          refine lv_bipush (v := (-14)) hx hb (fk_get fk_cX11_tape_0 26 rfl) (by decide) ?_
          subst hQ
          have hpost : XI S ∧ Fr (fun j k => ((j = 62 ∨ j = 63) ∧ k = 99) ∨ (65 ≤ j ∧ j < 71 ∧ k = 98)) S S ∧ TapP tt so x ((-14) : Int32) S S := by
            first | exact ⟨hX, (Fr.rf : Fr (fun j k => ((j = 62 ∨ j = 63) ∧ k = 99) ∨ (65 ≤ j ∧ j < 71 ∧ k = 98)) S S), Or.inl ⟨p_c_3, rfl, rfl⟩⟩ | exact ⟨hX, (Fr.rf : Fr (fun j k => ((j = 62 ∨ j = 63) ∧ k = 99) ∨ (65 ≤ j ∧ j < 71 ∧ k = 98)) S S), Or.inr (Or.inl ⟨p_c_3, p_c_6, rfl, rfl⟩)⟩ | exact ⟨hX, (Fr.rf : Fr (fun j k => ((j = 62 ∨ j = 63) ∧ k = 99) ∨ (65 ≤ j ∧ j < 71 ∧ k = 98)) S S), Or.inr (Or.inr (Or.inl ⟨p_c_3, p_c_6, c_7, c_8, rfl, rfl⟩))⟩ | exact ⟨hX, (Fr.rf : Fr (fun j k => ((j = 62 ∨ j = 63) ∧ k = 99) ∨ (65 ≤ j ∧ j < 71 ∧ k = 98)) S S), Or.inr (Or.inr (Or.inr (Or.inl ⟨p_c_3, p_c_6, c_7, c_8, Int32.not_le.mp c_9, rfl, rfl⟩)))⟩ | exact ⟨hX, (Fr.rf : Fr (fun j k => ((j = 62 ∨ j = 63) ∧ k = 99) ∨ (65 ≤ j ∧ j < 71 ∧ k = 98)) S S), Or.inr (Or.inr (Or.inr (Or.inr ⟨ta, _, hta, et, p_c_6, Or.inr ⟨c_7, c_8, Int32.not_lt.mpr c_9, rfl⟩, rfl, (Fr.A hF_18_ (lt71 (by omega)) (fun q => by omega)).trans rfl, (Fr.A hF_18_ (lt71 (by omega)) (fun q => by omega)).trans rfl, hw_15, fun u hu hne => (Fr.L hF_18_ (lt71 (by omega)) (fun q => by omega)).trans rfl⟩)))⟩ | exact ⟨hX, (Fr.rf : Fr (fun j k => ((j = 62 ∨ j = 63) ∧ k = 99) ∨ (65 ≤ j ∧ j < 71 ∧ k = 98)) S S), Or.inr (Or.inr (Or.inr (Or.inr ⟨ta, _, hta, et, p_c_6, Or.inl ⟨c_7, rfl⟩, rfl, (Fr.A hF_29_ (lt71 (by omega)) (fun q => by omega)).trans rfl, (Fr.A hF_29_ (lt71 (by omega)) (fun q => by omega)).trans rfl, hw_26, fun u hu hne => (Fr.L hF_29_ (lt71 (by omega)) (fun q => by omega)).trans rfl⟩)))⟩
          exact W.iret (v := (-14)) hx hb hr (fun t_ ht_ hW_ => ⟨⟨(-14), S, rfl, hpost, by rw [ht_]; exact hP, va_K.moved hW_.alike hK, hD⟩, hS.F ht_⟩) hS.2.2 (fk_get fk_cX11_tape_0 27 rfl)
        refine lv_bipush (v := (-2)) hx hb (fk_get fk_cX11_tape_0 22 rfl) (by decide) ?_
        subst hQ
        have hpost : XI S ∧ Fr (fun j k => ((j = 62 ∨ j = 63) ∧ k = 99) ∨ (65 ≤ j ∧ j < 71 ∧ k = 98)) S S ∧ TapP tt so x ((-2) : Int32) S S := by
          first | exact ⟨hX, (Fr.rf : Fr (fun j k => ((j = 62 ∨ j = 63) ∧ k = 99) ∨ (65 ≤ j ∧ j < 71 ∧ k = 98)) S S), Or.inl ⟨p_c_3, rfl, rfl⟩⟩ | exact ⟨hX, (Fr.rf : Fr (fun j k => ((j = 62 ∨ j = 63) ∧ k = 99) ∨ (65 ≤ j ∧ j < 71 ∧ k = 98)) S S), Or.inr (Or.inl ⟨p_c_3, p_c_6, rfl, rfl⟩)⟩ | exact ⟨hX, (Fr.rf : Fr (fun j k => ((j = 62 ∨ j = 63) ∧ k = 99) ∨ (65 ≤ j ∧ j < 71 ∧ k = 98)) S S), Or.inr (Or.inr (Or.inl ⟨p_c_3, p_c_6, c_7, c_8, rfl, rfl⟩))⟩ | exact ⟨hX, (Fr.rf : Fr (fun j k => ((j = 62 ∨ j = 63) ∧ k = 99) ∨ (65 ≤ j ∧ j < 71 ∧ k = 98)) S S), Or.inr (Or.inr (Or.inr (Or.inl ⟨p_c_3, p_c_6, c_7, c_8, Int32.not_le.mp c_9, rfl, rfl⟩)))⟩ | exact ⟨hX, (Fr.rf : Fr (fun j k => ((j = 62 ∨ j = 63) ∧ k = 99) ∨ (65 ≤ j ∧ j < 71 ∧ k = 98)) S S), Or.inr (Or.inr (Or.inr (Or.inr ⟨ta, _, hta, et, p_c_6, Or.inr ⟨c_7, c_8, Int32.not_lt.mpr c_9, rfl⟩, rfl, (Fr.A hF_18_ (lt71 (by omega)) (fun q => by omega)).trans rfl, (Fr.A hF_18_ (lt71 (by omega)) (fun q => by omega)).trans rfl, hw_15, fun u hu hne => (Fr.L hF_18_ (lt71 (by omega)) (fun q => by omega)).trans rfl⟩)))⟩ | exact ⟨hX, (Fr.rf : Fr (fun j k => ((j = 62 ∨ j = 63) ∧ k = 99) ∨ (65 ≤ j ∧ j < 71 ∧ k = 98)) S S), Or.inr (Or.inr (Or.inr (Or.inr ⟨ta, _, hta, et, p_c_6, Or.inl ⟨c_7, rfl⟩, rfl, (Fr.A hF_29_ (lt71 (by omega)) (fun q => by omega)).trans rfl, (Fr.A hF_29_ (lt71 (by omega)) (fun q => by omega)).trans rfl, hw_26, fun u hu hne => (Fr.L hF_29_ (lt71 (by omega)) (fun q => by omega)).trans rfl⟩)))⟩
        exact W.iret (v := (-2)) hx hb hr (fun t_ ht_ hW_ => ⟨⟨(-2), S, rfl, hpost, by rw [ht_]; exact hP, va_K.moved hW_.alike hK, hD⟩, hS.F ht_⟩) hS.2.2 (fk_get fk_cX11_tape_0 23 rfl)
      refine lv_iconst (v := 0) hx hb (fk_get fk_cX11_tape_0 15 rfl) (by decide) ?_
      refine lv_goto (tgt := 31) hx hb (fk_get fk_cX11_tape_0 16 rfl) (by decide) ?_
      refine lv_istore (lv' := [(4, .int (0)), (0, .ref (ad 0)), (1, .int (tt)), (2, .int (so)), (3, .int (x))]) hx hb (fk_get fk_cX11_tape_0 18 rfl) hl (by decide) rfl (fun ls hl => ?_)
      refine lv_iload hx hb (fk_get fk_cX11_tape_0 19 rfl) (lv_at hl 0 rfl) ?_
      refine lv_bipush (v := 60) hx hb (fk_get fk_cX11_tape_0 20 rfl) (by decide) ?_
      refine lv_icmp_le (tgt := 43) hx hb (fk_get fk_cX11_tape_0 21 rfl) (by decide) (fun _ => ?_) (fun c_19 => absurd ((by decide)) c_19)
      refine lv_iload hx hb (fk_get fk_cX11_tape_0 24 rfl) (lv_at hl 0 rfl) ?_
      refine lv_if_ge (tgt := 51) hx hb (fk_get fk_cX11_tape_0 25 rfl) (by decide) (fun _ => ?_) (fun c_20 => absurd ((by decide)) c_20)
      refine lv_aload_n hx hb (fk_get fk_cX11_tape_0 28 rfl) rfl (lv_at hl 1 rfl) ?_
      refine va_get (D := G.1) (ci := 13) (v := .ref (ad 62)) (C := RX11) (T := TX11) (N := 11) hx hb hT inX11 hown hK hP 0 (ix_at (lt71 (by omega)) (cX_0 G ad S)) rfl 6 (by decide) (hT _ m2_75) (fun _ h9 => h9) rfl (fk_get fk_cX11_tape_0 29 rfl) ?_
      refine lv_iload_n hx hb (fk_get fk_cX11_tape_0 30 rfl) rfl (lv_at hl 2 rfl) ?_
      refine lv_iload_n hx hb (fk_get fk_cX11_tape_0 31 rfl) rfl (lv_at hl 3 rfl) ?_
      refine r_iast hx hb hK hP hD hS 62 0 (ix_at (lt71 (by omega)) (cX_arr (show isA 62 0 6 from by decide))) rfl (j := ta) (et) (by omega) (by decide) (fk_get fk_cX11_tape_1 0 rfl) (fun H locs hP hD hS => ?_)
      rw [pX_arr (G := G) (ad := ad) (S := S) (lt71 (by omega)) (show isA 62 0 6 from by decide) (upd (fA S 62) ta (so))] at hP hD
      have hX_21 : XI (setA S 62 (upd (fA S 62) ta (so))) := XI.sA hX _ (by omega)
      have hF_22 : Fr (fun j k => ((j = 62 ∨ j = 63) ∧ k = 99) ∨ (65 ≤ j ∧ j < 71 ∧ k = 98)) S (setA S 62 (upd (fA S 62) ta (so))) := Fr.sA (Fr.rf : Fr (fun j k => ((j = 62 ∨ j = 63) ∧ k = 99) ∨ (65 ≤ j ∧ j < 71 ∧ k = 98)) S S) (by omega)
      refine lv_aload_n hx hb (fk_get fk_cX11_tape_1 1 rfl) rfl (lv_at hl 1 rfl) ?_
      refine va_get (D := G.1) (ci := 13) (v := .ref (ad 63)) (C := RX11) (T := TX11) (N := 11) hx hb hT inX11 hown hK hP 0 (ix_at (lt71 (by omega)) (cX_0 G ad (setA S 62 (upd (fA S 62) ta (so))))) rfl 7 (by decide) (hT _ m2_76) (fun _ h9 => h9) rfl (fk_get fk_cX11_tape_1 2 rfl) ?_
      refine lv_iload_n hx hb (fk_get fk_cX11_tape_1 3 rfl) rfl (lv_at hl 2 rfl) ?_
      refine lv_iload hx hb (fk_get fk_cX11_tape_1 4 rfl) (lv_at hl 0 rfl) ?_
      refine r_iast hx hb hK hP hD hS 63 0 (ix_at (lt71 (by omega)) (cX_arr (show isA 63 0 6 from by decide))) rfl (j := ta) (et) (by omega) (by decide) (fk_get fk_cX11_tape_1 5 rfl) (fun H locs hP hD hS => ?_)
      rw [pX_arr (G := G) (ad := ad) (S := (setA S 62 (upd (fA S 62) ta (so)))) (lt71 (by omega)) (show isA 63 0 6 from by decide) (upd (fA (setA S 62 (upd (fA S 62) ta (so))) 63) ta (0))] at hP hD
      have hX_23 : XI (setA (setA S 62 (upd (fA S 62) ta (so))) 63 (upd (fA (setA S 62 (upd (fA S 62) ta (so))) 63) ta (0))) := XI.lput hX_21 (by first | exact ⟨0, rfl, by omega⟩ | exact len60 (by first | assumption | exact Int32.not_lt.mpr (by assumption)) (by first | assumption | exact Int32.not_lt.mpr (by assumption)))
      have hF_24 : Fr (fun j k => ((j = 62 ∨ j = 63) ∧ k = 99) ∨ (65 ≤ j ∧ j < 71 ∧ k = 98)) S (setA (setA S 62 (upd (fA S 62) ta (so))) 63 (upd (fA (setA S 62 (upd (fA S 62) ta (so))) 63) ta (0))) := Fr.sA hF_22 (by omega)
      refine lv_aload_n hx hb (fk_get fk_cX11_tape_1 6 rfl) rfl (lv_at hl 1 rfl) ?_
      refine va_get (D := G.1) (ci := 13) (v := .ref (ad 64)) (C := RX11) (T := TX11) (N := 11) hx hb hT inX11 hown hK hP 0 (ix_at (lt71 (by omega)) (cX_0 G ad (setA (setA S 62 (upd (fA S 62) ta (so))) 63 (upd (fA (setA S 62 (upd (fA S 62) ta (so))) 63) ta (0))))) rfl 8 (by decide) (hT _ m2_77) (fun _ h9 => h9) rfl (fk_get fk_cX11_tape_1 7 rfl) ?_
      refine lv_iload_n hx hb (fk_get fk_cX11_tape_1 8 rfl) rfl (lv_at hl 2 rfl) ?_
      refine x_itm hx hb hK hP (k := ta) (by omega) (et) (fk_get fk_cX11_tape_1 9 rfl) ?_
      refine lv_lconst (v := 0) hx hb (fk_get fk_cX11_tape_1 10 rfl) (by decide) ?_
      have hFc := va_self hD hS hA
      refine va_callv (va_runS (As := [.ref (ad (65 + ta)), .long (0)]) (rest := []) ⟨hx, hb, hml, hown, hT⟩ (c_jfillL l G ad (setA (setA S 62 (upd (fA S 62) ta (so))) 63 (upd (fA (setA S 62 (upd (fA S 62) ta (so))) 63) ta (0))) H.size (ta) (0) ((show ta < 6 from by omega)) (hX_23)) (tS 2 hT m5_76 m5_77 m1_16 m5_78 rfl rfl (by decide +kernel) ⟨Nat.le_of_ble_eq_true rfl, Nat.le_of_ble_eq_true rfl⟩) ⟨PcW_blind, PcW_of hP hK hD _⟩ rfl rfl hl.1 rfl (lv_room (Nat.le_of_ble_eq_true rfl)) (fk_get fk_cX11_tape_1 11 rfl) ⟨Nat.zero_le _, Nat.zero_le _⟩) hS (fun q _ h => hFc q h) hFc (fun S_27 t_ H locs ht_ hvm_ hw_26 hB_ hz_ hk_ hS => ?_)
      obtain ⟨hP, -, hD1_⟩ := hB_
      rw [ht_] at hP
      have hD : va_D A (wX G ad S_27) := hD1_.weaken (fun k q _ h => hFc q.1 h)
      try dsimp only at hw_26
      obtain ⟨hX_28, hF_29_, hw_26⟩ := hw_26
      have hF_29 : Fr (fun j k => ((j = 62 ∨ j = 63) ∧ k = 99) ∨ (65 ≤ j ∧ j < 71 ∧ k = 98)) S S_27 := Fr.trans hF_24 (Fr.mono hF_29_ (fun j k h => by omega))
      refine lv_iconst (v := 1) hx hb (fk_get fk_cX11_tape_1 12 rfl) (by decide) ?_
      subst hQ
      have hpost : XI S_27 ∧ Fr (fun j k => ((j = 62 ∨ j = 63) ∧ k = 99) ∨ (65 ≤ j ∧ j < 71 ∧ k = 98)) S S_27 ∧ TapP tt so x (1 : Int32) S S_27 := by
        first | exact ⟨hX_28, hF_29, Or.inl ⟨p_c_3, rfl, rfl⟩⟩ | exact ⟨hX_28, hF_29, Or.inr (Or.inl ⟨p_c_3, p_c_6, rfl, rfl⟩)⟩ | exact ⟨hX_28, hF_29, Or.inr (Or.inr (Or.inl ⟨p_c_3, p_c_6, c_7, c_8, rfl, rfl⟩))⟩ | exact ⟨hX_28, hF_29, Or.inr (Or.inr (Or.inr (Or.inl ⟨p_c_3, p_c_6, c_7, c_8, Int32.not_le.mp c_9, rfl, rfl⟩)))⟩ | exact ⟨hX_28, hF_29, Or.inr (Or.inr (Or.inr (Or.inr ⟨ta, _, hta, et, p_c_6, Or.inr ⟨c_7, c_8, Int32.not_lt.mpr c_9, rfl⟩, rfl, (Fr.A hF_18_ (lt71 (by omega)) (fun q => by omega)).trans rfl, (Fr.A hF_18_ (lt71 (by omega)) (fun q => by omega)).trans rfl, hw_15, fun u hu hne => (Fr.L hF_18_ (lt71 (by omega)) (fun q => by omega)).trans rfl⟩)))⟩ | exact ⟨hX_28, hF_29, Or.inr (Or.inr (Or.inr (Or.inr ⟨ta, _, hta, et, p_c_6, Or.inl ⟨c_7, rfl⟩, rfl, (Fr.A hF_29_ (lt71 (by omega)) (fun q => by omega)).trans rfl, (Fr.A hF_29_ (lt71 (by omega)) (fun q => by omega)).trans rfl, hw_26, fun u hu hne => (Fr.L hF_29_ (lt71 (by omega)) (fun q => by omega)).trans rfl⟩)))⟩
      exact W.iret (v := 1) hx hb hr (fun t_ ht_ hW_ => ⟨⟨1, S_27, rfl, hpost, by rw [ht_]; exact hP, va_K.moved hW_.alike hK, hD⟩, hS.F ht_⟩) hS.2.2 (fk_get fk_cX11_tape_1 13 rfl)
    have p_c_6 := if1_t hw_5 c_6
    refine lv_bipush (v := (-2)) hx hb (fk_get fk_cX11_tape_0 10 rfl) (by decide) ?_
    subst hQ
    have hpost : XI S ∧ Fr (fun j k => ((j = 62 ∨ j = 63) ∧ k = 99) ∨ (65 ≤ j ∧ j < 71 ∧ k = 98)) S S ∧ TapP tt so x ((-2) : Int32) S S := by
      first | exact ⟨hX, (Fr.rf : Fr (fun j k => ((j = 62 ∨ j = 63) ∧ k = 99) ∨ (65 ≤ j ∧ j < 71 ∧ k = 98)) S S), Or.inl ⟨p_c_3, rfl, rfl⟩⟩ | exact ⟨hX, (Fr.rf : Fr (fun j k => ((j = 62 ∨ j = 63) ∧ k = 99) ∨ (65 ≤ j ∧ j < 71 ∧ k = 98)) S S), Or.inr (Or.inl ⟨p_c_3, p_c_6, rfl, rfl⟩)⟩ | exact ⟨hX, (Fr.rf : Fr (fun j k => ((j = 62 ∨ j = 63) ∧ k = 99) ∨ (65 ≤ j ∧ j < 71 ∧ k = 98)) S S), Or.inr (Or.inr (Or.inl ⟨p_c_3, p_c_6, c_7, c_8, rfl, rfl⟩))⟩ | exact ⟨hX, (Fr.rf : Fr (fun j k => ((j = 62 ∨ j = 63) ∧ k = 99) ∨ (65 ≤ j ∧ j < 71 ∧ k = 98)) S S), Or.inr (Or.inr (Or.inr (Or.inl ⟨p_c_3, p_c_6, c_7, c_8, Int32.not_le.mp c_9, rfl, rfl⟩)))⟩ | exact ⟨hX, (Fr.rf : Fr (fun j k => ((j = 62 ∨ j = 63) ∧ k = 99) ∨ (65 ≤ j ∧ j < 71 ∧ k = 98)) S S), Or.inr (Or.inr (Or.inr (Or.inr ⟨ta, _, hta, et, p_c_6, Or.inr ⟨c_7, c_8, Int32.not_lt.mpr c_9, rfl⟩, rfl, (Fr.A hF_18_ (lt71 (by omega)) (fun q => by omega)).trans rfl, (Fr.A hF_18_ (lt71 (by omega)) (fun q => by omega)).trans rfl, hw_15, fun u hu hne => (Fr.L hF_18_ (lt71 (by omega)) (fun q => by omega)).trans rfl⟩)))⟩ | exact ⟨hX, (Fr.rf : Fr (fun j k => ((j = 62 ∨ j = 63) ∧ k = 99) ∨ (65 ≤ j ∧ j < 71 ∧ k = 98)) S S), Or.inr (Or.inr (Or.inr (Or.inr ⟨ta, _, hta, et, p_c_6, Or.inl ⟨c_7, rfl⟩, rfl, (Fr.A hF_29_ (lt71 (by omega)) (fun q => by omega)).trans rfl, (Fr.A hF_29_ (lt71 (by omega)) (fun q => by omega)).trans rfl, hw_26, fun u hu hne => (Fr.L hF_29_ (lt71 (by omega)) (fun q => by omega)).trans rfl⟩)))⟩
    exact W.iret (v := (-2)) hx hb hr (fun t_ ht_ hW_ => ⟨⟨(-2), S, rfl, hpost, by rw [ht_]; exact hP, va_K.moved hW_.alike hK, hD⟩, hS.F ht_⟩) hS.2.2 (fk_get fk_cX11_tape_0 11 rfl)
  have p_c_3 := if1_t hw_2 c_3
  refine lv_iconst (v := (-1)) hx hb (fk_get fk_cX11_tape_0 3 rfl) (by decide) ?_
  subst hQ
  have hpost : XI S ∧ Fr (fun j k => ((j = 62 ∨ j = 63) ∧ k = 99) ∨ (65 ≤ j ∧ j < 71 ∧ k = 98)) S S ∧ TapP tt so x ((-1) : Int32) S S := by
    first | exact ⟨hX, (Fr.rf : Fr (fun j k => ((j = 62 ∨ j = 63) ∧ k = 99) ∨ (65 ≤ j ∧ j < 71 ∧ k = 98)) S S), Or.inl ⟨p_c_3, rfl, rfl⟩⟩ | exact ⟨hX, (Fr.rf : Fr (fun j k => ((j = 62 ∨ j = 63) ∧ k = 99) ∨ (65 ≤ j ∧ j < 71 ∧ k = 98)) S S), Or.inr (Or.inl ⟨p_c_3, p_c_6, rfl, rfl⟩)⟩ | exact ⟨hX, (Fr.rf : Fr (fun j k => ((j = 62 ∨ j = 63) ∧ k = 99) ∨ (65 ≤ j ∧ j < 71 ∧ k = 98)) S S), Or.inr (Or.inr (Or.inl ⟨p_c_3, p_c_6, c_7, c_8, rfl, rfl⟩))⟩ | exact ⟨hX, (Fr.rf : Fr (fun j k => ((j = 62 ∨ j = 63) ∧ k = 99) ∨ (65 ≤ j ∧ j < 71 ∧ k = 98)) S S), Or.inr (Or.inr (Or.inr (Or.inl ⟨p_c_3, p_c_6, c_7, c_8, Int32.not_le.mp c_9, rfl, rfl⟩)))⟩ | exact ⟨hX, (Fr.rf : Fr (fun j k => ((j = 62 ∨ j = 63) ∧ k = 99) ∨ (65 ≤ j ∧ j < 71 ∧ k = 98)) S S), Or.inr (Or.inr (Or.inr (Or.inr ⟨ta, _, hta, et, p_c_6, Or.inr ⟨c_7, c_8, Int32.not_lt.mpr c_9, rfl⟩, rfl, (Fr.A hF_18_ (lt71 (by omega)) (fun q => by omega)).trans rfl, (Fr.A hF_18_ (lt71 (by omega)) (fun q => by omega)).trans rfl, hw_15, fun u hu hne => (Fr.L hF_18_ (lt71 (by omega)) (fun q => by omega)).trans rfl⟩)))⟩ | exact ⟨hX, (Fr.rf : Fr (fun j k => ((j = 62 ∨ j = 63) ∧ k = 99) ∨ (65 ≤ j ∧ j < 71 ∧ k = 98)) S S), Or.inr (Or.inr (Or.inr (Or.inr ⟨ta, _, hta, et, p_c_6, Or.inl ⟨c_7, rfl⟩, rfl, (Fr.A hF_29_ (lt71 (by omega)) (fun q => by omega)).trans rfl, (Fr.A hF_29_ (lt71 (by omega)) (fun q => by omega)).trans rfl, hw_26, fun u hu hne => (Fr.L hF_29_ (lt71 (by omega)) (fun q => by omega)).trans rfl⟩)))⟩
  exact W.iret (v := (-1)) hx hb hr (fun t_ ht_ hW_ => ⟨⟨(-1), S, rfl, hpost, by rw [ht_]; exact hP, va_K.moved hW_.alike hK, hD⟩, hS.F ht_⟩) hS.2.2 (fk_get fk_cX11_tape_0 4 rfl)
set_option maxHeartbeats 800000 in
set_option maxRecDepth 100000 in
theorem c_x11_itemE (l : Launch) (G : GG) (ad : Nat → Nat) (S : FS) (sz : Nat) (n : Nat) (tt : Int32) (i_ : Int32) (v_ : Int64) (hn : fF S (9 + 0) 3 = nI n) (hn6 : n ≤ 6) (hX : XI S) : Met l yX11_item (Cond.code yX11_item cX11_item 5 (some .int) :: TBL) ({ frames := 3, cells := 0, slots := 0, locals := 90 } : Room) (PcW G (wX G ad S) sz [.ref (ad 0), .int (tt), .int (i_), .long (v_)]) (va_Qi (fun (r : Int32) (S' : FS) => XI S' ∧ Fr (fun j k => 65 ≤ j ∧ j < 71 ∧ k = 98) S S' ∧ ItP tt i_ v_ r S S') (fun S' t => BW G (va_A (wX G ad S) sz) (wX G ad S') t) (va_A (wX G ad S) sz)) 0 0 (va_A (wX G ad S) sz) := by
  refine Met.ofW (cc := cX11_item) (maxL := 5) (ret := (some .int)) (by decide) rfl ?_
  intro p e s m args below meth c₀ s₁ B hml hv
  obtain ⟨rfl, hsz, hP, hK, hD0⟩ := hv
  have hx := B.exec
  have hb := B.bytes
  have hr := B.returns
  have hT : ∀ w ∈ TBL, w.before ([.ref (ad 0), .int (tt), .int (i_), .long (v_)] : List Value).toArray s = true := fun w h => atoms_spec (ws := Cond.code yX11_item cX11_item 5 (some .int) :: TBL) B.pre w (List.mem_cons_of_mem _ h)
  have hown : s.vm.findClass "LittleMore" = some m.cls := findClass_of_methodNamed B.named
  have hlocks := B.notSynchronized
  subst hsz
  have hD := hD0.self (sz := s.heap.size)
  generalize hAe : va_A (wX G ad S) s.heap.size = A at hD ⊢
  have hA : ∀ q : Nat, s.heap.size ≤ q → A q := fun q h => by rw [← hAe]; exact Or.inr h
  have hS : va_S A s.heap s.heap [] := va_S.rf
  have hP : va_P G.1 vwCl (wX G ad S) s.heap := hP
  have hl := lv_entry ([.ref (ad 0), .int (tt), .int (i_), .long (v_)]) (n := 5) (Nat.le_of_ble_eq_true rfl)
  rw [lg_entry_eq]
  generalize (lg_sl ([.ref (ad 0), .int (tt), .int (i_), .long (v_)]) ++ List.replicate (5 - (lg_sl ([.ref (ad 0), .int (tt), .int (i_), .long (v_)])).length) Slot.unset).toArray = ls at hl ⊢
  have hl : lv_has ls 5 [(0, .ref (ad 0)), (1, .int (tt)), (2, .int (i_)), (3, .long (v_))] := hl
  refine W_abs (fun Q hQ => ?_)
  generalize ([.ref (ad 0), .int (tt), .int (i_), .long (v_)] : List Value).toArray = args at hT hQ ⊢
  refine lv_iload_n hx hb (fk_get fk_cX11_item_0 0 rfl) rfl (lv_at hl 1 rfl) ?_
  refine vp_callSi (W.runS (As := [.int (tt)]) (rest := []) ⟨hx, hb, hml, hown, hT⟩ (c_xisNoTape l (tt) ) (tS 1 hT m4_102 m4_103 m1_1 m4_104 rfl rfl (by decide +kernel) ⟨Nat.le_of_ble_eq_true rfl, Nat.le_of_ble_eq_true rfl⟩) ⟨PcN_blind, PcN_of _ _ _⟩ rfl rfl hl.1 rfl (lv_room (Nat.le_of_ble_eq_true rfl)) (fk_get fk_cX11_item_0 1 rfl) ⟨Nat.zero_le _, Nat.zero_le _⟩) (fun r_1 hw_2 => ?_)
  try dsimp only at hw_2
  refine lv_if_eq (tgt := 9) hx hb (fk_get fk_cX11_item_0 2 rfl) (by decide) (fun c_3 => ?_) (fun c_3 => ?_)
  · have p_c_3 := if1_f hw_2 c_3
    obtain ⟨ta, hta, et⟩ := out_6 p_c_3
    refine lv_aload_n hx hb (fk_get fk_cX11_item_0 5 rfl) rfl (lv_at hl 0 rfl) ?_
    refine va_get (D := G.1) (ci := 13) (v := .ref (ad 62)) (C := RX11) (T := TX11) (N := 11) hx hb hT inX11 hown hK hP 0 (ix_at (lt71 (by omega)) (cX_0 G ad S)) rfl 6 (by decide) (hT _ m2_75) (fun _ h9 => h9) rfl (fk_get fk_cX11_item_0 6 rfl) ?_
    refine lv_iload_n hx hb (fk_get fk_cX11_item_0 7 rfl) rfl (lv_at hl 1 rfl) ?_
    refine r_iald (f := fA S 62) hx hb hK hP 62 0 (ix_at (lt71 (by omega)) (cX_arr (show isA 62 0 6 from by decide))) rfl (j := ta) (et) (by omega) (by decide) (fk_get fk_cX11_item_0 8 rfl) ?_
    refine lv_iconst (v := (-1)) hx hb (fk_get fk_cX11_item_0 9 rfl) (by decide) ?_
    refine lv_icmp_ne (tgt := 22) hx hb (fk_get fk_cX11_item_0 10 rfl) (by decide) (fun c_4 => ?_) (fun c_4 => ?_)
    · refine lv_iload_n hx hb (fk_get fk_cX11_item_0 13 rfl) rfl (lv_at hl 2 rfl) ?_
      refine lv_iconst (v := 0) hx hb (fk_get fk_cX11_item_0 14 rfl) (by decide) ?_
      refine lv_aload_n hx hb (fk_get fk_cX11_item_0 15 rfl) rfl (lv_at hl 0 rfl) ?_
      refine va_get (D := G.1) (ci := 13) (v := .ref (ad 63)) (C := RX11) (T := TX11) (N := 11) hx hb hT inX11 hown hK hP 0 (ix_at (lt71 (by omega)) (cX_0 G ad S)) rfl 7 (by decide) (hT _ m2_76) (fun _ h9 => h9) rfl (fk_get fk_cX11_item_0 16 rfl) ?_
      refine lv_iload_n hx hb (fk_get fk_cX11_item_0 17 rfl) rfl (lv_at hl 1 rfl) ?_
      refine r_iald (f := fA S 63) hx hb hK hP 63 0 (ix_at (lt71 (by omega)) (cX_arr (show isA 63 0 6 from by decide))) rfl (j := ta) (et) (by omega) (by decide) (fk_get fk_cX11_item_0 18 rfl) ?_
      obtain ⟨n_5, en_5, bn_5⟩ := XI.lens hX (t := ta) (by omega)
      rw [en_5]
      refine lv_iconst (v := 1) hx hb (fk_get fk_cX11_item_0 19 rfl) (by decide) ?_
      refine lv_isub hx hb (fk_get fk_cX11_item_0 20 rfl) ?_
      refine vp_callSi (W.runS (As := [.int (i_), .int (0), .int (((nI n_5) - 1))]) (rest := []) ⟨hx, hb, hml, hown, hT⟩ (c_xisOutside l (i_) (0) (((nI n_5) - 1)) ) (tS 3 hT m2_108 m2_109 m1_1 m2_110 rfl rfl (by decide +kernel) ⟨Nat.le_of_ble_eq_true rfl, Nat.le_of_ble_eq_true rfl⟩) ⟨PcN_blind, PcN_of _ _ _⟩ rfl rfl hl.1 rfl (lv_room (Nat.le_of_ble_eq_true rfl)) (fk_get fk_cX11_item_0 21 rfl) ⟨Nat.zero_le _, Nat.zero_le _⟩) (fun r_6 hw_7 => ?_)
      try dsimp only at hw_7
      refine lv_if_eq (tgt := 41) hx hb (fk_get fk_cX11_item_0 22 rfl) (by decide) (fun c_8 => ?_) (fun c_8 => ?_)
      · have p_c_8 := if1_f hw_7 c_8
        obtain ⟨ia, hia, ei⟩ := out_len (by omega) p_c_8
        refine lv_aload_n hx hb (fk_get fk_cX11_item_0 25 rfl) rfl (lv_at hl 0 rfl) ?_
        refine va_get (D := G.1) (ci := 13) (v := .ref (ad 64)) (C := RX11) (T := TX11) (N := 11) hx hb hT inX11 hown hK hP 0 (ix_at (lt71 (by omega)) (cX_0 G ad S)) rfl 8 (by decide) (hT _ m2_77) (fun _ h9 => h9) rfl (fk_get fk_cX11_item_0 26 rfl) ?_
        refine lv_iload_n hx hb (fk_get fk_cX11_item_0 27 rfl) rfl (lv_at hl 1 rfl) ?_
        refine x_itm hx hb hK hP (k := ta) (by omega) (et) (fk_get fk_cX11_item_0 28 rfl) ?_
        refine lv_iload_n hx hb (fk_get fk_cX11_item_0 29 rfl) rfl (lv_at hl 2 rfl) ?_
        refine lv_aload_n hx hb (fk_get fk_cX11_item_0 30 rfl) rfl (lv_at hl 0 rfl) ?_
        refine va_get (D := G.1) (ci := 13) (v := .ref (ad 62)) (C := RX11) (T := TX11) (N := 11) hx hb hT inX11 hown hK hP 0 (ix_at (lt71 (by omega)) (cX_0 G ad S)) rfl 6 (by decide) (hT _ m2_75) (fun _ h9 => h9) rfl (fk_get fk_cX11_item_0 31 rfl) ?_
        refine lv_iload_n hx hb (fk_get fk_cX11_item_1 0 rfl) rfl (lv_at hl 1 rfl) ?_
        refine r_iald (f := fA S 62) hx hb hK hP 62 0 (ix_at (lt71 (by omega)) (cX_arr (show isA 62 0 6 from by decide))) rfl (j := ta) (et) (by omega) (by decide) (fk_get fk_cX11_item_1 1 rfl) ?_
        refine lv_lload_n hx hb (fk_get fk_cX11_item_1 2 rfl) rfl (lv_at hl 3 rfl) ?_
        refine vp_callSl (W.runS (As := [.int ((fA S 62 ta)), .long (v_)]) (rest := [.int (i_), .ref (ad (65 + ta))]) ⟨hx, hb, hml, hown, hT⟩ (c_xasItem l ((fA S 62 ta)) (v_) ) (tS 2 hT m5_83 m5_84 m1_1 m5_85 rfl rfl (by decide +kernel) ⟨Nat.le_of_ble_eq_true rfl, Nat.le_of_ble_eq_true rfl⟩) ⟨PcN_blind, PcN_of _ _ _⟩ rfl rfl hl.1 rfl (lv_room (Nat.le_of_ble_eq_true rfl)) (fk_get fk_cX11_item_1 3 rfl) ⟨Nat.zero_le _, Nat.zero_le _⟩) (fun r_9 hw_10 => ?_)
        try dsimp only at hw_10
        refine r_last hx hb hK hP hD hS (65 + ta) 1 (ix_at (lt71 (by omega)) (cX_lng (show ta < 6 from by omega))) rfl (j := ia) (ei) (by omega) (by decide) (fk_get fk_cX11_item_1 4 rfl) (fun H locs hP hD hS => ?_)
        rw [pX_lng (G := G) (ad := ad) (S := S) (show ta < 6 from by omega) (vp_updL (fL S (65 + ta)) ia (r_9))] at hP hD
        have hX_11 : XI (setL S (65 + ta) (vp_updL (fL S (65 + ta)) ia (r_9))) := XI.sL hX _
        have hF_12 : Fr (fun j k => 65 ≤ j ∧ j < 71 ∧ k = 98) S (setL S (65 + ta) (vp_updL (fL S (65 + ta)) ia (r_9))) := Fr.sL (Fr.rf : Fr (fun j k => 65 ≤ j ∧ j < 71 ∧ k = 98) S S) (by omega)
        refine lv_iconst (v := 1) hx hb (fk_get fk_cX11_item_1 5 rfl) (by decide) ?_
        subst hQ
        have hpost : XI (setL S (65 + ta) (vp_updL (fL S (65 + ta)) ia (r_9))) ∧ Fr (fun j k => 65 ≤ j ∧ j < 71 ∧ k = 98) S (setL S (65 + ta) (vp_updL (fL S (65 + ta)) ia (r_9))) ∧ ItP tt i_ v_ (1 : Int32) S (setL S (65 + ta) (vp_updL (fL S (65 + ta)) ia (r_9))) := by
          first | exact ⟨hX_11, hF_12, Or.inl ⟨p_c_3, rfl, rfl⟩⟩ | exact ⟨hX_11, hF_12, Or.inr ⟨ta, hta, et, Or.inl ⟨c_4, rfl, rfl⟩⟩⟩ | exact ⟨hX_11, hF_12, Or.inr ⟨ta, hta, et, Or.inr (Or.inl ⟨c_4, by rw [en_5]; exact p_c_8, rfl, rfl⟩)⟩⟩ | exact ⟨hX_11, hF_12, Or.inr ⟨ta, hta, et, Or.inr (Or.inr ⟨ia, c_4, by rw [en_5]; exact p_c_8, ei, by omega, rfl, by rw [hw_10]⟩)⟩⟩
        exact W.iret (v := 1) hx hb hr (fun t_ ht_ hW_ => ⟨⟨1, (setL S (65 + ta) (vp_updL (fL S (65 + ta)) ia (r_9))), rfl, hpost, by rw [ht_]; exact hP, va_K.moved hW_.alike hK, hD⟩, hS.F ht_⟩) hS.2.2 (fk_get fk_cX11_item_1 6 rfl)
      have p_c_8 := if1_t hw_7 c_8
      refine lv_bipush (v := (-13)) hx hb (fk_get fk_cX11_item_0 23 rfl) (by decide) ?_
      subst hQ
      have hpost : XI S ∧ Fr (fun j k => 65 ≤ j ∧ j < 71 ∧ k = 98) S S ∧ ItP tt i_ v_ ((-13) : Int32) S S := by
        first | exact ⟨hX, (Fr.rf : Fr (fun j k => 65 ≤ j ∧ j < 71 ∧ k = 98) S S), Or.inl ⟨p_c_3, rfl, rfl⟩⟩ | exact ⟨hX, (Fr.rf : Fr (fun j k => 65 ≤ j ∧ j < 71 ∧ k = 98) S S), Or.inr ⟨ta, hta, et, Or.inl ⟨c_4, rfl, rfl⟩⟩⟩ | exact ⟨hX, (Fr.rf : Fr (fun j k => 65 ≤ j ∧ j < 71 ∧ k = 98) S S), Or.inr ⟨ta, hta, et, Or.inr (Or.inl ⟨c_4, by rw [en_5]; exact p_c_8, rfl, rfl⟩)⟩⟩ | exact ⟨hX, (Fr.rf : Fr (fun j k => 65 ≤ j ∧ j < 71 ∧ k = 98) S S), Or.inr ⟨ta, hta, et, Or.inr (Or.inr ⟨ia, c_4, by rw [en_5]; exact p_c_8, ei, by omega, rfl, by rw [hw_10]⟩)⟩⟩
      exact W.iret (v := (-13)) hx hb hr (fun t_ ht_ hW_ => ⟨⟨(-13), S, rfl, hpost, by rw [ht_]; exact hP, va_K.moved hW_.alike hK, hD⟩, hS.F ht_⟩) hS.2.2 (fk_get fk_cX11_item_0 24 rfl)
    refine lv_bipush (v := (-11)) hx hb (fk_get fk_cX11_item_0 11 rfl) (by decide) ?_
    subst hQ
    have hpost : XI S ∧ Fr (fun j k => 65 ≤ j ∧ j < 71 ∧ k = 98) S S ∧ ItP tt i_ v_ ((-11) : Int32) S S := by
      first | exact ⟨hX, (Fr.rf : Fr (fun j k => 65 ≤ j ∧ j < 71 ∧ k = 98) S S), Or.inl ⟨p_c_3, rfl, rfl⟩⟩ | exact ⟨hX, (Fr.rf : Fr (fun j k => 65 ≤ j ∧ j < 71 ∧ k = 98) S S), Or.inr ⟨ta, hta, et, Or.inl ⟨c_4, rfl, rfl⟩⟩⟩ | exact ⟨hX, (Fr.rf : Fr (fun j k => 65 ≤ j ∧ j < 71 ∧ k = 98) S S), Or.inr ⟨ta, hta, et, Or.inr (Or.inl ⟨c_4, by rw [en_5]; exact p_c_8, rfl, rfl⟩)⟩⟩ | exact ⟨hX, (Fr.rf : Fr (fun j k => 65 ≤ j ∧ j < 71 ∧ k = 98) S S), Or.inr ⟨ta, hta, et, Or.inr (Or.inr ⟨ia, c_4, by rw [en_5]; exact p_c_8, ei, by omega, rfl, by rw [hw_10]⟩)⟩⟩
    exact W.iret (v := (-11)) hx hb hr (fun t_ ht_ hW_ => ⟨⟨(-11), S, rfl, hpost, by rw [ht_]; exact hP, va_K.moved hW_.alike hK, hD⟩, hS.F ht_⟩) hS.2.2 (fk_get fk_cX11_item_0 12 rfl)
  have p_c_3 := if1_t hw_2 c_3
  refine lv_iconst (v := (-1)) hx hb (fk_get fk_cX11_item_0 3 rfl) (by decide) ?_
  subst hQ
  have hpost : XI S ∧ Fr (fun j k => 65 ≤ j ∧ j < 71 ∧ k = 98) S S ∧ ItP tt i_ v_ ((-1) : Int32) S S := by
    first | exact ⟨hX, (Fr.rf : Fr (fun j k => 65 ≤ j ∧ j < 71 ∧ k = 98) S S), Or.inl ⟨p_c_3, rfl, rfl⟩⟩ | exact ⟨hX, (Fr.rf : Fr (fun j k => 65 ≤ j ∧ j < 71 ∧ k = 98) S S), Or.inr ⟨ta, hta, et, Or.inl ⟨c_4, rfl, rfl⟩⟩⟩ | exact ⟨hX, (Fr.rf : Fr (fun j k => 65 ≤ j ∧ j < 71 ∧ k = 98) S S), Or.inr ⟨ta, hta, et, Or.inr (Or.inl ⟨c_4, by rw [en_5]; exact p_c_8, rfl, rfl⟩)⟩⟩ | exact ⟨hX, (Fr.rf : Fr (fun j k => 65 ≤ j ∧ j < 71 ∧ k = 98) S S), Or.inr ⟨ta, hta, et, Or.inr (Or.inr ⟨ia, c_4, by rw [en_5]; exact p_c_8, ei, by omega, rfl, by rw [hw_10]⟩)⟩⟩
  exact W.iret (v := (-1)) hx hb hr (fun t_ ht_ hW_ => ⟨⟨(-1), S, rfl, hpost, by rw [ht_]; exact hP, va_K.moved hW_.alike hK, hD⟩, hS.F ht_⟩) hS.2.2 (fk_get fk_cX11_item_0 4 rfl)
set_option maxHeartbeats 800000 in
set_option maxRecDepth 100000 in
theorem c_x11_readE (l : Launch) (G : GG) (ad : Nat → Nat) (S : FS) (sz : Nat) (n : Nat) (tt : Int32) (i_ : Int32) (hn : fF S (9 + 0) 3 = nI n) (hn6 : n ≤ 6) (hX : XI S) : Met l yX11_read (Cond.code yX11_read cX11_read 3 (some .long) :: TBL) ({ frames := 3, cells := 0, slots := 0, locals := 90 } : Room) (PcW G (wX G ad S) sz [.ref (ad 0), .int (tt), .int (i_)]) (vp_Sl (fun (r : Int64) => ReP tt i_ r S)) 0 0 (fun _ => False) := by
  refine Met.ofW (cc := cX11_read) (maxL := 3) (ret := (some .long)) (by decide) rfl ?_
  intro p e s m args below meth c₀ s₁ B hml hv
  obtain ⟨rfl, hsz, hP, hK, hD0⟩ := hv
  have hx := B.exec
  have hb := B.bytes
  have hr := B.returns
  have hT : ∀ w ∈ TBL, w.before ([.ref (ad 0), .int (tt), .int (i_)] : List Value).toArray s = true := fun w h => atoms_spec (ws := Cond.code yX11_read cX11_read 3 (some .long) :: TBL) B.pre w (List.mem_cons_of_mem _ h)
  have hown : s.vm.findClass "LittleMore" = some m.cls := findClass_of_methodNamed B.named
  have hlocks := B.notSynchronized
  have hD := hD0
  have hP : va_P G.1 vwCl (wX G ad S) s.heap := hP
  have hl := lv_entry ([.ref (ad 0), .int (tt), .int (i_)]) (n := 3) (Nat.le_of_ble_eq_true rfl)
  rw [lg_entry_eq]
  generalize (lg_sl ([.ref (ad 0), .int (tt), .int (i_)]) ++ List.replicate (3 - (lg_sl ([.ref (ad 0), .int (tt), .int (i_)])).length) Slot.unset).toArray = ls at hl ⊢
  have hl : lv_has ls 3 [(0, .ref (ad 0)), (1, .int (tt)), (2, .int (i_))] := hl
  refine W_abs (fun Q hQ => ?_)
  generalize ([.ref (ad 0), .int (tt), .int (i_)] : List Value).toArray = args at hT hQ ⊢
  refine lv_iload_n hx hb (fk_get fk_cX11_read_0 0 rfl) rfl (lv_at hl 1 rfl) ?_
  refine vp_callSi (W.runS (As := [.int (tt)]) (rest := []) ⟨hx, hb, hml, hown, hT⟩ (c_xisNoTape l (tt) ) (tS 1 hT m4_102 m4_103 m1_1 m4_104 rfl rfl (by decide +kernel) ⟨Nat.le_of_ble_eq_true rfl, Nat.le_of_ble_eq_true rfl⟩) ⟨PcN_blind, PcN_of _ _ _⟩ rfl rfl hl.1 rfl (lv_room (Nat.le_of_ble_eq_true rfl)) (fk_get fk_cX11_read_0 1 rfl) ⟨Nat.zero_le _, Nat.zero_le _⟩) (fun r_1 hw_2 => ?_)
  try dsimp only at hw_2
  refine lv_if_ne (tgt := 23) hx hb (fk_get fk_cX11_read_0 2 rfl) (by decide) (fun c_3 => ?_) (fun c_3 => ?_)
  · have p_c_3 := if1_t hw_2 c_3
    refine lv_ldc2 (v := (-9223372036854775808)) hx hb hown (hT _ m4_64) (fk_get fk_cX11_read_0 13 rfl) ?_
    subst hQ
    have hpost : ReP tt i_ ((-9223372036854775808) : Int64) S := by
      first | exact Or.inl ⟨p_c_3, rfl⟩ | exact Or.inr ⟨ta, hta, et, Or.inl ⟨by rw [en_4]; exact p_c_7, rfl⟩⟩
    exact W.lret (v := (-9223372036854775808)) hx hb hr (fun t_ ht_ hW_ => ⟨(-9223372036854775808), rfl, hpost, ht_⟩) (fun q h => by cases h) (fk_get fk_cX11_read_0 14 rfl)
  have p_c_3 := if1_f hw_2 c_3
  obtain ⟨ta, hta, et⟩ := out_6 p_c_3
  refine lv_iload_n hx hb (fk_get fk_cX11_read_0 3 rfl) rfl (lv_at hl 2 rfl) ?_
  refine lv_iconst (v := 0) hx hb (fk_get fk_cX11_read_0 4 rfl) (by decide) ?_
  refine lv_aload_n hx hb (fk_get fk_cX11_read_0 5 rfl) rfl (lv_at hl 0 rfl) ?_
  refine va_get (D := G.1) (ci := 13) (v := .ref (ad 63)) (C := RX11) (T := TX11) (N := 11) hx hb hT inX11 hown hK hP 0 (ix_at (lt71 (by omega)) (cX_0 G ad S)) rfl 7 (by decide) (hT _ m2_76) (fun _ h9 => h9) rfl (fk_get fk_cX11_read_0 6 rfl) ?_
  refine lv_iload_n hx hb (fk_get fk_cX11_read_0 7 rfl) rfl (lv_at hl 1 rfl) ?_
  refine r_iald (f := fA S 63) hx hb hK hP 63 0 (ix_at (lt71 (by omega)) (cX_arr (show isA 63 0 6 from by decide))) rfl (j := ta) (et) (by omega) (by decide) (fk_get fk_cX11_read_0 8 rfl) ?_
  obtain ⟨n_4, en_4, bn_4⟩ := XI.lens hX (t := ta) (by omega)
  rw [en_4]
  refine lv_iconst (v := 1) hx hb (fk_get fk_cX11_read_0 9 rfl) (by decide) ?_
  refine lv_isub hx hb (fk_get fk_cX11_read_0 10 rfl) ?_
  refine vp_callSi (W.runS (As := [.int (i_), .int (0), .int (((nI n_4) - 1))]) (rest := []) ⟨hx, hb, hml, hown, hT⟩ (c_xisOutside l (i_) (0) (((nI n_4) - 1)) ) (tS 3 hT m2_108 m2_109 m1_1 m2_110 rfl rfl (by decide +kernel) ⟨Nat.le_of_ble_eq_true rfl, Nat.le_of_ble_eq_true rfl⟩) ⟨PcN_blind, PcN_of _ _ _⟩ rfl rfl hl.1 rfl (lv_room (Nat.le_of_ble_eq_true rfl)) (fk_get fk_cX11_read_0 11 rfl) ⟨Nat.zero_le _, Nat.zero_le _⟩) (fun r_5 hw_6 => ?_)
  try dsimp only at hw_6
  refine lv_if_eq (tgt := 27) hx hb (fk_get fk_cX11_read_0 12 rfl) (by decide) (fun c_7 => ?_) (fun c_7 => ?_)
  · have p_c_7 := if1_f hw_6 c_7
    obtain ⟨ia, hia, ei⟩ := out_len (by omega) p_c_7
    refine lv_aload_n hx hb (fk_get fk_cX11_read_0 15 rfl) rfl (lv_at hl 0 rfl) ?_
    refine va_get (D := G.1) (ci := 13) (v := .ref (ad 64)) (C := RX11) (T := TX11) (N := 11) hx hb hT inX11 hown hK hP 0 (ix_at (lt71 (by omega)) (cX_0 G ad S)) rfl 8 (by decide) (hT _ m2_77) (fun _ h9 => h9) rfl (fk_get fk_cX11_read_0 16 rfl) ?_
    refine lv_iload_n hx hb (fk_get fk_cX11_read_0 17 rfl) rfl (lv_at hl 1 rfl) ?_
    refine x_itm hx hb hK hP (k := ta) (by omega) (et) (fk_get fk_cX11_read_0 18 rfl) ?_
    refine lv_iload_n hx hb (fk_get fk_cX11_read_0 19 rfl) rfl (lv_at hl 2 rfl) ?_
    refine r_lald (f := fL S (65 + ta)) hx hb hK hP (65 + ta) 1 (ix_at (lt71 (by omega)) (cX_lng (show ta < 6 from by omega))) rfl (j := ia) (ei) (by omega) (by decide) (fk_get fk_cX11_read_0 20 rfl) ?_
    subst hQ
    have hpost : ReP tt i_ ((fL S (65 + ta) ia) : Int64) S := by
      exact Or.inr ⟨ta, hta, et, Or.inr ⟨ia, by rw [en_4]; exact p_c_7, ei, by omega, rfl⟩⟩
    exact W.lret (v := (fL S (65 + ta) ia)) hx hb hr (fun t_ ht_ hW_ => ⟨(fL S (65 + ta) ia), rfl, hpost, ht_⟩) (fun q h => by cases h) (fk_get fk_cX11_read_0 21 rfl)
  have p_c_7 := if1_t hw_6 c_7
  refine lv_ldc2 (v := (-9223372036854775808)) hx hb hown (hT _ m4_64) (fk_get fk_cX11_read_0 13 rfl) ?_
  subst hQ
  have hpost : ReP tt i_ ((-9223372036854775808) : Int64) S := by
    first | exact Or.inl ⟨p_c_3, rfl⟩ | exact Or.inr ⟨ta, hta, et, Or.inl ⟨by rw [en_4]; exact p_c_7, rfl⟩⟩
  exact W.lret (v := (-9223372036854775808)) hx hb hr (fun t_ ht_ hW_ => ⟨(-9223372036854775808), rfl, hpost, ht_⟩) (fun q h => by cases h) (fk_get fk_cX11_read_0 14 rfl)
set_option maxHeartbeats 800000 in
set_option maxRecDepth 100000 in
theorem c_x11_shiftE (l : Launch) (G : GG) (ad : Nat → Nat) (S : FS) (sz : Nat) (n : Nat) (tt : Int32) (i_ : Int32) (o_ : Int32) (j_ : Int32) (x_ : Int32) (hn : fF S (9 + 0) 3 = nI n) (hn6 : n ≤ 6) (hX : XI S) : Met l yX11_shift (Cond.code yX11_shift cX11_shift 6 (some .int) :: TBL) ({ frames := 3, cells := 0, slots := 0, locals := 90 } : Room) (PcW G (wX G ad S) sz [.ref (ad 0), .int (tt), .int (i_), .int (o_), .int (j_), .int (x_)]) (va_Qi (fun (r : Int32) (S' : FS) => XI S' ∧ Fr (fun j k => 65 ≤ j ∧ j < 71 ∧ k = 98) S S' ∧ ShP tt i_ o_ j_ x_ r S S') (fun S' t => BW G (va_A (wX G ad S) sz) (wX G ad S') t) (va_A (wX G ad S) sz)) 0 0 (va_A (wX G ad S) sz) := by
  refine Met.ofW (cc := cX11_shift) (maxL := 6) (ret := (some .int)) (by decide) rfl ?_
  intro p e s m args below meth c₀ s₁ B hml hv
  obtain ⟨rfl, hsz, hP, hK, hD0⟩ := hv
  have hx := B.exec
  have hb := B.bytes
  have hr := B.returns
  have hT : ∀ w ∈ TBL, w.before ([.ref (ad 0), .int (tt), .int (i_), .int (o_), .int (j_), .int (x_)] : List Value).toArray s = true := fun w h => atoms_spec (ws := Cond.code yX11_shift cX11_shift 6 (some .int) :: TBL) B.pre w (List.mem_cons_of_mem _ h)
  have hown : s.vm.findClass "LittleMore" = some m.cls := findClass_of_methodNamed B.named
  have hlocks := B.notSynchronized
  subst hsz
  have hD := hD0.self (sz := s.heap.size)
  generalize hAe : va_A (wX G ad S) s.heap.size = A at hD ⊢
  have hA : ∀ q : Nat, s.heap.size ≤ q → A q := fun q h => by rw [← hAe]; exact Or.inr h
  have hS : va_S A s.heap s.heap [] := va_S.rf
  have hP : va_P G.1 vwCl (wX G ad S) s.heap := hP
  have hl := lv_entry ([.ref (ad 0), .int (tt), .int (i_), .int (o_), .int (j_), .int (x_)]) (n := 6) (Nat.le_of_ble_eq_true rfl)
  rw [lg_entry_eq]
  generalize (lg_sl ([.ref (ad 0), .int (tt), .int (i_), .int (o_), .int (j_), .int (x_)]) ++ List.replicate (6 - (lg_sl ([.ref (ad 0), .int (tt), .int (i_), .int (o_), .int (j_), .int (x_)])).length) Slot.unset).toArray = ls at hl ⊢
  have hl : lv_has ls 6 [(0, .ref (ad 0)), (1, .int (tt)), (2, .int (i_)), (3, .int (o_)), (4, .int (j_)), (5, .int (x_))] := hl
  refine W_abs (fun Q hQ => ?_)
  generalize ([.ref (ad 0), .int (tt), .int (i_), .int (o_), .int (j_), .int (x_)] : List Value).toArray = args at hT hQ ⊢
  refine lv_iload_n hx hb (fk_get fk_cX11_shift_0 0 rfl) rfl (lv_at hl 1 rfl) ?_
  refine vp_callSi (W.runS (As := [.int (tt)]) (rest := []) ⟨hx, hb, hml, hown, hT⟩ (c_xisNoTape l (tt) ) (tS 1 hT m4_102 m4_103 m1_1 m4_104 rfl rfl (by decide +kernel) ⟨Nat.le_of_ble_eq_true rfl, Nat.le_of_ble_eq_true rfl⟩) ⟨PcN_blind, PcN_of _ _ _⟩ rfl rfl hl.1 rfl (lv_room (Nat.le_of_ble_eq_true rfl)) (fk_get fk_cX11_shift_0 1 rfl) ⟨Nat.zero_le _, Nat.zero_le _⟩) (fun r_1 hw_2 => ?_)
  try dsimp only at hw_2
  refine lv_if_ne (tgt := 14) hx hb (fk_get fk_cX11_shift_0 2 rfl) (by decide) (fun c_3 => ?_) (fun c_3 => ?_)
  · have p_c_3 := if1_t hw_2 c_3
    refine lv_iconst (v := (-1)) hx hb (fk_get fk_cX11_shift_0 6 rfl) (by decide) ?_
    subst hQ
    have hpost : XI S ∧ Fr (fun j k => 65 ≤ j ∧ j < 71 ∧ k = 98) S S ∧ ShP tt i_ o_ j_ x_ ((-1) : Int32) S S := by
      first | exact ⟨hX, (Fr.rf : Fr (fun j k => 65 ≤ j ∧ j < 71 ∧ k = 98) S S), Or.inl ⟨p_c_3, rfl, rfl⟩⟩ | exact ⟨hX, (Fr.rf : Fr (fun j k => 65 ≤ j ∧ j < 71 ∧ k = 98) S S), Or.inr (Or.inl ⟨p_c_3, p_c_6, rfl, rfl⟩)⟩ | exact ⟨hX, (Fr.rf : Fr (fun j k => 65 ≤ j ∧ j < 71 ∧ k = 98) S S), Or.inr (Or.inr ⟨ta, tb, hta, et, htb, eb, Or.inl ⟨c_7, rfl, rfl⟩⟩)⟩ | exact ⟨hX, (Fr.rf : Fr (fun j k => 65 ≤ j ∧ j < 71 ∧ k = 98) S S), Or.inr (Or.inr ⟨ta, tb, hta, et, htb, eb, Or.inr (Or.inl ⟨c_8, rfl, rfl⟩)⟩)⟩ | exact ⟨hX, (Fr.rf : Fr (fun j k => 65 ≤ j ∧ j < 71 ∧ k = 98) S S), Or.inr (Or.inr ⟨ta, tb, hta, et, htb, eb, Or.inr (Or.inr ⟨c_7, c_8, Or.inl ⟨c_9, rfl, rfl⟩⟩)⟩)⟩ | exact ⟨hX, (Fr.rf : Fr (fun j k => 65 ≤ j ∧ j < 71 ∧ k = 98) S S), Or.inr (Or.inr ⟨ta, tb, hta, et, htb, eb, Or.inr (Or.inr ⟨c_7, c_8, Or.inr ⟨c_9, Or.inl ⟨Or.inl c_10, rfl, rfl⟩⟩⟩)⟩)⟩ | exact ⟨hX, (Fr.rf : Fr (fun j k => 65 ≤ j ∧ j < 71 ∧ k = 98) S S), Or.inr (Or.inr ⟨ta, tb, hta, et, htb, eb, Or.inr (Or.inr ⟨c_7, c_8, Or.inr ⟨c_9, Or.inl ⟨Or.inr (Or.inl (by rw [en_11]; exact p_c_14)), rfl, rfl⟩⟩⟩)⟩)⟩ | exact ⟨hX, (Fr.rf : Fr (fun j k => 65 ≤ j ∧ j < 71 ∧ k = 98) S S), Or.inr (Or.inr ⟨ta, tb, hta, et, htb, eb, Or.inr (Or.inr ⟨c_7, c_8, Or.inr ⟨c_9, Or.inl ⟨Or.inr (Or.inr (by rw [en_15]; exact p_c_18)), rfl, rfl⟩⟩⟩)⟩)⟩ | exact ⟨hX, (Fr.rf : Fr (fun j k => 65 ≤ j ∧ j < 71 ∧ k = 98) S S), Or.inr (Or.inr ⟨ta, tb, hta, et, htb, eb, Or.inr (Or.inr ⟨c_7, c_8, Or.inr ⟨c_9, Or.inr ⟨c_10, by rw [en_11]; exact p_c_14, by rw [en_15]; exact p_c_18, rfl, rfl⟩⟩⟩)⟩)⟩
    exact W.iret (v := (-1)) hx hb hr (fun t_ ht_ hW_ => ⟨⟨(-1), S, rfl, hpost, by rw [ht_]; exact hP, va_K.moved hW_.alike hK, hD⟩, hS.F ht_⟩) hS.2.2 (fk_get fk_cX11_shift_0 7 rfl)
  have p_c_3 := if1_f hw_2 c_3
  obtain ⟨ta, hta, et⟩ := out_6 p_c_3
  refine lv_iload_n hx hb (fk_get fk_cX11_shift_0 3 rfl) rfl (lv_at hl 3 rfl) ?_
  refine vp_callSi (W.runS (As := [.int (o_)]) (rest := []) ⟨hx, hb, hml, hown, hT⟩ (c_xisNoTape l (o_) ) (tS 1 hT m4_102 m4_103 m1_1 m4_104 rfl rfl (by decide +kernel) ⟨Nat.le_of_ble_eq_true rfl, Nat.le_of_ble_eq_true rfl⟩) ⟨PcN_blind, PcN_of _ _ _⟩ rfl rfl hl.1 rfl (lv_room (Nat.le_of_ble_eq_true rfl)) (fk_get fk_cX11_shift_0 4 rfl) ⟨Nat.zero_le _, Nat.zero_le _⟩) (fun r_4 hw_5 => ?_)
  try dsimp only at hw_5
  refine lv_if_eq (tgt := 16) hx hb (fk_get fk_cX11_shift_0 5 rfl) (by decide) (fun c_6 => ?_) (fun c_6 => ?_)
  · have p_c_6 := if1_f hw_5 c_6
    obtain ⟨tb, htb, eb⟩ := out_6 p_c_6
    refine lv_aload_n hx hb (fk_get fk_cX11_shift_0 8 rfl) rfl (lv_at hl 0 rfl) ?_
    refine va_get (D := G.1) (ci := 13) (v := .ref (ad 62)) (C := RX11) (T := TX11) (N := 11) hx hb hT inX11 hown hK hP 0 (ix_at (lt71 (by omega)) (cX_0 G ad S)) rfl 6 (by decide) (hT _ m2_75) (fun _ h9 => h9) rfl (fk_get fk_cX11_shift_0 9 rfl) ?_
    refine lv_iload_n hx hb (fk_get fk_cX11_shift_0 10 rfl) rfl (lv_at hl 1 rfl) ?_
    refine r_iald (f := fA S 62) hx hb hK hP 62 0 (ix_at (lt71 (by omega)) (cX_arr (show isA 62 0 6 from by decide))) rfl (j := ta) (et) (by omega) (by decide) (fk_get fk_cX11_shift_0 11 rfl) ?_
    refine lv_iconst (v := (-1)) hx hb (fk_get fk_cX11_shift_0 12 rfl) (by decide) ?_
    refine lv_icmp_eq (tgt := 36) hx hb (fk_get fk_cX11_shift_0 13 rfl) (by decide) (fun c_7 => ?_) (fun c_7 => ?_)
    · refine lv_bipush (v := (-11)) hx hb (fk_get fk_cX11_shift_0 20 rfl) (by decide) ?_
      subst hQ
      have hpost : XI S ∧ Fr (fun j k => 65 ≤ j ∧ j < 71 ∧ k = 98) S S ∧ ShP tt i_ o_ j_ x_ ((-11) : Int32) S S := by
        first | exact ⟨hX, (Fr.rf : Fr (fun j k => 65 ≤ j ∧ j < 71 ∧ k = 98) S S), Or.inl ⟨p_c_3, rfl, rfl⟩⟩ | exact ⟨hX, (Fr.rf : Fr (fun j k => 65 ≤ j ∧ j < 71 ∧ k = 98) S S), Or.inr (Or.inl ⟨p_c_3, p_c_6, rfl, rfl⟩)⟩ | exact ⟨hX, (Fr.rf : Fr (fun j k => 65 ≤ j ∧ j < 71 ∧ k = 98) S S), Or.inr (Or.inr ⟨ta, tb, hta, et, htb, eb, Or.inl ⟨c_7, rfl, rfl⟩⟩)⟩ | exact ⟨hX, (Fr.rf : Fr (fun j k => 65 ≤ j ∧ j < 71 ∧ k = 98) S S), Or.inr (Or.inr ⟨ta, tb, hta, et, htb, eb, Or.inr (Or.inl ⟨c_8, rfl, rfl⟩)⟩)⟩ | exact ⟨hX, (Fr.rf : Fr (fun j k => 65 ≤ j ∧ j < 71 ∧ k = 98) S S), Or.inr (Or.inr ⟨ta, tb, hta, et, htb, eb, Or.inr (Or.inr ⟨c_7, c_8, Or.inl ⟨c_9, rfl, rfl⟩⟩)⟩)⟩ | exact ⟨hX, (Fr.rf : Fr (fun j k => 65 ≤ j ∧ j < 71 ∧ k = 98) S S), Or.inr (Or.inr ⟨ta, tb, hta, et, htb, eb, Or.inr (Or.inr ⟨c_7, c_8, Or.inr ⟨c_9, Or.inl ⟨Or.inl c_10, rfl, rfl⟩⟩⟩)⟩)⟩ | exact ⟨hX, (Fr.rf : Fr (fun j k => 65 ≤ j ∧ j < 71 ∧ k = 98) S S), Or.inr (Or.inr ⟨ta, tb, hta, et, htb, eb, Or.inr (Or.inr ⟨c_7, c_8, Or.inr ⟨c_9, Or.inl ⟨Or.inr (Or.inl (by rw [en_11]; exact p_c_14)), rfl, rfl⟩⟩⟩)⟩)⟩ | exact ⟨hX, (Fr.rf : Fr (fun j k => 65 ≤ j ∧ j < 71 ∧ k = 98) S S), Or.inr (Or.inr ⟨ta, tb, hta, et, htb, eb, Or.inr (Or.inr ⟨c_7, c_8, Or.inr ⟨c_9, Or.inl ⟨Or.inr (Or.inr (by rw [en_15]; exact p_c_18)), rfl, rfl⟩⟩⟩)⟩)⟩ | exact ⟨hX, (Fr.rf : Fr (fun j k => 65 ≤ j ∧ j < 71 ∧ k = 98) S S), Or.inr (Or.inr ⟨ta, tb, hta, et, htb, eb, Or.inr (Or.inr ⟨c_7, c_8, Or.inr ⟨c_9, Or.inr ⟨c_10, by rw [en_11]; exact p_c_14, by rw [en_15]; exact p_c_18, rfl, rfl⟩⟩⟩)⟩)⟩
      exact W.iret (v := (-11)) hx hb hr (fun t_ ht_ hW_ => ⟨⟨(-11), S, rfl, hpost, by rw [ht_]; exact hP, va_K.moved hW_.alike hK, hD⟩, hS.F ht_⟩) hS.2.2 (fk_get fk_cX11_shift_0 21 rfl)
    refine lv_aload_n hx hb (fk_get fk_cX11_shift_0 14 rfl) rfl (lv_at hl 0 rfl) ?_
    refine va_get (D := G.1) (ci := 13) (v := .ref (ad 62)) (C := RX11) (T := TX11) (N := 11) hx hb hT inX11 hown hK hP 0 (ix_at (lt71 (by omega)) (cX_0 G ad S)) rfl 6 (by decide) (hT _ m2_75) (fun _ h9 => h9) rfl (fk_get fk_cX11_shift_0 15 rfl) ?_
    refine lv_iload_n hx hb (fk_get fk_cX11_shift_0 16 rfl) rfl (lv_at hl 3 rfl) ?_
    refine r_iald (f := fA S 62) hx hb hK hP 62 0 (ix_at (lt71 (by omega)) (cX_arr (show isA 62 0 6 from by decide))) rfl (j := tb) (eb) (by omega) (by decide) (fk_get fk_cX11_shift_0 17 rfl) ?_
    refine lv_iconst (v := (-1)) hx hb (fk_get fk_cX11_shift_0 18 rfl) (by decide) ?_
    refine lv_icmp_ne (tgt := 39) hx hb (fk_get fk_cX11_shift_0 19 rfl) (by decide) (fun c_8 => ?_) (fun c_8 => ?_)
    · refine lv_aload_n hx hb (fk_get fk_cX11_shift_0 22 rfl) rfl (lv_at hl 0 rfl) ?_
      refine va_get (D := G.1) (ci := 13) (v := .ref (ad 62)) (C := RX11) (T := TX11) (N := 11) hx hb hT inX11 hown hK hP 0 (ix_at (lt71 (by omega)) (cX_0 G ad S)) rfl 6 (by decide) (hT _ m2_75) (fun _ h9 => h9) rfl (fk_get fk_cX11_shift_0 23 rfl) ?_
      refine lv_iload_n hx hb (fk_get fk_cX11_shift_0 24 rfl) rfl (lv_at hl 1 rfl) ?_
      refine r_iald (f := fA S 62) hx hb hK hP 62 0 (ix_at (lt71 (by omega)) (cX_arr (show isA 62 0 6 from by decide))) rfl (j := ta) (et) (by omega) (by decide) (fk_get fk_cX11_shift_0 25 rfl) ?_
      refine lv_aload_n hx hb (fk_get fk_cX11_shift_0 26 rfl) rfl (lv_at hl 0 rfl) ?_
      refine va_get (D := G.1) (ci := 13) (v := .ref (ad 62)) (C := RX11) (T := TX11) (N := 11) hx hb hT inX11 hown hK hP 0 (ix_at (lt71 (by omega)) (cX_0 G ad S)) rfl 6 (by decide) (hT _ m2_75) (fun _ h9 => h9) rfl (fk_get fk_cX11_shift_0 27 rfl) ?_
      refine lv_iload_n hx hb (fk_get fk_cX11_shift_0 28 rfl) rfl (lv_at hl 3 rfl) ?_
      refine r_iald (f := fA S 62) hx hb hK hP 62 0 (ix_at (lt71 (by omega)) (cX_arr (show isA 62 0 6 from by decide))) rfl (j := tb) (eb) (by omega) (by decide) (fk_get fk_cX11_shift_0 29 rfl) ?_
      refine lv_icmp_eq (tgt := 57) hx hb (fk_get fk_cX11_shift_0 30 rfl) (by decide) (fun c_9 => ?_) (fun c_9 => ?_)
      · refine lv_iload hx hb (fk_get fk_cX11_shift_1 1 rfl) (lv_at hl 5 rfl) ?_
        refine lv_if_lt (tgt := 97) hx hb (fk_get fk_cX11_shift_1 2 rfl) (by decide) (fun c_10 => ?_) (fun c_10 => ?_)
        · refine lv_bipush (v := (-13)) hx hb (fk_get fk_cX11_shift_1 23 rfl) (by decide) ?_
          subst hQ
          have hpost : XI S ∧ Fr (fun j k => 65 ≤ j ∧ j < 71 ∧ k = 98) S S ∧ ShP tt i_ o_ j_ x_ ((-13) : Int32) S S := by
            first | exact ⟨hX, (Fr.rf : Fr (fun j k => 65 ≤ j ∧ j < 71 ∧ k = 98) S S), Or.inl ⟨p_c_3, rfl, rfl⟩⟩ | exact ⟨hX, (Fr.rf : Fr (fun j k => 65 ≤ j ∧ j < 71 ∧ k = 98) S S), Or.inr (Or.inl ⟨p_c_3, p_c_6, rfl, rfl⟩)⟩ | exact ⟨hX, (Fr.rf : Fr (fun j k => 65 ≤ j ∧ j < 71 ∧ k = 98) S S), Or.inr (Or.inr ⟨ta, tb, hta, et, htb, eb, Or.inl ⟨c_7, rfl, rfl⟩⟩)⟩ | exact ⟨hX, (Fr.rf : Fr (fun j k => 65 ≤ j ∧ j < 71 ∧ k = 98) S S), Or.inr (Or.inr ⟨ta, tb, hta, et, htb, eb, Or.inr (Or.inl ⟨c_8, rfl, rfl⟩)⟩)⟩ | exact ⟨hX, (Fr.rf : Fr (fun j k => 65 ≤ j ∧ j < 71 ∧ k = 98) S S), Or.inr (Or.inr ⟨ta, tb, hta, et, htb, eb, Or.inr (Or.inr ⟨c_7, c_8, Or.inl ⟨c_9, rfl, rfl⟩⟩)⟩)⟩ | exact ⟨hX, (Fr.rf : Fr (fun j k => 65 ≤ j ∧ j < 71 ∧ k = 98) S S), Or.inr (Or.inr ⟨ta, tb, hta, et, htb, eb, Or.inr (Or.inr ⟨c_7, c_8, Or.inr ⟨c_9, Or.inl ⟨Or.inl c_10, rfl, rfl⟩⟩⟩)⟩)⟩ | exact ⟨hX, (Fr.rf : Fr (fun j k => 65 ≤ j ∧ j < 71 ∧ k = 98) S S), Or.inr (Or.inr ⟨ta, tb, hta, et, htb, eb, Or.inr (Or.inr ⟨c_7, c_8, Or.inr ⟨c_9, Or.inl ⟨Or.inr (Or.inl (by rw [en_11]; exact p_c_14)), rfl, rfl⟩⟩⟩)⟩)⟩ | exact ⟨hX, (Fr.rf : Fr (fun j k => 65 ≤ j ∧ j < 71 ∧ k = 98) S S), Or.inr (Or.inr ⟨ta, tb, hta, et, htb, eb, Or.inr (Or.inr ⟨c_7, c_8, Or.inr ⟨c_9, Or.inl ⟨Or.inr (Or.inr (by rw [en_15]; exact p_c_18)), rfl, rfl⟩⟩⟩)⟩)⟩ | exact ⟨hX, (Fr.rf : Fr (fun j k => 65 ≤ j ∧ j < 71 ∧ k = 98) S S), Or.inr (Or.inr ⟨ta, tb, hta, et, htb, eb, Or.inr (Or.inr ⟨c_7, c_8, Or.inr ⟨c_9, Or.inr ⟨c_10, by rw [en_11]; exact p_c_14, by rw [en_15]; exact p_c_18, rfl, rfl⟩⟩⟩)⟩)⟩
          exact W.iret (v := (-13)) hx hb hr (fun t_ ht_ hW_ => ⟨⟨(-13), S, rfl, hpost, by rw [ht_]; exact hP, va_K.moved hW_.alike hK, hD⟩, hS.F ht_⟩) hS.2.2 (fk_get fk_cX11_shift_1 24 rfl)
        refine lv_iload_n hx hb (fk_get fk_cX11_shift_1 3 rfl) rfl (lv_at hl 2 rfl) ?_
        refine lv_iconst (v := 0) hx hb (fk_get fk_cX11_shift_1 4 rfl) (by decide) ?_
        refine lv_aload_n hx hb (fk_get fk_cX11_shift_1 5 rfl) rfl (lv_at hl 0 rfl) ?_
        refine va_get (D := G.1) (ci := 13) (v := .ref (ad 63)) (C := RX11) (T := TX11) (N := 11) hx hb hT inX11 hown hK hP 0 (ix_at (lt71 (by omega)) (cX_0 G ad S)) rfl 7 (by decide) (hT _ m2_76) (fun _ h9 => h9) rfl (fk_get fk_cX11_shift_1 6 rfl) ?_
        refine lv_iload_n hx hb (fk_get fk_cX11_shift_1 7 rfl) rfl (lv_at hl 1 rfl) ?_
        refine r_iald (f := fA S 63) hx hb hK hP 63 0 (ix_at (lt71 (by omega)) (cX_arr (show isA 63 0 6 from by decide))) rfl (j := ta) (et) (by omega) (by decide) (fk_get fk_cX11_shift_1 8 rfl) ?_
        obtain ⟨n_11, en_11, bn_11⟩ := XI.lens hX (t := ta) (by omega)
        rw [en_11]
        refine lv_iload hx hb (fk_get fk_cX11_shift_1 9 rfl) (lv_at hl 5 rfl) ?_
        refine lv_isub hx hb (fk_get fk_cX11_shift_1 10 rfl) ?_
        refine vp_callSi (W.runS (As := [.int (i_), .int (0), .int (((nI n_11) - x_))]) (rest := []) ⟨hx, hb, hml, hown, hT⟩ (c_xisOutside l (i_) (0) (((nI n_11) - x_)) ) (tS 3 hT m2_108 m2_109 m1_1 m2_110 rfl rfl (by decide +kernel) ⟨Nat.le_of_ble_eq_true rfl, Nat.le_of_ble_eq_true rfl⟩) ⟨PcN_blind, PcN_of _ _ _⟩ rfl rfl hl.1 rfl (lv_room (Nat.le_of_ble_eq_true rfl)) (fk_get fk_cX11_shift_1 11 rfl) ⟨Nat.zero_le _, Nat.zero_le _⟩) (fun r_12 hw_13 => ?_)
        try dsimp only at hw_13
        refine lv_if_ne (tgt := 97) hx hb (fk_get fk_cX11_shift_1 12 rfl) (by decide) (fun c_14 => ?_) (fun c_14 => ?_)
        · have p_c_14 := if1_t hw_13 c_14
          refine lv_bipush (v := (-13)) hx hb (fk_get fk_cX11_shift_1 23 rfl) (by decide) ?_
          subst hQ
          have hpost : XI S ∧ Fr (fun j k => 65 ≤ j ∧ j < 71 ∧ k = 98) S S ∧ ShP tt i_ o_ j_ x_ ((-13) : Int32) S S := by
            first | exact ⟨hX, (Fr.rf : Fr (fun j k => 65 ≤ j ∧ j < 71 ∧ k = 98) S S), Or.inl ⟨p_c_3, rfl, rfl⟩⟩ | exact ⟨hX, (Fr.rf : Fr (fun j k => 65 ≤ j ∧ j < 71 ∧ k = 98) S S), Or.inr (Or.inl ⟨p_c_3, p_c_6, rfl, rfl⟩)⟩ | exact ⟨hX, (Fr.rf : Fr (fun j k => 65 ≤ j ∧ j < 71 ∧ k = 98) S S), Or.inr (Or.inr ⟨ta, tb, hta, et, htb, eb, Or.inl ⟨c_7, rfl, rfl⟩⟩)⟩ | exact ⟨hX, (Fr.rf : Fr (fun j k => 65 ≤ j ∧ j < 71 ∧ k = 98) S S), Or.inr (Or.inr ⟨ta, tb, hta, et, htb, eb, Or.inr (Or.inl ⟨c_8, rfl, rfl⟩)⟩)⟩ | exact ⟨hX, (Fr.rf : Fr (fun j k => 65 ≤ j ∧ j < 71 ∧ k = 98) S S), Or.inr (Or.inr ⟨ta, tb, hta, et, htb, eb, Or.inr (Or.inr ⟨c_7, c_8, Or.inl ⟨c_9, rfl, rfl⟩⟩)⟩)⟩ | exact ⟨hX, (Fr.rf : Fr (fun j k => 65 ≤ j ∧ j < 71 ∧ k = 98) S S), Or.inr (Or.inr ⟨ta, tb, hta, et, htb, eb, Or.inr (Or.inr ⟨c_7, c_8, Or.inr ⟨c_9, Or.inl ⟨Or.inl c_10, rfl, rfl⟩⟩⟩)⟩)⟩ | exact ⟨hX, (Fr.rf : Fr (fun j k => 65 ≤ j ∧ j < 71 ∧ k = 98) S S), Or.inr (Or.inr ⟨ta, tb, hta, et, htb, eb, Or.inr (Or.inr ⟨c_7, c_8, Or.inr ⟨c_9, Or.inl ⟨Or.inr (Or.inl (by rw [en_11]; exact p_c_14)), rfl, rfl⟩⟩⟩)⟩)⟩ | exact ⟨hX, (Fr.rf : Fr (fun j k => 65 ≤ j ∧ j < 71 ∧ k = 98) S S), Or.inr (Or.inr ⟨ta, tb, hta, et, htb, eb, Or.inr (Or.inr ⟨c_7, c_8, Or.inr ⟨c_9, Or.inl ⟨Or.inr (Or.inr (by rw [en_15]; exact p_c_18)), rfl, rfl⟩⟩⟩)⟩)⟩ | exact ⟨hX, (Fr.rf : Fr (fun j k => 65 ≤ j ∧ j < 71 ∧ k = 98) S S), Or.inr (Or.inr ⟨ta, tb, hta, et, htb, eb, Or.inr (Or.inr ⟨c_7, c_8, Or.inr ⟨c_9, Or.inr ⟨c_10, by rw [en_11]; exact p_c_14, by rw [en_15]; exact p_c_18, rfl, rfl⟩⟩⟩)⟩)⟩
          exact W.iret (v := (-13)) hx hb hr (fun t_ ht_ hW_ => ⟨⟨(-13), S, rfl, hpost, by rw [ht_]; exact hP, va_K.moved hW_.alike hK, hD⟩, hS.F ht_⟩) hS.2.2 (fk_get fk_cX11_shift_1 24 rfl)
        have p_c_14 := if1_f hw_13 c_14
        obtain ⟨hi0, hi1⟩ := sh_le (by omega) (by assumption) p_c_14
        refine lv_iload hx hb (fk_get fk_cX11_shift_1 13 rfl) (lv_at hl 4 rfl) ?_
        refine lv_iconst (v := 0) hx hb (fk_get fk_cX11_shift_1 14 rfl) (by decide) ?_
        refine lv_aload_n hx hb (fk_get fk_cX11_shift_1 15 rfl) rfl (lv_at hl 0 rfl) ?_
        refine va_get (D := G.1) (ci := 13) (v := .ref (ad 63)) (C := RX11) (T := TX11) (N := 11) hx hb hT inX11 hown hK hP 0 (ix_at (lt71 (by omega)) (cX_0 G ad S)) rfl 7 (by decide) (hT _ m2_76) (fun _ h9 => h9) rfl (fk_get fk_cX11_shift_1 16 rfl) ?_
        refine lv_iload_n hx hb (fk_get fk_cX11_shift_1 17 rfl) rfl (lv_at hl 3 rfl) ?_
        refine r_iald (f := fA S 63) hx hb hK hP 63 0 (ix_at (lt71 (by omega)) (cX_arr (show isA 63 0 6 from by decide))) rfl (j := tb) (eb) (by omega) (by decide) (fk_get fk_cX11_shift_1 18 rfl) ?_
        obtain ⟨n_15, en_15, bn_15⟩ := XI.lens hX (t := tb) (by omega)
        rw [en_15]
        refine lv_iload hx hb (fk_get fk_cX11_shift_1 19 rfl) (lv_at hl 5 rfl) ?_
        refine lv_isub hx hb (fk_get fk_cX11_shift_1 20 rfl) ?_
        refine vp_callSi (W.runS (As := [.int (j_), .int (0), .int (((nI n_15) - x_))]) (rest := []) ⟨hx, hb, hml, hown, hT⟩ (c_xisOutside l (j_) (0) (((nI n_15) - x_)) ) (tS 3 hT m2_108 m2_109 m1_1 m2_110 rfl rfl (by decide +kernel) ⟨Nat.le_of_ble_eq_true rfl, Nat.le_of_ble_eq_true rfl⟩) ⟨PcN_blind, PcN_of _ _ _⟩ rfl rfl hl.1 rfl (lv_room (Nat.le_of_ble_eq_true rfl)) (fk_get fk_cX11_shift_1 21 rfl) ⟨Nat.zero_le _, Nat.zero_le _⟩) (fun r_16 hw_17 => ?_)
        try dsimp only at hw_17
        refine lv_if_eq (tgt := 100) hx hb (fk_get fk_cX11_shift_1 22 rfl) (by decide) (fun c_18 => ?_) (fun c_18 => ?_)
        · have p_c_18 := if1_f hw_17 c_18
          obtain ⟨hj0, hj1⟩ := sh_le (by omega) (by assumption) p_c_18
          refine lv_aload_n hx hb (fk_get fk_cX11_shift_1 25 rfl) rfl (lv_at hl 0 rfl) ?_
          refine va_get (D := G.1) (ci := 13) (v := .ref (ad 64)) (C := RX11) (T := TX11) (N := 11) hx hb hT inX11 hown hK hP 0 (ix_at (lt71 (by omega)) (cX_0 G ad S)) rfl 8 (by decide) (hT _ m2_77) (fun _ h9 => h9) rfl (fk_get fk_cX11_shift_1 26 rfl) ?_
          refine lv_iload_n hx hb (fk_get fk_cX11_shift_1 27 rfl) rfl (lv_at hl 1 rfl) ?_
          refine x_itm hx hb hK hP (k := ta) (by omega) (et) (fk_get fk_cX11_shift_1 28 rfl) ?_
          refine lv_iload_n hx hb (fk_get fk_cX11_shift_1 29 rfl) rfl (lv_at hl 2 rfl) ?_
          refine lv_aload_n hx hb (fk_get fk_cX11_shift_1 30 rfl) rfl (lv_at hl 0 rfl) ?_
          refine va_get (D := G.1) (ci := 13) (v := .ref (ad 64)) (C := RX11) (T := TX11) (N := 11) hx hb hT inX11 hown hK hP 0 (ix_at (lt71 (by omega)) (cX_0 G ad S)) rfl 8 (by decide) (hT _ m2_77) (fun _ h9 => h9) rfl (fk_get fk_cX11_shift_1 31 rfl) ?_
          refine lv_iload_n hx hb (fk_get fk_cX11_shift_2 0 rfl) rfl (lv_at hl 3 rfl) ?_
          refine x_itm hx hb hK hP (k := tb) (by omega) (eb) (fk_get fk_cX11_shift_2 1 rfl) ?_
          refine lv_iload hx hb (fk_get fk_cX11_shift_2 2 rfl) (lv_at hl 4 rfl) ?_
          refine lv_iload hx hb (fk_get fk_cX11_shift_2 3 rfl) (lv_at hl 5 rfl) ?_
          refine va_copyl hx hb (by rw [hml]; exact hl.1.symm) hown (hT _ m5_94) (hT _ m3_152) (hT _ m3_151) (hT _ m1_24) hK hP hD hS (65 + ta) (65 + tb) 1 1 (ix_at (lt71 (by omega)) (cX_lng (show ta < 6 from by omega))) (ix_at (lt71 (by omega)) (cX_lng (show tb < 6 from by omega))) rfl rfl rfl (hi0) (hj0) (by assumption) (by omega) (by omega) (fun _ _ => rfl) (Nat.le_of_ble_eq_true rfl) (Nat.le_of_ble_eq_true rfl) (fk_get fk_cX11_shift_2 4 rfl) (fun H locs hP hD hS => ?_)
          rw [pX_lng (G := G) (ad := ad) (S := S) (show tb < 6 from by omega) (va_cpy (fL S (65 + ta)) (fL S (65 + tb)) (i_ : Int32).toNatClampNeg (j_ : Int32).toNatClampNeg (x_ : Int32).toNatClampNeg)] at hP hD
          have hX_19 : XI (setL S (65 + tb) (va_cpy (fL S (65 + ta)) (fL S (65 + tb)) (i_ : Int32).toNatClampNeg (j_ : Int32).toNatClampNeg (x_ : Int32).toNatClampNeg)) := XI.sL hX _
          have hF_20 : Fr (fun j k => 65 ≤ j ∧ j < 71 ∧ k = 98) S (setL S (65 + tb) (va_cpy (fL S (65 + ta)) (fL S (65 + tb)) (i_ : Int32).toNatClampNeg (j_ : Int32).toNatClampNeg (x_ : Int32).toNatClampNeg)) := Fr.sL (Fr.rf : Fr (fun j k => 65 ≤ j ∧ j < 71 ∧ k = 98) S S) (by omega)
          refine lv_iload hx hb (fk_get fk_cX11_shift_2 5 rfl) (lv_at hl 5 rfl) ?_
          subst hQ
          have hpost : XI (setL S (65 + tb) (va_cpy (fL S (65 + ta)) (fL S (65 + tb)) (i_ : Int32).toNatClampNeg (j_ : Int32).toNatClampNeg (x_ : Int32).toNatClampNeg)) ∧ Fr (fun j k => 65 ≤ j ∧ j < 71 ∧ k = 98) S (setL S (65 + tb) (va_cpy (fL S (65 + ta)) (fL S (65 + tb)) (i_ : Int32).toNatClampNeg (j_ : Int32).toNatClampNeg (x_ : Int32).toNatClampNeg)) ∧ ShP tt i_ o_ j_ x_ (x_ : Int32) S (setL S (65 + tb) (va_cpy (fL S (65 + ta)) (fL S (65 + tb)) (i_ : Int32).toNatClampNeg (j_ : Int32).toNatClampNeg (x_ : Int32).toNatClampNeg)) := by
            first | exact ⟨hX_19, hF_20, Or.inl ⟨p_c_3, rfl, rfl⟩⟩ | exact ⟨hX_19, hF_20, Or.inr (Or.inl ⟨p_c_3, p_c_6, rfl, rfl⟩)⟩ | exact ⟨hX_19, hF_20, Or.inr (Or.inr ⟨ta, tb, hta, et, htb, eb, Or.inl ⟨c_7, rfl, rfl⟩⟩)⟩ | exact ⟨hX_19, hF_20, Or.inr (Or.inr ⟨ta, tb, hta, et, htb, eb, Or.inr (Or.inl ⟨c_8, rfl, rfl⟩)⟩)⟩ | exact ⟨hX_19, hF_20, Or.inr (Or.inr ⟨ta, tb, hta, et, htb, eb, Or.inr (Or.inr ⟨c_7, c_8, Or.inl ⟨c_9, rfl, rfl⟩⟩)⟩)⟩ | exact ⟨hX_19, hF_20, Or.inr (Or.inr ⟨ta, tb, hta, et, htb, eb, Or.inr (Or.inr ⟨c_7, c_8, Or.inr ⟨c_9, Or.inl ⟨Or.inl c_10, rfl, rfl⟩⟩⟩)⟩)⟩ | exact ⟨hX_19, hF_20, Or.inr (Or.inr ⟨ta, tb, hta, et, htb, eb, Or.inr (Or.inr ⟨c_7, c_8, Or.inr ⟨c_9, Or.inl ⟨Or.inr (Or.inl (by rw [en_11]; exact p_c_14)), rfl, rfl⟩⟩⟩)⟩)⟩ | exact ⟨hX_19, hF_20, Or.inr (Or.inr ⟨ta, tb, hta, et, htb, eb, Or.inr (Or.inr ⟨c_7, c_8, Or.inr ⟨c_9, Or.inl ⟨Or.inr (Or.inr (by rw [en_15]; exact p_c_18)), rfl, rfl⟩⟩⟩)⟩)⟩ | exact ⟨hX_19, hF_20, Or.inr (Or.inr ⟨ta, tb, hta, et, htb, eb, Or.inr (Or.inr ⟨c_7, c_8, Or.inr ⟨c_9, Or.inr ⟨c_10, by rw [en_11]; exact p_c_14, by rw [en_15]; exact p_c_18, rfl, rfl⟩⟩⟩)⟩)⟩
          exact W.iret (v := x_) hx hb hr (fun t_ ht_ hW_ => ⟨⟨x_, (setL S (65 + tb) (va_cpy (fL S (65 + ta)) (fL S (65 + tb)) (i_ : Int32).toNatClampNeg (j_ : Int32).toNatClampNeg (x_ : Int32).toNatClampNeg)), rfl, hpost, by rw [ht_]; exact hP, va_K.moved hW_.alike hK, hD⟩, hS.F ht_⟩) hS.2.2 (fk_get fk_cX11_shift_2 6 rfl)
        have p_c_18 := if1_t hw_17 c_18
        refine lv_bipush (v := (-13)) hx hb (fk_get fk_cX11_shift_1 23 rfl) (by decide) ?_
        subst hQ
        have hpost : XI S ∧ Fr (fun j k => 65 ≤ j ∧ j < 71 ∧ k = 98) S S ∧ ShP tt i_ o_ j_ x_ ((-13) : Int32) S S := by
          first | exact ⟨hX, (Fr.rf : Fr (fun j k => 65 ≤ j ∧ j < 71 ∧ k = 98) S S), Or.inl ⟨p_c_3, rfl, rfl⟩⟩ | exact ⟨hX, (Fr.rf : Fr (fun j k => 65 ≤ j ∧ j < 71 ∧ k = 98) S S), Or.inr (Or.inl ⟨p_c_3, p_c_6, rfl, rfl⟩)⟩ | exact ⟨hX, (Fr.rf : Fr (fun j k => 65 ≤ j ∧ j < 71 ∧ k = 98) S S), Or.inr (Or.inr ⟨ta, tb, hta, et, htb, eb, Or.inl ⟨c_7, rfl, rfl⟩⟩)⟩ | exact ⟨hX, (Fr.rf : Fr (fun j k => 65 ≤ j ∧ j < 71 ∧ k = 98) S S), Or.inr (Or.inr ⟨ta, tb, hta, et, htb, eb, Or.inr (Or.inl ⟨c_8, rfl, rfl⟩)⟩)⟩ | exact ⟨hX, (Fr.rf : Fr (fun j k => 65 ≤ j ∧ j < 71 ∧ k = 98) S S), Or.inr (Or.inr ⟨ta, tb, hta, et, htb, eb, Or.inr (Or.inr ⟨c_7, c_8, Or.inl ⟨c_9, rfl, rfl⟩⟩)⟩)⟩ | exact ⟨hX, (Fr.rf : Fr (fun j k => 65 ≤ j ∧ j < 71 ∧ k = 98) S S), Or.inr (Or.inr ⟨ta, tb, hta, et, htb, eb, Or.inr (Or.inr ⟨c_7, c_8, Or.inr ⟨c_9, Or.inl ⟨Or.inl c_10, rfl, rfl⟩⟩⟩)⟩)⟩ | exact ⟨hX, (Fr.rf : Fr (fun j k => 65 ≤ j ∧ j < 71 ∧ k = 98) S S), Or.inr (Or.inr ⟨ta, tb, hta, et, htb, eb, Or.inr (Or.inr ⟨c_7, c_8, Or.inr ⟨c_9, Or.inl ⟨Or.inr (Or.inl (by rw [en_11]; exact p_c_14)), rfl, rfl⟩⟩⟩)⟩)⟩ | exact ⟨hX, (Fr.rf : Fr (fun j k => 65 ≤ j ∧ j < 71 ∧ k = 98) S S), Or.inr (Or.inr ⟨ta, tb, hta, et, htb, eb, Or.inr (Or.inr ⟨c_7, c_8, Or.inr ⟨c_9, Or.inl ⟨Or.inr (Or.inr (by rw [en_15]; exact p_c_18)), rfl, rfl⟩⟩⟩)⟩)⟩ | exact ⟨hX, (Fr.rf : Fr (fun j k => 65 ≤ j ∧ j < 71 ∧ k = 98) S S), Or.inr (Or.inr ⟨ta, tb, hta, et, htb, eb, Or.inr (Or.inr ⟨c_7, c_8, Or.inr ⟨c_9, Or.inr ⟨c_10, by rw [en_11]; exact p_c_14, by rw [en_15]; exact p_c_18, rfl, rfl⟩⟩⟩)⟩)⟩
        exact W.iret (v := (-13)) hx hb hr (fun t_ ht_ hW_ => ⟨⟨(-13), S, rfl, hpost, by rw [ht_]; exact hP, va_K.moved hW_.alike hK, hD⟩, hS.F ht_⟩) hS.2.2 (fk_get fk_cX11_shift_1 24 rfl)
      refine lv_bipush (v := (-12)) hx hb (fk_get fk_cX11_shift_0 31 rfl) (by decide) ?_
      subst hQ
      have hpost : XI S ∧ Fr (fun j k => 65 ≤ j ∧ j < 71 ∧ k = 98) S S ∧ ShP tt i_ o_ j_ x_ ((-12) : Int32) S S := by
        first | exact ⟨hX, (Fr.rf : Fr (fun j k => 65 ≤ j ∧ j < 71 ∧ k = 98) S S), Or.inl ⟨p_c_3, rfl, rfl⟩⟩ | exact ⟨hX, (Fr.rf : Fr (fun j k => 65 ≤ j ∧ j < 71 ∧ k = 98) S S), Or.inr (Or.inl ⟨p_c_3, p_c_6, rfl, rfl⟩)⟩ | exact ⟨hX, (Fr.rf : Fr (fun j k => 65 ≤ j ∧ j < 71 ∧ k = 98) S S), Or.inr (Or.inr ⟨ta, tb, hta, et, htb, eb, Or.inl ⟨c_7, rfl, rfl⟩⟩)⟩ | exact ⟨hX, (Fr.rf : Fr (fun j k => 65 ≤ j ∧ j < 71 ∧ k = 98) S S), Or.inr (Or.inr ⟨ta, tb, hta, et, htb, eb, Or.inr (Or.inl ⟨c_8, rfl, rfl⟩)⟩)⟩ | exact ⟨hX, (Fr.rf : Fr (fun j k => 65 ≤ j ∧ j < 71 ∧ k = 98) S S), Or.inr (Or.inr ⟨ta, tb, hta, et, htb, eb, Or.inr (Or.inr ⟨c_7, c_8, Or.inl ⟨c_9, rfl, rfl⟩⟩)⟩)⟩ | exact ⟨hX, (Fr.rf : Fr (fun j k => 65 ≤ j ∧ j < 71 ∧ k = 98) S S), Or.inr (Or.inr ⟨ta, tb, hta, et, htb, eb, Or.inr (Or.inr ⟨c_7, c_8, Or.inr ⟨c_9, Or.inl ⟨Or.inl c_10, rfl, rfl⟩⟩⟩)⟩)⟩ | exact ⟨hX, (Fr.rf : Fr (fun j k => 65 ≤ j ∧ j < 71 ∧ k = 98) S S), Or.inr (Or.inr ⟨ta, tb, hta, et, htb, eb, Or.inr (Or.inr ⟨c_7, c_8, Or.inr ⟨c_9, Or.inl ⟨Or.inr (Or.inl (by rw [en_11]; exact p_c_14)), rfl, rfl⟩⟩⟩)⟩)⟩ | exact ⟨hX, (Fr.rf : Fr (fun j k => 65 ≤ j ∧ j < 71 ∧ k = 98) S S), Or.inr (Or.inr ⟨ta, tb, hta, et, htb, eb, Or.inr (Or.inr ⟨c_7, c_8, Or.inr ⟨c_9, Or.inl ⟨Or.inr (Or.inr (by rw [en_15]; exact p_c_18)), rfl, rfl⟩⟩⟩)⟩)⟩ | exact ⟨hX, (Fr.rf : Fr (fun j k => 65 ≤ j ∧ j < 71 ∧ k = 98) S S), Or.inr (Or.inr ⟨ta, tb, hta, et, htb, eb, Or.inr (Or.inr ⟨c_7, c_8, Or.inr ⟨c_9, Or.inr ⟨c_10, by rw [en_11]; exact p_c_14, by rw [en_15]; exact p_c_18, rfl, rfl⟩⟩⟩)⟩)⟩
      exact W.iret (v := (-12)) hx hb hr (fun t_ ht_ hW_ => ⟨⟨(-12), S, rfl, hpost, by rw [ht_]; exact hP, va_K.moved hW_.alike hK, hD⟩, hS.F ht_⟩) hS.2.2 (fk_get fk_cX11_shift_1 0 rfl)
    refine lv_bipush (v := (-11)) hx hb (fk_get fk_cX11_shift_0 20 rfl) (by decide) ?_
    subst hQ
    have hpost : XI S ∧ Fr (fun j k => 65 ≤ j ∧ j < 71 ∧ k = 98) S S ∧ ShP tt i_ o_ j_ x_ ((-11) : Int32) S S := by
      first | exact ⟨hX, (Fr.rf : Fr (fun j k => 65 ≤ j ∧ j < 71 ∧ k = 98) S S), Or.inl ⟨p_c_3, rfl, rfl⟩⟩ | exact ⟨hX, (Fr.rf : Fr (fun j k => 65 ≤ j ∧ j < 71 ∧ k = 98) S S), Or.inr (Or.inl ⟨p_c_3, p_c_6, rfl, rfl⟩)⟩ | exact ⟨hX, (Fr.rf : Fr (fun j k => 65 ≤ j ∧ j < 71 ∧ k = 98) S S), Or.inr (Or.inr ⟨ta, tb, hta, et, htb, eb, Or.inl ⟨c_7, rfl, rfl⟩⟩)⟩ | exact ⟨hX, (Fr.rf : Fr (fun j k => 65 ≤ j ∧ j < 71 ∧ k = 98) S S), Or.inr (Or.inr ⟨ta, tb, hta, et, htb, eb, Or.inr (Or.inl ⟨c_8, rfl, rfl⟩)⟩)⟩ | exact ⟨hX, (Fr.rf : Fr (fun j k => 65 ≤ j ∧ j < 71 ∧ k = 98) S S), Or.inr (Or.inr ⟨ta, tb, hta, et, htb, eb, Or.inr (Or.inr ⟨c_7, c_8, Or.inl ⟨c_9, rfl, rfl⟩⟩)⟩)⟩ | exact ⟨hX, (Fr.rf : Fr (fun j k => 65 ≤ j ∧ j < 71 ∧ k = 98) S S), Or.inr (Or.inr ⟨ta, tb, hta, et, htb, eb, Or.inr (Or.inr ⟨c_7, c_8, Or.inr ⟨c_9, Or.inl ⟨Or.inl c_10, rfl, rfl⟩⟩⟩)⟩)⟩ | exact ⟨hX, (Fr.rf : Fr (fun j k => 65 ≤ j ∧ j < 71 ∧ k = 98) S S), Or.inr (Or.inr ⟨ta, tb, hta, et, htb, eb, Or.inr (Or.inr ⟨c_7, c_8, Or.inr ⟨c_9, Or.inl ⟨Or.inr (Or.inl (by rw [en_11]; exact p_c_14)), rfl, rfl⟩⟩⟩)⟩)⟩ | exact ⟨hX, (Fr.rf : Fr (fun j k => 65 ≤ j ∧ j < 71 ∧ k = 98) S S), Or.inr (Or.inr ⟨ta, tb, hta, et, htb, eb, Or.inr (Or.inr ⟨c_7, c_8, Or.inr ⟨c_9, Or.inl ⟨Or.inr (Or.inr (by rw [en_15]; exact p_c_18)), rfl, rfl⟩⟩⟩)⟩)⟩ | exact ⟨hX, (Fr.rf : Fr (fun j k => 65 ≤ j ∧ j < 71 ∧ k = 98) S S), Or.inr (Or.inr ⟨ta, tb, hta, et, htb, eb, Or.inr (Or.inr ⟨c_7, c_8, Or.inr ⟨c_9, Or.inr ⟨c_10, by rw [en_11]; exact p_c_14, by rw [en_15]; exact p_c_18, rfl, rfl⟩⟩⟩)⟩)⟩
    exact W.iret (v := (-11)) hx hb hr (fun t_ ht_ hW_ => ⟨⟨(-11), S, rfl, hpost, by rw [ht_]; exact hP, va_K.moved hW_.alike hK, hD⟩, hS.F ht_⟩) hS.2.2 (fk_get fk_cX11_shift_0 21 rfl)
  have p_c_6 := if1_t hw_5 c_6
  refine lv_iconst (v := (-1)) hx hb (fk_get fk_cX11_shift_0 6 rfl) (by decide) ?_
  subst hQ
  have hpost : XI S ∧ Fr (fun j k => 65 ≤ j ∧ j < 71 ∧ k = 98) S S ∧ ShP tt i_ o_ j_ x_ ((-1) : Int32) S S := by
    first | exact ⟨hX, (Fr.rf : Fr (fun j k => 65 ≤ j ∧ j < 71 ∧ k = 98) S S), Or.inl ⟨p_c_3, rfl, rfl⟩⟩ | exact ⟨hX, (Fr.rf : Fr (fun j k => 65 ≤ j ∧ j < 71 ∧ k = 98) S S), Or.inr (Or.inl ⟨p_c_3, p_c_6, rfl, rfl⟩)⟩ | exact ⟨hX, (Fr.rf : Fr (fun j k => 65 ≤ j ∧ j < 71 ∧ k = 98) S S), Or.inr (Or.inr ⟨ta, tb, hta, et, htb, eb, Or.inl ⟨c_7, rfl, rfl⟩⟩)⟩ | exact ⟨hX, (Fr.rf : Fr (fun j k => 65 ≤ j ∧ j < 71 ∧ k = 98) S S), Or.inr (Or.inr ⟨ta, tb, hta, et, htb, eb, Or.inr (Or.inl ⟨c_8, rfl, rfl⟩)⟩)⟩ | exact ⟨hX, (Fr.rf : Fr (fun j k => 65 ≤ j ∧ j < 71 ∧ k = 98) S S), Or.inr (Or.inr ⟨ta, tb, hta, et, htb, eb, Or.inr (Or.inr ⟨c_7, c_8, Or.inl ⟨c_9, rfl, rfl⟩⟩)⟩)⟩ | exact ⟨hX, (Fr.rf : Fr (fun j k => 65 ≤ j ∧ j < 71 ∧ k = 98) S S), Or.inr (Or.inr ⟨ta, tb, hta, et, htb, eb, Or.inr (Or.inr ⟨c_7, c_8, Or.inr ⟨c_9, Or.inl ⟨Or.inl c_10, rfl, rfl⟩⟩⟩)⟩)⟩ | exact ⟨hX, (Fr.rf : Fr (fun j k => 65 ≤ j ∧ j < 71 ∧ k = 98) S S), Or.inr (Or.inr ⟨ta, tb, hta, et, htb, eb, Or.inr (Or.inr ⟨c_7, c_8, Or.inr ⟨c_9, Or.inl ⟨Or.inr (Or.inl (by rw [en_11]; exact p_c_14)), rfl, rfl⟩⟩⟩)⟩)⟩ | exact ⟨hX, (Fr.rf : Fr (fun j k => 65 ≤ j ∧ j < 71 ∧ k = 98) S S), Or.inr (Or.inr ⟨ta, tb, hta, et, htb, eb, Or.inr (Or.inr ⟨c_7, c_8, Or.inr ⟨c_9, Or.inl ⟨Or.inr (Or.inr (by rw [en_15]; exact p_c_18)), rfl, rfl⟩⟩⟩)⟩)⟩ | exact ⟨hX, (Fr.rf : Fr (fun j k => 65 ≤ j ∧ j < 71 ∧ k = 98) S S), Or.inr (Or.inr ⟨ta, tb, hta, et, htb, eb, Or.inr (Or.inr ⟨c_7, c_8, Or.inr ⟨c_9, Or.inr ⟨c_10, by rw [en_11]; exact p_c_14, by rw [en_15]; exact p_c_18, rfl, rfl⟩⟩⟩)⟩)⟩
  exact W.iret (v := (-1)) hx hb hr (fun t_ ht_ hW_ => ⟨⟨(-1), S, rfl, hpost, by rw [ht_]; exact hP, va_K.moved hW_.alike hK, hD⟩, hS.F ht_⟩) hS.2.2 (fk_get fk_cX11_shift_0 7 rfl)
