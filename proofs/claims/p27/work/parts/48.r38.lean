set_option maxHeartbeats 800000 in
set_option maxRecDepth 100000 in
theorem c_x11_book (l : Launch) (G : GG) (ad : Nat → Nat) (S : FS) (sz : Nat) (n u : Nat) (x : Int32) (hn : fF S (9 + 0) 3 = nI n) (hn6 : n ≤ 6) (hu : fF S (9 + 0) 5 = nI u) (hu8 : u ≤ 8) (hX : XI S) : Met l yX11_book (Cond.code yX11_book cX11_book 2 (some .int) :: TBL) ({ frames := 3, cells := 0, slots := 0, locals := 89 } : Room) (PcW G (wX G ad S) sz [.ref (ad 0), .int (x)]) (va_Qi (fun (r : Int32) (S' : FS) => XI S' ∧ Fr (fun j k => (j = 9 ∧ k = 5) ∨ (j = 18 ∧ k = 99)) S S' ∧ (x = -1 ∧ r = 0 ∧ S' = setF S (9 + 0) 5 (nI 0) ∨ x ≠ -1 ∧ (x < 0 ∨ nI n ≤ x) ∧ r = -1 ∧ S' = S ∨ x ≠ -1 ∧ (∃ j, j < n ∧ x = nI j) ∧ u = 8 ∧ r = -4 ∧ S' = S ∨ x ≠ -1 ∧ (∃ j, j < n ∧ x = nI j) ∧ u < 8 ∧ r = nI (u + 1) ∧ S' = setF (setA S (9 + 0 + 9) (upd (fA S (9 + 0 + 9)) u x)) (9 + 0) 5 (nI (u + 1)))) (fun S' t => BW G (va_A (wX G ad S) sz) (wX G ad S') t) (va_A (wX G ad S) sz)) 0 0 (va_A (wX G ad S) sz) := by
  refine Met.ofW (cc := cX11_book) (maxL := 2) (ret := (some .int)) (by decide) rfl ?_
  intro p e s m args below meth c₀ s₁ B hml hv
  obtain ⟨rfl, hsz, hP, hK, hD0⟩ := hv
  have hx := B.exec
  have hb := B.bytes
  have hr := B.returns
  have hT : ∀ w ∈ TBL, w.before ([.ref (ad 0), .int (x)] : List Value).toArray s = true := fun w h => atoms_spec (ws := Cond.code yX11_book cX11_book 2 (some .int) :: TBL) B.pre w (List.mem_cons_of_mem _ h)
  have hown : s.vm.findClass "LittleMore" = some m.cls := findClass_of_methodNamed B.named
  have hlocks := B.notSynchronized
  subst hsz
  have hD := hD0.self (sz := s.heap.size)
  generalize hAe : va_A (wX G ad S) s.heap.size = A at hD ⊢
  have hA : ∀ q : Nat, s.heap.size ≤ q → A q := fun q h => by rw [← hAe]; exact Or.inr h
  have hS : va_S A s.heap s.heap [] := va_S.rf
  have hP : va_P G.1 vwCl (wX G ad S) s.heap := hP
  have hl := lv_entry ([.ref (ad 0), .int (x)]) (n := 2) (Nat.le_of_ble_eq_true rfl)
  rw [lg_entry_eq]
  generalize (lg_sl ([.ref (ad 0), .int (x)]) ++ List.replicate (2 - (lg_sl ([.ref (ad 0), .int (x)])).length) Slot.unset).toArray = ls at hl ⊢
  have hl : lv_has ls 2 [(0, .ref (ad 0)), (1, .int (x))] := hl
  refine W_abs (fun Q hQ => ?_)
  generalize ([.ref (ad 0), .int (x)] : List Value).toArray = args at hT hQ ⊢
  refine lv_iload_n hx hb (fk_get fk_cX11_book_0 0 rfl) rfl (lv_at hl 1 rfl) ?_
  refine lv_iconst (v := (-1)) hx hb (fk_get fk_cX11_book_0 1 rfl) (by decide) ?_
  refine lv_icmp_ne (tgt := 15) hx hb (fk_get fk_cX11_book_0 2 rfl) (by decide) (fun c_1 => ?_) (fun c_1 => ?_)
  · refine lv_aload_n hx hb (fk_get fk_cX11_book_0 9 rfl) rfl (lv_at hl 0 rfl) ?_
    refine va_get (D := G.1) (ci := 13) (v := .ref (ad (9 + 0))) (C := RX11) (T := TX11) (N := 11) hx hb hT inX11 hown hK hP 0 (ix_at (lt71 (by omega)) (cX_0 G ad S)) rfl 1 (by decide) (hT _ m2_70) (fun _ h9 => h9) rfl (fk_get fk_cX11_book_0 10 rfl) ?_
    refine lv_iload_n hx hb (fk_get fk_cX11_book_0 11 rfl) rfl (lv_at hl 1 rfl) ?_
    refine va_csq (W.runV (As := [.int (x)]) (rest := []) ⟨hx, hb, hml, hown, hT⟩ (c_x7_at l G ad S s.heap.size (0) (n) (x) ((by decide : 0 < 3)) (hn) (hn6) (hX)) (tV 1 hT m2_120 m2_121 m2_122 m1_9 m2_123 rfl rfl (by decide +kernel) ⟨Nat.le_of_ble_eq_true rfl, Nat.le_of_ble_eq_true rfl⟩) ⟨PcW_blind, va_recv hK hP (ci := 9) (q0 := (9 + 0)) rfl (ix_at (lt71 (by omega)) (cX_shop (pk_shop (by decide : 0 < 3)))), PcW_of hP hK hD _⟩ rfl rfl hl.1 rfl (lv_room (Nat.le_of_ble_eq_true rfl)) (fk_get fk_cX11_book_0 12 rfl) ⟨Nat.zero_le _, Nat.zero_le _⟩) (fun r_2 hw_3 => ?_)
    try dsimp only at hw_3
    rcases hw_3 with ⟨j_20, hj_20, ej_20, rfl⟩ | ⟨rfl, hn_20⟩
    · rw [show va_rf (some (ad (21 + 6 * 0 + j_20))) = .ref (ad (21 + 6 * 0 + j_20)) from rfl]
      generalize hg_i_20 : 21 + 6 * 0 + j_20 = i_20
      have hp_i_20 : pk i_20 = 7 := by rw [← hg_i_20]; exact pk_c (by decide : 0 < 3) (show j_20 < 6 by omega)
      have hb_i_20 := pk7 hp_i_20
      refine lv_ifnonnull (tgt := 28) hx hb (fk_get fk_cX11_book_0 13 rfl) (by decide) ?_
      refine lv_aload_n hx hb (fk_get fk_cX11_book_0 16 rfl) rfl (lv_at hl 0 rfl) ?_
      refine va_get (D := G.1) (ci := 13) (v := .ref (ad (9 + 0))) (C := RX11) (T := TX11) (N := 11) hx hb hT inX11 hown hK hP 0 (ix_at (lt71 (by omega)) (cX_0 G ad S)) rfl 1 (by decide) (hT _ m2_70) (fun _ h9 => h9) rfl (fk_get fk_cX11_book_0 17 rfl) ?_
      refine va_get (D := G.1) (ci := 9) (v := .int (fF S (9 + 0) 5)) (C := RX7) (T := TX7) (N := 8) hx hb hT inX7 hown hK hP (9 + 0) (ix_at (lt71 (by omega)) (cX_shop (pk_shop (by decide : 0 < 3)))) rfl 5 (by decide) (hT _ m1_213) (fun _ h9 => h9) rfl (fk_get fk_cX11_book_0 18 rfl) ?_
      rw [hu]
      refine lv_bipush (v := 8) hx hb (fk_get fk_cX11_book_0 19 rfl) (by decide) ?_
      refine lv_icmp_lt (tgt := 43) hx hb (fk_get fk_cX11_book_0 20 rfl) (by decide) (fun c_4 => ?_) (fun c_4 => ?_)
      · have q_c_4 : u < 8 := ci_lt (a := u) (b := 8) (by omega) (by omega) c_4
        refine lv_aload_n hx hb (fk_get fk_cX11_book_0 23 rfl) rfl (lv_at hl 0 rfl) ?_
        refine va_get (D := G.1) (ci := 13) (v := .ref (ad (9 + 0))) (C := RX11) (T := TX11) (N := 11) hx hb hT inX11 hown hK hP 0 (ix_at (lt71 (by omega)) (cX_0 G ad S)) rfl 1 (by decide) (hT _ m2_70) (fun _ h9 => h9) rfl (fk_get fk_cX11_book_0 24 rfl) ?_
        refine va_get (D := G.1) (ci := 9) (v := .ref (ad (9 + 0 + 9))) (C := RX7) (T := TX7) (N := 8) hx hb hT inX7 hown hK hP (9 + 0) (ix_at (lt71 (by omega)) (cX_shop (pk_shop (by decide : 0 < 3)))) rfl 2 (by decide) (hT _ m1_207) (fun _ h9 => h9) rfl (fk_get fk_cX11_book_0 25 rfl) ?_
        refine lv_aload_n hx hb (fk_get fk_cX11_book_0 26 rfl) rfl (lv_at hl 0 rfl) ?_
        refine va_get (D := G.1) (ci := 13) (v := .ref (ad (9 + 0))) (C := RX11) (T := TX11) (N := 11) hx hb hT inX11 hown hK hP 0 (ix_at (lt71 (by omega)) (cX_0 G ad S)) rfl 1 (by decide) (hT _ m2_70) (fun _ h9 => h9) rfl (fk_get fk_cX11_book_0 27 rfl) ?_
        refine va_get (D := G.1) (ci := 9) (v := .int (fF S (9 + 0) 5)) (C := RX7) (T := TX7) (N := 8) hx hb hT inX7 hown hK hP (9 + 0) (ix_at (lt71 (by omega)) (cX_shop (pk_shop (by decide : 0 < 3)))) rfl 5 (by decide) (hT _ m1_213) (fun _ h9 => h9) rfl (fk_get fk_cX11_book_0 28 rfl) ?_
        rw [hu]
        refine lv_iload_n hx hb (fk_get fk_cX11_book_0 29 rfl) rfl (lv_at hl 1 rfl) ?_
        refine r_iast hx hb hK hP hD hS (9 + 0 + 9) 0 (ix_at (lt71 (by omega)) (cX_arr (Or.inr (Or.inl ⟨rfl, rfl, pk_bk (by decide : 0 < 3)⟩)))) rfl (j := u) (rfl) (by omega) (by decide) (fk_get fk_cX11_book_0 30 rfl) (fun H locs hP hD hS => ?_)
        rw [pX_arr (G := G) (ad := ad) (S := S) (lt71 (by omega)) (Or.inr (Or.inl ⟨rfl, rfl, pk_bk (by decide : 0 < 3)⟩)) (upd (fA S (9 + 0 + 9)) u (x))] at hP hD
        have hX_5 : XI (setA S (9 + 0 + 9) (upd (fA S (9 + 0 + 9)) u (x))) := XI.sA hX _ (by omega)
        have hF_6 : Fr (fun j k => (j = 9 ∧ k = 5) ∨ (j = 18 ∧ k = 99)) S (setA S (9 + 0 + 9) (upd (fA S (9 + 0 + 9)) u (x))) := Fr.sA (Fr.rf : Fr (fun j k => (j = 9 ∧ k = 5) ∨ (j = 18 ∧ k = 99)) S S) (by omega)
        refine lv_aload_n hx hb (fk_get fk_cX11_book_0 31 rfl) rfl (lv_at hl 0 rfl) ?_
        refine va_get (D := G.1) (ci := 13) (v := .ref (ad (9 + 0))) (C := RX11) (T := TX11) (N := 11) hx hb hT inX11 hown hK hP 0 (ix_at (lt71 (by omega)) (cX_0 G ad (setA S (9 + 0 + 9) (upd (fA S (9 + 0 + 9)) u (x))))) rfl 1 (by decide) (hT _ m2_70) (fun _ h9 => h9) rfl (fk_get fk_cX11_book_1 0 rfl) ?_
        refine lv_dup hx hb (fk_get fk_cX11_book_1 1 rfl) rfl ?_
        refine va_get (D := G.1) (ci := 9) (v := .int (fF (setA S (9 + 0 + 9) (upd (fA S (9 + 0 + 9)) u (x))) (9 + 0) 5)) (C := RX7) (T := TX7) (N := 8) hx hb hT inX7 hown hK hP (9 + 0) (ix_at (lt71 (by omega)) (cX_shop (pk_shop (by decide : 0 < 3)))) rfl 5 (by decide) (hT _ m1_213) (fun _ h9 => h9) rfl (fk_get fk_cX11_book_1 2 rfl) ?_
        rw [show fF (setA S (9 + 0 + 9) (upd (fA S (9 + 0 + 9)) u (x))) (9 + 0) 5 = (fF S (9 + 0) 5) from by simp [fF_setF, fF_setR, fF_setA, fF_setL]]
        rw [hu]
        refine lv_iconst (v := 1) hx hb (fk_get fk_cX11_book_1 3 rfl) (by decide) ?_
        refine lv_iadd hx hb (fk_get fk_cX11_book_1 4 rfl) ?_
        rw [show ((nI u) + 1) = (nI (u + 1)) from (nI_1 u)]
        refine va_put (D := G.1) (ci := 9) (v := .int ((nI (u + 1)))) (ty := .int) (C := RX7) (T := TX7) (N := 8) hx hb hT inX7 tyX7 tyX7_ok nmX7 hown hK hP hD hS (9 + 0) (ix_at (lt71 (by omega)) (cX_shop (pk_shop (by decide : 0 < 3)))) rfl 5 (by decide) (hT _ m1_213) (fun _ h9 => h9) rfl (by decide +kernel) rfl rfl (Nat.le_of_ble_eq_true rfl) (fk_get fk_cX11_book_1 5 rfl) (fun H locs hP hD hS => ?_)
        rw [pX_shop_5 (S := (setA S (9 + 0 + 9) (upd (fA S (9 + 0 + 9)) u (x)))) (lt71 (by omega)) (pk_shop (by decide : 0 < 3)) ((nI (u + 1)))] at hP hD
        have hX_7 : XI (setF (setA S (9 + 0 + 9) (upd (fA S (9 + 0 + 9)) u (x))) (9 + 0) 5 ((nI (u + 1)))) := XI.bo (n := (u + 1)) hX_5 (by decide : 0 < 3) (by omega)
        have hF_8 : Fr (fun j k => (j = 9 ∧ k = 5) ∨ (j = 18 ∧ k = 99)) S (setF (setA S (9 + 0 + 9) (upd (fA S (9 + 0 + 9)) u (x))) (9 + 0) 5 ((nI (u + 1)))) := Fr.sF hF_6 (by omega)
        refine lv_aload_n hx hb (fk_get fk_cX11_book_1 6 rfl) rfl (lv_at hl 0 rfl) ?_
        refine va_get (D := G.1) (ci := 13) (v := .ref (ad (9 + 0))) (C := RX11) (T := TX11) (N := 11) hx hb hT inX11 hown hK hP 0 (ix_at (lt71 (by omega)) (cX_0 G ad (setF (setA S (9 + 0 + 9) (upd (fA S (9 + 0 + 9)) u (x))) (9 + 0) 5 ((nI (u + 1)))))) rfl 1 (by decide) (hT _ m2_70) (fun _ h9 => h9) rfl (fk_get fk_cX11_book_1 7 rfl) ?_
        refine va_get (D := G.1) (ci := 9) (v := .int (fF (setF (setA S (9 + 0 + 9) (upd (fA S (9 + 0 + 9)) u (x))) (9 + 0) 5 ((nI (u + 1)))) (9 + 0) 5)) (C := RX7) (T := TX7) (N := 8) hx hb hT inX7 hown hK hP (9 + 0) (ix_at (lt71 (by omega)) (cX_shop (pk_shop (by decide : 0 < 3)))) rfl 5 (by decide) (hT _ m1_213) (fun _ h9 => h9) rfl (fk_get fk_cX11_book_1 8 rfl) ?_
        rw [show fF (setF (setA S (9 + 0 + 9) (upd (fA S (9 + 0 + 9)) u (x))) (9 + 0) 5 ((nI (u + 1)))) (9 + 0) 5 = (nI (u + 1)) from by simp [fF_setF, fF_setR, fF_setA, fF_setL]]
        subst hQ
        have hpost : XI (setF (setA S (9 + 0 + 9) (upd (fA S (9 + 0 + 9)) u (x))) (9 + 0) 5 ((nI (u + 1)))) ∧ Fr (fun j k => (j = 9 ∧ k = 5) ∨ (j = 18 ∧ k = 99)) S (setF (setA S (9 + 0 + 9) (upd (fA S (9 + 0 + 9)) u (x))) (9 + 0) 5 ((nI (u + 1)))) ∧ (x = -1 ∧ ((nI (u + 1)) : Int32) = 0 ∧ (setF (setA S (9 + 0 + 9) (upd (fA S (9 + 0 + 9)) u (x))) (9 + 0) 5 ((nI (u + 1)))) = setF S (9 + 0) 5 (nI 0) ∨ x ≠ -1 ∧ (x < 0 ∨ nI n ≤ x) ∧ ((nI (u + 1)) : Int32) = -1 ∧ (setF (setA S (9 + 0 + 9) (upd (fA S (9 + 0 + 9)) u (x))) (9 + 0) 5 ((nI (u + 1)))) = S ∨ x ≠ -1 ∧ (∃ j, j < n ∧ x = nI j) ∧ u = 8 ∧ ((nI (u + 1)) : Int32) = -4 ∧ (setF (setA S (9 + 0 + 9) (upd (fA S (9 + 0 + 9)) u (x))) (9 + 0) 5 ((nI (u + 1)))) = S ∨ x ≠ -1 ∧ (∃ j, j < n ∧ x = nI j) ∧ u < 8 ∧ ((nI (u + 1)) : Int32) = nI (u + 1) ∧ (setF (setA S (9 + 0 + 9) (upd (fA S (9 + 0 + 9)) u (x))) (9 + 0) 5 ((nI (u + 1)))) = setF (setA S (9 + 0 + 9) (upd (fA S (9 + 0 + 9)) u x)) (9 + 0) 5 (nI (u + 1))) := by
          first | exact ⟨hX_7, hF_8, Or.inl ⟨by assumption, rfl, rfl⟩⟩ | exact ⟨hX_7, hF_8, Or.inr (Or.inl ⟨by assumption, by assumption, rfl, rfl⟩)⟩ | exact ⟨hX_7, hF_8, Or.inr (Or.inr (Or.inl ⟨by assumption, ⟨_, hj_20, ej_20⟩, by omega, rfl, rfl⟩))⟩ | exact ⟨hX_7, hF_8, Or.inr (Or.inr (Or.inr ⟨by assumption, ⟨_, hj_20, ej_20⟩, by omega, rfl, rfl⟩))⟩
        exact W.iret (v := (nI (u + 1))) hx hb hr (fun t_ ht_ hW_ => ⟨⟨(nI (u + 1)), (setF (setA S (9 + 0 + 9) (upd (fA S (9 + 0 + 9)) u (x))) (9 + 0) 5 ((nI (u + 1)))), rfl, hpost, by rw [ht_]; exact hP, va_K.moved hW_.alike hK, hD⟩, hS.F ht_⟩) hS.2.2 (fk_get fk_cX11_book_1 9 rfl)
      have q_c_4 : 8 ≤ u := ci_nlt (a := u) (b := 8) (by omega) (by omega) c_4
      refine lv_bipush (v := (-4)) hx hb (fk_get fk_cX11_book_0 21 rfl) (by decide) ?_
      subst hQ
      have hpost : XI S ∧ Fr (fun j k => (j = 9 ∧ k = 5) ∨ (j = 18 ∧ k = 99)) S S ∧ (x = -1 ∧ ((-4) : Int32) = 0 ∧ S = setF S (9 + 0) 5 (nI 0) ∨ x ≠ -1 ∧ (x < 0 ∨ nI n ≤ x) ∧ ((-4) : Int32) = -1 ∧ S = S ∨ x ≠ -1 ∧ (∃ j, j < n ∧ x = nI j) ∧ u = 8 ∧ ((-4) : Int32) = -4 ∧ S = S ∨ x ≠ -1 ∧ (∃ j, j < n ∧ x = nI j) ∧ u < 8 ∧ ((-4) : Int32) = nI (u + 1) ∧ S = setF (setA S (9 + 0 + 9) (upd (fA S (9 + 0 + 9)) u x)) (9 + 0) 5 (nI (u + 1))) := by
        first | exact ⟨hX, (Fr.rf : Fr (fun j k => (j = 9 ∧ k = 5) ∨ (j = 18 ∧ k = 99)) S S), Or.inl ⟨by assumption, rfl, rfl⟩⟩ | exact ⟨hX, (Fr.rf : Fr (fun j k => (j = 9 ∧ k = 5) ∨ (j = 18 ∧ k = 99)) S S), Or.inr (Or.inl ⟨by assumption, by assumption, rfl, rfl⟩)⟩ | exact ⟨hX, (Fr.rf : Fr (fun j k => (j = 9 ∧ k = 5) ∨ (j = 18 ∧ k = 99)) S S), Or.inr (Or.inr (Or.inl ⟨by assumption, ⟨_, hj_20, ej_20⟩, by omega, rfl, rfl⟩))⟩ | exact ⟨hX, (Fr.rf : Fr (fun j k => (j = 9 ∧ k = 5) ∨ (j = 18 ∧ k = 99)) S S), Or.inr (Or.inr (Or.inr ⟨by assumption, ⟨_, hj_20, ej_20⟩, by omega, rfl, rfl⟩))⟩
      exact W.iret (v := (-4)) hx hb hr (fun t_ ht_ hW_ => ⟨⟨(-4), S, rfl, hpost, by rw [ht_]; exact hP, va_K.moved hW_.alike hK, hD⟩, hS.F ht_⟩) hS.2.2 (fk_get fk_cX11_book_0 22 rfl)
    rw [show va_rf none = .null from rfl]
    refine lv_ifnonnullN hx hb (fk_get fk_cX11_book_0 13 rfl) ?_
    refine lv_iconst (v := (-1)) hx hb (fk_get fk_cX11_book_0 14 rfl) (by decide) ?_
    subst hQ
    have hpost : XI S ∧ Fr (fun j k => (j = 9 ∧ k = 5) ∨ (j = 18 ∧ k = 99)) S S ∧ (x = -1 ∧ ((-1) : Int32) = 0 ∧ S = setF S (9 + 0) 5 (nI 0) ∨ x ≠ -1 ∧ (x < 0 ∨ nI n ≤ x) ∧ ((-1) : Int32) = -1 ∧ S = S ∨ x ≠ -1 ∧ (∃ j, j < n ∧ x = nI j) ∧ u = 8 ∧ ((-1) : Int32) = -4 ∧ S = S ∨ x ≠ -1 ∧ (∃ j, j < n ∧ x = nI j) ∧ u < 8 ∧ ((-1) : Int32) = nI (u + 1) ∧ S = setF (setA S (9 + 0 + 9) (upd (fA S (9 + 0 + 9)) u x)) (9 + 0) 5 (nI (u + 1))) := by
      first | exact ⟨hX, (Fr.rf : Fr (fun j k => (j = 9 ∧ k = 5) ∨ (j = 18 ∧ k = 99)) S S), Or.inl ⟨by assumption, rfl, rfl⟩⟩ | exact ⟨hX, (Fr.rf : Fr (fun j k => (j = 9 ∧ k = 5) ∨ (j = 18 ∧ k = 99)) S S), Or.inr (Or.inl ⟨by assumption, by assumption, rfl, rfl⟩)⟩ | exact ⟨hX, (Fr.rf : Fr (fun j k => (j = 9 ∧ k = 5) ∨ (j = 18 ∧ k = 99)) S S), Or.inr (Or.inr (Or.inl ⟨by assumption, ⟨_, hj_20, ej_20⟩, by omega, rfl, rfl⟩))⟩ | exact ⟨hX, (Fr.rf : Fr (fun j k => (j = 9 ∧ k = 5) ∨ (j = 18 ∧ k = 99)) S S), Or.inr (Or.inr (Or.inr ⟨by assumption, ⟨_, hj_20, ej_20⟩, by omega, rfl, rfl⟩))⟩
    exact W.iret (v := (-1)) hx hb hr (fun t_ ht_ hW_ => ⟨⟨(-1), S, rfl, hpost, by rw [ht_]; exact hP, va_K.moved hW_.alike hK, hD⟩, hS.F ht_⟩) hS.2.2 (fk_get fk_cX11_book_0 15 rfl)
  refine lv_aload_n hx hb (fk_get fk_cX11_book_0 3 rfl) rfl (lv_at hl 0 rfl) ?_
  refine va_get (D := G.1) (ci := 13) (v := .ref (ad (9 + 0))) (C := RX11) (T := TX11) (N := 11) hx hb hT inX11 hown hK hP 0 (ix_at (lt71 (by omega)) (cX_0 G ad S)) rfl 1 (by decide) (hT _ m2_70) (fun _ h9 => h9) rfl (fk_get fk_cX11_book_0 4 rfl) ?_
  refine lv_iconst (v := 0) hx hb (fk_get fk_cX11_book_0 5 rfl) (by decide) ?_
  refine va_put (D := G.1) (ci := 9) (v := .int (0)) (ty := .int) (C := RX7) (T := TX7) (N := 8) hx hb hT inX7 tyX7 tyX7_ok nmX7 hown hK hP hD hS (9 + 0) (ix_at (lt71 (by omega)) (cX_shop (pk_shop (by decide : 0 < 3)))) rfl 5 (by decide) (hT _ m1_213) (fun _ h9 => h9) rfl (by decide +kernel) rfl rfl (Nat.le_of_ble_eq_true rfl) (fk_get fk_cX11_book_0 6 rfl) (fun H locs hP hD hS => ?_)
  rw [pX_shop_5 (S := S) (lt71 (by omega)) (pk_shop (by decide : 0 < 3)) (0)] at hP hD
  have hX_9 : XI (setF S (9 + 0) 5 (0)) := XI.bo (n := 0) hX (by decide : 0 < 3) (by omega)
  have hF_10 : Fr (fun j k => (j = 9 ∧ k = 5) ∨ (j = 18 ∧ k = 99)) S (setF S (9 + 0) 5 (0)) := Fr.sF (Fr.rf : Fr (fun j k => (j = 9 ∧ k = 5) ∨ (j = 18 ∧ k = 99)) S S) (by omega)
  refine lv_iconst (v := 0) hx hb (fk_get fk_cX11_book_0 7 rfl) (by decide) ?_
  subst hQ
  have hpost : XI (setF S (9 + 0) 5 (0)) ∧ Fr (fun j k => (j = 9 ∧ k = 5) ∨ (j = 18 ∧ k = 99)) S (setF S (9 + 0) 5 (0)) ∧ (x = -1 ∧ (0 : Int32) = 0 ∧ (setF S (9 + 0) 5 (0)) = setF S (9 + 0) 5 (nI 0) ∨ x ≠ -1 ∧ (x < 0 ∨ nI n ≤ x) ∧ (0 : Int32) = -1 ∧ (setF S (9 + 0) 5 (0)) = S ∨ x ≠ -1 ∧ (∃ j, j < n ∧ x = nI j) ∧ u = 8 ∧ (0 : Int32) = -4 ∧ (setF S (9 + 0) 5 (0)) = S ∨ x ≠ -1 ∧ (∃ j, j < n ∧ x = nI j) ∧ u < 8 ∧ (0 : Int32) = nI (u + 1) ∧ (setF S (9 + 0) 5 (0)) = setF (setA S (9 + 0 + 9) (upd (fA S (9 + 0 + 9)) u x)) (9 + 0) 5 (nI (u + 1))) := by
    first | exact ⟨hX_9, hF_10, Or.inl ⟨by assumption, rfl, rfl⟩⟩ | exact ⟨hX_9, hF_10, Or.inr (Or.inl ⟨by assumption, by assumption, rfl, rfl⟩)⟩ | exact ⟨hX_9, hF_10, Or.inr (Or.inr (Or.inl ⟨by assumption, ⟨_, hj_20, ej_20⟩, by omega, rfl, rfl⟩))⟩ | exact ⟨hX_9, hF_10, Or.inr (Or.inr (Or.inr ⟨by assumption, ⟨_, hj_20, ej_20⟩, by omega, rfl, rfl⟩))⟩
  exact W.iret (v := 0) hx hb hr (fun t_ ht_ hW_ => ⟨⟨0, (setF S (9 + 0) 5 (0)), rfl, hpost, by rw [ht_]; exact hP, va_K.moved hW_.alike hK, hD⟩, hS.F ht_⟩) hS.2.2 (fk_get fk_cX11_book_0 8 rfl)
theorem BE.fr {P : Nat → Nat → Prop} {S S1 S2 : FS} {h o n : Nat} (b : BE S h o n S1) (f : Fr P S1 S2) (hh : h < 3) (hn : n ≤ 6) (p1 : ∀ k, 3 ≤ k → k ≤ 6 → ¬ P (9 + h) k) (p2 : ∀ c k, c < 6 → 2 ≤ k → k ≤ 9 → ¬ P (21 + 6 * h + c) k) (p3 : ∀ c, c < 6 → ¬ P (21 + 6 * h + c + 18) 99) (p4 : ¬ P (9 + h + 6) 99) (p5 : ¬ P (9 + h + 9) 99) : BE S h o n S2 := by
  obtain ⟨b1, b2, b3, b4⟩ := b
  exact ⟨fun k a c => (f.F (lt71 (by omega)) (p1 k a c)).trans (b1 k a c), fun c hc => (b2 c hc).fr f (by omega) (fun k x y => p2 c k (by omega) x y) (p3 c (by omega)), fun k hk => by rw [f.A (lt71 (by omega)) p4]; exact b3 k hk, fun k hk => by rw [f.A (lt71 (by omega)) p5]; exact b4 k hk⟩
