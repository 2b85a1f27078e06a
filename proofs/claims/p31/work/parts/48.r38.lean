set_option maxHeartbeats 800000 in
set_option maxRecDepth 100000 in
theorem c_x11_book (l : Launch) (G : GG) (ad : Nat → Nat) (S : FS) (sz : Nat) (n u : Nat) (x : Int32) (hn : fF S (9 + 0) 3 = nI n) (hn6 : n ≤ 6) (hu : fF S (9 + 0) 5 = nI u) (hu8 : u ≤ 8) (hX : XI S) : Met l yX11_book (Cond.code yX11_book cX11_book 2 (some .int) :: TBL) ({ frames := 3, cells := 0, slots := 0, locals := 89 } : Room) (PcW G (wX G ad S) sz [.ref (ad 0), .int (x)]) (va_Qi (fun (r : Int32) (S' : FS) => XI S' ∧ Fr (fun j k => (j = 9 ∧ k = 5) ∨ (j = 18 ∧ k = 99)) S S' ∧ (x = -1 ∧ r = 0 ∧ S' = setF S (9 + 0) 5 (nI 0) ∨ x ≠ -1 ∧ (x < 0 ∨ nI n ≤ x) ∧ r = -1 ∧ S' = S ∨ x ≠ -1 ∧ (∃ j, j < n ∧ x = nI j) ∧ u = 8 ∧ r = -4 ∧ S' = S ∨ x ≠ -1 ∧ (∃ j, j < n ∧ x = nI j) ∧ u < 8 ∧ r = nI (u + 1) ∧ S' = setF (setA S (9 + 0 + 9) (upd (fA S (9 + 0 + 9)) u x)) (9 + 0) 5 (nI (u + 1)))) (fun S' t => BW G (va_A (wX G ad S) sz) (wX G ad S') t) (va_A (wX G ad S) sz)) 0 0 (va_A (wX G ad S) sz) := by
  refine Met.ofW (cc := cX11_book) (maxL := 2) (ret := (some .int)) (by decide) rfl ?_
  intro p e s m args below meth c₀ s₁ B hml hv
  obtain ⟨rfl, hsz, hP, hK, hD0⟩ := hv
  have hx := B.exec
  have hb := B.bytes
  have hr := B.returns
  have hT : ∀ w ∈ TBL, w.before ([.ref (ad 0), .int (x)] : List Value).toArray s = true := fun w h => atoms_spec (ws := Cond.code yX11_book cX11_book 2 (some .int) :: TBL) B.pre w (List.mem_cons_of_mem _ h)
  have hown : s.vm.findClass "LittleMore" = some m.cls := findClass_of_methodNamed B.named
  have hlocks := B.notSynchronized
  subst hsz
  have hD := hD0.self (sz := s.heap.size)
  generalize hAe : va_A (wX G ad S) s.heap.size = A at hD ⊢
  have hA : ∀ q : Nat, s.heap.size ≤ q → A q := fun q h => by rw [← hAe]; exact Or.inr h
  have hS : va_S A s.heap s.heap [] := va_S.rf
  have hP : va_P G.1 vwCl (wX G ad S) s.heap := hP
  have hl := lv_entry ([.ref (ad 0), .int (x)]) (n := 2) (Nat.le_of_ble_eq_true rfl)
  rw [lg_entry_eq]
  generalize (lg_sl ([.ref (ad 0), .int (x)]) ++ List.replicate (2 - (lg_sl ([.ref (ad 0), .int (x)])).length) Slot.unset).toArray = ls at hl ⊢
  have hl : lv_has ls 2 [(0, .ref (ad 0)), (1, .int (x))] := hl
  refine W_abs (fun Q hQ => ?_)
  generalize ([.ref (ad 0), .int (x)] : List Value).toArray = args at hT hQ ⊢
  refine lv_iload_n hx hb (fk_get fk_cX11_book_0 0 rfl) rfl (lv_at hl 1 rfl) ?_
  refine lv_iconst (v := (-1)) hx hb (fk_get fk_cX11_book_0 1 rfl) (by decide) ?_
  refine lv_icmp_ne (tgt := 15) hx hb (fk_get fk_cX11_book_0 2 rfl) (by decide) (fun c_1 => ?_) (fun c_1 => ?_)
  · refine lv_aload_n hx hb (fk_get fk_cX11_book_0 9 rfl) rfl (lv_at hl 0 rfl) ?_
    refine va_get (D := G.1) (ci := 13) (v := .ref (ad (9 + 0))) (C := RX11) (T := TX11) (N := 11) hx hb hT inX11 hown hK hP 0 (ix_at (lt71 (by omega)) (cX_0 G ad S)) rfl 1 (by decide) (hT _ m2_70) (fun _ h9 => h9) rfl (fk_get fk_cX11_book_0 10 rfl) ?_
    refine lv_iload_n hx hb (fk_get fk_cX11_book_0 11 rfl) rfl (lv_at hl 1 rfl) ?_
    refine va_csq (W.runV (As := [.int (x)]) (rest := []) ⟨hx, hb, hml, hown, hT⟩ (c_x7_at l G ad S s.heap.size (0) (n) (x) ((by decide : 0 < 3)) (hn) (hn6) (hX)) (tV 1 hT m2_120 m2_121 m2_122 m1_9 m2_123 rfl rfl (by decide +kernel) ⟨Nat.le_of_ble_eq_true rfl, Nat.le_of_ble_eq_true rfl⟩) ⟨PcW_blind, va_recv hK hP (ci := 9) (q0 := (9 + 0)) rfl (ix_at (lt71 (by omega)) (cX_shop (pk_shop (by decide : 0 < 3)))), PcW_of hP hK hD _⟩ rfl rfl hl.1 rfl (lv_room (Nat.le_of_ble_eq_true rfl)) (fk_get fk_cX11_book_0 12 rfl) ⟨Nat.zero_le _, Nat.zero_le _⟩) (fun r_2 hw_3 => ?_)
    try dsimp only at hw_3
    rcases hw_3 with ⟨j_20, hj_20, ej_20, rfl⟩ | ⟨rfl, hn_20⟩
    · rw [show va_rf (some (ad (21 + 6 * 0 + j_20))) = .ref (ad (21 + 6 * 0 + j_20)) from rfl]
      generalize hg_i_20 : 21 + 6 * 0 + j_20 = i_20
      have hp_i_20 : pk i_20 = 7 := by rw [← hg_i_20]; exact pk_c (by decide : 0 < 3) (show j_20 < 6 by omega)
      have hb_i_20 := pk7 hp_i_20
      refine lv_ifnonnull (tgt := 28) hx hb (fk_get fk_cX11_book_0 13 rfl) (by decide) ?_
      refine lv_aload_n hx hb (fk_get fk_cX11_book_0 16 rfl) rfl (lv_at hl 0 rfl) ?_
      refine va_get (D := G.1) (ci := 13) (v := .ref (ad (9 + 0))) (C := RX11) (T := TX11) (N := 11) hx hb hT inX11 hown hK hP 0 (ix_at (lt71 (by omega)) (cX_0 G ad S)) rfl 1 (by decide) (hT _ m2_70) (fun _ h9 => h9) rfl (fk_get fk_cX11_book_0 17 rfl) ?_
      refine va_get (D := G.1) (ci := 9) (v := .int (fF S (9 + 0) 5)) (C := RX7) (T := TX7) (N := 8) hx hb hT inX7 hown hK hP (9 + 0) (ix_at (lt71 (by omega)) (cX_shop (pk_shop (by decide : 0 < 3)))) rfl 5 (by decide) (hT _ m1_213) (fun _ h9 => h9) rfl (fk_get fk_cX11_book_0 18 rfl) ?_
      rw [hu]
      refine lv_bipush (v := 8) hx hb (fk_get fk_cX11_book_0 19 rfl) (by decide) ?_
      refine lv_icmp_lt (tgt := 43) hx hb (fk_get fk_cX11_book_0 20 rfl) (by decide) (fun c_4 => ?_) (fun c_4 => ?_)
      · have q_c_4 : u < 8 := ci_lt (a := u) (b := 8) (by omega) (by omega) c_4
        refine lv_aload_n hx hb (fk_get fk_cX11_book_0 23 rfl) rfl (lv_at hl 0 rfl) ?_
        refine va_get (D := G.1) (ci := 13) (v := .ref (ad (9 + 0))) (C := RX11) (T := TX11) (N := 11) hx hb hT inX11 hown hK hP 0 (ix_at (lt71 (by omega)) (cX_0 G ad S)) rfl 1 (by decide) (hT _ m2_70) (fun _ h9 => h9) rfl (fk_get fk_cX11_book_0 24 rfl) ?_
        refine va_get (D := G.1) (ci := 9) (v := .ref (ad (9 + 0 + 9))) (C := RX7) (T := TX7) (N := 8) hx hb hT inX7 hown hK hP (9 + 0) (ix_at (lt71 (by omega)) (cX_shop (pk_shop (by decide : 0 < 3)))) rfl 2 (by decide) (hT _ m1_207) (fun _ h9 => h9) rfl (fk_get fk_cX11_book_0 25 rfl) ?_
        refine lv_aload_n hx hb (fk_get fk_cX11_book_0 26 rfl) rfl (lv_at hl 0 rfl) ?_
        refine va_get (D := G.1) (ci := 13) (v := .ref (ad (9 + 0))) (C := RX11) (T := TX11) (N := 11) hx hb hT inX11 hown hK hP 0 (ix_at (lt71 (by omega)) (cX_0 G ad S)) rfl 1 (by decide) (hT _ m2_70) (fun _ h9 => h9) rfl (fk_get fk_cX11_book_0 27 rfl) ?_
        refine va_get (D := G.1) (ci := 9) (v := .int (fF S (9 + 0) 5)) (C := RX7) (T := TX7) (N := 8) hx hb hT inX7 hown hK hP (9 + 0) (ix_at (lt71 (by omega)) (cX_shop (pk_shop (by decide : 0 < 3)))) rfl 5 (by decide) (hT _ m1_213) (fun _ h9 => h9) rfl (fk_get fk_cX11_book_0 28 rfl) ?_
        rw [hu]
        refine lv_iload_n hx hb (fk_get fk_cX11_book_0 29 rfl) rfl (lv_at hl 1 rfl) ?_
        refine r_iast hx hb hK hP hD hS (9 + 0 + 9) 0 (ix_at (lt71 (by omega)) (cX_arr (Or.inr (Or.inl ⟨rfl, rfl, pk_bk (by decide : 0 < 3)⟩)))) rfl (j := u) (rfl) (by omega) (by decide) (fk_get fk_cX11_book_0 30 rfl) (fun H locs hP hD hS => ?_)
        rw [pX_arr (G := G) (ad := ad) (S := S) (lt71 (by omega)) (Or.inr (Or.inl ⟨rfl, rfl, pk_bk (by decide : 0 < 3)⟩)) (upd (fA S (9 + 0 + 9)) u (x))] at hP hD
        have hX_5 : XI (setA S (9 + 0 + 9) (upd (fA S (9 + 0 + 9)) u (x))) := XI.sA hX _ (by omega)
        have hF_6 : Fr (fun j k => (j = 9 ∧ k = 5) ∨ (j = 18 ∧ k = 99)) S (setA S (9 + 0 + 9) (upd (fA S (9 + 0 + 9)) u (x))) := Fr.sA (Fr.rf : Fr (fun j k => (j = 9 ∧ k = 5) ∨ (j = 18 ∧ k = 99)) S S) (by omega)
        refine lv_aload_n hx hb (fk_get fk_cX11_book_0 31 rfl) rfl (lv_at hl 0 rfl) ?_
        refine va_get (D := G.1) (ci := 13) (v := .ref (ad (9 + 0))) (C := RX11) (T := TX11) (N := 11) hx hb hT inX11 hown hK hP 0 (ix_at (lt71 (by omega)) (cX_0 G ad (setA S (9 + 0 + 9) (upd (fA S (9 + 0 + 9)) u (x))))) rfl 1 (by decide) (hT _ m2_70) (fun _ h9 => h9) rfl (fk_get fk_cX11_book_1 0 rfl) ?_
        refine lv_dup hx hb (fk_get fk_cX11_book_1 1 rfl) rfl ?_
        refine va_get (D := G.1) (ci := 9) (v := .int (fF (setA S (9 + 0 + 9) (upd (fA S (9 + 0 + 9)) u (x))) (9 + 0) 5)) (C := RX7) (T := TX7) (N := 8) hx hb hT inX7 hown hK hP (9 + 0) (ix_at (lt71 (by omega)) (cX_shop (pk_shop (by decide : 0 < 3)))) rfl 5 (by decide) (hT _ m1_213) (fun _ h9 => h9) rfl (fk_get fk_cX11_book_1 2 rfl) ?_
        rw [show fF (setA S (9 + 0 + 9) (upd (fA S (9 + 0 + 9)) u (x))) (9 + 0) 5 = (fF S (9 + 0) 5) from by simp [fF_setF, fF_setR, fF_setA, fF_setL]]
        rw [hu]
        refine lv_iconst (v := 1) hx hb (fk_get fk_cX11_book_1 3 rfl) (by decide) ?_
        refine lv_iadd hx hb (fk_get fk_cX11_book_1 4 rfl) ?_
        rw [show ((nI u) + 1) = (nI (u + 1)) from (nI_1 u)]
        refine va_put (D := G.1) (ci := 9) (v := .int ((nI (u + 1)))) (ty := .int) (C := RX7) (T := TX7) (N := 8) hx hb hT inX7 tyX7 tyX7_ok nmX7 hown hK hP hD hS (9 + 0) (ix_at (lt71 (by omega)) (cX_shop (pk_shop (by decide : 0 < 3)))) rfl 5 (by decide) (hT _ m1_213) (fun _ h9 => h9) rfl (by decide +kernel) rfl rfl (Nat.le_of_ble_eq_true rfl) (fk_get fk_cX11_book_1 5 rfl) (fun H locs hP hD hS => ?_)
        rw [pX_shop_5 (S := (setA S (9 + 0 + 9) (upd (fA S (9 + 0 + 9)) u (x)))) (lt71 (by omega)) (pk_shop (by decide : 0 < 3)) ((nI (u + 1)))] at hP hD
        have hX_7 : XI (setF (setA S (9 + 0 + 9) (upd (fA S (9 + 0 + 9)) u (x))) (9 + 0) 5 ((nI (u + 1)))) := XI.bo (n := (u + 1)) hX_5 (by decide : 0 < 3) (by omega)
        have hF_8 : Fr (fun j k => (j = 9 ∧ k = 5) ∨ (j = 18 ∧ k = 99)) S (setF (setA S (9 + 0 + 9) (upd (fA S (9 + 0 + 9)) u (x))) (9 + 0) 5 ((nI (u + 1)))) := Fr.sF hF_6 (by omega)
        refine lv_aload_n hx hb (fk_get fk_cX11_book_1 6 rfl) rfl (lv_at hl 0 rfl) ?_
        refine va_get (D := G.1) (ci := 13) (v := .ref (ad (9 + 0))) (C := RX11) (T := TX11) (N := 11) hx hb hT inX11 hown hK hP 0 (ix_at (lt71 (by omega)) (cX_0 G ad (setF (setA S (9 + 0 + 9) (upd (fA S (9 + 0 + 9)) u (x))) (9 + 0) 5 ((nI (u + 1)))))) rfl 1 (by decide) (hT _ m2_70) (fun _ h9 => h9) rfl (fk_get fk_cX11_book_1 7 rfl) ?_
        refine va_get (D := G.1) (ci := 9) (v := .int (fF (setF (setA S (9 + 0 + 9) (upd (fA S (9 + 0 + 9)) u (x))) (9 + 0) 5 ((nI (u + 1)))) (9 + 0) 5)) (C := RX7) (T := TX7) (N := 8) hx hb hT inX7 hown hK hP (9 + 0) (ix_at (lt71 (by omega)) (cX_shop (pk_shop (by decide : 0 < 3)))) rfl 5 (by decide) (hT _ m1_213) (fun _ h9 => h9) rfl (fk_get fk_cX11_book_1 8 rfl) ?_
        rw [show fF (setF (setA S (9 + 0 + 9) (upd (fA S (9 + 0 + 9)) u (x))) (9 + 0) 5 ((nI (u + 1)))) (9 + 0) 5 = (nI (u + 1)) from by simp [fF_setF, fF_setR, fF_setA, fF_setL]]
        subst hQ
        have hpost : XI (setF (setA S (9 + 0 + 9) (upd (fA S (9 + 0 + 9)) u (x))) (9 + 0) 5 ((nI (u + 1)))) ∧ Fr (fun j k => (j = 9 ∧ k = 5) ∨ (j = 18 ∧ k = 99)) S (setF (setA S (9 + 0 + 9) (upd (fA S (9 + 0 + 9)) u (x))) (9 + 0) 5 ((nI (u + 1)))) ∧ (x = -1 ∧ ((nI (u + 1)) : Int32) = 0 ∧ (setF (setA S (9 + 0 + 9) (upd (fA S (9 + 0 + 9)) u (x))) (9 + 0) 5 ((nI (u + 1)))) = setF S (9 + 0) 5 (nI 0) ∨ x ≠ -1 ∧ (x < 0 ∨ nI n ≤ x) ∧ ((nI (u + 1)) : Int32) = -1 ∧ (setF (setA S (9 + 0 + 9) (upd (fA S (9 + 0 + 9)) u (x))) (9 + 0) 5 ((nI (u + 1)))) = S ∨ x ≠ -1 ∧ (∃ j, j < n ∧ x = nI j) ∧ u = 8 ∧ ((nI (u + 1)) : Int32) = -4 ∧ (setF (setA S (9 + 0 + 9) (upd (fA S (9 + 0 + 9)) u (x))) (9 + 0) 5 ((nI (u + 1)))) = S ∨ x ≠ -1 ∧ (∃ j, j < n ∧ x = nI j) ∧ u < 8 ∧ ((nI (u + 1)) : Int32) = nI (u + 1) ∧ (setF (setA S (9 + 0 + 9) (upd (fA S (9 + 0 + 9)) u (x))) (9 + 0) 5 ((nI (u + 1)))) = setF (setA S (9 + 0 + 9) (upd (fA S (9 + 0 + 9)) u x)) (9 + 0) 5 (nI (u + 1))) := by
          first | exact ⟨hX_7, hF_8, Or.inl ⟨by assumption, rfl, rfl⟩⟩ | exact ⟨hX_7, hF_8, Or.inr (Or.inl ⟨by assumption, by assumption, rfl, rfl⟩)⟩ | exact ⟨hX_7, hF_8, Or.inr (Or.inr (Or.inl ⟨by assumption, ⟨_, hj_20, ej_20⟩, by omega, rfl, rfl⟩))⟩ | exact ⟨hX_7, hF_8, Or.inr (Or.inr (Or.inr ⟨by assumption, ⟨_, hj_20, ej_20⟩, by omega, rfl, rfl⟩))⟩
        exact W.iret (v := (nI (u + 1))) hx hb hr (fun t_ ht_ hW_ => ⟨⟨(nI (u + 1)), (setF (setA S (9 + 0 + 9) (upd (fA S (9 + 0 + 9)) u (x))) (9 + 0) 5 ((nI (u + 1)))), rfl, hpost, by rw [ht_]; exact hP, va_K.moved hW_.alike hK, hD⟩, hS.F ht_⟩) hS.2.2 (fk_get fk_cX11_book_1 9 rfl)
      have q_c_4 : 8 ≤ u := ci_nlt (a := u) (b := 8) (by omega) (by omega) c_4
      refine lv_bipush (v := (-4)) hx hb (fk_get fk_cX11_book_0 21 rfl) (by decide) ?_
      subst hQ
      have hpost : XI S ∧ Fr (fun j k => (j = 9 ∧ k = 5) ∨ (j = 18 ∧ k = 99)) S S ∧ (x = -1 ∧ ((-4) : Int32) = 0 ∧ S = setF S (9 + 0) 5 (nI 0) ∨ x ≠ -1 ∧ (x < 0 ∨ nI n ≤ x) ∧ ((-4) : Int32) = -1 ∧ S = S ∨ x ≠ -1 ∧ (∃ j, j < n ∧ x = nI j) ∧ u = 8 ∧ ((-4) : Int32) = -4 ∧ S = S ∨ x ≠ -1 ∧ (∃ j, j < n ∧ x = nI j) ∧ u < 8 ∧ ((-4) : Int32) = nI (u + 1) ∧ S = setF (setA S (9 + 0 + 9) (upd (fA S (9 + 0 + 9)) u x)) (9 + 0) 5 (nI (u + 1))) := by
        first | exact ⟨hX, (Fr.rf : Fr (fun j k => (j = 9 ∧ k = 5) ∨ (j = 18 ∧ k = 99)) S S), Or.inl ⟨by assumption, rfl, rfl⟩⟩ | exact ⟨hX, (Fr.rf : Fr (fun j k => (j = 9 ∧ k = 5) ∨ (j = 18 ∧ k = 99)) S S), Or.inr (Or.inl ⟨by assumption, by assumption, rfl, rfl⟩)⟩ | exact ⟨hX, (Fr.rf : Fr (fun j k => (j = 9 ∧ k = 5) ∨ (j = 18 ∧ k = 99)) S S), Or.inr (Or.inr (Or.inl ⟨by assumption, ⟨_, hj_20, ej_20⟩, by omega, rfl, rfl⟩))⟩ | exact ⟨hX, (Fr.rf : Fr (fun j k => (j = 9 ∧ k = 5) ∨ (j = 18 ∧ k = 99)) S S), Or.inr (Or.inr (Or.inr ⟨by assumption, ⟨_, hj_20, ej_20⟩, by omega, rfl, rfl⟩))⟩
      exact W.iret (v := (-4)) hx hb hr (fun t_ ht_ hW_ => ⟨⟨(-4), S, rfl, hpost, by rw [ht_]; exact hP, va_K.moved hW_.alike hK, hD⟩, hS.F ht_⟩) hS.2.2 (fk_get fk_cX11_book_0 22 rfl)
    rw [show va_rf none = .null from rfl]
    refine lv_ifnonnullN hx hb (fk_get fk_cX11_book_0 13 rfl) ?_
    refine lv_iconst (v := (-1)) hx hb (fk_get fk_cX11_book_0 14 rfl) (by decide) ?_
    subst hQ
    have hpost : XI S ∧ Fr (fun j k => (j = 9 ∧ k = 5) ∨ (j = 18 ∧ k = 99)) S S ∧ (x = -1 ∧ ((-1) : Int32) = 0 ∧ S = setF S (9 + 0) 5 (nI 0) ∨ x ≠ -1 ∧ (x < 0 ∨ nI n ≤ x) ∧ ((-1) : Int32) = -1 ∧ S = S ∨ x ≠ -1 ∧ (∃ j, j < n ∧ x = nI j) ∧ u = 8 ∧ ((-1) : Int32) = -4 ∧ S = S ∨ x ≠ -1 ∧ (∃ j, j < n ∧ x = nI j) ∧ u < 8 ∧ ((-1) : Int32) = nI (u + 1) ∧ S = setF (setA S (9 + 0 + 9) (upd (fA S (9 + 0 + 9)) u x)) (9 + 0) 5 (nI (u + 1))) := by
      first | exact ⟨hX, (Fr.rf : Fr (fun j k => (j = 9 ∧ k = 5) ∨ (j = 18 ∧ k = 99)) S S), Or.inl ⟨by assumption, rfl, rfl⟩⟩ | exact ⟨hX, (Fr.rf : Fr (fun j k => (j = 9 ∧ k = 5) ∨ (j = 18 ∧ k = 99)) S S), Or.inr (Or.inl ⟨by assumption, by assumption, rfl, rfl⟩)⟩ | exact ⟨hX, (Fr.rf : Fr (fun j k => (j = 9 ∧ k = 5) ∨ (j = 18 ∧ k = 99)) S S), Or.inr (Or.inr (Or.inl ⟨by assumption, ⟨_, hj_20, ej_20⟩, by omega, rfl, rfl⟩))⟩ | exact ⟨hX, (Fr.rf : Fr (fun j k => (j = 9 ∧ k = 5) ∨ (j = 18 ∧ k = 99)) S S), Or.inr (Or.inr (Or.inr ⟨by assumption, ⟨_, hj_20, ej_20⟩, by omega, rfl, rfl⟩))⟩
    exact W.iret (v := (-1)) hx hb hr (fun t_ ht_ hW_ => ⟨⟨(-1), S, rfl, hpost, by rw [ht_]; exact hP, va_K.moved hW_.alike hK, hD⟩, hS.F ht_⟩) hS.2.2 (fk_get fk_cX11_book_0 15 rfl)
  refine lv_aload_n hx hb (fk_get fk_cX11_book_0 3 rfl) rfl (lv_at hl 0 rfl) ?_
  refine va_get (D := G.1) (ci := 13) (v := .ref (ad (9 + 0))) (C := RX11) (T := TX11) (N := 11) hx hb hT inX11 hown hK hP 0 (ix_at (lt71 (by omega)) (cX_0 G ad S)) rfl 1 (by decide) (hT _ m2_70) (fun _ h9 => h9) rfl (fk_get fk_cX11_book_0 4 rfl) ?_
  refine lv_iconst (v := 0) hx hb (fk_get fk_cX11_book_0 5 rfl) (by decide) ?_
  refine va_put (D := G.1) (ci := 9) (v := .int (0)) (ty := .int) (C := RX7) (T := TX7) (N := 8) hx hb hT inX7 tyX7 tyX7_ok nmX7 hown hK hP hD hS (9 + 0) (ix_at (lt71 (by omega)) (cX_shop (pk_shop (by decide : 0 < 3)))) rfl 5 (by decide) (hT _ m1_213) (fun _ h9 => h9) rfl (by decide +kernel) rfl rfl (Nat.le_of_ble_eq_true rfl) (fk_get fk_cX11_book_0 6 rfl) (fun H locs hP hD hS => ?_)
  rw [pX_shop_5 (S := S) (lt71 (by omega)) (pk_shop (by decide : 0 < 3)) (0)] at hP hD
  have hX_9 : XI (setF S (9 + 0) 5 (0)) := XI.bo (n := 0) hX (by decide : 0 < 3) (by omega)
  have hF_10 : Fr (fun j k => (j = 9 ∧ k = 5) ∨ (j = 18 ∧ k = 99)) S (setF S (9 + 0) 5 (0)) := Fr.sF (Fr.rf : Fr (fun j k => (j = 9 ∧ k = 5) ∨ (j = 18 ∧ k = 99)) S S) (by omega)
  refine lv_iconst (v := 0) hx hb (fk_get fk_cX11_book_0 7 rfl) (by decide) ?_
  subst hQ
  have hpost : XI (setF S (9 + 0) 5 (0)) ∧ Fr (fun j k => (j = 9 ∧ k = 5) ∨ (j = 18 ∧ k = 99)) S (setF S (9 + 0) 5 (0)) ∧ (x = -1 ∧ (0 : Int32) = 0 ∧ (setF S (9 + 0) 5 (0)) = setF S (9 + 0) 5 (nI 0) ∨ x ≠ -1 ∧ (x < 0 ∨ nI n ≤ x) ∧ (0 : Int32) = -1 ∧ (setF S (9 + 0) 5 (0)) = S ∨ x ≠ -1 ∧ (∃ j, j < n ∧ x = nI j) ∧ u = 8 ∧ (0 : Int32) = -4 ∧ (setF S (9 + 0) 5 (0)) = S ∨ x ≠ -1 ∧ (∃ j, j < n ∧ x = nI j) ∧ u < 8 ∧ (0 : Int32) = nI (u + 1) ∧ (setF S (9 + 0) 5 (0)) = setF (setA S (9 + 0 + 9) (upd (fA S (9 + 0 + 9)) u x)) (9 + 0) 5 (nI (u + 1))) := by
    first | exact ⟨hX_9, hF_10, Or.inl ⟨by assumption, rfl, rfl⟩⟩ | exact ⟨hX_9, hF_10, Or.inr (Or.inl ⟨by assumption, by assumption, rfl, rfl⟩)⟩ | exact ⟨hX_9, hF_10, Or.inr (Or.inr (Or.inl ⟨by assumption, ⟨_, hj_20, ej_20⟩, by omega, rfl, rfl⟩))⟩ | exact ⟨hX_9, hF_10, Or.inr (Or.inr (Or.inr ⟨by assumption, ⟨_, hj_20, ej_20⟩, by omega, rfl, rfl⟩))⟩
  exact W.iret (v := 0) hx hb hr (fun t_ ht_ hW_ => ⟨⟨0, (setF S (9 + 0) 5 (0)), rfl, hpost, by rw [ht_]; exact hP, va_K.moved hW_.alike hK, hD⟩, hS.F ht_⟩) hS.2.2 (fk_get fk_cX11_book_0 8 rfl)
set_option maxHeartbeats 800000 in
set_option maxRecDepth 100000 in
theorem c_x11_set (l : Launch) (G : GG) (ad : Nat → Nat) (S : FS) (sz : Nat) (n : Nat) (x : Int32) (w_ : Int32) (v_ : Int32) (hn : fF S (9 + 0) 3 = nI n) (hn6 : n ≤ 6) (hX : XI S) : Met l yX11_set (Cond.code yX11_set cX11_set 6 (some .int) :: TBL) ({ frames := 3, cells := 0, slots := 0, locals := 90 } : Room) (PcW G (wX G ad S) sz [.ref (ad 0), .int (x), .int (w_), .int (v_)]) (va_Qi (fun (r : Int32) (S' : FS) => XI S' ∧ Fr (fun j k => 21 ≤ j ∧ j < 27 ∧ 4 ≤ k ∧ k ≤ 9) S S' ∧ True) (fun S' t => BW G (va_A (wX G ad S) sz) (wX G ad S') t) (va_A (wX G ad S) sz)) 0 0 (va_A (wX G ad S) sz) := by
  refine Met.ofW (cc := cX11_set) (maxL := 6) (ret := (some .int)) (by decide) rfl ?_
  intro p e s m args below meth c₀ s₁ B hml hv
  obtain ⟨rfl, hsz, hP, hK, hD0⟩ := hv
  have hx := B.exec
  have hb := B.bytes
  have hr := B.returns
  have hT : ∀ w ∈ TBL, w.before ([.ref (ad 0), .int (x), .int (w_), .int (v_)] : List Value).toArray s = true := fun w h => atoms_spec (ws := Cond.code yX11_set cX11_set 6 (some .int) :: TBL) B.pre w (List.mem_cons_of_mem _ h)
  have hown : s.vm.findClass "LittleMore" = some m.cls := findClass_of_methodNamed B.named
  have hlocks := B.notSynchronized
  subst hsz
  have hD := hD0.self (sz := s.heap.size)
  generalize hAe : va_A (wX G ad S) s.heap.size = A at hD ⊢
  have hA : ∀ q : Nat, s.heap.size ≤ q → A q := fun q h => by rw [← hAe]; exact Or.inr h
  have hS : va_S A s.heap s.heap [] := va_S.rf
  have hP : va_P G.1 vwCl (wX G ad S) s.heap := hP
  have hl := lv_entry ([.ref (ad 0), .int (x), .int (w_), .int (v_)]) (n := 6) (Nat.le_of_ble_eq_true rfl)
  rw [lg_entry_eq]
  generalize (lg_sl ([.ref (ad 0), .int (x), .int (w_), .int (v_)]) ++ List.replicate (6 - (lg_sl ([.ref (ad 0), .int (x), .int (w_), .int (v_)])).length) Slot.unset).toArray = ls at hl ⊢
  have hl : lv_has ls 6 [(0, .ref (ad 0)), (1, .int (x)), (2, .int (w_)), (3, .int (v_))] := hl
  refine W_abs (fun Q hQ => ?_)
  generalize ([.ref (ad 0), .int (x), .int (w_), .int (v_)] : List Value).toArray = args at hT hQ ⊢
  refine lv_aload_n hx hb (fk_get fk_cX11_set_0 0 rfl) rfl (lv_at hl 0 rfl) ?_
  refine va_get (D := G.1) (ci := 13) (v := .ref (ad (9 + 0))) (C := RX11) (T := TX11) (N := 11) hx hb hT inX11 hown hK hP 0 (ix_at (lt71 (by omega)) (cX_0 G ad S)) rfl 1 (by decide) (hT _ m2_70) (fun _ h9 => h9) rfl (fk_get fk_cX11_set_0 1 rfl) ?_
  refine lv_iload_n hx hb (fk_get fk_cX11_set_0 2 rfl) rfl (lv_at hl 1 rfl) ?_
  refine va_csq (W.runV (As := [.int (x)]) (rest := []) ⟨hx, hb, hml, hown, hT⟩ (c_x7_at l G ad S s.heap.size (0) (n) (x) ((by decide : 0 < 3)) (hn) (hn6) (hX)) (tV 1 hT m2_120 m2_121 m2_122 m1_9 m2_123 rfl rfl (by decide +kernel) ⟨Nat.le_of_ble_eq_true rfl, Nat.le_of_ble_eq_true rfl⟩) ⟨PcW_blind, va_recv hK hP (ci := 9) (q0 := (9 + 0)) rfl (ix_at (lt71 (by omega)) (cX_shop (pk_shop (by decide : 0 < 3)))), PcW_of hP hK hD _⟩ rfl rfl hl.1 rfl (lv_room (Nat.le_of_ble_eq_true rfl)) (fk_get fk_cX11_set_0 3 rfl) ⟨Nat.zero_le _, Nat.zero_le _⟩) (fun r_1 hw_2 => ?_)
  try dsimp only at hw_2
  rcases hw_2 with ⟨j_5, hj_5, ej_5, rfl⟩ | ⟨rfl, hn_5⟩
  · rw [show va_rf (some (ad (21 + 6 * 0 + j_5))) = .ref (ad (21 + 6 * 0 + j_5)) from rfl]
    generalize hg_i_5 : 21 + 6 * 0 + j_5 = i_5
    have hp_i_5 : pk i_5 = 7 := by rw [← hg_i_5]; exact pk_c (by decide : 0 < 3) (show j_5 < 6 by omega)
    have hb_i_5 := pk7 hp_i_5
    refine lv_astore (lv' := [(4, .ref (ad i_5)), (0, .ref (ad 0)), (1, .int (x)), (2, .int (w_)), (3, .int (v_))]) hx hb (fk_get fk_cX11_set_0 4 rfl) hl (by decide) rfl (fun ls hl => ?_)
    refine lv_aload hx hb (fk_get fk_cX11_set_0 5 rfl) (lv_at hl 0 rfl) ?_
    refine lv_ifnull hx hb (fk_get fk_cX11_set_0 6 rfl) ?_
    refine lv_iload_n hx hb (fk_get fk_cX11_set_0 7 rfl) rfl (lv_at hl 3 rfl) ?_
    refine lv_iconst (v := 0) hx hb (fk_get fk_cX11_set_0 8 rfl) (by decide) ?_
    refine lv_iconst (v := 3) hx hb (fk_get fk_cX11_set_0 9 rfl) (by decide) ?_
    refine vp_callSi (W.runS (As := [.int (w_), .int (0), .int (3)]) (rest := []) ⟨hx, hb, hml, hown, hT⟩ (c_xisOutside l (w_) (0) (3) ) (tS 3 hT m2_108 m2_109 m1_1 m2_110 rfl rfl (by decide +kernel) ⟨Nat.le_of_ble_eq_true rfl, Nat.le_of_ble_eq_true rfl⟩) ⟨PcN_blind, PcN_of _ _ _⟩ rfl rfl hl.1 rfl (lv_room (Nat.le_of_ble_eq_true rfl)) (fk_get fk_cX11_set_0 10 rfl) ⟨Nat.zero_le _, Nat.zero_le _⟩) (fun r_3 hw_4 => ?_)
    try dsimp only at hw_4
    refine lv_if_eq (tgt := 26) hx hb (fk_get fk_cX11_set_0 11 rfl) (by decide) (fun c_5 => ?_) (fun c_5 => ?_)
    · have p_c_5 := if1_f hw_4 c_5
      refine lv_iload_n hx hb (fk_get fk_cX11_set_0 14 rfl) rfl (lv_at hl 3 rfl) ?_
      by_cases c_6 : w_ = (0 : Int32)
      · refine lv_tableIn (off := 25) (tgt := 52) hx hb (dk_get dk_cX11_set_0 0 rfl) (by rw [c_6]; decide) (by rw [c_6]; decide) (by rw [c_6]; rfl) (by decide) ?_
        refine lv_iload_n hx hb (fk_get fk_cX11_set_0 15 rfl) rfl (lv_at hl 4 rfl) ?_
        refine lv_bipush (v := 10) hx hb (fk_get fk_cX11_set_0 16 rfl) (by decide) ?_
        refine lv_bipush (v := 99) hx hb (fk_get fk_cX11_set_0 17 rfl) (by decide) ?_
        refine vp_callSi (W.runS (As := [.int (v_), .int (10), .int (99)]) (rest := []) ⟨hx, hb, hml, hown, hT⟩ (c_xisOutside l (v_) (10) (99) ) (tS 3 hT m2_108 m2_109 m1_1 m2_110 rfl rfl (by decide +kernel) ⟨Nat.le_of_ble_eq_true rfl, Nat.le_of_ble_eq_true rfl⟩) ⟨PcN_blind, PcN_of _ _ _⟩ rfl rfl hl.1 rfl (lv_room (Nat.le_of_ble_eq_true rfl)) (fk_get fk_cX11_set_0 18 rfl) ⟨Nat.zero_le _, Nat.zero_le _⟩) (fun r_7 hw_8 => ?_)
        try dsimp only at hw_8
        refine lv_if_eq (tgt := 66) hx hb (fk_get fk_cX11_set_0 19 rfl) (by decide) (fun c_9 => ?_) (fun c_9 => ?_)
        · have p_c_9 := if1_f hw_8 c_9
          refine lv_aload hx hb (fk_get fk_cX11_set_0 22 rfl) (lv_at hl 0 rfl) ?_
          refine va_get (D := G.1) (ci := 5) (v := .int (fF S i_5 4)) (C := RX3) (T := TX3) (N := 10) hx hb hT inX3 hown hK hP i_5 (ix_at (lt71 (by omega)) (cX_cust hp_i_5)) rfl 4 (by decide) (hT _ m1_157) (fun _ h9 => h9) rfl (fk_get fk_cX11_set_0 23 rfl) ?_
          refine lv_istore (lv' := [(5, .int ((fF S i_5 4))), (4, .ref (ad i_5)), (0, .ref (ad 0)), (1, .int (x)), (2, .int (w_)), (3, .int (v_))]) hx hb (fk_get fk_cX11_set_0 24 rfl) hl (by decide) rfl (fun ls hl => ?_)
          refine lv_aload hx hb (fk_get fk_cX11_set_0 25 rfl) (lv_at hl 1 rfl) ?_
          refine lv_iload_n hx hb (fk_get fk_cX11_set_0 26 rfl) rfl (lv_at hl 5 rfl) ?_
          refine va_put (D := G.1) (ci := 5) (v := .int (v_)) (ty := .int) (C := RX3) (T := TX3) (N := 10) hx hb hT inX3 tyX3 tyX3_ok nmX3 hown hK hP hD hS i_5 (ix_at (lt71 (by omega)) (cX_cust hp_i_5)) rfl 4 (by decide) (hT _ m1_157) (fun _ h9 => h9) rfl (by decide +kernel) rfl rfl (Nat.le_of_ble_eq_true rfl) (fk_get fk_cX11_set_0 27 rfl) (fun H locs hP hD hS => ?_)
          rw [pX_cust_4 (S := S) (lt71 (by omega)) (hp_i_5) (v_)] at hP hD
          have hX_10 : XI (setF S i_5 4 (v_)) := XI.sF hX _ ⟨by omega, by omega, by omega, by omega, by omega, by omega, by omega, by omega⟩
          have hF_11 : Fr (fun j k => 21 ≤ j ∧ j < 27 ∧ 4 ≤ k ∧ k ≤ 9) S (setF S i_5 4 (v_)) := Fr.sF (Fr.rf : Fr (fun j k => 21 ≤ j ∧ j < 27 ∧ 4 ≤ k ∧ k ≤ 9) S S) (by omega)
          refine lv_iload hx hb (fk_get fk_cX11_set_0 28 rfl) (lv_at hl 0 rfl) ?_
          subst hQ
          have hpost : XI (setF S i_5 4 (v_)) ∧ Fr (fun j k => 21 ≤ j ∧ j < 27 ∧ 4 ≤ k ∧ k ≤ 9) S (setF S i_5 4 (v_)) ∧ True := by
            exact ⟨hX_10, hF_11, trivial⟩
          exact W.iret (v := (fF S i_5 4)) hx hb hr (fun t_ ht_ hW_ => ⟨⟨(fF S i_5 4), (setF S i_5 4 (v_)), rfl, hpost, by rw [ht_]; exact hP, va_K.moved hW_.alike hK, hD⟩, hS.F ht_⟩) hS.2.2 (fk_get fk_cX11_set_0 29 rfl)
        have p_c_9 := if1_t hw_8 c_9
        refine lv_bipush (v := (-2)) hx hb (fk_get fk_cX11_set_0 20 rfl) (by decide) ?_
        subst hQ
        have hpost : XI S ∧ Fr (fun j k => 21 ≤ j ∧ j < 27 ∧ 4 ≤ k ∧ k ≤ 9) S S ∧ True := by
          exact ⟨hX, (Fr.rf : Fr (fun j k => 21 ≤ j ∧ j < 27 ∧ 4 ≤ k ∧ k ≤ 9) S S), trivial⟩
        exact W.iret (v := (-2)) hx hb hr (fun t_ ht_ hW_ => ⟨⟨(-2), S, rfl, hpost, by rw [ht_]; exact hP, va_K.moved hW_.alike hK, hD⟩, hS.F ht_⟩) hS.2.2 (fk_get fk_cX11_set_0 21 rfl)
      by_cases c_12 : w_ = (1 : Int32)
      · refine lv_tableIn (off := 55) (tgt := 82) hx hb (dk_get dk_cX11_set_0 0 rfl) (by rw [c_12]; decide) (by rw [c_12]; decide) (by rw [c_12]; rfl) (by decide) ?_
        refine lv_iload_n hx hb (fk_get fk_cX11_set_0 30 rfl) rfl (lv_at hl 4 rfl) ?_
        refine lv_iconst (v := 0) hx hb (fk_get fk_cX11_set_0 31 rfl) (by decide) ?_
        refine lv_bipush (v := 20) hx hb (fk_get fk_cX11_set_1 0 rfl) (by decide) ?_
        refine vp_callSi (W.runS (As := [.int (v_), .int (0), .int (20)]) (rest := []) ⟨hx, hb, hml, hown, hT⟩ (c_xisOutside l (v_) (0) (20) ) (tS 3 hT m2_108 m2_109 m1_1 m2_110 rfl rfl (by decide +kernel) ⟨Nat.le_of_ble_eq_true rfl, Nat.le_of_ble_eq_true rfl⟩) ⟨PcN_blind, PcN_of _ _ _⟩ rfl rfl hl.1 rfl (lv_room (Nat.le_of_ble_eq_true rfl)) (fk_get fk_cX11_set_1 1 rfl) ⟨Nat.zero_le _, Nat.zero_le _⟩) (fun r_13 hw_14 => ?_)
        try dsimp only at hw_14
        refine lv_if_eq (tgt := 95) hx hb (fk_get fk_cX11_set_1 2 rfl) (by decide) (fun c_15 => ?_) (fun c_15 => ?_)
        · have p_c_15 := if1_f hw_14 c_15
          refine lv_aload hx hb (fk_get fk_cX11_set_1 5 rfl) (lv_at hl 0 rfl) ?_
          refine va_get (D := G.1) (ci := 5) (v := .int (fF S i_5 5)) (C := RX3) (T := TX3) (N := 10) hx hb hT inX3 hown hK hP i_5 (ix_at (lt71 (by omega)) (cX_cust hp_i_5)) rfl 5 (by decide) (hT _ m1_160) (fun _ h9 => h9) rfl (fk_get fk_cX11_set_1 6 rfl) ?_
          refine lv_istore (lv' := [(5, .int ((fF S i_5 5))), (4, .ref (ad i_5)), (0, .ref (ad 0)), (1, .int (x)), (2, .int (w_)), (3, .int (v_))]) hx hb (fk_get fk_cX11_set_1 7 rfl) hl (by decide) rfl (fun ls hl => ?_)
          refine lv_aload hx hb (fk_get fk_cX11_set_1 8 rfl) (lv_at hl 1 rfl) ?_
          refine lv_iload_n hx hb (fk_get fk_cX11_set_1 9 rfl) rfl (lv_at hl 5 rfl) ?_
          refine va_put (D := G.1) (ci := 5) (v := .int (v_)) (ty := .int) (C := RX3) (T := TX3) (N := 10) hx hb hT inX3 tyX3 tyX3_ok nmX3 hown hK hP hD hS i_5 (ix_at (lt71 (by omega)) (cX_cust hp_i_5)) rfl 5 (by decide) (hT _ m1_160) (fun _ h9 => h9) rfl (by decide +kernel) rfl rfl (Nat.le_of_ble_eq_true rfl) (fk_get fk_cX11_set_1 10 rfl) (fun H locs hP hD hS => ?_)
          rw [pX_cust_5 (S := S) (lt71 (by omega)) (hp_i_5) (v_)] at hP hD
          have hX_16 : XI (setF S i_5 5 (v_)) := XI.sF hX _ ⟨by omega, by omega, by omega, by omega, by omega, by omega, by omega, by omega⟩
          have hF_17 : Fr (fun j k => 21 ≤ j ∧ j < 27 ∧ 4 ≤ k ∧ k ≤ 9) S (setF S i_5 5 (v_)) := Fr.sF (Fr.rf : Fr (fun j k => 21 ≤ j ∧ j < 27 ∧ 4 ≤ k ∧ k ≤ 9) S S) (by omega)
          refine lv_iload hx hb (fk_get fk_cX11_set_1 11 rfl) (lv_at hl 0 rfl) ?_
          subst hQ
          have hpost : XI (setF S i_5 5 (v_)) ∧ Fr (fun j k => 21 ≤ j ∧ j < 27 ∧ 4 ≤ k ∧ k ≤ 9) S (setF S i_5 5 (v_)) ∧ True := by
            exact ⟨hX_16, hF_17, trivial⟩
          exact W.iret (v := (fF S i_5 5)) hx hb hr (fun t_ ht_ hW_ => ⟨⟨(fF S i_5 5), (setF S i_5 5 (v_)), rfl, hpost, by rw [ht_]; exact hP, va_K.moved hW_.alike hK, hD⟩, hS.F ht_⟩) hS.2.2 (fk_get fk_cX11_set_1 12 rfl)
        have p_c_15 := if1_t hw_14 c_15
        refine lv_bipush (v := (-2)) hx hb (fk_get fk_cX11_set_1 3 rfl) (by decide) ?_
        subst hQ
        have hpost : XI S ∧ Fr (fun j k => 21 ≤ j ∧ j < 27 ∧ 4 ≤ k ∧ k ≤ 9) S S ∧ True := by
          exact ⟨hX, (Fr.rf : Fr (fun j k => 21 ≤ j ∧ j < 27 ∧ 4 ≤ k ∧ k ≤ 9) S S), trivial⟩
        exact W.iret (v := (-2)) hx hb hr (fun t_ ht_ hW_ => ⟨⟨(-2), S, rfl, hpost, by rw [ht_]; exact hP, va_K.moved hW_.alike hK, hD⟩, hS.F ht_⟩) hS.2.2 (fk_get fk_cX11_set_1 4 rfl)
      by_cases c_18 : w_ = (2 : Int32)
      · refine lv_tableIn (off := 84) (tgt := 111) hx hb (dk_get dk_cX11_set_0 0 rfl) (by rw [c_18]; decide) (by rw [c_18]; decide) (by rw [c_18]; rfl) (by decide) ?_
        refine lv_iload_n hx hb (fk_get fk_cX11_set_1 13 rfl) rfl (lv_at hl 4 rfl) ?_
        refine lv_iconst (v := 0) hx hb (fk_get fk_cX11_set_1 14 rfl) (by decide) ?_
        refine lv_bipush (v := 99) hx hb (fk_get fk_cX11_set_1 15 rfl) (by decide) ?_
        refine vp_callSi (W.runS (As := [.int (v_), .int (0), .int (99)]) (rest := []) ⟨hx, hb, hml, hown, hT⟩ (c_xisOutside l (v_) (0) (99) ) (tS 3 hT m2_108 m2_109 m1_1 m2_110 rfl rfl (by decide +kernel) ⟨Nat.le_of_ble_eq_true rfl, Nat.le_of_ble_eq_true rfl⟩) ⟨PcN_blind, PcN_of _ _ _⟩ rfl rfl hl.1 rfl (lv_room (Nat.le_of_ble_eq_true rfl)) (fk_get fk_cX11_set_1 16 rfl) ⟨Nat.zero_le _, Nat.zero_le _⟩) (fun r_19 hw_20 => ?_)
        try dsimp only at hw_20
        refine lv_if_eq (tgt := 124) hx hb (fk_get fk_cX11_set_1 17 rfl) (by decide) (fun c_21 => ?_) (fun c_21 => ?_)
        · have p_c_21 := if1_f hw_20 c_21
          refine lv_aload hx hb (fk_get fk_cX11_set_1 20 rfl) (lv_at hl 0 rfl) ?_
          refine va_get (D := G.1) (ci := 5) (v := .int (fF S i_5 6)) (C := RX3) (T := TX3) (N := 10) hx hb hT inX3 hown hK hP i_5 (ix_at (lt71 (by omega)) (cX_cust hp_i_5)) rfl 6 (by decide) (hT _ m1_166) (fun _ h9 => h9) rfl (fk_get fk_cX11_set_1 21 rfl) ?_
          refine lv_istore (lv' := [(5, .int ((fF S i_5 6))), (4, .ref (ad i_5)), (0, .ref (ad 0)), (1, .int (x)), (2, .int (w_)), (3, .int (v_))]) hx hb (fk_get fk_cX11_set_1 22 rfl) hl (by decide) rfl (fun ls hl => ?_)
          refine lv_aload hx hb (fk_get fk_cX11_set_1 23 rfl) (lv_at hl 1 rfl) ?_
          refine lv_iload_n hx hb (fk_get fk_cX11_set_1 24 rfl) rfl (lv_at hl 5 rfl) ?_
          refine va_put (D := G.1) (ci := 5) (v := .int (v_)) (ty := .int) (C := RX3) (T := TX3) (N := 10) hx hb hT inX3 tyX3 tyX3_ok nmX3 hown hK hP hD hS i_5 (ix_at (lt71 (by omega)) (cX_cust hp_i_5)) rfl 6 (by decide) (hT _ m1_166) (fun _ h9 => h9) rfl (by decide +kernel) rfl rfl (Nat.le_of_ble_eq_true rfl) (fk_get fk_cX11_set_1 25 rfl) (fun H locs hP hD hS => ?_)
          rw [pX_cust_6 (S := S) (lt71 (by omega)) (hp_i_5) (v_)] at hP hD
          have hX_22 : XI (setF S i_5 6 (v_)) := XI.sF hX _ ⟨by omega, by omega, by omega, by omega, by omega, by omega, by omega, by omega⟩
          have hF_23 : Fr (fun j k => 21 ≤ j ∧ j < 27 ∧ 4 ≤ k ∧ k ≤ 9) S (setF S i_5 6 (v_)) := Fr.sF (Fr.rf : Fr (fun j k => 21 ≤ j ∧ j < 27 ∧ 4 ≤ k ∧ k ≤ 9) S S) (by omega)
          refine lv_iload hx hb (fk_get fk_cX11_set_1 26 rfl) (lv_at hl 0 rfl) ?_
          subst hQ
          have hpost : XI (setF S i_5 6 (v_)) ∧ Fr (fun j k => 21 ≤ j ∧ j < 27 ∧ 4 ≤ k ∧ k ≤ 9) S (setF S i_5 6 (v_)) ∧ True := by
            exact ⟨hX_22, hF_23, trivial⟩
          exact W.iret (v := (fF S i_5 6)) hx hb hr (fun t_ ht_ hW_ => ⟨⟨(fF S i_5 6), (setF S i_5 6 (v_)), rfl, hpost, by rw [ht_]; exact hP, va_K.moved hW_.alike hK, hD⟩, hS.F ht_⟩) hS.2.2 (fk_get fk_cX11_set_1 27 rfl)
        have p_c_21 := if1_t hw_20 c_21
        refine lv_bipush (v := (-2)) hx hb (fk_get fk_cX11_set_1 18 rfl) (by decide) ?_
        subst hQ
        have hpost : XI S ∧ Fr (fun j k => 21 ≤ j ∧ j < 27 ∧ 4 ≤ k ∧ k ≤ 9) S S ∧ True := by
          exact ⟨hX, (Fr.rf : Fr (fun j k => 21 ≤ j ∧ j < 27 ∧ 4 ≤ k ∧ k ≤ 9) S S), trivial⟩
        exact W.iret (v := (-2)) hx hb hr (fun t_ ht_ hW_ => ⟨⟨(-2), S, rfl, hpost, by rw [ht_]; exact hP, va_K.moved hW_.alike hK, hD⟩, hS.F ht_⟩) hS.2.2 (fk_get fk_cX11_set_1 19 rfl)
      have o_24 : (w_).toInt < 0 ∨ 2 < (w_).toInt := by
        have qc_6 : ¬ (w_).toInt = 0 := lv_neT c_6 (by decide)
        have qc_12 : ¬ (w_).toInt = 1 := lv_neT c_12 (by decide)
        have qc_18 : ¬ (w_).toInt = 2 := lv_neT c_18 (by decide)
        omega
      refine lv_tableOut (tgt := 140) hx hb (dk_get dk_cX11_set_0 0 rfl) o_24 (by decide) ?_
      refine lv_iload_n hx hb (fk_get fk_cX11_set_1 28 rfl) rfl (lv_at hl 4 rfl) ?_
      refine lv_iconst (v := 0) hx hb (fk_get fk_cX11_set_1 29 rfl) (by decide) ?_
      refine lv_iconst (v := 1) hx hb (fk_get fk_cX11_set_1 30 rfl) (by decide) ?_
      refine vp_callSi (W.runS (As := [.int (v_), .int (0), .int (1)]) (rest := []) ⟨hx, hb, hml, hown, hT⟩ (c_xisOutside l (v_) (0) (1) ) (tS 3 hT m2_108 m2_109 m1_1 m2_110 rfl rfl (by decide +kernel) ⟨Nat.le_of_ble_eq_true rfl, Nat.le_of_ble_eq_true rfl⟩) ⟨PcN_blind, PcN_of _ _ _⟩ rfl rfl hl.1 rfl (lv_room (Nat.le_of_ble_eq_true rfl)) (fk_get fk_cX11_set_1 31 rfl) ⟨Nat.zero_le _, Nat.zero_le _⟩) (fun r_25 hw_26 => ?_)
      try dsimp only at hw_26
      refine lv_if_eq (tgt := 152) hx hb (fk_get fk_cX11_set_2 0 rfl) (by decide) (fun c_27 => ?_) (fun c_27 => ?_)
      · have p_c_27 := if1_f hw_26 c_27
        refine lv_aload hx hb (fk_get fk_cX11_set_2 3 rfl) (lv_at hl 0 rfl) ?_
        refine va_get (D := G.1) (ci := 5) (v := .int (fF S i_5 9)) (C := RX3) (T := TX3) (N := 10) hx hb hT inX3 hown hK hP i_5 (ix_at (lt71 (by omega)) (cX_cust hp_i_5)) rfl 9 (by decide) (hT _ m1_179) (fun _ h9 => h9) rfl (fk_get fk_cX11_set_2 4 rfl) ?_
        refine lv_if_eq (tgt := 164) hx hb (fk_get fk_cX11_set_2 5 rfl) (by decide) (fun c_28 => ?_) (fun c_28 => ?_)
        · refine lv_iconst (v := 0) hx hb (fk_get fk_cX11_set_2 8 rfl) (by decide) ?_
          refine lv_istore (lv' := [(5, .int (0)), (4, .ref (ad i_5)), (0, .ref (ad 0)), (1, .int (x)), (2, .int (w_)), (3, .int (v_))]) hx hb (fk_get fk_cX11_set_2 9 rfl) hl (by decide) rfl (fun ls hl => ?_)
          refine lv_aload hx hb (fk_get fk_cX11_set_2 10 rfl) (lv_at hl 1 rfl) ?_
          refine lv_iload_n hx hb (fk_get fk_cX11_set_2 11 rfl) rfl (lv_at hl 5 rfl) ?_
          refine lv_iconst (v := 1) hx hb (fk_get fk_cX11_set_2 12 rfl) (by decide) ?_
          refine lv_icmp_ne (tgt := 178) hx hb (fk_get fk_cX11_set_2 13 rfl) (by decide) (fun c_29 => ?_) (fun c_29 => ?_)
          · refine lv_iconst (v := 0) hx hb (fk_get fk_cX11_set_2 16 rfl) (by decide) ?_
            refine va_put (D := G.1) (ci := 5) (v := .int (0)) (ty := .boolean) (C := RX3) (T := TX3) (N := 10) hx hb hT inX3 tyX3 tyX3_ok nmX3 hown hK hP hD hS i_5 (ix_at (lt71 (by omega)) (cX_cust hp_i_5)) rfl 9 (by decide) (hT _ m1_179) (fun _ h9 => h9) rfl (by decide +kernel) rfl rfl (Nat.le_of_ble_eq_true rfl) (fk_get fk_cX11_set_2 17 rfl) (fun H locs hP hD hS => ?_)
            rw [pX_cust_9 (S := S) (lt71 (by omega)) (hp_i_5) (0)] at hP hD
            have hX_30 : XI (setF S i_5 9 (0)) := XI.gone_ hX hp_i_5 (Or.inl rfl)
            have hF_31 : Fr (fun j k => 21 ≤ j ∧ j < 27 ∧ 4 ≤ k ∧ k ≤ 9) S (setF S i_5 9 (0)) := Fr.sF (Fr.rf : Fr (fun j k => 21 ≤ j ∧ j < 27 ∧ 4 ≤ k ∧ k ≤ 9) S S) (by omega)
            refine lv_iload hx hb (fk_get fk_cX11_set_2 18 rfl) (lv_at hl 0 rfl) ?_
            subst hQ
            have hpost : XI (setF S i_5 9 (0)) ∧ Fr (fun j k => 21 ≤ j ∧ j < 27 ∧ 4 ≤ k ∧ k ≤ 9) S (setF S i_5 9 (0)) ∧ True := by
              exact ⟨hX_30, hF_31, trivial⟩
            exact W.iret (v := 0) hx hb hr (fun t_ ht_ hW_ => ⟨⟨0, (setF S i_5 9 (0)), rfl, hpost, by rw [ht_]; exact hP, va_K.moved hW_.alike hK, hD⟩, hS.F ht_⟩) hS.2.2 (fk_get fk_cX11_set_2 19 rfl)
          refine lv_iconst (v := 1) hx hb (fk_get fk_cX11_set_2 14 rfl) (by decide) ?_
          refine lv_goto (tgt := 179) hx hb (fk_get fk_cX11_set_2 15 rfl) (by decide) ?_
          refine va_put (D := G.1) (ci := 5) (v := .int (1)) (ty := .boolean) (C := RX3) (T := TX3) (N := 10) hx hb hT inX3 tyX3 tyX3_ok nmX3 hown hK hP hD hS i_5 (ix_at (lt71 (by omega)) (cX_cust hp_i_5)) rfl 9 (by decide) (hT _ m1_179) (fun _ h9 => h9) rfl (by decide +kernel) rfl rfl (Nat.le_of_ble_eq_true rfl) (fk_get fk_cX11_set_2 17 rfl) (fun H locs hP hD hS => ?_)
          rw [pX_cust_9 (S := S) (lt71 (by omega)) (hp_i_5) (1)] at hP hD
          have hX_32 : XI (setF S i_5 9 (1)) := XI.gone_ hX hp_i_5 (Or.inr rfl)
          have hF_33 : Fr (fun j k => 21 ≤ j ∧ j < 27 ∧ 4 ≤ k ∧ k ≤ 9) S (setF S i_5 9 (1)) := Fr.sF (Fr.rf : Fr (fun j k => 21 ≤ j ∧ j < 27 ∧ 4 ≤ k ∧ k ≤ 9) S S) (by omega)
          refine lv_iload hx hb (fk_get fk_cX11_set_2 18 rfl) (lv_at hl 0 rfl) ?_
          subst hQ
          have hpost : XI (setF S i_5 9 (1)) ∧ Fr (fun j k => 21 ≤ j ∧ j < 27 ∧ 4 ≤ k ∧ k ≤ 9) S (setF S i_5 9 (1)) ∧ True := by
            exact ⟨hX_32, hF_33, trivial⟩
          exact W.iret (v := 0) hx hb hr (fun t_ ht_ hW_ => ⟨⟨0, (setF S i_5 9 (1)), rfl, hpost, by rw [ht_]; exact hP, va_K.moved hW_.alike hK, hD⟩, hS.F ht_⟩) hS.2.2 (fk_get fk_cX11_set_2 19 rfl)
        refine lv_iconst (v := 1) hx hb (fk_get fk_cX11_set_2 6 rfl) (by decide) ?_
        refine lv_goto (tgt := 165) hx hb (fk_get fk_cX11_set_2 7 rfl) (by decide) ?_
        refine lv_istore (lv' := [(5, .int (1)), (4, .ref (ad i_5)), (0, .ref (ad 0)), (1, .int (x)), (2, .int (w_)), (3, .int (v_))]) hx hb (fk_get fk_cX11_set_2 9 rfl) hl (by decide) rfl (fun ls hl => ?_)
        refine lv_aload hx hb (fk_get fk_cX11_set_2 10 rfl) (lv_at hl 1 rfl) ?_
        refine lv_iload_n hx hb (fk_get fk_cX11_set_2 11 rfl) rfl (lv_at hl 5 rfl) ?_
        refine lv_iconst (v := 1) hx hb (fk_get fk_cX11_set_2 12 rfl) (by decide) ?_
        refine lv_icmp_ne (tgt := 178) hx hb (fk_get fk_cX11_set_2 13 rfl) (by decide) (fun c_34 => ?_) (fun c_34 => ?_)
        · refine lv_iconst (v := 0) hx hb (fk_get fk_cX11_set_2 16 rfl) (by decide) ?_
          refine va_put (D := G.1) (ci := 5) (v := .int (0)) (ty := .boolean) (C := RX3) (T := TX3) (N := 10) hx hb hT inX3 tyX3 tyX3_ok nmX3 hown hK hP hD hS i_5 (ix_at (lt71 (by omega)) (cX_cust hp_i_5)) rfl 9 (by decide) (hT _ m1_179) (fun _ h9 => h9) rfl (by decide +kernel) rfl rfl (Nat.le_of_ble_eq_true rfl) (fk_get fk_cX11_set_2 17 rfl) (fun H locs hP hD hS => ?_)
          rw [pX_cust_9 (S := S) (lt71 (by omega)) (hp_i_5) (0)] at hP hD
          have hX_35 : XI (setF S i_5 9 (0)) := XI.gone_ hX hp_i_5 (Or.inl rfl)
          have hF_36 : Fr (fun j k => 21 ≤ j ∧ j < 27 ∧ 4 ≤ k ∧ k ≤ 9) S (setF S i_5 9 (0)) := Fr.sF (Fr.rf : Fr (fun j k => 21 ≤ j ∧ j < 27 ∧ 4 ≤ k ∧ k ≤ 9) S S) (by omega)
          refine lv_iload hx hb (fk_get fk_cX11_set_2 18 rfl) (lv_at hl 0 rfl) ?_
          subst hQ
          have hpost : XI (setF S i_5 9 (0)) ∧ Fr (fun j k => 21 ≤ j ∧ j < 27 ∧ 4 ≤ k ∧ k ≤ 9) S (setF S i_5 9 (0)) ∧ True := by
            exact ⟨hX_35, hF_36, trivial⟩
          exact W.iret (v := 1) hx hb hr (fun t_ ht_ hW_ => ⟨⟨1, (setF S i_5 9 (0)), rfl, hpost, by rw [ht_]; exact hP, va_K.moved hW_.alike hK, hD⟩, hS.F ht_⟩) hS.2.2 (fk_get fk_cX11_set_2 19 rfl)
        refine lv_iconst (v := 1) hx hb (fk_get fk_cX11_set_2 14 rfl) (by decide) ?_
        refine lv_goto (tgt := 179) hx hb (fk_get fk_cX11_set_2 15 rfl) (by decide) ?_
        refine va_put (D := G.1) (ci := 5) (v := .int (1)) (ty := .boolean) (C := RX3) (T := TX3) (N := 10) hx hb hT inX3 tyX3 tyX3_ok nmX3 hown hK hP hD hS i_5 (ix_at (lt71 (by omega)) (cX_cust hp_i_5)) rfl 9 (by decide) (hT _ m1_179) (fun _ h9 => h9) rfl (by decide +kernel) rfl rfl (Nat.le_of_ble_eq_true rfl) (fk_get fk_cX11_set_2 17 rfl) (fun H locs hP hD hS => ?_)
        rw [pX_cust_9 (S := S) (lt71 (by omega)) (hp_i_5) (1)] at hP hD
        have hX_37 : XI (setF S i_5 9 (1)) := XI.gone_ hX hp_i_5 (Or.inr rfl)
        have hF_38 : Fr (fun j k => 21 ≤ j ∧ j < 27 ∧ 4 ≤ k ∧ k ≤ 9) S (setF S i_5 9 (1)) := Fr.sF (Fr.rf : Fr (fun j k => 21 ≤ j ∧ j < 27 ∧ 4 ≤ k ∧ k ≤ 9) S S) (by omega)
        refine lv_iload hx hb (fk_get fk_cX11_set_2 18 rfl) (lv_at hl 0 rfl) ?_
        subst hQ
        have hpost : XI (setF S i_5 9 (1)) ∧ Fr (fun j k => 21 ≤ j ∧ j < 27 ∧ 4 ≤ k ∧ k ≤ 9) S (setF S i_5 9 (1)) ∧ True := by
          exact ⟨hX_37, hF_38, trivial⟩
        exact W.iret (v := 1) hx hb hr (fun t_ ht_ hW_ => ⟨⟨1, (setF S i_5 9 (1)), rfl, hpost, by rw [ht_]; exact hP, va_K.moved hW_.alike hK, hD⟩, hS.F ht_⟩) hS.2.2 (fk_get fk_cX11_set_2 19 rfl)
      have p_c_27 := if1_t hw_26 c_27
      refine lv_bipush (v := (-2)) hx hb (fk_get fk_cX11_set_2 1 rfl) (by decide) ?_
      subst hQ
      have hpost : XI S ∧ Fr (fun j k => 21 ≤ j ∧ j < 27 ∧ 4 ≤ k ∧ k ≤ 9) S S ∧ True := by
        exact ⟨hX, (Fr.rf : Fr (fun j k => 21 ≤ j ∧ j < 27 ∧ 4 ≤ k ∧ k ≤ 9) S S), trivial⟩
      exact W.iret (v := (-2)) hx hb hr (fun t_ ht_ hW_ => ⟨⟨(-2), S, rfl, hpost, by rw [ht_]; exact hP, va_K.moved hW_.alike hK, hD⟩, hS.F ht_⟩) hS.2.2 (fk_get fk_cX11_set_2 2 rfl)
    have p_c_5 := if1_t hw_4 c_5
    refine lv_iconst (v := (-1)) hx hb (fk_get fk_cX11_set_0 12 rfl) (by decide) ?_
    subst hQ
    have hpost : XI S ∧ Fr (fun j k => 21 ≤ j ∧ j < 27 ∧ 4 ≤ k ∧ k ≤ 9) S S ∧ True := by
      exact ⟨hX, (Fr.rf : Fr (fun j k => 21 ≤ j ∧ j < 27 ∧ 4 ≤ k ∧ k ≤ 9) S S), trivial⟩
    exact W.iret (v := (-1)) hx hb hr (fun t_ ht_ hW_ => ⟨⟨(-1), S, rfl, hpost, by rw [ht_]; exact hP, va_K.moved hW_.alike hK, hD⟩, hS.F ht_⟩) hS.2.2 (fk_get fk_cX11_set_0 13 rfl)
  rw [show va_rf none = .null from rfl]
  refine lv_astoreN (lv' := [(4, .null), (0, .ref (ad 0)), (1, .int (x)), (2, .int (w_)), (3, .int (v_))]) hx hb (fk_get fk_cX11_set_0 4 rfl) hl (by decide) rfl (fun ls hl => ?_)
  refine lv_aloadN hx hb (fk_get fk_cX11_set_0 5 rfl) (lv_at hl 0 rfl) ?_
  refine lv_ifnullN (tgt := 24) hx hb (fk_get fk_cX11_set_0 6 rfl) (by decide) ?_
  refine lv_iconst (v := (-1)) hx hb (fk_get fk_cX11_set_0 12 rfl) (by decide) ?_
  subst hQ
  have hpost : XI S ∧ Fr (fun j k => 21 ≤ j ∧ j < 27 ∧ 4 ≤ k ∧ k ≤ 9) S S ∧ True := by
    exact ⟨hX, (Fr.rf : Fr (fun j k => 21 ≤ j ∧ j < 27 ∧ 4 ≤ k ∧ k ≤ 9) S S), trivial⟩
  exact W.iret (v := (-1)) hx hb hr (fun t_ ht_ hW_ => ⟨⟨(-1), S, rfl, hpost, by rw [ht_]; exact hP, va_K.moved hW_.alike hK, hD⟩, hS.F ht_⟩) hS.2.2 (fk_get fk_cX11_set_0 13 rfl)
set_option maxHeartbeats 800000 in
set_option maxRecDepth 100000 in
theorem c_x11_feed (l : Launch) (G : GG) (ad : Nat → Nat) (S : FS) (sz : Nat) (n t : Nat) (x : Int32) (hn : fF S (9 + 0) 3 = nI n) (hn6 : n ≤ 6) (ht : fF S 57 1 = nI t) (ht100 : t ≤ 100) (hX : XI S) : Met l yX11_feed (Cond.code yX11_feed cX11_feed 2 (some .int) :: TBL) ({ frames := 3, cells := 0, slots := 0, locals := 90 } : Room) (PcW G (wX G ad S) sz [.ref (ad 0), .int (x)]) (va_Qi (fun (r : Int32) (S' : FS) => XI S' ∧ Fr (fun j k => (j = 57 ∧ k = 1) ∨ (j = 58 ∧ k = 99)) S S' ∧ True) (fun S' t => BW G (va_A (wX G ad S) sz) (wX G ad S') t) (va_A (wX G ad S) sz)) 0 0 (va_A (wX G ad S) sz) := by
  refine Met.ofW (cc := cX11_feed) (maxL := 2) (ret := (some .int)) (by decide) rfl ?_
  intro p e s m args below meth c₀ s₁ B hml hv
  obtain ⟨rfl, hsz, hP, hK, hD0⟩ := hv
  have hx := B.exec
  have hb := B.bytes
  have hr := B.returns
  have hT : ∀ w ∈ TBL, w.before ([.ref (ad 0), .int (x)] : List Value).toArray s = true := fun w h => atoms_spec (ws := Cond.code yX11_feed cX11_feed 2 (some .int) :: TBL) B.pre w (List.mem_cons_of_mem _ h)
  have hown : s.vm.findClass "LittleMore" = some m.cls := findClass_of_methodNamed B.named
  have hlocks := B.notSynchronized
  subst hsz
  have hD := hD0.self (sz := s.heap.size)
  generalize hAe : va_A (wX G ad S) s.heap.size = A at hD ⊢
  have hA : ∀ q : Nat, s.heap.size ≤ q → A q := fun q h => by rw [← hAe]; exact Or.inr h
  have hS : va_S A s.heap s.heap [] := va_S.rf
  have hP : va_P G.1 vwCl (wX G ad S) s.heap := hP
  have hl := lv_entry ([.ref (ad 0), .int (x)]) (n := 2) (Nat.le_of_ble_eq_true rfl)
  rw [lg_entry_eq]
  generalize (lg_sl ([.ref (ad 0), .int (x)]) ++ List.replicate (2 - (lg_sl ([.ref (ad 0), .int (x)])).length) Slot.unset).toArray = ls at hl ⊢
  have hl : lv_has ls 2 [(0, .ref (ad 0)), (1, .int (x))] := hl
  refine W_abs (fun Q hQ => ?_)
  generalize ([.ref (ad 0), .int (x)] : List Value).toArray = args at hT hQ ⊢
  refine lv_iload_n hx hb (fk_get fk_cX11_feed_0 0 rfl) rfl (lv_at hl 1 rfl) ?_
  refine lv_iconst (v := 0) hx hb (fk_get fk_cX11_feed_0 1 rfl) (by decide) ?_
  refine lv_bipush (v := 127) hx hb (fk_get fk_cX11_feed_0 2 rfl) (by decide) ?_
  refine vp_callSi (W.runS (As := [.int (x), .int (0), .int (127)]) (rest := []) ⟨hx, hb, hml, hown, hT⟩ (c_xisOutside l (x) (0) (127) ) (tS 3 hT m2_108 m2_109 m1_1 m2_110 rfl rfl (by decide +kernel) ⟨Nat.le_of_ble_eq_true rfl, Nat.le_of_ble_eq_true rfl⟩) ⟨PcN_blind, PcN_of _ _ _⟩ rfl rfl hl.1 rfl (lv_room (Nat.le_of_ble_eq_true rfl)) (fk_get fk_cX11_feed_0 3 rfl) ⟨Nat.zero_le _, Nat.zero_le _⟩) (fun r_1 hw_2 => ?_)
  try dsimp only at hw_2
  refine lv_if_eq (tgt := 13) hx hb (fk_get fk_cX11_feed_0 4 rfl) (by decide) (fun c_3 => ?_) (fun c_3 => ?_)
  · have p_c_3 := if1_f hw_2 c_3
    refine lv_aload_n hx hb (fk_get fk_cX11_feed_0 7 rfl) rfl (lv_at hl 0 rfl) ?_
    refine va_get (D := G.1) (ci := 13) (v := .ref (ad 57)) (C := RX11) (T := TX11) (N := 11) hx hb hT inX11 hown hK hP 0 (ix_at (lt71 (by omega)) (cX_0 G ad S)) rfl 4 (by decide) (hT _ m2_73) (fun _ h9 => h9) rfl (fk_get fk_cX11_feed_0 8 rfl) ?_
    refine va_get (D := G.1) (ci := 11) (v := .int (fF S 57 1)) (C := RX9) (T := TX9) (N := 9) hx hb hT inX9 hown hK hP 57 (ix_at (lt71 (by omega)) (cX_text G ad S)) rfl 1 (by decide) (hT _ m2_4) (fun _ h9 => h9) rfl (fk_get fk_cX11_feed_0 9 rfl) ?_
    obtain ⟨n_4, en_4, bn_4⟩ := XI.tlen hX
    rw [en_4]
    refine lv_bipush (v := 100) hx hb (fk_get fk_cX11_feed_0 10 rfl) (by decide) ?_
    refine lv_icmp_lt (tgt := 28) hx hb (fk_get fk_cX11_feed_0 11 rfl) (by decide) (fun c_5 => ?_) (fun c_5 => ?_)
    · have q_c_5 : n_4 < 100 := ci_lt (a := n_4) (b := 100) (by omega) (by omega) c_5
      refine lv_aload_n hx hb (fk_get fk_cX11_feed_0 14 rfl) rfl (lv_at hl 0 rfl) ?_
      refine va_get (D := G.1) (ci := 13) (v := .ref (ad 57)) (C := RX11) (T := TX11) (N := 11) hx hb hT inX11 hown hK hP 0 (ix_at (lt71 (by omega)) (cX_0 G ad S)) rfl 4 (by decide) (hT _ m2_73) (fun _ h9 => h9) rfl (fk_get fk_cX11_feed_0 15 rfl) ?_
      refine va_get (D := G.1) (ci := 11) (v := .ref (ad 58)) (C := RX9) (T := TX9) (N := 9) hx hb hT inX9 hown hK hP 57 (ix_at (lt71 (by omega)) (cX_text G ad S)) rfl 0 (by decide) (hT _ m2_2) (fun _ h9 => h9) rfl (fk_get fk_cX11_feed_0 16 rfl) ?_
      refine lv_aload_n hx hb (fk_get fk_cX11_feed_0 17 rfl) rfl (lv_at hl 0 rfl) ?_
      refine va_get (D := G.1) (ci := 13) (v := .ref (ad 57)) (C := RX11) (T := TX11) (N := 11) hx hb hT inX11 hown hK hP 0 (ix_at (lt71 (by omega)) (cX_0 G ad S)) rfl 4 (by decide) (hT _ m2_73) (fun _ h9 => h9) rfl (fk_get fk_cX11_feed_0 18 rfl) ?_
      refine va_get (D := G.1) (ci := 11) (v := .int (fF S 57 1)) (C := RX9) (T := TX9) (N := 9) hx hb hT inX9 hown hK hP 57 (ix_at (lt71 (by omega)) (cX_text G ad S)) rfl 1 (by decide) (hT _ m2_4) (fun _ h9 => h9) rfl (fk_get fk_cX11_feed_0 19 rfl) ?_
      rw [en_4]
      refine lv_iload_n hx hb (fk_get fk_cX11_feed_0 20 rfl) rfl (lv_at hl 1 rfl) ?_
      refine lv_i2b hx hb (fk_get fk_cX11_feed_0 21 rfl) rfl ?_
      refine r_bast hx hb hK hP hD hS 58 2 (ix_at (lt71 (by omega)) (cX_arr (show isA 58 2 100 from by decide))) rfl (j := n_4) (rfl) (by omega) (by decide) (fk_get fk_cX11_feed_0 22 rfl) (fun H locs hP hD hS => ?_)
      rw [pX_arr (G := G) (ad := ad) (S := S) (lt71 (by omega)) (show isA 58 2 100 from by decide) (upd (fA S 58) n_4 (vp_nar .byte ((x).toInt8.toInt32)))] at hP hD
      have hX_6 : XI (setA S 58 (upd (fA S 58) n_4 (vp_nar .byte ((x).toInt8.toInt32)))) := XI.sA hX _ (by omega)
      have hF_7 : Fr (fun j k => (j = 57 ∧ k = 1) ∨ (j = 58 ∧ k = 99)) S (setA S 58 (upd (fA S 58) n_4 (vp_nar .byte ((x).toInt8.toInt32)))) := Fr.sA (Fr.rf : Fr (fun j k => (j = 57 ∧ k = 1) ∨ (j = 58 ∧ k = 99)) S S) (by omega)
      refine lv_aload_n hx hb (fk_get fk_cX11_feed_0 23 rfl) rfl (lv_at hl 0 rfl) ?_
      refine va_get (D := G.1) (ci := 13) (v := .ref (ad 57)) (C := RX11) (T := TX11) (N := 11) hx hb hT inX11 hown hK hP 0 (ix_at (lt71 (by omega)) (cX_0 G ad (setA S 58 (upd (fA S 58) n_4 (vp_nar .byte ((x).toInt8.toInt32)))))) rfl 4 (by decide) (hT _ m2_73) (fun _ h9 => h9) rfl (fk_get fk_cX11_feed_0 24 rfl) ?_
      refine lv_dup hx hb (fk_get fk_cX11_feed_0 25 rfl) rfl ?_
      refine va_get (D := G.1) (ci := 11) (v := .int (fF (setA S 58 (upd (fA S 58) n_4 (vp_nar .byte ((x).toInt8.toInt32)))) 57 1)) (C := RX9) (T := TX9) (N := 9) hx hb hT inX9 hown hK hP 57 (ix_at (lt71 (by omega)) (cX_text G ad (setA S 58 (upd (fA S 58) n_4 (vp_nar .byte ((x).toInt8.toInt32)))))) rfl 1 (by decide) (hT _ m2_4) (fun _ h9 => h9) rfl (fk_get fk_cX11_feed_0 26 rfl) ?_
      rw [show fF (setA S 58 (upd (fA S 58) n_4 (vp_nar .byte ((x).toInt8.toInt32)))) 57 1 = (fF S 57 1) from by simp [fF_setF, fF_setR, fF_setA, fF_setL]]
      rw [en_4]
      refine lv_iconst (v := 1) hx hb (fk_get fk_cX11_feed_0 27 rfl) (by decide) ?_
      refine lv_iadd hx hb (fk_get fk_cX11_feed_0 28 rfl) ?_
      rw [show ((nI n_4) + 1) = (nI (n_4 + 1)) from (nI_1 n_4)]
      refine va_put (D := G.1) (ci := 11) (v := .int ((nI (n_4 + 1)))) (ty := .int) (C := RX9) (T := TX9) (N := 9) hx hb hT inX9 tyX9 tyX9_ok nmX9 hown hK hP hD hS 57 (ix_at (lt71 (by omega)) (cX_text G ad (setA S 58 (upd (fA S 58) n_4 (vp_nar .byte ((x).toInt8.toInt32)))))) rfl 1 (by decide) (hT _ m2_4) (fun _ h9 => h9) rfl (by decide +kernel) rfl rfl (Nat.le_of_ble_eq_true rfl) (fk_get fk_cX11_feed_0 29 rfl) (fun H locs hP hD hS => ?_)
      rw [pX_text_1 (S := (setA S 58 (upd (fA S 58) n_4 (vp_nar .byte ((x).toInt8.toInt32))))) ((nI (n_4 + 1)))] at hP hD
      have hX_8 : XI (setF (setA S 58 (upd (fA S 58) n_4 (vp_nar .byte ((x).toInt8.toInt32)))) 57 1 ((nI (n_4 + 1)))) := XI.tl (n := (n_4 + 1)) hX_6 (by omega)
      have hF_9 : Fr (fun j k => (j = 57 ∧ k = 1) ∨ (j = 58 ∧ k = 99)) S (setF (setA S 58 (upd (fA S 58) n_4 (vp_nar .byte ((x).toInt8.toInt32)))) 57 1 ((nI (n_4 + 1)))) := Fr.sF hF_7 (by omega)
      refine lv_aload_n hx hb (fk_get fk_cX11_feed_0 30 rfl) rfl (lv_at hl 0 rfl) ?_
      refine va_get (D := G.1) (ci := 13) (v := .ref (ad 57)) (C := RX11) (T := TX11) (N := 11) hx hb hT inX11 hown hK hP 0 (ix_at (lt71 (by omega)) (cX_0 G ad (setF (setA S 58 (upd (fA S 58) n_4 (vp_nar .byte ((x).toInt8.toInt32)))) 57 1 ((nI (n_4 + 1)))))) rfl 4 (by decide) (hT _ m2_73) (fun _ h9 => h9) rfl (fk_get fk_cX11_feed_0 31 rfl) ?_
      refine va_get (D := G.1) (ci := 11) (v := .int (fF (setF (setA S 58 (upd (fA S 58) n_4 (vp_nar .byte ((x).toInt8.toInt32)))) 57 1 ((nI (n_4 + 1)))) 57 1)) (C := RX9) (T := TX9) (N := 9) hx hb hT inX9 hown hK hP 57 (ix_at (lt71 (by omega)) (cX_text G ad (setF (setA S 58 (upd (fA S 58) n_4 (vp_nar .byte ((x).toInt8.toInt32)))) 57 1 ((nI (n_4 + 1)))))) rfl 1 (by decide) (hT _ m2_4) (fun _ h9 => h9) rfl (fk_get fk_cX11_feed_1 0 rfl) ?_
      rw [show fF (setF (setA S 58 (upd (fA S 58) n_4 (vp_nar .byte ((x).toInt8.toInt32)))) 57 1 ((nI (n_4 + 1)))) 57 1 = (nI (n_4 + 1)) from by simp [fF_setF, fF_setR, fF_setA, fF_setL]]
      subst hQ
      have hpost : XI (setF (setA S 58 (upd (fA S 58) n_4 (vp_nar .byte ((x).toInt8.toInt32)))) 57 1 ((nI (n_4 + 1)))) ∧ Fr (fun j k => (j = 57 ∧ k = 1) ∨ (j = 58 ∧ k = 99)) S (setF (setA S 58 (upd (fA S 58) n_4 (vp_nar .byte ((x).toInt8.toInt32)))) 57 1 ((nI (n_4 + 1)))) ∧ True := by
        exact ⟨hX_8, hF_9, trivial⟩
      exact W.iret (v := (nI (n_4 + 1))) hx hb hr (fun t_ ht_ hW_ => ⟨⟨(nI (n_4 + 1)), (setF (setA S 58 (upd (fA S 58) n_4 (vp_nar .byte ((x).toInt8.toInt32)))) 57 1 ((nI (n_4 + 1)))), rfl, hpost, by rw [ht_]; exact hP, va_K.moved hW_.alike hK, hD⟩, hS.F ht_⟩) hS.2.2 (fk_get fk_cX11_feed_1 1 rfl)
    have q_c_5 : 100 ≤ n_4 := ci_nlt (a := n_4) (b := 100) (by omega) (by omega) c_5
    refine lv_bipush (v := (-4)) hx hb (fk_get fk_cX11_feed_0 12 rfl) (by decide) ?_
    subst hQ
    have hpost : XI S ∧ Fr (fun j k => (j = 57 ∧ k = 1) ∨ (j = 58 ∧ k = 99)) S S ∧ True := by
      exact ⟨hX, (Fr.rf : Fr (fun j k => (j = 57 ∧ k = 1) ∨ (j = 58 ∧ k = 99)) S S), trivial⟩
    exact W.iret (v := (-4)) hx hb hr (fun t_ ht_ hW_ => ⟨⟨(-4), S, rfl, hpost, by rw [ht_]; exact hP, va_K.moved hW_.alike hK, hD⟩, hS.F ht_⟩) hS.2.2 (fk_get fk_cX11_feed_0 13 rfl)
  have p_c_3 := if1_t hw_2 c_3
  refine lv_bipush (v := (-2)) hx hb (fk_get fk_cX11_feed_0 5 rfl) (by decide) ?_
  subst hQ
  have hpost : XI S ∧ Fr (fun j k => (j = 57 ∧ k = 1) ∨ (j = 58 ∧ k = 99)) S S ∧ True := by
    exact ⟨hX, (Fr.rf : Fr (fun j k => (j = 57 ∧ k = 1) ∨ (j = 58 ∧ k = 99)) S S), trivial⟩
  exact W.iret (v := (-2)) hx hb hr (fun t_ ht_ hW_ => ⟨⟨(-2), S, rfl, hpost, by rw [ht_]; exact hP, va_K.moved hW_.alike hK, hD⟩, hS.F ht_⟩) hS.2.2 (fk_get fk_cX11_feed_0 6 rfl)
set_option maxHeartbeats 800000 in
set_option maxRecDepth 100000 in
theorem c_x11_told (l : Launch) (G : GG) (ad : Nat → Nat) (S : FS) (sz : Nat) (n : Nat) (x : Int32) (hn : fF S (9 + 0) 3 = nI n) (hn6 : n ≤ 6) (hX : XI S) : Met l yX11_told (Cond.code yX11_told cX11_told 2 (some .int) :: TBL) ({ frames := 3, cells := 0, slots := 0, locals := 90 } : Room) (PcW G (wX G ad S) sz [.ref (ad 0), .int (x)]) (vp_Si (fun (r : Int32) => True)) 0 0 (fun _ => False) := by
  refine Met.ofW (cc := cX11_told) (maxL := 2) (ret := (some .int)) (by decide) rfl ?_
  intro p e s m args below meth c₀ s₁ B hml hv
  obtain ⟨rfl, hsz, hP, hK, hD0⟩ := hv
  have hx := B.exec
  have hb := B.bytes
  have hr := B.returns
  have hT : ∀ w ∈ TBL, w.before ([.ref (ad 0), .int (x)] : List Value).toArray s = true := fun w h => atoms_spec (ws := Cond.code yX11_told cX11_told 2 (some .int) :: TBL) B.pre w (List.mem_cons_of_mem _ h)
  have hown : s.vm.findClass "LittleMore" = some m.cls := findClass_of_methodNamed B.named
  have hlocks := B.notSynchronized
  have hD := hD0
  have hP : va_P G.1 vwCl (wX G ad S) s.heap := hP
  have hl := lv_entry ([.ref (ad 0), .int (x)]) (n := 2) (Nat.le_of_ble_eq_true rfl)
  rw [lg_entry_eq]
  generalize (lg_sl ([.ref (ad 0), .int (x)]) ++ List.replicate (2 - (lg_sl ([.ref (ad 0), .int (x)])).length) Slot.unset).toArray = ls at hl ⊢
  have hl : lv_has ls 2 [(0, .ref (ad 0)), (1, .int (x))] := hl
  refine W_abs (fun Q hQ => ?_)
  generalize ([.ref (ad 0), .int (x)] : List Value).toArray = args at hT hQ ⊢
  refine lv_iload_n hx hb (fk_get fk_cX11_told_0 0 rfl) rfl (lv_at hl 1 rfl) ?_
  by_cases c_1 : x = (0 : Int32)
  · refine lv_tableIn (off := 31) (tgt := 32) hx hb (dk_get dk_cX11_told_0 0 rfl) (by rw [c_1]; decide) (by rw [c_1]; decide) (by rw [c_1]; rfl) (by decide) ?_
    refine lv_aload_n hx hb (fk_get fk_cX11_told_0 1 rfl) rfl (lv_at hl 0 rfl) ?_
    refine va_get (D := G.1) (ci := 13) (v := .ref (ad (9 + 0))) (C := RX11) (T := TX11) (N := 11) hx hb hT inX11 hown hK hP 0 (ix_at (lt71 (by omega)) (cX_0 G ad S)) rfl 1 (by decide) (hT _ m2_70) (fun _ h9 => h9) rfl (fk_get fk_cX11_told_0 2 rfl) ?_
    refine va_get (D := G.1) (ci := 9) (v := .int (fF S (9 + 0) 6)) (C := RX7) (T := TX7) (N := 8) hx hb hT inX7 hown hK hP (9 + 0) (ix_at (lt71 (by omega)) (cX_shop (pk_shop (by decide : 0 < 3)))) rfl 6 (by decide) (hT _ m1_215) (fun _ h9 => h9) rfl (fk_get fk_cX11_told_0 3 rfl) ?_
    subst hQ
    have hpost : True := by
      trivial
    exact W.iret (v := (fF S (9 + 0) 6)) hx hb hr (fun t_ ht_ hW_ => ⟨(fF S (9 + 0) 6), rfl, hpost, ht_⟩) (fun q h => by cases h) (fk_get fk_cX11_told_0 4 rfl)
  by_cases c_2 : x = (1 : Int32)
  · refine lv_tableIn (off := 39) (tgt := 40) hx hb (dk_get dk_cX11_told_0 0 rfl) (by rw [c_2]; decide) (by rw [c_2]; decide) (by rw [c_2]; rfl) (by decide) ?_
    refine lv_aload_n hx hb (fk_get fk_cX11_told_0 5 rfl) rfl (lv_at hl 0 rfl) ?_
    refine va_get (D := G.1) (ci := 13) (v := .ref (ad (9 + 0))) (C := RX11) (T := TX11) (N := 11) hx hb hT inX11 hown hK hP 0 (ix_at (lt71 (by omega)) (cX_0 G ad S)) rfl 1 (by decide) (hT _ m2_70) (fun _ h9 => h9) rfl (fk_get fk_cX11_told_0 6 rfl) ?_
    obtain ⟨n_3, en_3, bn_3⟩ := XI.ctr hX (by decide : 0 < 3)
    refine va_get (D := G.1) (ci := 9) (v := va_rf ((fR S (9 + 0) 7).map ad)) (C := RX7) (T := TX7) (N := 8) hx hb hT inX7 hown hK hP (9 + 0) (ix_at (lt71 (by omega)) (cX_shop (pk_shop (by decide : 0 < 3)))) rfl 7 (by decide) (hT _ m1_217) (fun _ h9 => h9) rfl (fk_get fk_cX11_told_0 7 rfl) ?_
    rw [show va_rf ((fR S (9 + 0) 7).map ad) = .ref (ad n_3) from by rw [en_3]; rfl]
    refine va_get (D := G.1) (ci := 3) (v := .int (fF S n_3 0)) (C := RX1) (T := TX1) (N := 4) hx hb hT inX1 hown hK hP n_3 (ix_at (bn_3).2.1 (cX_ctr (bn_3).1 (bn_3).2.2.1)) rfl 0 (by decide) (hT _ m1_114) (fun _ h9 => h9) rfl (fk_get fk_cX11_told_0 8 rfl) ?_
    subst hQ
    have hpost : True := by
      trivial
    exact W.iret (v := (fF S n_3 0)) hx hb hr (fun t_ ht_ hW_ => ⟨(fF S n_3 0), rfl, hpost, ht_⟩) (fun q h => by cases h) (fk_get fk_cX11_told_0 9 rfl)
  by_cases c_4 : x = (2 : Int32)
  · refine lv_tableIn (off := 50) (tgt := 51) hx hb (dk_get dk_cX11_told_0 0 rfl) (by rw [c_4]; decide) (by rw [c_4]; decide) (by rw [c_4]; rfl) (by decide) ?_
    refine lv_aload_n hx hb (fk_get fk_cX11_told_0 10 rfl) rfl (lv_at hl 0 rfl) ?_
    refine va_get (D := G.1) (ci := 13) (v := .ref (ad (9 + 0))) (C := RX11) (T := TX11) (N := 11) hx hb hT inX11 hown hK hP 0 (ix_at (lt71 (by omega)) (cX_0 G ad S)) rfl 1 (by decide) (hT _ m2_70) (fun _ h9 => h9) rfl (fk_get fk_cX11_told_0 11 rfl) ?_
    obtain ⟨n_5, en_5, bn_5⟩ := XI.ctr hX (by decide : 0 < 3)
    refine va_get (D := G.1) (ci := 9) (v := va_rf ((fR S (9 + 0) 7).map ad)) (C := RX7) (T := TX7) (N := 8) hx hb hT inX7 hown hK hP (9 + 0) (ix_at (lt71 (by omega)) (cX_shop (pk_shop (by decide : 0 < 3)))) rfl 7 (by decide) (hT _ m1_217) (fun _ h9 => h9) rfl (fk_get fk_cX11_told_0 12 rfl) ?_
    rw [show va_rf ((fR S (9 + 0) 7).map ad) = .ref (ad n_5) from by rw [en_5]; rfl]
    refine va_get (D := G.1) (ci := 3) (v := .int (fF S n_5 1)) (C := RX1) (T := TX1) (N := 4) hx hb hT inX1 hown hK hP n_5 (ix_at (bn_5).2.1 (cX_ctr (bn_5).1 (bn_5).2.2.1)) rfl 1 (by decide) (hT _ m1_117) (fun _ h9 => h9) rfl (fk_get fk_cX11_told_0 13 rfl) ?_
    subst hQ
    have hpost : True := by
      trivial
    exact W.iret (v := (fF S n_5 1)) hx hb hr (fun t_ ht_ hW_ => ⟨(fF S n_5 1), rfl, hpost, ht_⟩) (fun q h => by cases h) (fk_get fk_cX11_told_0 14 rfl)
  by_cases c_6 : x = (3 : Int32)
  · refine lv_tableIn (off := 61) (tgt := 62) hx hb (dk_get dk_cX11_told_0 0 rfl) (by rw [c_6]; decide) (by rw [c_6]; decide) (by rw [c_6]; rfl) (by decide) ?_
    refine lv_aload_n hx hb (fk_get fk_cX11_told_0 15 rfl) rfl (lv_at hl 0 rfl) ?_
    refine va_get (D := G.1) (ci := 13) (v := .ref (ad (9 + 0))) (C := RX11) (T := TX11) (N := 11) hx hb hT inX11 hown hK hP 0 (ix_at (lt71 (by omega)) (cX_0 G ad S)) rfl 1 (by decide) (hT _ m2_70) (fun _ h9 => h9) rfl (fk_get fk_cX11_told_0 16 rfl) ?_
    refine vp_callSi (W.runV (As := []) (rest := []) ⟨hx, hb, hml, hown, hT⟩ (c_x7_goneBits l G ad S s.heap.size (0) ((by decide : 0 < 3)) (hX)) (tV 0 hT m3_161 m3_162 m3_163 m1_9 m3_164 rfl rfl (by decide +kernel) ⟨Nat.le_of_ble_eq_true rfl, Nat.le_of_ble_eq_true rfl⟩) ⟨PcW_blind, va_recv hK hP (ci := 9) (q0 := (9 + 0)) rfl (ix_at (lt71 (by omega)) (cX_shop (pk_shop (by decide : 0 < 3)))), PcW_of hP hK hD _⟩ rfl rfl hl.1 rfl (lv_room (Nat.le_of_ble_eq_true rfl)) (fk_get fk_cX11_told_0 17 rfl) ⟨Nat.zero_le _, Nat.zero_le _⟩) (fun r_7 hw_8 => ?_)
    try dsimp only at hw_8
    subst hQ
    have hpost : True := by
      trivial
    exact W.iret (v := r_7) hx hb hr (fun t_ ht_ hW_ => ⟨r_7, rfl, hpost, ht_⟩) (fun q h => by cases h) (fk_get fk_cX11_told_0 18 rfl)
  have o_9 : (x).toInt < 0 ∨ 3 < (x).toInt := by
    have qc_1 : ¬ (x).toInt = 0 := lv_neT c_1 (by decide)
    have qc_2 : ¬ (x).toInt = 1 := lv_neT c_2 (by decide)
    have qc_4 : ¬ (x).toInt = 2 := lv_neT c_4 (by decide)
    have qc_6 : ¬ (x).toInt = 3 := lv_neT c_6 (by decide)
    omega
  refine lv_tableOut (tgt := 70) hx hb (dk_get dk_cX11_told_0 0 rfl) o_9 (by decide) ?_
  refine lv_iconst (v := (-1)) hx hb (fk_get fk_cX11_told_0 19 rfl) (by decide) ?_
  subst hQ
  have hpost : True := by
    trivial
  exact W.iret (v := (-1)) hx hb hr (fun t_ ht_ hW_ => ⟨(-1), rfl, hpost, ht_⟩) (fun q h => by cases h) (fk_get fk_cX11_told_0 20 rfl)
set_option maxHeartbeats 800000 in
set_option maxRecDepth 100000 in
theorem c_x11_of (l : Launch) (G : GG) (ad : Nat → Nat) (S : FS) (sz : Nat) (n : Nat) (x : Int32) (w_ : Int32) (hn : fF S (9 + 0) 3 = nI n) (hn6 : n ≤ 6) (hX : XI S) : Met l yX11_of (Cond.code yX11_of cX11_of 4 (some .int) :: TBL) ({ frames := 6, cells := 0, slots := 0, locals := 171 } : Room) (PcW G (wX G ad S) sz [.ref (ad 0), .int (x), .int (w_)]) (vp_Si (fun (r : Int32) => True)) 0 0 (fun _ => False) := by
  refine Met.ofW (cc := cX11_of) (maxL := 4) (ret := (some .int)) (by decide) rfl ?_
  intro p e s m args below meth c₀ s₁ B hml hv
  obtain ⟨rfl, hsz, hP, hK, hD0⟩ := hv
  have hx := B.exec
  have hb := B.bytes
  have hr := B.returns
  have hT : ∀ w ∈ TBL, w.before ([.ref (ad 0), .int (x), .int (w_)] : List Value).toArray s = true := fun w h => atoms_spec (ws := Cond.code yX11_of cX11_of 4 (some .int) :: TBL) B.pre w (List.mem_cons_of_mem _ h)
  have hown : s.vm.findClass "LittleMore" = some m.cls := findClass_of_methodNamed B.named
  have hlocks := B.notSynchronized
  have hD := hD0
  have hP : va_P G.1 vwCl (wX G ad S) s.heap := hP
  have hl := lv_entry ([.ref (ad 0), .int (x), .int (w_)]) (n := 4) (Nat.le_of_ble_eq_true rfl)
  rw [lg_entry_eq]
  generalize (lg_sl ([.ref (ad 0), .int (x), .int (w_)]) ++ List.replicate (4 - (lg_sl ([.ref (ad 0), .int (x), .int (w_)])).length) Slot.unset).toArray = ls at hl ⊢
  have hl : lv_has ls 4 [(0, .ref (ad 0)), (1, .int (x)), (2, .int (w_))] := hl
  refine W_abs (fun Q hQ => ?_)
  generalize ([.ref (ad 0), .int (x), .int (w_)] : List Value).toArray = args at hT hQ ⊢
  refine lv_aload_n hx hb (fk_get fk_cX11_of_0 0 rfl) rfl (lv_at hl 0 rfl) ?_
  refine va_get (D := G.1) (ci := 13) (v := .ref (ad (9 + 0))) (C := RX11) (T := TX11) (N := 11) hx hb hT inX11 hown hK hP 0 (ix_at (lt71 (by omega)) (cX_0 G ad S)) rfl 1 (by decide) (hT _ m2_70) (fun _ h9 => h9) rfl (fk_get fk_cX11_of_0 1 rfl) ?_
  refine lv_iload_n hx hb (fk_get fk_cX11_of_0 2 rfl) rfl (lv_at hl 1 rfl) ?_
  refine va_csq (W.runV (As := [.int (x)]) (rest := []) ⟨hx, hb, hml, hown, hT⟩ (c_x7_at l G ad S s.heap.size (0) (n) (x) ((by decide : 0 < 3)) (hn) (hn6) (hX)) (tV 1 hT m2_120 m2_121 m2_122 m1_9 m2_123 rfl rfl (by decide +kernel) ⟨Nat.le_of_ble_eq_true rfl, Nat.le_of_ble_eq_true rfl⟩) ⟨PcW_blind, va_recv hK hP (ci := 9) (q0 := (9 + 0)) rfl (ix_at (lt71 (by omega)) (cX_shop (pk_shop (by decide : 0 < 3)))), PcW_of hP hK hD _⟩ rfl rfl hl.1 rfl (lv_room (Nat.le_of_ble_eq_true rfl)) (fk_get fk_cX11_of_0 3 rfl) ⟨Nat.zero_le _, Nat.zero_le _⟩) (fun r_1 hw_2 => ?_)
  try dsimp only at hw_2
  rcases hw_2 with ⟨j_5, hj_5, ej_5, rfl⟩ | ⟨rfl, hn_5⟩
  · rw [show va_rf (some (ad (21 + 6 * 0 + j_5))) = .ref (ad (21 + 6 * 0 + j_5)) from rfl]
    generalize hg_i_5 : 21 + 6 * 0 + j_5 = i_5
    have hp_i_5 : pk i_5 = 7 := by rw [← hg_i_5]; exact pk_c (by decide : 0 < 3) (show j_5 < 6 by omega)
    have hb_i_5 := pk7 hp_i_5
    refine lv_astore_n (lv' := [(3, .ref (ad i_5)), (0, .ref (ad 0)), (1, .int (x)), (2, .int (w_))]) hx hb (fk_get fk_cX11_of_0 4 rfl) rfl hl (by decide) rfl (fun ls hl => ?_)
    refine lv_aload_n hx hb (fk_get fk_cX11_of_0 5 rfl) rfl (lv_at hl 0 rfl) ?_
    refine lv_ifnonnull (tgt := 15) hx hb (fk_get fk_cX11_of_0 6 rfl) (by decide) ?_
    refine lv_iload_n hx hb (fk_get fk_cX11_of_0 9 rfl) rfl (lv_at hl 3 rfl) ?_
    by_cases c_3 : w_ = (0 : Int32)
    · refine lv_tableIn (off := 64) (tgt := 80) hx hb (dk_get dk_cX11_of_0 0 rfl) (by rw [c_3]; decide) (by rw [c_3]; decide) (by rw [c_3]; rfl) (by decide) ?_
      refine lv_aload_n hx hb (fk_get fk_cX11_of_0 10 rfl) rfl (lv_at hl 0 rfl) ?_
      obtain ⟨n_4, en_4, bn_4⟩ := XI.kin hX hp_i_5
      refine va_get (D := G.1) (ci := 5) (v := va_rf ((fR S i_5 2).map ad)) (C := RX3) (T := TX3) (N := 10) hx hb hT inX3 hown hK hP i_5 (ix_at (lt71 (by omega)) (cX_cust hp_i_5)) rfl 2 (by decide) (hT _ m1_144) (fun _ h9 => h9) rfl (fk_get fk_cX11_of_0 11 rfl) ?_
      rw [show va_rf ((fR S i_5 2).map ad) = .ref (ad (2 + n_4)) from by rw [en_4]; rfl]
      have kk_84 : W p l e ({ frames := 6, cells := 0, slots := 0, locals := 171 } : Room) s m args below meth c₀ s.heap [] 0 0 Q (F0 m 87 ls [.int (fF S (2 + n_4) 0)]) := by
        rw [XI.knum hX bn_4]
        subst hQ
        have hpost : True := by
          trivial
        exact W.iret (v := (nI n_4)) hx hb hr (fun t_ ht_ hW_ => ⟨(nI n_4), rfl, hpost, ht_⟩) (fun q h => by cases h) (fk_get fk_cX11_of_0 13 rfl)
      rcases kq7 bn_4 with rfl | rfl | rfl | rfl | rfl | rfl | rfl
      · exact va_get (D := G.1) (ci := 7) (v := .int (fF S (2 + 0) 0)) (C := RX5) (T := TX5) (N := 1) hx hb hT inX5 hown hK hP (2 + 0) (ix_at (lt71 (by omega)) (cX_knd (by omega))) rfl 0 (by decide) (hT _ m1_46) (fun _ h9 => h9) rfl (fk_get fk_cX11_of_0 12 rfl) kk_84
      · exact va_get (D := G.1) (ci := 10) (v := .int (fF S (2 + 1) 0)) (C := RX8) (T := TX8) (N := 1) hx hb hT inX8 hown hK hP (2 + 1) (ix_at (lt71 (by omega)) (cX_knd (by omega))) rfl 0 (by decide) (hT _ m1_46) (fun _ h9 => h9) rfl (fk_get fk_cX11_of_0 12 rfl) kk_84
      · exact va_get (D := G.1) (ci := 6) (v := .int (fF S (2 + 2) 0)) (C := RX4) (T := TX4) (N := 1) hx hb hT inX4 hown hK hP (2 + 2) (ix_at (lt71 (by omega)) (cX_knd (by omega))) rfl 0 (by decide) (hT _ m1_46) (fun _ h9 => h9) rfl (fk_get fk_cX11_of_0 12 rfl) kk_84
      · exact va_get (D := G.1) (ci := 2) (v := .int (fF S (2 + 3) 0)) (C := RX0) (T := TX0) (N := 1) hx hb hT inX0 hown hK hP (2 + 3) (ix_at (lt71 (by omega)) (cX_knd (by omega))) rfl 0 (by decide) (hT _ m1_46) (fun _ h9 => h9) rfl (fk_get fk_cX11_of_0 12 rfl) kk_84
      · exact va_get (D := G.1) (ci := 4) (v := .int (fF S (2 + 4) 0)) (C := RX2) (T := TX2) (N := 1) hx hb hT inX2 hown hK hP (2 + 4) (ix_at (lt71 (by omega)) (cX_knd (by omega))) rfl 0 (by decide) (hT _ m1_46) (fun _ h9 => h9) rfl (fk_get fk_cX11_of_0 12 rfl) kk_84
      · exact va_get (D := G.1) (ci := 8) (v := .int (fF S (2 + 5) 0)) (C := RX6) (T := TX6) (N := 1) hx hb hT inX6 hown hK hP (2 + 5) (ix_at (lt71 (by omega)) (cX_knd (by omega))) rfl 0 (by decide) (hT _ m1_46) (fun _ h9 => h9) rfl (fk_get fk_cX11_of_0 12 rfl) kk_84
      · exact va_get (D := G.1) (ci := 12) (v := .int (fF S (2 + 6) 0)) (C := RX10) (T := TX10) (N := 1) hx hb hT inX10 hown hK hP (2 + 6) (ix_at (lt71 (by omega)) (cX_knd (by omega))) rfl 0 (by decide) (hT _ m1_46) (fun _ h9 => h9) rfl (fk_get fk_cX11_of_0 12 rfl) kk_84
    by_cases c_5 : w_ = (1 : Int32)
    · refine lv_tableIn (off := 72) (tgt := 88) hx hb (dk_get dk_cX11_of_0 0 rfl) (by rw [c_5]; decide) (by rw [c_5]; decide) (by rw [c_5]; rfl) (by decide) ?_
      refine lv_aload_n hx hb (fk_get fk_cX11_of_0 14 rfl) rfl (lv_at hl 0 rfl) ?_
      refine va_get (D := G.1) (ci := 5) (v := .int (fF S i_5 3)) (C := RX3) (T := TX3) (N := 10) hx hb hT inX3 hown hK hP i_5 (ix_at (lt71 (by omega)) (cX_cust hp_i_5)) rfl 3 (by decide) (hT _ m1_151) (fun _ h9 => h9) rfl (fk_get fk_cX11_of_0 15 rfl) ?_
      subst hQ
      have hpost : True := by
        trivial
      exact W.iret (v := (fF S i_5 3)) hx hb hr (fun t_ ht_ hW_ => ⟨(fF S i_5 3), rfl, hpost, ht_⟩) (fun q h => by cases h) (fk_get fk_cX11_of_0 16 rfl)
    by_cases c_6 : w_ = (2 : Int32)
    · refine lv_tableIn (off := 77) (tgt := 93) hx hb (dk_get dk_cX11_of_0 0 rfl) (by rw [c_6]; decide) (by rw [c_6]; decide) (by rw [c_6]; rfl) (by decide) ?_
      refine lv_aload_n hx hb (fk_get fk_cX11_of_0 17 rfl) rfl (lv_at hl 0 rfl) ?_
      refine va_get (D := G.1) (ci := 5) (v := .int (fF S i_5 4)) (C := RX3) (T := TX3) (N := 10) hx hb hT inX3 hown hK hP i_5 (ix_at (lt71 (by omega)) (cX_cust hp_i_5)) rfl 4 (by decide) (hT _ m1_157) (fun _ h9 => h9) rfl (fk_get fk_cX11_of_0 18 rfl) ?_
      subst hQ
      have hpost : True := by
        trivial
      exact W.iret (v := (fF S i_5 4)) hx hb hr (fun t_ ht_ hW_ => ⟨(fF S i_5 4), rfl, hpost, ht_⟩) (fun q h => by cases h) (fk_get fk_cX11_of_0 19 rfl)
    by_cases c_7 : w_ = (3 : Int32)
    · refine lv_tableIn (off := 82) (tgt := 98) hx hb (dk_get dk_cX11_of_0 0 rfl) (by rw [c_7]; decide) (by rw [c_7]; decide) (by rw [c_7]; rfl) (by decide) ?_
      refine lv_aload_n hx hb (fk_get fk_cX11_of_0 20 rfl) rfl (lv_at hl 0 rfl) ?_
      refine va_get (D := G.1) (ci := 5) (v := .int (fF S i_5 5)) (C := RX3) (T := TX3) (N := 10) hx hb hT inX3 hown hK hP i_5 (ix_at (lt71 (by omega)) (cX_cust hp_i_5)) rfl 5 (by decide) (hT _ m1_160) (fun _ h9 => h9) rfl (fk_get fk_cX11_of_0 21 rfl) ?_
      subst hQ
      have hpost : True := by
        trivial
      exact W.iret (v := (fF S i_5 5)) hx hb hr (fun t_ ht_ hW_ => ⟨(fF S i_5 5), rfl, hpost, ht_⟩) (fun q h => by cases h) (fk_get fk_cX11_of_0 22 rfl)
    by_cases c_8 : w_ = (4 : Int32)
    · refine lv_tableIn (off := 87) (tgt := 103) hx hb (dk_get dk_cX11_of_0 0 rfl) (by rw [c_8]; decide) (by rw [c_8]; decide) (by rw [c_8]; rfl) (by decide) ?_
      refine lv_aload_n hx hb (fk_get fk_cX11_of_0 23 rfl) rfl (lv_at hl 0 rfl) ?_
      refine va_get (D := G.1) (ci := 5) (v := .int (fF S i_5 6)) (C := RX3) (T := TX3) (N := 10) hx hb hT inX3 hown hK hP i_5 (ix_at (lt71 (by omega)) (cX_cust hp_i_5)) rfl 6 (by decide) (hT _ m1_166) (fun _ h9 => h9) rfl (fk_get fk_cX11_of_0 24 rfl) ?_
      subst hQ
      have hpost : True := by
        trivial
      exact W.iret (v := (fF S i_5 6)) hx hb hr (fun t_ ht_ hW_ => ⟨(fF S i_5 6), rfl, hpost, ht_⟩) (fun q h => by cases h) (fk_get fk_cX11_of_0 25 rfl)
    by_cases c_9 : w_ = (5 : Int32)
    · refine lv_tableIn (off := 92) (tgt := 108) hx hb (dk_get dk_cX11_of_0 0 rfl) (by rw [c_9]; decide) (by rw [c_9]; decide) (by rw [c_9]; rfl) (by decide) ?_
      refine lv_aload_n hx hb (fk_get fk_cX11_of_0 26 rfl) rfl (lv_at hl 0 rfl) ?_
      refine va_get (D := G.1) (ci := 5) (v := .int (fF S i_5 7)) (C := RX3) (T := TX3) (N := 10) hx hb hT inX3 hown hK hP i_5 (ix_at (lt71 (by omega)) (cX_cust hp_i_5)) rfl 7 (by decide) (hT _ m1_171) (fun _ h9 => h9) rfl (fk_get fk_cX11_of_0 27 rfl) ?_
      subst hQ
      have hpost : True := by
        trivial
      exact W.iret (v := (fF S i_5 7)) hx hb hr (fun t_ ht_ hW_ => ⟨(fF S i_5 7), rfl, hpost, ht_⟩) (fun q h => by cases h) (fk_get fk_cX11_of_0 28 rfl)
    by_cases c_10 : w_ = (6 : Int32)
    · refine lv_tableIn (off := 97) (tgt := 113) hx hb (dk_get dk_cX11_of_0 0 rfl) (by rw [c_10]; decide) (by rw [c_10]; decide) (by rw [c_10]; rfl) (by decide) ?_
      refine lv_aload_n hx hb (fk_get fk_cX11_of_0 29 rfl) rfl (lv_at hl 0 rfl) ?_
      refine va_get (D := G.1) (ci := 5) (v := .int (fF S i_5 8)) (C := RX3) (T := TX3) (N := 10) hx hb hT inX3 hown hK hP i_5 (ix_at (lt71 (by omega)) (cX_cust hp_i_5)) rfl 8 (by decide) (hT _ m1_175) (fun _ h9 => h9) rfl (fk_get fk_cX11_of_0 30 rfl) ?_
      subst hQ
      have hpost : True := by
        trivial
      exact W.iret (v := (fF S i_5 8)) hx hb hr (fun t_ ht_ hW_ => ⟨(fF S i_5 8), rfl, hpost, ht_⟩) (fun q h => by cases h) (fk_get fk_cX11_of_0 31 rfl)
    by_cases c_11 : w_ = (7 : Int32)
    · refine lv_tableIn (off := 102) (tgt := 118) hx hb (dk_get dk_cX11_of_0 0 rfl) (by rw [c_11]; decide) (by rw [c_11]; decide) (by rw [c_11]; rfl) (by decide) ?_
      refine lv_aload_n hx hb (fk_get fk_cX11_of_1 0 rfl) rfl (lv_at hl 0 rfl) ?_
      refine va_get (D := G.1) (ci := 5) (v := .int (fF S i_5 9)) (C := RX3) (T := TX3) (N := 10) hx hb hT inX3 hown hK hP i_5 (ix_at (lt71 (by omega)) (cX_cust hp_i_5)) rfl 9 (by decide) (hT _ m1_179) (fun _ h9 => h9) rfl (fk_get fk_cX11_of_1 1 rfl) ?_
      refine lv_if_eq (tgt := 129) hx hb (fk_get fk_cX11_of_1 2 rfl) (by decide) (fun c_12 => ?_) (fun c_12 => ?_)
      · refine lv_iconst (v := 0) hx hb (fk_get fk_cX11_of_1 5 rfl) (by decide) ?_
        subst hQ
        have hpost : True := by
          trivial
        exact W.iret (v := 0) hx hb hr (fun t_ ht_ hW_ => ⟨0, rfl, hpost, ht_⟩) (fun q h => by cases h) (fk_get fk_cX11_of_1 6 rfl)
      refine lv_iconst (v := 1) hx hb (fk_get fk_cX11_of_1 3 rfl) (by decide) ?_
      refine lv_goto (tgt := 130) hx hb (fk_get fk_cX11_of_1 4 rfl) (by decide) ?_
      subst hQ
      have hpost : True := by
        trivial
      exact W.iret (v := 1) hx hb hr (fun t_ ht_ hW_ => ⟨1, rfl, hpost, ht_⟩) (fun q h => by cases h) (fk_get fk_cX11_of_1 6 rfl)
    by_cases c_13 : w_ = (8 : Int32)
    · refine lv_tableIn (off := 115) (tgt := 131) hx hb (dk_get dk_cX11_of_0 0 rfl) (by rw [c_13]; decide) (by rw [c_13]; decide) (by rw [c_13]; rfl) (by decide) ?_
      refine lv_aload_n hx hb (fk_get fk_cX11_of_1 7 rfl) rfl (lv_at hl 1 rfl) ?_
      refine va_get (D := G.1) (ci := 13) (v := .ref (ad (9 + 0))) (C := RX11) (T := TX11) (N := 11) hx hb hT inX11 hown hK hP 0 (ix_at (lt71 (by omega)) (cX_0 G ad S)) rfl 1 (by decide) (hT _ m2_70) (fun _ h9 => h9) rfl (fk_get fk_cX11_of_1 8 rfl) ?_
      refine lv_aload_n hx hb (fk_get fk_cX11_of_1 9 rfl) rfl (lv_at hl 0 rfl) ?_
      refine vp_callSi (W.runV (As := [.ref (ad i_5)]) (rest := []) ⟨hx, hb, hml, hown, hT⟩ (c_x7_moreFor l G ad S s.heap.size (0) (i_5) ((by decide : 0 < 3)) (hp_i_5) (hX)) (tV 1 hT m2_124 m2_125 m2_126 m1_9 m2_127 rfl rfl (by decide +kernel) ⟨Nat.le_of_ble_eq_true rfl, Nat.le_of_ble_eq_true rfl⟩) ⟨PcW_blind, va_recv hK hP (ci := 9) (q0 := (9 + 0)) rfl (ix_at (lt71 (by omega)) (cX_shop (pk_shop (by decide : 0 < 3)))), PcW_of hP hK hD _⟩ rfl rfl hl.1 rfl (lv_room (Nat.le_of_ble_eq_true rfl)) (fk_get fk_cX11_of_1 10 rfl) ⟨Nat.zero_le _, Nat.zero_le _⟩) (fun r_14 hw_15 => ?_)
      try dsimp only at hw_15
      subst hQ
      have hpost : True := by
        trivial
      exact W.iret (v := r_14) hx hb hr (fun t_ ht_ hW_ => ⟨r_14, rfl, hpost, ht_⟩) (fun q h => by cases h) (fk_get fk_cX11_of_1 11 rfl)
    by_cases c_16 : w_ = (9 : Int32)
    · refine lv_tableIn (off := 124) (tgt := 140) hx hb (dk_get dk_cX11_of_0 0 rfl) (by rw [c_16]; decide) (by rw [c_16]; decide) (by rw [c_16]; rfl) (by decide) ?_
      refine lv_aload_n hx hb (fk_get fk_cX11_of_1 12 rfl) rfl (lv_at hl 0 rfl) ?_
      obtain ⟨n_17, en_17, bn_17⟩ := XI.kin hX hp_i_5
      refine va_get (D := G.1) (ci := 5) (v := va_rf ((fR S i_5 2).map ad)) (C := RX3) (T := TX3) (N := 10) hx hb hT inX3 hown hK hP i_5 (ix_at (lt71 (by omega)) (cX_cust hp_i_5)) rfl 2 (by decide) (hT _ m1_144) (fun _ h9 => h9) rfl (fk_get fk_cX11_of_1 13 rfl) ?_
      rw [show va_rf ((fR S i_5 2).map ad) = .ref (ad (2 + n_17)) from by rw [en_17]; rfl]
      refine lv_aload_n hx hb (fk_get fk_cX11_of_1 14 rfl) rfl (lv_at hl 0 rfl) ?_
      have kk_145 : ∀ rv_145 : Int32, W p l e ({ frames := 6, cells := 0, slots := 0, locals := 171 } : Room) s m args below meth c₀ s.heap [] 0 0 Q (F0 m 148 ls [.int (rv_145)]) := by
        intro rv_145
        subst hQ
        have hpost : True := by
          trivial
        exact W.iret (v := rv_145) hx hb hr (fun t_ ht_ hW_ => ⟨rv_145, rfl, hpost, ht_⟩) (fun q h => by cases h) (fk_get fk_cX11_of_1 16 rfl)
      rcases kq7 bn_17 with rfl | rfl | rfl | rfl | rfl | rfl | rfl
      · exact vp_callSi (va_Run.run (va_runU (As := [.ref (ad i_5)]) (rest := []) ⟨hx, hb, hml, hown, hT⟩ (c_x5_portion l G ad S s.heap.size (2 + 0) (i_5) ((lt71 (by omega))) (hp_i_5)) (tU 1 hT m2_141 m2_144 m2_143 m2_142 m1_2 m2_166 rfl rfl rfl (by decide +kernel) ⟨Nat.le_of_ble_eq_true rfl, Nat.le_of_ble_eq_true rfl⟩) ⟨PcW_blind, va_recv hK hP (ci := 7) (q0 := 2 + 0) rfl (ix_at (lt71 (by omega)) (cX_knd (by omega))), PcW_of hP hK hD _⟩ rfl rfl hl.1 rfl (lv_room (Nat.le_of_ble_eq_true rfl)) (fk_get fk_cX11_of_1 15 rfl) ⟨Nat.zero_le _, Nat.zero_le _⟩)) (fun r h_ => kk_145 r)
      · exact vp_callSi (va_Run.run (va_runU (As := [.ref (ad i_5)]) (rest := []) ⟨hx, hb, hml, hown, hT⟩ (c_x8_portion l G ad S s.heap.size (2 + 1) (i_5) ((lt71 (by omega))) (hp_i_5)) (tO 1 hT m2_141 m2_144 m2_142 m2_158 m2_152 m1_3 m2_153 m2_166 rfl rfl (by decide +kernel) ⟨Nat.le_of_ble_eq_true rfl, Nat.le_of_ble_eq_true rfl⟩) ⟨PcW_blind, va_recv hK hP (ci := 10) (q0 := 2 + 1) rfl (ix_at (lt71 (by omega)) (cX_knd (by omega))), PcW_of hP hK hD _⟩ rfl rfl hl.1 rfl (lv_room (Nat.le_of_ble_eq_true rfl)) (fk_get fk_cX11_of_1 15 rfl) ⟨Nat.zero_le _, Nat.zero_le _⟩)) (fun r h_ => kk_145 r)
      · exact vp_callSi (va_Run.run (va_runU (As := [.ref (ad i_5)]) (rest := []) ⟨hx, hb, hml, hown, hT⟩ (c_x5_portion l G ad S s.heap.size (2 + 2) (i_5) ((lt71 (by omega))) (hp_i_5)) (tU 1 hT m2_141 m2_144 m2_156 m2_142 m1_2 m2_166 rfl rfl rfl (by decide +kernel) ⟨Nat.le_of_ble_eq_true rfl, Nat.le_of_ble_eq_true rfl⟩) ⟨PcW_blind, va_recv hK hP (ci := 6) (q0 := 2 + 2) rfl (ix_at (lt71 (by omega)) (cX_knd (by omega))), PcW_of hP hK hD _⟩ rfl rfl hl.1 rfl (lv_room (Nat.le_of_ble_eq_true rfl)) (fk_get fk_cX11_of_1 15 rfl) ⟨Nat.zero_le _, Nat.zero_le _⟩)) (fun r h_ => kk_145 r)
      · exact vp_callSi (va_Run.run (va_runU (As := [.ref (ad i_5)]) (rest := []) ⟨hx, hb, hml, hown, hT⟩ (c_x0_portion l G ad S s.heap.size (2 + 3) (i_5) ((lt71 (by omega))) (hp_i_5)) (tO 1 hT m2_141 m2_144 m2_142 m2_145 m2_146 m1_5 m2_147 m2_166 rfl rfl (by decide +kernel) ⟨Nat.le_of_ble_eq_true rfl, Nat.le_of_ble_eq_true rfl⟩) ⟨PcW_blind, va_recv hK hP (ci := 2) (q0 := 2 + 3) rfl (ix_at (lt71 (by omega)) (cX_knd (by omega))), PcW_of hP hK hD _⟩ rfl rfl hl.1 rfl (lv_room (Nat.le_of_ble_eq_true rfl)) (fk_get fk_cX11_of_1 15 rfl) ⟨Nat.zero_le _, Nat.zero_le _⟩)) (fun r h_ => kk_145 r)
      · exact vp_callSi (va_Run.run (va_runU (As := [.ref (ad i_5)]) (rest := []) ⟨hx, hb, hml, hown, hT⟩ (c_x2_portion l G ad S s.heap.size (4) (i_5) ((by omega)) (hp_i_5) (hX)) (tO 1 hT m2_141 m2_144 m2_142 m2_148 m2_149 m1_6 m2_150 m2_166 rfl rfl (by decide +kernel) ⟨Nat.le_of_ble_eq_true rfl, Nat.le_of_ble_eq_true rfl⟩) ⟨PcW_blind, va_recv hK hP (ci := 4) (q0 := 2 + 4) rfl (ix_at (lt71 (by omega)) (cX_knd (by omega))), PcW_of hP hK hD _⟩ rfl rfl hl.1 rfl (lv_room (Nat.le_of_ble_eq_true rfl)) (fk_get fk_cX11_of_1 15 rfl) ⟨Nat.zero_le _, Nat.zero_le _⟩)) (fun r h_ => kk_145 r)
      · exact vp_callSi (va_Run.run (va_runU (As := [.ref (ad i_5)]) (rest := []) ⟨hx, hb, hml, hown, hT⟩ (c_x5_portion l G ad S s.heap.size (2 + 5) (i_5) ((lt71 (by omega))) (hp_i_5)) (tU 1 hT m2_141 m2_144 m2_157 m2_142 m1_2 m2_166 rfl rfl rfl (by decide +kernel) ⟨Nat.le_of_ble_eq_true rfl, Nat.le_of_ble_eq_true rfl⟩) ⟨PcW_blind, va_recv hK hP (ci := 8) (q0 := 2 + 5) rfl (ix_at (lt71 (by omega)) (cX_knd (by omega))), PcW_of hP hK hD _⟩ rfl rfl hl.1 rfl (lv_room (Nat.le_of_ble_eq_true rfl)) (fk_get fk_cX11_of_1 15 rfl) ⟨Nat.zero_le _, Nat.zero_le _⟩)) (fun r h_ => kk_145 r)
      · exact vp_callSi (va_Run.run (va_runU (As := [.ref (ad i_5)]) (rest := []) ⟨hx, hb, hml, hown, hT⟩ (c_x10_portion l G ad S s.heap.size (6) (i_5) ((by omega)) (hp_i_5) (hX)) (tO 1 hT m2_141 m2_144 m2_142 m2_159 m2_160 m1_8 m2_161 m2_166 rfl rfl (by decide +kernel) ⟨Nat.le_of_ble_eq_true rfl, Nat.le_of_ble_eq_true rfl⟩) ⟨PcW_blind, va_recv hK hP (ci := 12) (q0 := 2 + 6) rfl (ix_at (lt71 (by omega)) (cX_knd (by omega))), PcW_of hP hK hD _⟩ rfl rfl hl.1 rfl (lv_room (Nat.le_of_ble_eq_true rfl)) (fk_get fk_cX11_of_1 15 rfl) ⟨Nat.zero_le _, Nat.zero_le _⟩)) (fun r h_ => kk_145 r)
    by_cases c_18 : w_ = (10 : Int32)
    · refine lv_tableIn (off := 133) (tgt := 149) hx hb (dk_get dk_cX11_of_0 0 rfl) (by rw [c_18]; decide) (by rw [c_18]; decide) (by rw [c_18]; rfl) (by decide) ?_
      refine lv_aload_n hx hb (fk_get fk_cX11_of_1 17 rfl) rfl (lv_at hl 0 rfl) ?_
      obtain ⟨n_19, en_19, bn_19⟩ := XI.kin hX hp_i_5
      refine va_get (D := G.1) (ci := 5) (v := va_rf ((fR S i_5 2).map ad)) (C := RX3) (T := TX3) (N := 10) hx hb hT inX3 hown hK hP i_5 (ix_at (lt71 (by omega)) (cX_cust hp_i_5)) rfl 2 (by decide) (hT _ m1_144) (fun _ h9 => h9) rfl (fk_get fk_cX11_of_1 18 rfl) ?_
      rw [show va_rf ((fR S i_5 2).map ad) = .ref (ad (2 + n_19)) from by rw [en_19]; rfl]
      refine lv_aload_n hx hb (fk_get fk_cX11_of_1 19 rfl) rfl (lv_at hl 0 rfl) ?_
      have kk_154 : ∀ rv_154 : Int32, W p l e ({ frames := 6, cells := 0, slots := 0, locals := 171 } : Room) s m args below meth c₀ s.heap [] 0 0 Q (F0 m 157 ls [.int (rv_154)]) := by
        intro rv_154
        subst hQ
        have hpost : True := by
          trivial
        exact W.iret (v := rv_154) hx hb hr (fun t_ ht_ hW_ => ⟨rv_154, rfl, hpost, ht_⟩) (fun q h => by cases h) (fk_get fk_cX11_of_1 21 rfl)
      rcases kq7 bn_19 with rfl | rfl | rfl | rfl | rfl | rfl | rfl
      · exact vp_callSi (va_Run.run (va_runU (As := [.ref (ad i_5)]) (rest := []) ⟨hx, hb, hml, hown, hT⟩ (c_x5_patience l G ad S s.heap.size (2 + 0) (i_5) ((lt71 (by omega))) (hp_i_5)) (tU 1 hT m2_167 m2_170 m2_169 m2_168 m1_2 m2_186 rfl rfl rfl (by decide +kernel) ⟨Nat.le_of_ble_eq_true rfl, Nat.le_of_ble_eq_true rfl⟩) ⟨PcW_blind, va_recv hK hP (ci := 7) (q0 := 2 + 0) rfl (ix_at (lt71 (by omega)) (cX_knd (by omega))), PcW_of hP hK hD _⟩ rfl rfl hl.1 rfl (lv_room (Nat.le_of_ble_eq_true rfl)) (fk_get fk_cX11_of_1 20 rfl) ⟨Nat.zero_le _, Nat.zero_le _⟩)) (fun r h_ => kk_154 r)
      · exact vp_callSi (va_Run.run (va_runU (As := [.ref (ad i_5)]) (rest := []) ⟨hx, hb, hml, hown, hT⟩ (c_x8_patience l G ad S s.heap.size (2 + 1) (i_5) ((lt71 (by omega))) (hp_i_5)) (tO 1 hT m2_167 m2_170 m2_168 m2_184 m2_178 m1_3 m2_179 m2_186 rfl rfl (by decide +kernel) ⟨Nat.le_of_ble_eq_true rfl, Nat.le_of_ble_eq_true rfl⟩) ⟨PcW_blind, va_recv hK hP (ci := 10) (q0 := 2 + 1) rfl (ix_at (lt71 (by omega)) (cX_knd (by omega))), PcW_of hP hK hD _⟩ rfl rfl hl.1 rfl (lv_room (Nat.le_of_ble_eq_true rfl)) (fk_get fk_cX11_of_1 20 rfl) ⟨Nat.zero_le _, Nat.zero_le _⟩)) (fun r h_ => kk_154 r)
      · exact vp_callSi (va_Run.run (va_runU (As := [.ref (ad i_5)]) (rest := []) ⟨hx, hb, hml, hown, hT⟩ (c_x4_patience l G ad S s.heap.size (2 + 2) (i_5) ((lt71 (by omega))) (hp_i_5)) (tO 1 hT m2_167 m2_170 m2_168 m2_180 m2_181 m1_4 m2_182 m2_186 rfl rfl (by decide +kernel) ⟨Nat.le_of_ble_eq_true rfl, Nat.le_of_ble_eq_true rfl⟩) ⟨PcW_blind, va_recv hK hP (ci := 6) (q0 := 2 + 2) rfl (ix_at (lt71 (by omega)) (cX_knd (by omega))), PcW_of hP hK hD _⟩ rfl rfl hl.1 rfl (lv_room (Nat.le_of_ble_eq_true rfl)) (fk_get fk_cX11_of_1 20 rfl) ⟨Nat.zero_le _, Nat.zero_le _⟩)) (fun r h_ => kk_154 r)
      · exact vp_callSi (va_Run.run (va_runU (As := [.ref (ad i_5)]) (rest := []) ⟨hx, hb, hml, hown, hT⟩ (c_x0_patience l G ad S s.heap.size (2 + 3) (i_5) ((lt71 (by omega))) (hp_i_5)) (tO 1 hT m2_167 m2_170 m2_168 m2_171 m2_172 m1_5 m2_173 m2_186 rfl rfl (by decide +kernel) ⟨Nat.le_of_ble_eq_true rfl, Nat.le_of_ble_eq_true rfl⟩) ⟨PcW_blind, va_recv hK hP (ci := 2) (q0 := 2 + 3) rfl (ix_at (lt71 (by omega)) (cX_knd (by omega))), PcW_of hP hK hD _⟩ rfl rfl hl.1 rfl (lv_room (Nat.le_of_ble_eq_true rfl)) (fk_get fk_cX11_of_1 20 rfl) ⟨Nat.zero_le _, Nat.zero_le _⟩)) (fun r h_ => kk_154 r)
      · exact vp_callSi (va_Run.run (va_runU (As := [.ref (ad i_5)]) (rest := []) ⟨hx, hb, hml, hown, hT⟩ (c_x2_patience l G ad S s.heap.size (4) (i_5) ((by omega)) (hp_i_5) (hX)) (tO 1 hT m2_167 m2_170 m2_168 m2_174 m2_175 m1_6 m2_176 m2_186 rfl rfl (by decide +kernel) ⟨Nat.le_of_ble_eq_true rfl, Nat.le_of_ble_eq_true rfl⟩) ⟨PcW_blind, va_recv hK hP (ci := 4) (q0 := 2 + 4) rfl (ix_at (lt71 (by omega)) (cX_knd (by omega))), PcW_of hP hK hD _⟩ rfl rfl hl.1 rfl (lv_room (Nat.le_of_ble_eq_true rfl)) (fk_get fk_cX11_of_1 20 rfl) ⟨Nat.zero_le _, Nat.zero_le _⟩)) (fun r h_ => kk_154 r)
      · exact vp_callSi (va_Run.run (va_runU (As := [.ref (ad i_5)]) (rest := []) ⟨hx, hb, hml, hown, hT⟩ (c_x4_patience l G ad S s.heap.size (2 + 5) (i_5) ((lt71 (by omega))) (hp_i_5)) (tO 1 hT m2_167 m2_170 m2_168 m2_183 m2_181 m1_4 m2_182 m2_186 rfl rfl (by decide +kernel) ⟨Nat.le_of_ble_eq_true rfl, Nat.le_of_ble_eq_true rfl⟩) ⟨PcW_blind, va_recv hK hP (ci := 8) (q0 := 2 + 5) rfl (ix_at (lt71 (by omega)) (cX_knd (by omega))), PcW_of hP hK hD _⟩ rfl rfl hl.1 rfl (lv_room (Nat.le_of_ble_eq_true rfl)) (fk_get fk_cX11_of_1 20 rfl) ⟨Nat.zero_le _, Nat.zero_le _⟩)) (fun r h_ => kk_154 r)
      · exact vp_callSi (va_Run.run (va_runU (As := [.ref (ad i_5)]) (rest := []) ⟨hx, hb, hml, hown, hT⟩ (c_x0_patience l G ad S s.heap.size (2 + 6) (i_5) ((lt71 (by omega))) (hp_i_5)) (tO 1 hT m2_167 m2_170 m2_168 m2_185 m2_172 m1_5 m2_173 m2_186 rfl rfl (by decide +kernel) ⟨Nat.le_of_ble_eq_true rfl, Nat.le_of_ble_eq_true rfl⟩) ⟨PcW_blind, va_recv hK hP (ci := 12) (q0 := 2 + 6) rfl (ix_at (lt71 (by omega)) (cX_knd (by omega))), PcW_of hP hK hD _⟩ rfl rfl hl.1 rfl (lv_room (Nat.le_of_ble_eq_true rfl)) (fk_get fk_cX11_of_1 20 rfl) ⟨Nat.zero_le _, Nat.zero_le _⟩)) (fun r h_ => kk_154 r)
    by_cases c_20 : w_ = (11 : Int32)
    · refine lv_tableIn (off := 142) (tgt := 158) hx hb (dk_get dk_cX11_of_0 0 rfl) (by rw [c_20]; decide) (by rw [c_20]; decide) (by rw [c_20]; rfl) (by decide) ?_
      refine lv_aload_n hx hb (fk_get fk_cX11_of_1 22 rfl) rfl (lv_at hl 1 rfl) ?_
      refine va_get (D := G.1) (ci := 13) (v := .ref (ad (9 + 0))) (C := RX11) (T := TX11) (N := 11) hx hb hT inX11 hown hK hP 0 (ix_at (lt71 (by omega)) (cX_0 G ad S)) rfl 1 (by decide) (hT _ m2_70) (fun _ h9 => h9) rfl (fk_get fk_cX11_of_1 23 rfl) ?_
      refine lv_aload_n hx hb (fk_get fk_cX11_of_1 24 rfl) rfl (lv_at hl 0 rfl) ?_
      refine vp_callSi (W.runV (As := [.ref (ad i_5)]) (rest := []) ⟨hx, hb, hml, hown, hT⟩ (c_x7_refuses l G ad S s.heap.size (0) (i_5) ((by decide : 0 < 3)) (hp_i_5) (hX)) (tV 1 hT m2_187 m2_188 m2_189 m1_9 m2_190 rfl rfl (by decide +kernel) ⟨Nat.le_of_ble_eq_true rfl, Nat.le_of_ble_eq_true rfl⟩) ⟨PcW_blind, va_recv hK hP (ci := 9) (q0 := (9 + 0)) rfl (ix_at (lt71 (by omega)) (cX_shop (pk_shop (by decide : 0 < 3)))), PcW_of hP hK hD _⟩ rfl rfl hl.1 rfl (lv_room (Nat.le_of_ble_eq_true rfl)) (fk_get fk_cX11_of_1 25 rfl) ⟨Nat.zero_le _, Nat.zero_le _⟩) (fun r_21 hw_22 => ?_)
      try dsimp only at hw_22
      refine lv_if_eq (tgt := 173) hx hb (fk_get fk_cX11_of_1 26 rfl) (by decide) (fun c_23 => ?_) (fun c_23 => ?_)
      · refine lv_iconst (v := 0) hx hb (fk_get fk_cX11_of_1 29 rfl) (by decide) ?_
        subst hQ
        have hpost : True := by
          trivial
        exact W.iret (v := 0) hx hb hr (fun t_ ht_ hW_ => ⟨0, rfl, hpost, ht_⟩) (fun q h => by cases h) (fk_get fk_cX11_of_1 30 rfl)
      refine lv_iconst (v := 1) hx hb (fk_get fk_cX11_of_1 27 rfl) (by decide) ?_
      refine lv_goto (tgt := 174) hx hb (fk_get fk_cX11_of_1 28 rfl) (by decide) ?_
      subst hQ
      have hpost : True := by
        trivial
      exact W.iret (v := 1) hx hb hr (fun t_ ht_ hW_ => ⟨1, rfl, hpost, ht_⟩) (fun q h => by cases h) (fk_get fk_cX11_of_1 30 rfl)
    have o_24 : (w_).toInt < 0 ∨ 11 < (w_).toInt := by
      have qc_3 : ¬ (w_).toInt = 0 := lv_neT c_3 (by decide)
      have qc_5 : ¬ (w_).toInt = 1 := lv_neT c_5 (by decide)
      have qc_6 : ¬ (w_).toInt = 2 := lv_neT c_6 (by decide)
      have qc_7 : ¬ (w_).toInt = 3 := lv_neT c_7 (by decide)
      have qc_8 : ¬ (w_).toInt = 4 := lv_neT c_8 (by decide)
      have qc_9 : ¬ (w_).toInt = 5 := lv_neT c_9 (by decide)
      have qc_10 : ¬ (w_).toInt = 6 := lv_neT c_10 (by decide)
      have qc_11 : ¬ (w_).toInt = 7 := lv_neT c_11 (by decide)
      have qc_13 : ¬ (w_).toInt = 8 := lv_neT c_13 (by decide)
      have qc_16 : ¬ (w_).toInt = 9 := lv_neT c_16 (by decide)
      have qc_18 : ¬ (w_).toInt = 10 := lv_neT c_18 (by decide)
      have qc_20 : ¬ (w_).toInt = 11 := lv_neT c_20 (by decide)
      omega
    refine lv_tableOut (tgt := 175) hx hb (dk_get dk_cX11_of_0 0 rfl) o_24 (by decide) ?_
    refine lv_iconst (v := (-1)) hx hb (fk_get fk_cX11_of_1 31 rfl) (by decide) ?_
    subst hQ
    have hpost : True := by
      trivial
    exact W.iret (v := (-1)) hx hb hr (fun t_ ht_ hW_ => ⟨(-1), rfl, hpost, ht_⟩) (fun q h => by cases h) (fk_get fk_cX11_of_2 0 rfl)
  rw [show va_rf none = .null from rfl]
  refine lv_astore_nN (lv' := [(3, .null), (0, .ref (ad 0)), (1, .int (x)), (2, .int (w_))]) hx hb (fk_get fk_cX11_of_0 4 rfl) rfl hl (by decide) rfl (fun ls hl => ?_)
  refine lv_aload_nN hx hb (fk_get fk_cX11_of_0 5 rfl) rfl (lv_at hl 0 rfl) ?_
  refine lv_ifnonnullN hx hb (fk_get fk_cX11_of_0 6 rfl) ?_
  refine lv_iconst (v := (-1)) hx hb (fk_get fk_cX11_of_0 7 rfl) (by decide) ?_
  subst hQ
  have hpost : True := by
    trivial
  exact W.iret (v := (-1)) hx hb hr (fun t_ ht_ hW_ => ⟨(-1), rfl, hpost, ht_⟩) (fun q h => by cases h) (fk_get fk_cX11_of_0 8 rfl)
set_option maxHeartbeats 800000 in
set_option maxRecDepth 100000 in
theorem c_x11_asked (l : Launch) (G : GG) (ad : Nat → Nat) (S : FS) (sz : Nat) (n : Nat) (x : Int32) (w_ : Int32) (hn : fF S (9 + 0) 3 = nI n) (hn6 : n ≤ 6) (hX : XI S) : Met l yX11_asked (Cond.code yX11_asked cX11_asked 6 (some .int) :: TBL) ({ frames := 6, cells := 0, slots := 0, locals := 172 } : Room) (PcW G (wX G ad S) sz [.ref (ad 0), .int (x), .int (w_)]) (vp_Si (fun (r : Int32) => True)) 0 0 (fun _ => False) := by
  refine Met.ofW (cc := cX11_asked) (maxL := 6) (ret := (some .int)) (by decide) rfl ?_
  intro p e s m args below meth c₀ s₁ B hml hv
  obtain ⟨rfl, hsz, hP, hK, hD0⟩ := hv
  have hx := B.exec
  have hb := B.bytes
  have hr := B.returns
  have hT : ∀ w ∈ TBL, w.before ([.ref (ad 0), .int (x), .int (w_)] : List Value).toArray s = true := fun w h => atoms_spec (ws := Cond.code yX11_asked cX11_asked 6 (some .int) :: TBL) B.pre w (List.mem_cons_of_mem _ h)
  have hown : s.vm.findClass "LittleMore" = some m.cls := findClass_of_methodNamed B.named
  have hlocks := B.notSynchronized
  have hD := hD0
  have hP : va_P G.1 vwCl (wX G ad S) s.heap := hP
  have hl := lv_entry ([.ref (ad 0), .int (x), .int (w_)]) (n := 6) (Nat.le_of_ble_eq_true rfl)
  rw [lg_entry_eq]
  generalize (lg_sl ([.ref (ad 0), .int (x), .int (w_)]) ++ List.replicate (6 - (lg_sl ([.ref (ad 0), .int (x), .int (w_)])).length) Slot.unset).toArray = ls at hl ⊢
  have hl : lv_has ls 6 [(0, .ref (ad 0)), (1, .int (x)), (2, .int (w_))] := hl
  refine W_abs (fun Q hQ => ?_)
  generalize ([.ref (ad 0), .int (x), .int (w_)] : List Value).toArray = args at hT hQ ⊢
  refine lv_aload_n hx hb (fk_get fk_cX11_asked_0 0 rfl) rfl (lv_at hl 0 rfl) ?_
  refine va_get (D := G.1) (ci := 13) (v := .ref (ad (9 + 0))) (C := RX11) (T := TX11) (N := 11) hx hb hT inX11 hown hK hP 0 (ix_at (lt71 (by omega)) (cX_0 G ad S)) rfl 1 (by decide) (hT _ m2_70) (fun _ h9 => h9) rfl (fk_get fk_cX11_asked_0 1 rfl) ?_
  refine lv_iload_n hx hb (fk_get fk_cX11_asked_0 2 rfl) rfl (lv_at hl 1 rfl) ?_
  refine va_csq (W.runV (As := [.int (x)]) (rest := []) ⟨hx, hb, hml, hown, hT⟩ (c_x7_at l G ad S s.heap.size (0) (n) (x) ((by decide : 0 < 3)) (hn) (hn6) (hX)) (tV 1 hT m2_120 m2_121 m2_122 m1_9 m2_123 rfl rfl (by decide +kernel) ⟨Nat.le_of_ble_eq_true rfl, Nat.le_of_ble_eq_true rfl⟩) ⟨PcW_blind, va_recv hK hP (ci := 9) (q0 := (9 + 0)) rfl (ix_at (lt71 (by omega)) (cX_shop (pk_shop (by decide : 0 < 3)))), PcW_of hP hK hD _⟩ rfl rfl hl.1 rfl (lv_room (Nat.le_of_ble_eq_true rfl)) (fk_get fk_cX11_asked_0 3 rfl) ⟨Nat.zero_le _, Nat.zero_le _⟩) (fun r_1 hw_2 => ?_)
  try dsimp only at hw_2
  rcases hw_2 with ⟨j_5, hj_5, ej_5, rfl⟩ | ⟨rfl, hn_5⟩
  · rw [show va_rf (some (ad (21 + 6 * 0 + j_5))) = .ref (ad (21 + 6 * 0 + j_5)) from rfl]
    generalize hg_i_5 : 21 + 6 * 0 + j_5 = i_5
    have hp_i_5 : pk i_5 = 7 := by rw [← hg_i_5]; exact pk_c (by decide : 0 < 3) (show j_5 < 6 by omega)
    have hb_i_5 := pk7 hp_i_5
    refine lv_astore_n (lv' := [(3, .ref (ad i_5)), (0, .ref (ad 0)), (1, .int (x)), (2, .int (w_))]) hx hb (fk_get fk_cX11_asked_0 4 rfl) rfl hl (by decide) rfl (fun ls hl => ?_)
    refine lv_aload_n hx hb (fk_get fk_cX11_asked_0 5 rfl) rfl (lv_at hl 0 rfl) ?_
    refine lv_ifnull hx hb (fk_get fk_cX11_asked_0 6 rfl) ?_
    refine lv_iload_n hx hb (fk_get fk_cX11_asked_0 7 rfl) rfl (lv_at hl 3 rfl) ?_
    refine lv_iconst (v := 0) hx hb (fk_get fk_cX11_asked_0 8 rfl) (by decide) ?_
    refine lv_iconst (v := 1) hx hb (fk_get fk_cX11_asked_0 9 rfl) (by decide) ?_
    refine vp_callSi (W.runS (As := [.int (w_), .int (0), .int (1)]) (rest := []) ⟨hx, hb, hml, hown, hT⟩ (c_xisOutside l (w_) (0) (1) ) (tS 3 hT m2_108 m2_109 m1_1 m2_110 rfl rfl (by decide +kernel) ⟨Nat.le_of_ble_eq_true rfl, Nat.le_of_ble_eq_true rfl⟩) ⟨PcN_blind, PcN_of _ _ _⟩ rfl rfl hl.1 rfl (lv_room (Nat.le_of_ble_eq_true rfl)) (fk_get fk_cX11_asked_0 10 rfl) ⟨Nat.zero_le _, Nat.zero_le _⟩) (fun r_3 hw_4 => ?_)
    try dsimp only at hw_4
    refine lv_if_eq (tgt := 24) hx hb (fk_get fk_cX11_asked_0 11 rfl) (by decide) (fun c_5 => ?_) (fun c_5 => ?_)
    · have p_c_5 := if1_f hw_4 c_5
      refine lv_aload_n hx hb (fk_get fk_cX11_asked_0 14 rfl) rfl (lv_at hl 0 rfl) ?_
      refine va_get (D := G.1) (ci := 5) (v := .int (fF S i_5 9)) (C := RX3) (T := TX3) (N := 10) hx hb hT inX3 hown hK hP i_5 (ix_at (lt71 (by omega)) (cX_cust hp_i_5)) rfl 9 (by decide) (hT _ m1_179) (fun _ h9 => h9) rfl (fk_get fk_cX11_asked_0 15 rfl) ?_
      refine lv_if_eq (tgt := 34) hx hb (fk_get fk_cX11_asked_0 16 rfl) (by decide) (fun c_6 => ?_) (fun c_6 => ?_)
      · refine lv_aload_n hx hb (fk_get fk_cX11_asked_0 19 rfl) rfl (lv_at hl 1 rfl) ?_
        refine va_get (D := G.1) (ci := 13) (v := .ref (ad (9 + 0))) (C := RX11) (T := TX11) (N := 11) hx hb hT inX11 hown hK hP 0 (ix_at (lt71 (by omega)) (cX_0 G ad S)) rfl 1 (by decide) (hT _ m2_70) (fun _ h9 => h9) rfl (fk_get fk_cX11_asked_0 20 rfl) ?_
        refine lv_aload_n hx hb (fk_get fk_cX11_asked_0 21 rfl) rfl (lv_at hl 0 rfl) ?_
        refine vp_callSi (W.runV (As := [.ref (ad i_5)]) (rest := []) ⟨hx, hb, hml, hown, hT⟩ (c_x7_boughtBeyondAsked l G ad S s.heap.size (0) (i_5) ((by decide : 0 < 3)) (hp_i_5) (hX)) (tV 1 hT m3_233 m3_234 m3_235 m1_9 m3_236 rfl rfl (by decide +kernel) ⟨Nat.le_of_ble_eq_true rfl, Nat.le_of_ble_eq_true rfl⟩) ⟨PcW_blind, va_recv hK hP (ci := 9) (q0 := (9 + 0)) rfl (ix_at (lt71 (by omega)) (cX_shop (pk_shop (by decide : 0 < 3)))), PcW_of hP hK hD _⟩ rfl rfl hl.1 rfl (lv_room (Nat.le_of_ble_eq_true rfl)) (fk_get fk_cX11_asked_0 22 rfl) ⟨Nat.zero_le _, Nat.zero_le _⟩) (fun r_7 hw_8 => ?_)
        try dsimp only at hw_8
        refine lv_istore (lv' := [(4, .int (r_7)), (3, .ref (ad i_5)), (0, .ref (ad 0)), (1, .int (x)), (2, .int (w_))]) hx hb (fk_get fk_cX11_asked_0 23 rfl) hl (by decide) rfl (fun ls hl => ?_)
        refine lv_iconst (v := 1) hx hb (fk_get fk_cX11_asked_0 24 rfl) (by decide) ?_
        refine lv_aload_n hx hb (fk_get fk_cX11_asked_0 25 rfl) rfl (lv_at hl 1 rfl) ?_
        refine va_get (D := G.1) (ci := 5) (v := .int (fF S i_5 4)) (C := RX3) (T := TX3) (N := 10) hx hb hT inX3 hown hK hP i_5 (ix_at (lt71 (by omega)) (cX_cust hp_i_5)) rfl 4 (by decide) (hT _ m1_157) (fun _ h9 => h9) rfl (fk_get fk_cX11_asked_0 26 rfl) ?_
        refine lv_iload hx hb (fk_get fk_cX11_asked_0 27 rfl) (lv_at hl 0 rfl) ?_
        refine lv_isub hx hb (fk_get fk_cX11_asked_0 28 rfl) ?_
        refine vp_callSi (W.runS (As := [.int (1), .int (((fF S i_5 4) - r_7))]) (rest := []) ⟨hx, hb, hml, hown, hT⟩ (c_jmax l (1) (((fF S i_5 4) - r_7)) ) (tS 2 hT m3_237 m2_139 m1_18 m2_140 rfl rfl (by decide +kernel) ⟨Nat.le_of_ble_eq_true rfl, Nat.le_of_ble_eq_true rfl⟩) ⟨PcN_blind, PcN_of _ _ _⟩ rfl rfl hl.1 rfl (lv_room (Nat.le_of_ble_eq_true rfl)) (fk_get fk_cX11_asked_0 29 rfl) ⟨Nat.zero_le _, Nat.zero_le _⟩) (fun r_9 hw_10 => ?_)
        try dsimp only at hw_10
        refine lv_istore (lv' := [(5, .int (r_9)), (4, .int (r_7)), (3, .ref (ad i_5)), (0, .ref (ad 0)), (1, .int (x)), (2, .int (w_))]) hx hb (fk_get fk_cX11_asked_0 30 rfl) hl (by decide) rfl (fun ls hl => ?_)
        refine lv_iload_n hx hb (fk_get fk_cX11_asked_0 31 rfl) rfl (lv_at hl 5 rfl) ?_
        refine lv_if_ne (tgt := 66) hx hb (fk_get fk_cX11_asked_1 0 rfl) (by decide) (fun c_11 => ?_) (fun c_11 => ?_)
        · refine lv_iload hx hb (fk_get fk_cX11_asked_1 3 rfl) (lv_at hl 0 rfl) ?_
          refine lv_iload hx hb (fk_get fk_cX11_asked_1 4 rfl) (lv_at hl 1 rfl) ?_
          refine lv_iadd hx hb (fk_get fk_cX11_asked_1 5 rfl) ?_
          subst hQ
          have hpost : True := by
            trivial
          exact W.iret (v := (r_9 + r_7)) hx hb hr (fun t_ ht_ hW_ => ⟨(r_9 + r_7), rfl, hpost, ht_⟩) (fun q h => by cases h) (fk_get fk_cX11_asked_1 6 rfl)
        refine lv_iload hx hb (fk_get fk_cX11_asked_1 1 rfl) (lv_at hl 0 rfl) ?_
        refine lv_goto (tgt := 71) hx hb (fk_get fk_cX11_asked_1 2 rfl) (by decide) ?_
        subst hQ
        have hpost : True := by
          trivial
        exact W.iret (v := r_9) hx hb hr (fun t_ ht_ hW_ => ⟨r_9, rfl, hpost, ht_⟩) (fun q h => by cases h) (fk_get fk_cX11_asked_1 6 rfl)
      refine lv_bipush (v := (-5)) hx hb (fk_get fk_cX11_asked_0 17 rfl) (by decide) ?_
      subst hQ
      have hpost : True := by
        trivial
      exact W.iret (v := (-5)) hx hb hr (fun t_ ht_ hW_ => ⟨(-5), rfl, hpost, ht_⟩) (fun q h => by cases h) (fk_get fk_cX11_asked_0 18 rfl)
    have p_c_5 := if1_t hw_4 c_5
    refine lv_iconst (v := (-1)) hx hb (fk_get fk_cX11_asked_0 12 rfl) (by decide) ?_
    subst hQ
    have hpost : True := by
      trivial
    exact W.iret (v := (-1)) hx hb hr (fun t_ ht_ hW_ => ⟨(-1), rfl, hpost, ht_⟩) (fun q h => by cases h) (fk_get fk_cX11_asked_0 13 rfl)
  rw [show va_rf none = .null from rfl]
  refine lv_astore_nN (lv' := [(3, .null), (0, .ref (ad 0)), (1, .int (x)), (2, .int (w_))]) hx hb (fk_get fk_cX11_asked_0 4 rfl) rfl hl (by decide) rfl (fun ls hl => ?_)
  refine lv_aload_nN hx hb (fk_get fk_cX11_asked_0 5 rfl) rfl (lv_at hl 0 rfl) ?_
  refine lv_ifnullN (tgt := 22) hx hb (fk_get fk_cX11_asked_0 6 rfl) (by decide) ?_
  refine lv_iconst (v := (-1)) hx hb (fk_get fk_cX11_asked_0 12 rfl) (by decide) ?_
  subst hQ
  have hpost : True := by
    trivial
  exact W.iret (v := (-1)) hx hb hr (fun t_ ht_ hW_ => ⟨(-1), rfl, hpost, ht_⟩) (fun q h => by cases h) (fk_get fk_cX11_asked_0 13 rfl)
set_option maxHeartbeats 800000 in
set_option maxRecDepth 100000 in
theorem c_x11_visit (l : Launch) (G : GG) (ad : Nat → Nat) (S : FS) (sz : Nat) (n : Nat) (x : Int32) (hn : fF S (9 + 0) 3 = nI n) (hn6 : n ≤ 6) (hX : XI S) : Met l yX11_visit (Cond.code yX11_visit cX11_visit 4 (some .int) :: TBL) ({ frames := 6, cells := 0, slots := 0, locals := 174 } : Room) (PcW G (wX G ad S) sz [.ref (ad 0), .int (x)]) (va_Qi (fun (r : Int32) (S' : FS) => XI S' ∧ Fr (fun j k => 21 ≤ j ∧ j < 27 ∧ 5 ≤ k ∧ k ≤ 9) S S' ∧ True) (fun S' t => BW G (va_A (wX G ad S) sz) (wX G ad S') t) (va_A (wX G ad S) sz)) 0 0 (va_A (wX G ad S) sz) := by
  refine Met.ofW (cc := cX11_visit) (maxL := 4) (ret := (some .int)) (by decide) rfl ?_
  intro p e s m args below meth c₀ s₁ B hml hv
  obtain ⟨rfl, hsz, hP, hK, hD0⟩ := hv
  have hx := B.exec
  have hb := B.bytes
  have hr := B.returns
  have hT : ∀ w ∈ TBL, w.before ([.ref (ad 0), .int (x)] : List Value).toArray s = true := fun w h => atoms_spec (ws := Cond.code yX11_visit cX11_visit 4 (some .int) :: TBL) B.pre w (List.mem_cons_of_mem _ h)
  have hown : s.vm.findClass "LittleMore" = some m.cls := findClass_of_methodNamed B.named
  have hlocks := B.notSynchronized
  subst hsz
  have hD := hD0.self (sz := s.heap.size)
  generalize hAe : va_A (wX G ad S) s.heap.size = A at hD ⊢
  have hA : ∀ q : Nat, s.heap.size ≤ q → A q := fun q h => by rw [← hAe]; exact Or.inr h
  have hS : va_S A s.heap s.heap [] := va_S.rf
  have hP : va_P G.1 vwCl (wX G ad S) s.heap := hP
  have hl := lv_entry ([.ref (ad 0), .int (x)]) (n := 4) (Nat.le_of_ble_eq_true rfl)
  rw [lg_entry_eq]
  generalize (lg_sl ([.ref (ad 0), .int (x)]) ++ List.replicate (4 - (lg_sl ([.ref (ad 0), .int (x)])).length) Slot.unset).toArray = ls at hl ⊢
  have hl : lv_has ls 4 [(0, .ref (ad 0)), (1, .int (x))] := hl
  refine W_abs (fun Q hQ => ?_)
  generalize ([.ref (ad 0), .int (x)] : List Value).toArray = args at hT hQ ⊢
  refine lv_aload_n hx hb (fk_get fk_cX11_visit_0 0 rfl) rfl (lv_at hl 0 rfl) ?_
  refine va_get (D := G.1) (ci := 13) (v := .ref (ad (9 + 0))) (C := RX11) (T := TX11) (N := 11) hx hb hT inX11 hown hK hP 0 (ix_at (lt71 (by omega)) (cX_0 G ad S)) rfl 1 (by decide) (hT _ m2_70) (fun _ h9 => h9) rfl (fk_get fk_cX11_visit_0 1 rfl) ?_
  refine lv_iload_n hx hb (fk_get fk_cX11_visit_0 2 rfl) rfl (lv_at hl 1 rfl) ?_
  refine va_csq (W.runV (As := [.int (x)]) (rest := []) ⟨hx, hb, hml, hown, hT⟩ (c_x7_at l G ad S s.heap.size (0) (n) (x) ((by decide : 0 < 3)) (hn) (hn6) (hX)) (tV 1 hT m2_120 m2_121 m2_122 m1_9 m2_123 rfl rfl (by decide +kernel) ⟨Nat.le_of_ble_eq_true rfl, Nat.le_of_ble_eq_true rfl⟩) ⟨PcW_blind, va_recv hK hP (ci := 9) (q0 := (9 + 0)) rfl (ix_at (lt71 (by omega)) (cX_shop (pk_shop (by decide : 0 < 3)))), PcW_of hP hK hD _⟩ rfl rfl hl.1 rfl (lv_room (Nat.le_of_ble_eq_true rfl)) (fk_get fk_cX11_visit_0 3 rfl) ⟨Nat.zero_le _, Nat.zero_le _⟩) (fun r_1 hw_2 => ?_)
  try dsimp only at hw_2
  rcases hw_2 with ⟨j_5, hj_5, ej_5, rfl⟩ | ⟨rfl, hn_5⟩
  · rw [show va_rf (some (ad (21 + 6 * 0 + j_5))) = .ref (ad (21 + 6 * 0 + j_5)) from rfl]
    generalize hg_i_5 : 21 + 6 * 0 + j_5 = i_5
    have hp_i_5 : pk i_5 = 7 := by rw [← hg_i_5]; exact pk_c (by decide : 0 < 3) (show j_5 < 6 by omega)
    have hb_i_5 := pk7 hp_i_5
    refine lv_astore_n (lv' := [(2, .ref (ad i_5)), (0, .ref (ad 0)), (1, .int (x))]) hx hb (fk_get fk_cX11_visit_0 4 rfl) rfl hl (by decide) rfl (fun ls hl => ?_)
    refine lv_aload_n hx hb (fk_get fk_cX11_visit_0 5 rfl) rfl (lv_at hl 0 rfl) ?_
    refine lv_ifnonnull (tgt := 15) hx hb (fk_get fk_cX11_visit_0 6 rfl) (by decide) ?_
    refine lv_aload_n hx hb (fk_get fk_cX11_visit_0 9 rfl) rfl (lv_at hl 0 rfl) ?_
    refine va_get (D := G.1) (ci := 5) (v := .int (fF S i_5 9)) (C := RX3) (T := TX3) (N := 10) hx hb hT inX3 hown hK hP i_5 (ix_at (lt71 (by omega)) (cX_cust hp_i_5)) rfl 9 (by decide) (hT _ m1_179) (fun _ h9 => h9) rfl (fk_get fk_cX11_visit_0 10 rfl) ?_
    refine lv_if_eq (tgt := 25) hx hb (fk_get fk_cX11_visit_0 11 rfl) (by decide) (fun c_3 => ?_) (fun c_3 => ?_)
    · refine lv_aload_n hx hb (fk_get fk_cX11_visit_0 14 rfl) rfl (lv_at hl 1 rfl) ?_
      refine va_get (D := G.1) (ci := 13) (v := .ref (ad (9 + 0))) (C := RX11) (T := TX11) (N := 11) hx hb hT inX11 hown hK hP 0 (ix_at (lt71 (by omega)) (cX_0 G ad S)) rfl 1 (by decide) (hT _ m2_70) (fun _ h9 => h9) rfl (fk_get fk_cX11_visit_0 15 rfl) ?_
      refine lv_aload_n hx hb (fk_get fk_cX11_visit_0 16 rfl) rfl (lv_at hl 0 rfl) ?_
      have hFc := va_self hD hS hA
      refine va_calli (va_runV (As := [.ref (ad i_5)]) (rest := []) ⟨hx, hb, hml, hown, hT⟩ (c_x7_makeVisit l G ad S s.heap.size (0) (i_5) ((by decide : 0 < 3)) (hp_i_5) (hX)) (tV 1 hT m3_169 m3_170 m3_171 m1_9 m3_172 rfl rfl (by decide +kernel) ⟨Nat.le_of_ble_eq_true rfl, Nat.le_of_ble_eq_true rfl⟩) ⟨PcW_blind, va_recv hK hP (ci := 9) (q0 := (9 + 0)) rfl (ix_at (lt71 (by omega)) (cX_shop (pk_shop (by decide : 0 < 3)))), PcW_of hP hK hD _⟩ rfl rfl hl.1 rfl (lv_room (Nat.le_of_ble_eq_true rfl)) (fk_get fk_cX11_visit_0 17 rfl) ⟨Nat.zero_le _, Nat.zero_le _⟩) hS (fun q _ h => hFc q h) hFc (fun r_4 S_6 t_ H locs ht_ hvm_ hw_5 hB_ hz_ hk_ hS => ?_)
      obtain ⟨hP, -, hD1_⟩ := hB_
      rw [ht_] at hP
      have hD : va_D A (wX G ad S_6) := hD1_.weaken (fun k q _ h => hFc q.1 h)
      try dsimp only at hw_5
      obtain ⟨hX_7, hF_8_, hw_5⟩ := hw_5
      have hF_8 : Fr (fun j k => 21 ≤ j ∧ j < 27 ∧ 5 ≤ k ∧ k ≤ 9) S S_6 := Fr.trans (Fr.rf : Fr (fun j k => 21 ≤ j ∧ j < 27 ∧ 5 ≤ k ∧ k ≤ 9) S S) (Fr.mono hF_8_ (fun j k h => by omega))
      refine lv_istore_n (lv' := [(3, .int (r_4)), (2, .ref (ad i_5)), (0, .ref (ad 0)), (1, .int (x))]) hx hb (fk_get fk_cX11_visit_0 18 rfl) rfl hl (by decide) rfl (fun ls hl => ?_)
      refine lv_aload_n hx hb (fk_get fk_cX11_visit_0 19 rfl) rfl (lv_at hl 2 rfl) ?_
      refine va_get (D := G.1) (ci := 13) (v := .ref (ad (9 + 0))) (C := RX11) (T := TX11) (N := 11) hx hb hT inX11 hown hK hP 0 (ix_at (lt71 (by omega)) (cX_0 G ad S_6)) rfl 1 (by decide) (hT _ m2_70) (fun _ h9 => h9) rfl (fk_get fk_cX11_visit_0 20 rfl) ?_
      have hFc := va_self hD hS hA
      refine va_callv (va_runV (As := []) (rest := []) ⟨hx, hb, hml, hown, hT⟩ (c_x7_boundVisits l G ad S_6 H.size (0) ((by decide : 0 < 3)) (hX_7)) (tV 0 hT m3_194 m3_195 m3_196 m1_9 m3_197 rfl rfl (by decide +kernel) ⟨Nat.le_of_ble_eq_true rfl, Nat.le_of_ble_eq_true rfl⟩) ⟨PcW_blind, va_recv hK hP (ci := 9) (q0 := (9 + 0)) rfl (ix_at (lt71 (by omega)) (cX_shop (pk_shop (by decide : 0 < 3)))), PcW_of hP hK hD _⟩ rfl rfl hl.1 rfl (lv_room (Nat.le_of_ble_eq_true rfl)) (fk_get fk_cX11_visit_0 21 rfl) ⟨Nat.zero_le _, Nat.zero_le _⟩) hS (fun q _ h => hFc q h) hFc (fun S_11 t_ H locs ht_ hvm_ hw_10 hB_ hz_ hk_ hS => ?_)
      obtain ⟨hP, -, hD1_⟩ := hB_
      rw [ht_] at hP
      have hD : va_D A (wX G ad S_11) := hD1_.weaken (fun k q _ h => hFc q.1 h)
      try dsimp only at hw_10
      obtain ⟨hX_12, hF_13_, hw_10⟩ := hw_10
      have hF_13 : Fr (fun j k => 21 ≤ j ∧ j < 27 ∧ 5 ≤ k ∧ k ≤ 9) S S_11 := Fr.trans hF_8 (Fr.mono hF_13_ (fun j k h => by omega))
      refine lv_iload_n hx hb (fk_get fk_cX11_visit_0 22 rfl) rfl (lv_at hl 0 rfl) ?_
      refine lv_aload_n hx hb (fk_get fk_cX11_visit_0 23 rfl) rfl (lv_at hl 2 rfl) ?_
      refine va_get (D := G.1) (ci := 13) (v := .ref (ad (9 + 0))) (C := RX11) (T := TX11) (N := 11) hx hb hT inX11 hown hK hP 0 (ix_at (lt71 (by omega)) (cX_0 G ad S_11)) rfl 1 (by decide) (hT _ m2_70) (fun _ h9 => h9) rfl (fk_get fk_cX11_visit_0 24 rfl) ?_
      obtain ⟨n_14, en_14, bn_14⟩ := XI.ctr hX_12 (by decide : 0 < 3)
      refine va_get (D := G.1) (ci := 9) (v := va_rf ((fR S_11 (9 + 0) 7).map ad)) (C := RX7) (T := TX7) (N := 8) hx hb hT inX7 hown hK hP (9 + 0) (ix_at (lt71 (by omega)) (cX_shop (pk_shop (by decide : 0 < 3)))) rfl 7 (by decide) (hT _ m1_217) (fun _ h9 => h9) rfl (fk_get fk_cX11_visit_0 25 rfl) ?_
      rw [show va_rf ((fR S_11 (9 + 0) 7).map ad) = .ref (ad n_14) from by rw [en_14]; rfl]
      refine va_get (D := G.1) (ci := 3) (v := .int (fF S_11 n_14 0)) (C := RX1) (T := TX1) (N := 4) hx hb hT inX1 hown hK hP n_14 (ix_at (bn_14).2.1 (cX_ctr (bn_14).1 (bn_14).2.2.1)) rfl 0 (by decide) (hT _ m1_114) (fun _ h9 => h9) rfl (fk_get fk_cX11_visit_0 26 rfl) ?_
      refine lv_imul hx hb (fk_get fk_cX11_visit_0 27 rfl) ?_
      subst hQ
      have hpost : XI S_11 ∧ Fr (fun j k => 21 ≤ j ∧ j < 27 ∧ 5 ≤ k ∧ k ≤ 9) S S_11 ∧ True := by
        exact ⟨hX_12, hF_13, trivial⟩
      exact W.iret (v := (r_4 * (fF S_11 n_14 0))) hx hb hr (fun t_ ht_ hW_ => ⟨⟨(r_4 * (fF S_11 n_14 0)), S_11, rfl, hpost, by rw [ht_]; exact hP, va_K.moved hW_.alike hK, hD⟩, hS.F ht_⟩) hS.2.2 (fk_get fk_cX11_visit_0 28 rfl)
    refine lv_bipush (v := (-3)) hx hb (fk_get fk_cX11_visit_0 12 rfl) (by decide) ?_
    subst hQ
    have hpost : XI S ∧ Fr (fun j k => 21 ≤ j ∧ j < 27 ∧ 5 ≤ k ∧ k ≤ 9) S S ∧ True := by
      exact ⟨hX, (Fr.rf : Fr (fun j k => 21 ≤ j ∧ j < 27 ∧ 5 ≤ k ∧ k ≤ 9) S S), trivial⟩
    exact W.iret (v := (-3)) hx hb hr (fun t_ ht_ hW_ => ⟨⟨(-3), S, rfl, hpost, by rw [ht_]; exact hP, va_K.moved hW_.alike hK, hD⟩, hS.F ht_⟩) hS.2.2 (fk_get fk_cX11_visit_0 13 rfl)
  rw [show va_rf none = .null from rfl]
  refine lv_astore_nN (lv' := [(2, .null), (0, .ref (ad 0)), (1, .int (x))]) hx hb (fk_get fk_cX11_visit_0 4 rfl) rfl hl (by decide) rfl (fun ls hl => ?_)
  refine lv_aload_nN hx hb (fk_get fk_cX11_visit_0 5 rfl) rfl (lv_at hl 0 rfl) ?_
  refine lv_ifnonnullN hx hb (fk_get fk_cX11_visit_0 6 rfl) ?_
  refine lv_iconst (v := (-1)) hx hb (fk_get fk_cX11_visit_0 7 rfl) (by decide) ?_
  subst hQ
  have hpost : XI S ∧ Fr (fun j k => 21 ≤ j ∧ j < 27 ∧ 5 ≤ k ∧ k ≤ 9) S S ∧ True := by
    exact ⟨hX, (Fr.rf : Fr (fun j k => 21 ≤ j ∧ j < 27 ∧ 5 ≤ k ∧ k ≤ 9) S S), trivial⟩
  exact W.iret (v := (-1)) hx hb hr (fun t_ ht_ hW_ => ⟨⟨(-1), S, rfl, hpost, by rw [ht_]; exact hP, va_K.moved hW_.alike hK, hD⟩, hS.F ht_⟩) hS.2.2 (fk_get fk_cX11_visit_0 8 rfl)
set_option maxHeartbeats 800000 in
set_option maxRecDepth 100000 in
theorem c_x11_saturday (l : Launch) (G : GG) (ad : Nat → Nat) (S : FS) (sz : Nat) (n : Nat) (hn : fF S (9 + 0) 3 = nI n) (hn6 : n ≤ 6) (hX : XI S) : Met l yX11_saturday (Cond.code yX11_saturday cX11_saturday 2 (some .int) :: TBL) ({ frames := 7, cells := 0, slots := 0, locals := 200 } : Room) (PcW G (wX G ad S) sz [.ref (ad 0)]) (va_Qi (fun (r : Int32) (S' : FS) => XI S' ∧ Fr (fun j k => 21 ≤ j ∧ j < 27 ∧ 5 ≤ k ∧ k ≤ 9) S S' ∧ True) (fun S' t => BW G (va_A (wX G ad S) sz) (wX G ad S') t) (va_A (wX G ad S) sz)) 0 0 (va_A (wX G ad S) sz) := by
  refine Met.ofW (cc := cX11_saturday) (maxL := 2) (ret := (some .int)) (by decide) rfl ?_
  intro p e s m args below meth c₀ s₁ B hml hv
  obtain ⟨rfl, hsz, hP, hK, hD0⟩ := hv
  have hx := B.exec
  have hb := B.bytes
  have hr := B.returns
  have hT : ∀ w ∈ TBL, w.before ([.ref (ad 0)] : List Value).toArray s = true := fun w h => atoms_spec (ws := Cond.code yX11_saturday cX11_saturday 2 (some .int) :: TBL) B.pre w (List.mem_cons_of_mem _ h)
  have hown : s.vm.findClass "LittleMore" = some m.cls := findClass_of_methodNamed B.named
  have hlocks := B.notSynchronized
  subst hsz
  have hD := hD0.self (sz := s.heap.size)
  generalize hAe : va_A (wX G ad S) s.heap.size = A at hD ⊢
  have hA : ∀ q : Nat, s.heap.size ≤ q → A q := fun q h => by rw [← hAe]; exact Or.inr h
  have hS : va_S A s.heap s.heap [] := va_S.rf
  have hP : va_P G.1 vwCl (wX G ad S) s.heap := hP
  have hl := lv_entry ([.ref (ad 0)]) (n := 2) (Nat.le_of_ble_eq_true rfl)
  rw [lg_entry_eq]
  generalize (lg_sl ([.ref (ad 0)]) ++ List.replicate (2 - (lg_sl ([.ref (ad 0)])).length) Slot.unset).toArray = ls at hl ⊢
  have hl : lv_has ls 2 [(0, .ref (ad 0))] := hl
  refine W_abs (fun Q hQ => ?_)
  generalize ([.ref (ad 0)] : List Value).toArray = args at hT hQ ⊢
  refine lv_aload_n hx hb (fk_get fk_cX11_saturday_0 0 rfl) rfl (lv_at hl 0 rfl) ?_
  refine va_get (D := G.1) (ci := 13) (v := .ref (ad (9 + 0))) (C := RX11) (T := TX11) (N := 11) hx hb hT inX11 hown hK hP 0 (ix_at (lt71 (by omega)) (cX_0 G ad S)) rfl 1 (by decide) (hT _ m2_70) (fun _ h9 => h9) rfl (fk_get fk_cX11_saturday_0 1 rfl) ?_
  have hFc := va_self hD hS hA
  refine va_calli (va_runV (As := []) (rest := []) ⟨hx, hb, hml, hown, hT⟩ (c_x7_makeSaturday l G ad S s.heap.size (0) ((by decide : 0 < 3)) (hX)) (tV 0 hT m3_202 m3_203 m3_204 m1_9 m3_205 rfl rfl (by decide +kernel) ⟨Nat.le_of_ble_eq_true rfl, Nat.le_of_ble_eq_true rfl⟩) ⟨PcW_blind, va_recv hK hP (ci := 9) (q0 := (9 + 0)) rfl (ix_at (lt71 (by omega)) (cX_shop (pk_shop (by decide : 0 < 3)))), PcW_of hP hK hD _⟩ rfl rfl hl.1 rfl (lv_room (Nat.le_of_ble_eq_true rfl)) (fk_get fk_cX11_saturday_0 2 rfl) ⟨Nat.zero_le _, Nat.zero_le _⟩) hS (fun q _ h => hFc q h) hFc (fun r_1 S_3 t_ H locs ht_ hvm_ hw_2 hB_ hz_ hk_ hS => ?_)
  obtain ⟨hP, -, hD1_⟩ := hB_
  rw [ht_] at hP
  have hD : va_D A (wX G ad S_3) := hD1_.weaken (fun k q _ h => hFc q.1 h)
  try dsimp only at hw_2
  obtain ⟨hX_4, hF_5_, hw_2⟩ := hw_2
  have hF_5 : Fr (fun j k => 21 ≤ j ∧ j < 27 ∧ 5 ≤ k ∧ k ≤ 9) S S_3 := Fr.trans (Fr.rf : Fr (fun j k => 21 ≤ j ∧ j < 27 ∧ 5 ≤ k ∧ k ≤ 9) S S) (Fr.mono hF_5_ (fun j k h => by omega))
  refine lv_istore_n (lv' := [(1, .int (r_1)), (0, .ref (ad 0))]) hx hb (fk_get fk_cX11_saturday_0 3 rfl) rfl hl (by decide) rfl (fun ls hl => ?_)
  refine lv_aload_n hx hb (fk_get fk_cX11_saturday_0 4 rfl) rfl (lv_at hl 1 rfl) ?_
  refine va_get (D := G.1) (ci := 13) (v := .ref (ad (9 + 0))) (C := RX11) (T := TX11) (N := 11) hx hb hT inX11 hown hK hP 0 (ix_at (lt71 (by omega)) (cX_0 G ad S_3)) rfl 1 (by decide) (hT _ m2_70) (fun _ h9 => h9) rfl (fk_get fk_cX11_saturday_0 5 rfl) ?_
  have hFc := va_self hD hS hA
  refine va_callv (va_runV (As := []) (rest := []) ⟨hx, hb, hml, hown, hT⟩ (c_x7_boundVisits l G ad S_3 H.size (0) ((by decide : 0 < 3)) (hX_4)) (tV 0 hT m3_194 m3_195 m3_196 m1_9 m3_197 rfl rfl (by decide +kernel) ⟨Nat.le_of_ble_eq_true rfl, Nat.le_of_ble_eq_true rfl⟩) ⟨PcW_blind, va_recv hK hP (ci := 9) (q0 := (9 + 0)) rfl (ix_at (lt71 (by omega)) (cX_shop (pk_shop (by decide : 0 < 3)))), PcW_of hP hK hD _⟩ rfl rfl hl.1 rfl (lv_room (Nat.le_of_ble_eq_true rfl)) (fk_get fk_cX11_saturday_0 6 rfl) ⟨Nat.zero_le _, Nat.zero_le _⟩) hS (fun q _ h => hFc q h) hFc (fun S_8 t_ H locs ht_ hvm_ hw_7 hB_ hz_ hk_ hS => ?_)
  obtain ⟨hP, -, hD1_⟩ := hB_
  rw [ht_] at hP
  have hD : va_D A (wX G ad S_8) := hD1_.weaken (fun k q _ h => hFc q.1 h)
  try dsimp only at hw_7
  obtain ⟨hX_9, hF_10_, hw_7⟩ := hw_7
  have hF_10 : Fr (fun j k => 21 ≤ j ∧ j < 27 ∧ 5 ≤ k ∧ k ≤ 9) S S_8 := Fr.trans hF_5 (Fr.mono hF_10_ (fun j k h => by omega))
  refine lv_iload_n hx hb (fk_get fk_cX11_saturday_0 7 rfl) rfl (lv_at hl 0 rfl) ?_
  refine lv_aload_n hx hb (fk_get fk_cX11_saturday_0 8 rfl) rfl (lv_at hl 1 rfl) ?_
  refine va_get (D := G.1) (ci := 13) (v := .ref (ad (9 + 0))) (C := RX11) (T := TX11) (N := 11) hx hb hT inX11 hown hK hP 0 (ix_at (lt71 (by omega)) (cX_0 G ad S_8)) rfl 1 (by decide) (hT _ m2_70) (fun _ h9 => h9) rfl (fk_get fk_cX11_saturday_0 9 rfl) ?_
  obtain ⟨n_11, en_11, bn_11⟩ := XI.ctr hX_9 (by decide : 0 < 3)
  refine va_get (D := G.1) (ci := 9) (v := va_rf ((fR S_8 (9 + 0) 7).map ad)) (C := RX7) (T := TX7) (N := 8) hx hb hT inX7 hown hK hP (9 + 0) (ix_at (lt71 (by omega)) (cX_shop (pk_shop (by decide : 0 < 3)))) rfl 7 (by decide) (hT _ m1_217) (fun _ h9 => h9) rfl (fk_get fk_cX11_saturday_0 10 rfl) ?_
  rw [show va_rf ((fR S_8 (9 + 0) 7).map ad) = .ref (ad n_11) from by rw [en_11]; rfl]
  refine va_get (D := G.1) (ci := 3) (v := .int (fF S_8 n_11 0)) (C := RX1) (T := TX1) (N := 4) hx hb hT inX1 hown hK hP n_11 (ix_at (bn_11).2.1 (cX_ctr (bn_11).1 (bn_11).2.2.1)) rfl 0 (by decide) (hT _ m1_114) (fun _ h9 => h9) rfl (fk_get fk_cX11_saturday_0 11 rfl) ?_
  refine lv_imul hx hb (fk_get fk_cX11_saturday_0 12 rfl) ?_
  subst hQ
  have hpost : XI S_8 ∧ Fr (fun j k => 21 ≤ j ∧ j < 27 ∧ 5 ≤ k ∧ k ≤ 9) S S_8 ∧ True := by
    exact ⟨hX_9, hF_10, trivial⟩
  exact W.iret (v := (r_1 * (fF S_8 n_11 0))) hx hb hr (fun t_ ht_ hW_ => ⟨⟨(r_1 * (fF S_8 n_11 0)), S_8, rfl, hpost, by rw [ht_]; exact hP, va_K.moved hW_.alike hK, hD⟩, hS.F ht_⟩) hS.2.2 (fk_get fk_cX11_saturday_0 13 rfl)
theorem BE.fr {P : Nat → Nat → Prop} {S S1 S2 : FS} {h o n : Nat} (b : BE S h o n S1) (f : Fr P S1 S2) (hh : h < 3) (hn : n ≤ 6) (p1 : ∀ k, 3 ≤ k → k ≤ 6 → ¬ P (9 + h) k) (p2 : ∀ c k, c < 6 → 2 ≤ k → k ≤ 9 → ¬ P (21 + 6 * h + c) k) (p3 : ∀ c, c < 6 → ¬ P (21 + 6 * h + c + 18) 99) (p4 : ¬ P (9 + h + 6) 99) (p5 : ¬ P (9 + h + 9) 99) : BE S h o n S2 := by
  obtain ⟨b1, b2, b3, b4⟩ := b
  exact ⟨fun k a c => (f.F (lt71 (by omega)) (p1 k a c)).trans (b1 k a c), fun c hc => (b2 c hc).fr f (by omega) (fun k x y => p2 c k (by omega) x y) (p3 c (by omega)), fun k hk => by rw [f.A (lt71 (by omega)) p4]; exact b3 k hk, fun k hk => by rw [f.A (lt71 (by omega)) p5]; exact b4 k hk⟩
set_option maxHeartbeats 800000 in
set_option maxRecDepth 100000 in
theorem c_x11_image (l : Launch) (G : GG) (ad : Nat → Nat) (S : FS) (sz : Nat) (n : Nat) (hn : fF S (9 + 0) 3 = nI n) (hn6 : n ≤ 6) (hX : XI S) : Met l yX11_image (Cond.code yX11_image cX11_image 1 (some .int) :: TBL) ({ frames := 4, cells := 0, slots := 0, locals := 115 } : Room) (PcW G (wX G ad S) sz [.ref (ad 0)]) (va_Qi (fun (r : Int32) (S' : FS) => XI S' ∧ Fr (fun j k => (j = 0 ∧ k = 10) ∨ (j = 9 + 1 ∧ 3 ≤ k ∧ k ≤ 7) ∨ (21 + 6 * 1 ≤ j ∧ j < 27 + 6 * 1 ∧ 2 ≤ k ∧ k ≤ 9) ∨ (39 + 6 * 1 ≤ j ∧ j < 45 + 6 * 1 ∧ k = 99) ∨ ((j = 15 + 1 ∨ j = 18 + 1) ∧ k = 99)) S S' ∧ (r = nI n ∧ fF S' 0 10 = 1 ∧ BE S 1 0 n S')) (fun S' t => BW G (va_A (wX G ad S) sz) (wX G ad S') t) (va_A (wX G ad S) sz)) 0 0 (va_A (wX G ad S) sz) := by
  refine Met.ofW (cc := cX11_image) (maxL := 1) (ret := (some .int)) (by decide) rfl ?_
  intro p e s m args below meth c₀ s₁ B hml hv
  obtain ⟨rfl, hsz, hP, hK, hD0⟩ := hv
  have hx := B.exec
  have hb := B.bytes
  have hr := B.returns
  have hT : ∀ w ∈ TBL, w.before ([.ref (ad 0)] : List Value).toArray s = true := fun w h => atoms_spec (ws := Cond.code yX11_image cX11_image 1 (some .int) :: TBL) B.pre w (List.mem_cons_of_mem _ h)
  have hown : s.vm.findClass "LittleMore" = some m.cls := findClass_of_methodNamed B.named
  have hlocks := B.notSynchronized
  subst hsz
  have hD := hD0.self (sz := s.heap.size)
  generalize hAe : va_A (wX G ad S) s.heap.size = A at hD ⊢
  have hA : ∀ q : Nat, s.heap.size ≤ q → A q := fun q h => by rw [← hAe]; exact Or.inr h
  have hS : va_S A s.heap s.heap [] := va_S.rf
  have hP : va_P G.1 vwCl (wX G ad S) s.heap := hP
  have hl := lv_entry ([.ref (ad 0)]) (n := 1) (Nat.le_of_ble_eq_true rfl)
  rw [lg_entry_eq]
  generalize (lg_sl ([.ref (ad 0)]) ++ List.replicate (1 - (lg_sl ([.ref (ad 0)])).length) Slot.unset).toArray = ls at hl ⊢
  have hl : lv_has ls 1 [(0, .ref (ad 0))] := hl
  refine W_abs (fun Q hQ => ?_)
  generalize ([.ref (ad 0)] : List Value).toArray = args at hT hQ ⊢
  refine lv_aload_n hx hb (fk_get fk_cX11_image_0 0 rfl) rfl (lv_at hl 0 rfl) ?_
  refine va_get (D := G.1) (ci := 13) (v := .ref (ad (9 + 1))) (C := RX11) (T := TX11) (N := 11) hx hb hT inX11 hown hK hP 0 (ix_at (lt71 (by omega)) (cX_0 G ad S)) rfl 2 (by decide) (hT _ m2_71) (fun _ h9 => h9) rfl (fk_get fk_cX11_image_0 1 rfl) ?_
  refine lv_aload_n hx hb (fk_get fk_cX11_image_0 2 rfl) rfl (lv_at hl 0 rfl) ?_
  refine va_get (D := G.1) (ci := 13) (v := .ref (ad (9 + 0))) (C := RX11) (T := TX11) (N := 11) hx hb hT inX11 hown hK hP 0 (ix_at (lt71 (by omega)) (cX_0 G ad S)) rfl 1 (by decide) (hT _ m2_70) (fun _ h9 => h9) rfl (fk_get fk_cX11_image_0 3 rfl) ?_
  have hFc := va_self hD hS hA
  refine va_callv (va_runV (As := [.ref (ad (9 + 0))]) (rest := []) ⟨hx, hb, hml, hown, hT⟩ (c_x7_become l G ad S s.heap.size (1) (0) (n) ((by decide : 1 < 3)) ((by decide : 0 < 3)) (by first | assumption | omega) (hn) (hn6) (hX)) (tV 1 hT m3_215 m3_216 m3_217 m1_9 m3_218 rfl rfl (by decide +kernel) ⟨Nat.le_of_ble_eq_true rfl, Nat.le_of_ble_eq_true rfl⟩) ⟨PcW_blind, va_recv hK hP (ci := 9) (q0 := (9 + 1)) rfl (ix_at (lt71 (by omega)) (cX_shop (pk_shop (by decide : 1 < 3)))), PcW_of hP hK hD _⟩ rfl rfl hl.1 rfl (lv_room (Nat.le_of_ble_eq_true rfl)) (fk_get fk_cX11_image_0 4 rfl) ⟨Nat.zero_le _, Nat.zero_le _⟩) hS (fun q _ h => hFc q h) hFc (fun S_3 t_ H locs ht_ hvm_ hw_2 hB_ hz_ hk_ hS => ?_)
  obtain ⟨hP, -, hD1_⟩ := hB_
  rw [ht_] at hP
  have hD : va_D A (wX G ad S_3) := hD1_.weaken (fun k q _ h => hFc q.1 h)
  try dsimp only at hw_2
  obtain ⟨hX_4, hF_5_, hw_2⟩ := hw_2
  have hF_5 : Fr (fun j k => (j = 0 ∧ k = 10) ∨ (j = 9 + 1 ∧ 3 ≤ k ∧ k ≤ 7) ∨ (21 + 6 * 1 ≤ j ∧ j < 27 + 6 * 1 ∧ 2 ≤ k ∧ k ≤ 9) ∨ (39 + 6 * 1 ≤ j ∧ j < 45 + 6 * 1 ∧ k = 99) ∨ ((j = 15 + 1 ∨ j = 18 + 1) ∧ k = 99)) S S_3 := Fr.trans (Fr.rf : Fr (fun j k => (j = 0 ∧ k = 10) ∨ (j = 9 + 1 ∧ 3 ≤ k ∧ k ≤ 7) ∨ (21 + 6 * 1 ≤ j ∧ j < 27 + 6 * 1 ∧ 2 ≤ k ∧ k ≤ 9) ∨ (39 + 6 * 1 ≤ j ∧ j < 45 + 6 * 1 ∧ k = 99) ∨ ((j = 15 + 1 ∨ j = 18 + 1) ∧ k = 99)) S S) (Fr.mono hF_5_ (fun j k h => by omega))
  have hff_ := hF_5_
  have hbe_ := hw_2
  have hn1_ := (hff_.F (j := 9 + 0) (k := 3) (lt71 (by omega)) (by omega)).trans hn
  refine lv_aload_n hx hb (fk_get fk_cX11_image_0 5 rfl) rfl (lv_at hl 0 rfl) ?_
  refine lv_iconst (v := 1) hx hb (fk_get fk_cX11_image_0 6 rfl) (by decide) ?_
  refine va_put (D := G.1) (ci := 13) (v := .int (1)) (ty := .boolean) (C := RX11) (T := TX11) (N := 11) hx hb hT inX11 tyX11 tyX11_ok nmX11 hown hK hP hD hS 0 (ix_at (lt71 (by omega)) (cX_0 G ad S_3)) rfl 10 (by decide) (hT _ m2_79) (fun _ h9 => h9) rfl (by decide +kernel) rfl rfl (Nat.le_of_ble_eq_true rfl) (fk_get fk_cX11_image_0 7 rfl) (fun H locs hP hD hS => ?_)
  rw [pX_main_10 (S := S_3) (1)] at hP hD
  have hX_6 : XI (setF S_3 0 10 (1)) := XI.sF hX_4 _ ⟨by omega, by omega, by omega, by omega, by omega, by omega, by omega, by omega⟩
  have hF_7 : Fr (fun j k => (j = 0 ∧ k = 10) ∨ (j = 9 + 1 ∧ 3 ≤ k ∧ k ≤ 7) ∨ (21 + 6 * 1 ≤ j ∧ j < 27 + 6 * 1 ∧ 2 ≤ k ∧ k ≤ 9) ∨ (39 + 6 * 1 ≤ j ∧ j < 45 + 6 * 1 ∧ k = 99) ∨ ((j = 15 + 1 ∨ j = 18 + 1) ∧ k = 99)) S (setF S_3 0 10 (1)) := Fr.sF hF_5 (by omega)
  refine lv_aload_n hx hb (fk_get fk_cX11_image_0 8 rfl) rfl (lv_at hl 0 rfl) ?_
  refine va_get (D := G.1) (ci := 13) (v := .ref (ad (9 + 0))) (C := RX11) (T := TX11) (N := 11) hx hb hT inX11 hown hK hP 0 (ix_at (lt71 (by omega)) (cX_0 G ad (setF S_3 0 10 (1)))) rfl 1 (by decide) (hT _ m2_70) (fun _ h9 => h9) rfl (fk_get fk_cX11_image_0 9 rfl) ?_
  refine va_get (D := G.1) (ci := 9) (v := .int (fF (setF S_3 0 10 (1)) (9 + 0) 3)) (C := RX7) (T := TX7) (N := 8) hx hb hT inX7 hown hK hP (9 + 0) (ix_at (lt71 (by omega)) (cX_shop (pk_shop (by decide : 0 < 3)))) rfl 3 (by decide) (hT _ m1_209) (fun _ h9 => h9) rfl (fk_get fk_cX11_image_0 10 rfl) ?_
  rw [show fF (setF S_3 0 10 (1)) (9 + 0) 3 = (fF S_3 (9 + 0) 3) from by simp [fF_setF, fF_setR, fF_setA, fF_setL]]
  rw [hn1_]
  subst hQ
  have hpost : XI (setF S_3 0 10 (1)) ∧ Fr (fun j k => (j = 0 ∧ k = 10) ∨ (j = 9 + 1 ∧ 3 ≤ k ∧ k ≤ 7) ∨ (21 + 6 * 1 ≤ j ∧ j < 27 + 6 * 1 ∧ 2 ≤ k ∧ k ≤ 9) ∨ (39 + 6 * 1 ≤ j ∧ j < 45 + 6 * 1 ∧ k = 99) ∨ ((j = 15 + 1 ∨ j = 18 + 1) ∧ k = 99)) S (setF S_3 0 10 (1)) ∧ (((nI n) : Int32) = nI n ∧ fF (setF S_3 0 10 (1)) 0 10 = 1 ∧ BE S 1 0 n (setF S_3 0 10 (1))) := by
    exact ⟨hX_6, hF_7, ⟨rfl, by simp [fF_setF], hbe_.fr (Fr.sF (P := fun j k => j = 0 ∧ k = 10) Fr.rf ⟨rfl, rfl⟩) (by omega) hn6 (by omega) (by omega) (by omega) (by omega) (by omega)⟩⟩
  exact W.iret (v := (nI n)) hx hb hr (fun t_ ht_ hW_ => ⟨⟨(nI n), (setF S_3 0 10 (1)), rfl, hpost, by rw [ht_]; exact hP, va_K.moved hW_.alike hK, hD⟩, hS.F ht_⟩) hS.2.2 (fk_get fk_cX11_image_0 11 rfl)
set_option maxHeartbeats 800000 in
set_option maxRecDepth 100000 in
theorem c_x11_undo (l : Launch) (G : GG) (ad : Nat → Nat) (S : FS) (sz : Nat) (n mz : Nat) (hn : fF S (9 + 0) 3 = nI n) (hn6 : n ≤ 6) (hm : fF S (9 + 1) 3 = nI mz) (hm6 : mz ≤ 6) (hX : XI S) : Met l yX11_undo (Cond.code yX11_undo cX11_undo 1 (some .int) :: TBL) ({ frames := 4, cells := 0, slots := 0, locals := 115 } : Room) (PcW G (wX G ad S) sz [.ref (ad 0)]) (va_Qi (fun (r : Int32) (S' : FS) => XI S' ∧ Fr (fun j k => (j = 9 + 0 ∧ 3 ≤ k ∧ k ≤ 7) ∨ (21 + 6 * 0 ≤ j ∧ j < 27 + 6 * 0 ∧ 2 ≤ k ∧ k ≤ 9) ∨ (39 + 6 * 0 ≤ j ∧ j < 45 + 6 * 0 ∧ k = 99) ∨ ((j = 15 + 0 ∨ j = 18 + 0) ∧ k = 99)) S S' ∧ (fF S 0 10 = 0 ∧ r = -3 ∧ S' = S ∨ ¬ fF S 0 10 = 0 ∧ r = nI mz ∧ BE S 0 1 mz S')) (fun S' t => BW G (va_A (wX G ad S) sz) (wX G ad S') t) (va_A (wX G ad S) sz)) 0 0 (va_A (wX G ad S) sz) := by
  refine Met.ofW (cc := cX11_undo) (maxL := 1) (ret := (some .int)) (by decide) rfl ?_
  intro p e s m args below meth c₀ s₁ B hml hv
  obtain ⟨rfl, hsz, hP, hK, hD0⟩ := hv
  have hx := B.exec
  have hb := B.bytes
  have hr := B.returns
  have hT : ∀ w ∈ TBL, w.before ([.ref (ad 0)] : List Value).toArray s = true := fun w h => atoms_spec (ws := Cond.code yX11_undo cX11_undo 1 (some .int) :: TBL) B.pre w (List.mem_cons_of_mem _ h)
  have hown : s.vm.findClass "LittleMore" = some m.cls := findClass_of_methodNamed B.named
  have hlocks := B.notSynchronized
  subst hsz
  have hD := hD0.self (sz := s.heap.size)
  generalize hAe : va_A (wX G ad S) s.heap.size = A at hD ⊢
  have hA : ∀ q : Nat, s.heap.size ≤ q → A q := fun q h => by rw [← hAe]; exact Or.inr h
  have hS : va_S A s.heap s.heap [] := va_S.rf
  have hP : va_P G.1 vwCl (wX G ad S) s.heap := hP
  have hl := lv_entry ([.ref (ad 0)]) (n := 1) (Nat.le_of_ble_eq_true rfl)
  rw [lg_entry_eq]
  generalize (lg_sl ([.ref (ad 0)]) ++ List.replicate (1 - (lg_sl ([.ref (ad 0)])).length) Slot.unset).toArray = ls at hl ⊢
  have hl : lv_has ls 1 [(0, .ref (ad 0))] := hl
  refine W_abs (fun Q hQ => ?_)
  generalize ([.ref (ad 0)] : List Value).toArray = args at hT hQ ⊢
  refine lv_aload_n hx hb (fk_get fk_cX11_undo_0 0 rfl) rfl (lv_at hl 0 rfl) ?_
  refine va_get (D := G.1) (ci := 13) (v := .int (fF S 0 10)) (C := RX11) (T := TX11) (N := 11) hx hb hT inX11 hown hK hP 0 (ix_at (lt71 (by omega)) (cX_0 G ad S)) rfl 10 (by decide) (hT _ m2_79) (fun _ h9 => h9) rfl (fk_get fk_cX11_undo_0 1 rfl) ?_
  refine lv_if_ne (tgt := 10) hx hb (fk_get fk_cX11_undo_0 2 rfl) (by decide) (fun c_1 => ?_) (fun c_1 => ?_)
  · refine lv_aload_n hx hb (fk_get fk_cX11_undo_0 5 rfl) rfl (lv_at hl 0 rfl) ?_
    refine va_get (D := G.1) (ci := 13) (v := .ref (ad (9 + 0))) (C := RX11) (T := TX11) (N := 11) hx hb hT inX11 hown hK hP 0 (ix_at (lt71 (by omega)) (cX_0 G ad S)) rfl 1 (by decide) (hT _ m2_70) (fun _ h9 => h9) rfl (fk_get fk_cX11_undo_0 6 rfl) ?_
    refine lv_aload_n hx hb (fk_get fk_cX11_undo_0 7 rfl) rfl (lv_at hl 0 rfl) ?_
    refine va_get (D := G.1) (ci := 13) (v := .ref (ad (9 + 1))) (C := RX11) (T := TX11) (N := 11) hx hb hT inX11 hown hK hP 0 (ix_at (lt71 (by omega)) (cX_0 G ad S)) rfl 2 (by decide) (hT _ m2_71) (fun _ h9 => h9) rfl (fk_get fk_cX11_undo_0 8 rfl) ?_
    have hFc := va_self hD hS hA
    refine va_callv (va_runV (As := [.ref (ad (9 + 1))]) (rest := []) ⟨hx, hb, hml, hown, hT⟩ (c_x7_become l G ad S s.heap.size (0) (1) (mz) ((by decide : 0 < 3)) ((by decide : 1 < 3)) (by first | assumption | omega) (hm) (hm6) (hX)) (tV 1 hT m3_215 m3_216 m3_217 m1_9 m3_218 rfl rfl (by decide +kernel) ⟨Nat.le_of_ble_eq_true rfl, Nat.le_of_ble_eq_true rfl⟩) ⟨PcW_blind, va_recv hK hP (ci := 9) (q0 := (9 + 0)) rfl (ix_at (lt71 (by omega)) (cX_shop (pk_shop (by decide : 0 < 3)))), PcW_of hP hK hD _⟩ rfl rfl hl.1 rfl (lv_room (Nat.le_of_ble_eq_true rfl)) (fk_get fk_cX11_undo_0 9 rfl) ⟨Nat.zero_le _, Nat.zero_le _⟩) hS (fun q _ h => hFc q h) hFc (fun S_4 t_ H locs ht_ hvm_ hw_3 hB_ hz_ hk_ hS => ?_)
    obtain ⟨hP, -, hD1_⟩ := hB_
    rw [ht_] at hP
    have hD : va_D A (wX G ad S_4) := hD1_.weaken (fun k q _ h => hFc q.1 h)
    try dsimp only at hw_3
    obtain ⟨hX_5, hF_6_, hw_3⟩ := hw_3
    have hF_6 : Fr (fun j k => (j = 9 + 0 ∧ 3 ≤ k ∧ k ≤ 7) ∨ (21 + 6 * 0 ≤ j ∧ j < 27 + 6 * 0 ∧ 2 ≤ k ∧ k ≤ 9) ∨ (39 + 6 * 0 ≤ j ∧ j < 45 + 6 * 0 ∧ k = 99) ∨ ((j = 15 + 0 ∨ j = 18 + 0) ∧ k = 99)) S S_4 := Fr.trans (Fr.rf : Fr (fun j k => (j = 9 + 0 ∧ 3 ≤ k ∧ k ≤ 7) ∨ (21 + 6 * 0 ≤ j ∧ j < 27 + 6 * 0 ∧ 2 ≤ k ∧ k ≤ 9) ∨ (39 + 6 * 0 ≤ j ∧ j < 45 + 6 * 0 ∧ k = 99) ∨ ((j = 15 + 0 ∨ j = 18 + 0) ∧ k = 99)) S S) (Fr.mono hF_6_ (fun j k h => by omega))
    have hff_ := hF_6_
    have hbe_ := hw_3
    have hn1_ := (hbe_.1 3 (by omega) (by omega)).trans hm
    refine lv_aload_n hx hb (fk_get fk_cX11_undo_0 10 rfl) rfl (lv_at hl 0 rfl) ?_
    refine va_get (D := G.1) (ci := 13) (v := .ref (ad (9 + 0))) (C := RX11) (T := TX11) (N := 11) hx hb hT inX11 hown hK hP 0 (ix_at (lt71 (by omega)) (cX_0 G ad S_4)) rfl 1 (by decide) (hT _ m2_70) (fun _ h9 => h9) rfl (fk_get fk_cX11_undo_0 11 rfl) ?_
    refine va_get (D := G.1) (ci := 9) (v := .int (fF S_4 (9 + 0) 3)) (C := RX7) (T := TX7) (N := 8) hx hb hT inX7 hown hK hP (9 + 0) (ix_at (lt71 (by omega)) (cX_shop (pk_shop (by decide : 0 < 3)))) rfl 3 (by decide) (hT _ m1_209) (fun _ h9 => h9) rfl (fk_get fk_cX11_undo_0 12 rfl) ?_
    rw [hn1_]
    subst hQ
    have hpost : XI S_4 ∧ Fr (fun j k => (j = 9 + 0 ∧ 3 ≤ k ∧ k ≤ 7) ∨ (21 + 6 * 0 ≤ j ∧ j < 27 + 6 * 0 ∧ 2 ≤ k ∧ k ≤ 9) ∨ (39 + 6 * 0 ≤ j ∧ j < 45 + 6 * 0 ∧ k = 99) ∨ ((j = 15 + 0 ∨ j = 18 + 0) ∧ k = 99)) S S_4 ∧ (fF S 0 10 = 0 ∧ ((nI mz) : Int32) = -3 ∧ S_4 = S ∨ ¬ fF S 0 10 = 0 ∧ ((nI mz) : Int32) = nI mz ∧ BE S 0 1 mz S_4) := by
      exact ⟨hX_5, hF_6, (by first | exact Or.inl ⟨by assumption, rfl, rfl⟩ | exact Or.inr ⟨by assumption, rfl, hbe_⟩)⟩
    exact W.iret (v := (nI mz)) hx hb hr (fun t_ ht_ hW_ => ⟨⟨(nI mz), S_4, rfl, hpost, by rw [ht_]; exact hP, va_K.moved hW_.alike hK, hD⟩, hS.F ht_⟩) hS.2.2 (fk_get fk_cX11_undo_0 13 rfl)
  refine lv_bipush (v := (-3)) hx hb (fk_get fk_cX11_undo_0 3 rfl) (by decide) ?_
  subst hQ
  have hpost : XI S ∧ Fr (fun j k => (j = 9 + 0 ∧ 3 ≤ k ∧ k ≤ 7) ∨ (21 + 6 * 0 ≤ j ∧ j < 27 + 6 * 0 ∧ 2 ≤ k ∧ k ≤ 9) ∨ (39 + 6 * 0 ≤ j ∧ j < 45 + 6 * 0 ∧ k = 99) ∨ ((j = 15 + 0 ∨ j = 18 + 0) ∧ k = 99)) S S ∧ (fF S 0 10 = 0 ∧ ((-3) : Int32) = -3 ∧ S = S ∨ ¬ fF S 0 10 = 0 ∧ ((-3) : Int32) = nI mz ∧ BE S 0 1 mz S) := by
    exact ⟨hX, (Fr.rf : Fr (fun j k => (j = 9 + 0 ∧ 3 ≤ k ∧ k ≤ 7) ∨ (21 + 6 * 0 ≤ j ∧ j < 27 + 6 * 0 ∧ 2 ≤ k ∧ k ≤ 9) ∨ (39 + 6 * 0 ≤ j ∧ j < 45 + 6 * 0 ∧ k = 99) ∨ ((j = 15 + 0 ∨ j = 18 + 0) ∧ k = 99)) S S), (by first | exact Or.inl ⟨by assumption, rfl, rfl⟩ | exact Or.inr ⟨by assumption, rfl, hbe_⟩)⟩
  exact W.iret (v := (-3)) hx hb hr (fun t_ ht_ hW_ => ⟨⟨(-3), S, rfl, hpost, by rw [ht_]; exact hP, va_K.moved hW_.alike hK, hD⟩, hS.F ht_⟩) hS.2.2 (fk_get fk_cX11_undo_0 4 rfl)
