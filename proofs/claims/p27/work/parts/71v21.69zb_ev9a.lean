set_option maxHeartbeats 800000 in
set_option maxRecDepth 100000 in
theorem c_x7_becomeX (l : Launch) (G : GG) (ad : Nat → Nat) (S : FS) (sz : Nat) (h o n : Nat) (hh : h < 3) (ho : o < 3) (hho : h ≠ o) (hn : fF S (9 + o) 3 = nI n) (hn6 : n ≤ 6) (hX : XI S) : Met l yX7_become (Cond.code yX7_become cX7_become 3 none :: TBL) ({ frames := 3, cells := 0, slots := 0, locals := 89 } : Room) (PcW G (wX G ad S) sz [.ref (ad (9 + h)), .ref (ad (9 + o))]) (va_Qv (fun (S' : FS) => XI S' ∧ Fr (fun j k => (j = 9 + h ∧ 3 ≤ k ∧ k ≤ 7) ∨ (21 + 6 * h ≤ j ∧ j < 27 + 6 * h ∧ 2 ≤ k ∧ k ≤ 9) ∨ (39 + 6 * h ≤ j ∧ j < 45 + 6 * h ∧ k = 99) ∨ ((j = 15 + h ∨ j = 18 + h) ∧ k = 99)) S S' ∧ (BE S h o n S' ∧ fR S' (9 + h) 7 = fR S (9 + o) 7)) (fun S' t => BW G (va_A (wX G ad S) sz) (wX G ad S') t) (va_A (wX G ad S) sz)) 0 0 (va_A (wX G ad S) sz) := by
  refine Met.ofW (cc := cX7_become) (maxL := 3) (ret := none) (by decide) rfl ?_
  intro p e s m args below meth c₀ s₁ B hml hv
  obtain ⟨rfl, hsz, hP, hK, hD0⟩ := hv
  have hx := B.exec
  have hb := B.bytes
  have hr := B.returns
  have hT : ∀ w ∈ TBL, w.before ([.ref (ad (9 + h)), .ref (ad (9 + o))] : List Value).toArray s = true := fun w h => atoms_spec (ws := Cond.code yX7_become cX7_become 3 none :: TBL) B.pre w (List.mem_cons_of_mem _ h)
  have hown : s.vm.findClass "LittleMore$Shop" = some m.cls := findClass_of_methodNamed B.named
  have hlocks := B.notSynchronized
  subst hsz
  have hD := hD0.self (sz := s.heap.size)
  generalize hAe : va_A (wX G ad S) s.heap.size = A at hD ⊢
  have hA : ∀ q : Nat, s.heap.size ≤ q → A q := fun q h => by rw [← hAe]; exact Or.inr h
  have hS : va_S A s.heap s.heap [] := va_S.rf
  have hP : va_P G.1 vwCl (wX G ad S) s.heap := hP
  have hl := lv_entry ([.ref (ad (9 + h)), .ref (ad (9 + o))]) (n := 3) (Nat.le_of_ble_eq_true rfl)
  rw [lg_entry_eq]
  generalize (lg_sl ([.ref (ad (9 + h)), .ref (ad (9 + o))]) ++ List.replicate (3 - (lg_sl ([.ref (ad (9 + h)), .ref (ad (9 + o))])).length) Slot.unset).toArray = ls at hl ⊢
  have hl : lv_has ls 3 [(0, .ref (ad (9 + h))), (1, .ref (ad (9 + o)))] := hl
  refine W_abs (fun Q hQ => ?_)
  generalize ([.ref (ad (9 + h)), .ref (ad (9 + o))] : List Value).toArray = args at hT hQ ⊢
  refine lv_iconst (v := 0) hx hb (fk_get fk_cX7_become_0 0 rfl) (by decide) ?_
  refine lv_istore_n (lv' := [(2, .int (0)), (0, .ref (ad (9 + h))), (1, .ref (ad (9 + o)))]) hx hb (fk_get fk_cX7_become_0 1 rfl) rfl hl (by decide) rfl (fun ls hl => ?_)
  have lp_1 : ∀ (fu : Nat) (c : Nat) (SL2 : FS) (H_3 : Heap) (locs_4 : List Loc) (ls : Array Slot),  (XI SL2) → (Fr (fun j k => (j = 9 + h ∧ 3 ≤ k ∧ k ≤ 7) ∨ (21 + 6 * h ≤ j ∧ j < 27 + 6 * h ∧ 2 ≤ k ∧ k ≤ 9) ∨ (39 + 6 * h ≤ j ∧ j < 45 + 6 * h ∧ k = 99) ∨ ((j = 15 + h ∨ j = 18 + h) ∧ k = 99)) S SL2) → (c ≤ n) → (n < c + fu) → (fF SL2 (9 + o) 3 = nI n) → (Fr (fun j k => (21 + 6 * h ≤ j ∧ j < 27 + 6 * h ∧ 2 ≤ k ∧ k ≤ 9) ∨ (39 + 6 * h ≤ j ∧ j < 45 + 6 * h ∧ k = 99)) S SL2) → (∀ c', c' < c → CE S (21 + 6 * h + c') (21 + 6 * o + c') SL2) → va_P G.1 vwCl (wX G ad SL2) H_3 → va_D A (wX G ad SL2) → va_S A s.heap H_3 locs_4 → lv_has ls 3 [(2, .int ((nI c))), (0, .ref (ad (9 + h))), (1, .ref (ad (9 + o)))] → W p l e ({ frames := 3, cells := 0, slots := 0, locals := 89 } : Room) s m args below meth c₀ H_3 locs_4 0 0 Q (F0 m 2 ls []) := by
    intro fu
    induction fu with
    | zero =>
      intro c SL2 H_3 locs_4 ls hXl2 hFl2 hk hf hn2 hF2 hC hP hD hS hl
      exact absurd hf (by omega)
    | succ fu ih =>
      intro c SL2 H_3 locs_4 ls hXl2 hFl2 hk hf hn2 hF2 hC hP hD hS hl
      refine lv_iload_n hx hb (fk_get fk_cX7_become_0 2 rfl) rfl (lv_at hl 0 rfl) ?_
      refine lv_aload_n hx hb (fk_get fk_cX7_become_0 3 rfl) rfl (lv_at hl 2 rfl) ?_
      refine va_get (D := G.1) (ci := 9) (v := .int (fF SL2 (9 + o) 3)) (C := RX7) (T := TX7) (N := 8) hx hb hT inX7 hown hK hP (9 + o) (ix_at (lt71 (by omega)) (cX_shop (pk_shop ho))) rfl 3 (by decide) (hT _ m1_208) (fun _ h9 => h9) rfl (fk_get fk_cX7_become_0 4 rfl) ?_
      rw [hn2]
      refine lv_icmp_ge (tgt := 31) hx hb (fk_get fk_cX7_become_0 5 rfl) (by decide) (fun c_5 => ?_) (fun c_5 => ?_)
      · have q_c_5 : n ≤ c := ci_le (a := n) (b := c) (by omega) (by omega) c_5
        refine lv_aload_n hx hb (fk_get fk_cX7_become_0 17 rfl) rfl (lv_at hl 2 rfl) ?_
        refine va_get (D := G.1) (ci := 9) (v := .ref (ad (9 + o + 6))) (C := RX7) (T := TX7) (N := 8) hx hb hT inX7 hown hK hP (9 + o) (ix_at (lt71 (by omega)) (cX_shop (pk_shop ho))) rfl 1 (by decide) (hT _ m1_204) (fun _ h9 => h9) rfl (fk_get fk_cX7_become_0 18 rfl) ?_
        refine lv_iconst (v := 0) hx hb (fk_get fk_cX7_become_0 19 rfl) (by decide) ?_
        refine lv_aload_n hx hb (fk_get fk_cX7_become_0 20 rfl) rfl (lv_at hl 1 rfl) ?_
        refine va_get (D := G.1) (ci := 9) (v := .ref (ad (9 + h + 6))) (C := RX7) (T := TX7) (N := 8) hx hb hT inX7 hown hK hP (9 + h) (ix_at (lt71 (by omega)) (cX_shop (pk_shop hh))) rfl 1 (by decide) (hT _ m1_204) (fun _ h9 => h9) rfl (fk_get fk_cX7_become_0 21 rfl) ?_
        refine lv_iconst (v := 0) hx hb (fk_get fk_cX7_become_0 22 rfl) (by decide) ?_
        refine lv_iconst (v := 4) hx hb (fk_get fk_cX7_become_0 23 rfl) (by decide) ?_
        refine va_copyi hx hb (by rw [hml]; exact hl.1.symm) hown (hT _ m3_224) (hT _ m3_152) (hT _ m3_151) (hT _ m1_24) hK hP hD hS (9 + o + 6) (9 + h + 6) 0 0 (ix_at (lt71 (by omega)) (cX_arr (Or.inl ⟨rfl, rfl, Or.inl (pk_sn ho)⟩))) (ix_at (lt71 (by omega)) (cX_arr (Or.inl ⟨rfl, rfl, Or.inl (pk_sn hh)⟩))) rfl rfl rfl (by decide) (by decide) (by decide) (by decide) (by decide) (fun _ _ => rfl) (Nat.le_of_ble_eq_true rfl) (Nat.le_of_ble_eq_true rfl) (fk_get fk_cX7_become_0 24 rfl) (fun H locs hP hD hS => ?_)
        rw [pX_arr (G := G) (ad := ad) (S := SL2) (lt71 (by omega)) (Or.inl ⟨rfl, rfl, Or.inl (pk_sn hh)⟩) (va_cpy (fA SL2 (9 + o + 6)) (fA SL2 (9 + h + 6)) (0 : Int32).toNatClampNeg (0 : Int32).toNatClampNeg (4 : Int32).toNatClampNeg)] at hP hD
        have hX_6 : XI (setA SL2 (9 + h + 6) (va_cpy (fA SL2 (9 + o + 6)) (fA SL2 (9 + h + 6)) (0 : Int32).toNatClampNeg (0 : Int32).toNatClampNeg (4 : Int32).toNatClampNeg)) := XI.sA hXl2 _ (by omega)
        have hF_7 : Fr (fun j k => (j = 9 + h ∧ 3 ≤ k ∧ k ≤ 7) ∨ (21 + 6 * h ≤ j ∧ j < 27 + 6 * h ∧ 2 ≤ k ∧ k ≤ 9) ∨ (39 + 6 * h ≤ j ∧ j < 45 + 6 * h ∧ k = 99) ∨ ((j = 15 + h ∨ j = 18 + h) ∧ k = 99)) S (setA SL2 (9 + h + 6) (va_cpy (fA SL2 (9 + o + 6)) (fA SL2 (9 + h + 6)) (0 : Int32).toNatClampNeg (0 : Int32).toNatClampNeg (4 : Int32).toNatClampNeg)) := Fr.sA hFl2 (by omega)
        refine lv_aload_n hx hb (fk_get fk_cX7_become_0 25 rfl) rfl (lv_at hl 2 rfl) ?_
        refine va_get (D := G.1) (ci := 9) (v := .ref (ad (9 + o + 9))) (C := RX7) (T := TX7) (N := 8) hx hb hT inX7 hown hK hP (9 + o) (ix_at (lt71 (by omega)) (cX_shop (pk_shop ho))) rfl 2 (by decide) (hT _ m1_206) (fun _ h9 => h9) rfl (fk_get fk_cX7_become_0 26 rfl) ?_
        refine lv_iconst (v := 0) hx hb (fk_get fk_cX7_become_0 27 rfl) (by decide) ?_
        refine lv_aload_n hx hb (fk_get fk_cX7_become_0 28 rfl) rfl (lv_at hl 1 rfl) ?_
        refine va_get (D := G.1) (ci := 9) (v := .ref (ad (9 + h + 9))) (C := RX7) (T := TX7) (N := 8) hx hb hT inX7 hown hK hP (9 + h) (ix_at (lt71 (by omega)) (cX_shop (pk_shop hh))) rfl 2 (by decide) (hT _ m1_206) (fun _ h9 => h9) rfl (fk_get fk_cX7_become_0 29 rfl) ?_
        refine lv_iconst (v := 0) hx hb (fk_get fk_cX7_become_0 30 rfl) (by decide) ?_
        refine lv_bipush (v := 8) hx hb (fk_get fk_cX7_become_0 31 rfl) (by decide) ?_
        refine va_copyi hx hb (by rw [hml]; exact hl.1.symm) hown (hT _ m3_224) (hT _ m3_152) (hT _ m3_151) (hT _ m1_24) hK hP hD hS (9 + o + 9) (9 + h + 9) 0 0 (ix_at (lt71 (by omega)) (cX_arr (Or.inr (Or.inl ⟨rfl, rfl, pk_bk ho⟩)))) (ix_at (lt71 (by omega)) (cX_arr (Or.inr (Or.inl ⟨rfl, rfl, pk_bk hh⟩)))) rfl rfl rfl (by decide) (by decide) (by decide) (by decide) (by decide) (fun _ _ => rfl) (Nat.le_of_ble_eq_true rfl) (Nat.le_of_ble_eq_true rfl) (fk_get fk_cX7_become_1 0 rfl) (fun H locs hP hD hS => ?_)
        rw [pX_arr (G := G) (ad := ad) (S := (setA SL2 (9 + h + 6) (va_cpy (fA SL2 (9 + o + 6)) (fA SL2 (9 + h + 6)) (0 : Int32).toNatClampNeg (0 : Int32).toNatClampNeg (4 : Int32).toNatClampNeg))) (lt71 (by omega)) (Or.inr (Or.inl ⟨rfl, rfl, pk_bk hh⟩)) (va_cpy (fA (setA SL2 (9 + h + 6) (va_cpy (fA SL2 (9 + o + 6)) (fA SL2 (9 + h + 6)) (0 : Int32).toNatClampNeg (0 : Int32).toNatClampNeg (4 : Int32).toNatClampNeg)) (9 + o + 9)) (fA (setA SL2 (9 + h + 6) (va_cpy (fA SL2 (9 + o + 6)) (fA SL2 (9 + h + 6)) (0 : Int32).toNatClampNeg (0 : Int32).toNatClampNeg (4 : Int32).toNatClampNeg)) (9 + h + 9)) (0 : Int32).toNatClampNeg (0 : Int32).toNatClampNeg (8 : Int32).toNatClampNeg)] at hP hD
        have hX_8 : XI (setA (setA SL2 (9 + h + 6) (va_cpy (fA SL2 (9 + o + 6)) (fA SL2 (9 + h + 6)) (0 : Int32).toNatClampNeg (0 : Int32).toNatClampNeg (4 : Int32).toNatClampNeg)) (9 + h + 9) (va_cpy (fA (setA SL2 (9 + h + 6) (va_cpy (fA SL2 (9 + o + 6)) (fA SL2 (9 + h + 6)) (0 : Int32).toNatClampNeg (0 : Int32).toNatClampNeg (4 : Int32).toNatClampNeg)) (9 + o + 9)) (fA (setA SL2 (9 + h + 6) (va_cpy (fA SL2 (9 + o + 6)) (fA SL2 (9 + h + 6)) (0 : Int32).toNatClampNeg (0 : Int32).toNatClampNeg (4 : Int32).toNatClampNeg)) (9 + h + 9)) (0 : Int32).toNatClampNeg (0 : Int32).toNatClampNeg (8 : Int32).toNatClampNeg)) := XI.sA hX_6 _ (by omega)
        have hF_9 : Fr (fun j k => (j = 9 + h ∧ 3 ≤ k ∧ k ≤ 7) ∨ (21 + 6 * h ≤ j ∧ j < 27 + 6 * h ∧ 2 ≤ k ∧ k ≤ 9) ∨ (39 + 6 * h ≤ j ∧ j < 45 + 6 * h ∧ k = 99) ∨ ((j = 15 + h ∨ j = 18 + h) ∧ k = 99)) S (setA (setA SL2 (9 + h + 6) (va_cpy (fA SL2 (9 + o + 6)) (fA SL2 (9 + h + 6)) (0 : Int32).toNatClampNeg (0 : Int32).toNatClampNeg (4 : Int32).toNatClampNeg)) (9 + h + 9) (va_cpy (fA (setA SL2 (9 + h + 6) (va_cpy (fA SL2 (9 + o + 6)) (fA SL2 (9 + h + 6)) (0 : Int32).toNatClampNeg (0 : Int32).toNatClampNeg (4 : Int32).toNatClampNeg)) (9 + o + 9)) (fA (setA SL2 (9 + h + 6) (va_cpy (fA SL2 (9 + o + 6)) (fA SL2 (9 + h + 6)) (0 : Int32).toNatClampNeg (0 : Int32).toNatClampNeg (4 : Int32).toNatClampNeg)) (9 + h + 9)) (0 : Int32).toNatClampNeg (0 : Int32).toNatClampNeg (8 : Int32).toNatClampNeg)) := Fr.sA hF_7 (by omega)
        refine lv_aload_n hx hb (fk_get fk_cX7_become_1 1 rfl) rfl (lv_at hl 1 rfl) ?_
        refine lv_aload_n hx hb (fk_get fk_cX7_become_1 2 rfl) rfl (lv_at hl 2 rfl) ?_
        refine va_get (D := G.1) (ci := 9) (v := .int (fF (setA (setA SL2 (9 + h + 6) (va_cpy (fA SL2 (9 + o + 6)) (fA SL2 (9 + h + 6)) (0 : Int32).toNatClampNeg (0 : Int32).toNatClampNeg (4 : Int32).toNatClampNeg)) (9 + h + 9) (va_cpy (fA (setA SL2 (9 + h + 6) (va_cpy (fA SL2 (9 + o + 6)) (fA SL2 (9 + h + 6)) (0 : Int32).toNatClampNeg (0 : Int32).toNatClampNeg (4 : Int32).toNatClampNeg)) (9 + o + 9)) (fA (setA SL2 (9 + h + 6) (va_cpy (fA SL2 (9 + o + 6)) (fA SL2 (9 + h + 6)) (0 : Int32).toNatClampNeg (0 : Int32).toNatClampNeg (4 : Int32).toNatClampNeg)) (9 + h + 9)) (0 : Int32).toNatClampNeg (0 : Int32).toNatClampNeg (8 : Int32).toNatClampNeg)) (9 + o) 3)) (C := RX7) (T := TX7) (N := 8) hx hb hT inX7 hown hK hP (9 + o) (ix_at (lt71 (by omega)) (cX_shop (pk_shop ho))) rfl 3 (by decide) (hT _ m1_208) (fun _ h9 => h9) rfl (fk_get fk_cX7_become_1 3 rfl) ?_
        rw [show fF (setA (setA SL2 (9 + h + 6) (va_cpy (fA SL2 (9 + o + 6)) (fA SL2 (9 + h + 6)) (0 : Int32).toNatClampNeg (0 : Int32).toNatClampNeg (4 : Int32).toNatClampNeg)) (9 + h + 9) (va_cpy (fA (setA SL2 (9 + h + 6) (va_cpy (fA SL2 (9 + o + 6)) (fA SL2 (9 + h + 6)) (0 : Int32).toNatClampNeg (0 : Int32).toNatClampNeg (4 : Int32).toNatClampNeg)) (9 + o + 9)) (fA (setA SL2 (9 + h + 6) (va_cpy (fA SL2 (9 + o + 6)) (fA SL2 (9 + h + 6)) (0 : Int32).toNatClampNeg (0 : Int32).toNatClampNeg (4 : Int32).toNatClampNeg)) (9 + h + 9)) (0 : Int32).toNatClampNeg (0 : Int32).toNatClampNeg (8 : Int32).toNatClampNeg)) (9 + o) 3 = (fF SL2 (9 + o) 3) from by simp [fF_setF, fF_setR, fF_setA, fF_setL]]
        rw [hn2]
        refine va_put (D := G.1) (ci := 9) (v := .int ((nI n))) (ty := .int) (C := RX7) (T := TX7) (N := 8) hx hb hT inX7 tyX7 tyX7_ok nmX7 hown hK hP hD hS (9 + h) (ix_at (lt71 (by omega)) (cX_shop (pk_shop hh))) rfl 3 (by decide) (hT _ m1_208) (fun _ h9 => h9) rfl (by decide +kernel) rfl rfl (Nat.le_of_ble_eq_true rfl) (fk_get fk_cX7_become_1 4 rfl) (fun H locs hP hD hS => ?_)
        rw [pX_shop_3 (S := (setA (setA SL2 (9 + h + 6) (va_cpy (fA SL2 (9 + o + 6)) (fA SL2 (9 + h + 6)) (0 : Int32).toNatClampNeg (0 : Int32).toNatClampNeg (4 : Int32).toNatClampNeg)) (9 + h + 9) (va_cpy (fA (setA SL2 (9 + h + 6) (va_cpy (fA SL2 (9 + o + 6)) (fA SL2 (9 + h + 6)) (0 : Int32).toNatClampNeg (0 : Int32).toNatClampNeg (4 : Int32).toNatClampNeg)) (9 + o + 9)) (fA (setA SL2 (9 + h + 6) (va_cpy (fA SL2 (9 + o + 6)) (fA SL2 (9 + h + 6)) (0 : Int32).toNatClampNeg (0 : Int32).toNatClampNeg (4 : Int32).toNatClampNeg)) (9 + h + 9)) (0 : Int32).toNatClampNeg (0 : Int32).toNatClampNeg (8 : Int32).toNatClampNeg))) (lt71 (by omega)) (pk_shop hh) ((nI n))] at hP hD
        have hX_10 : XI (setF (setA (setA SL2 (9 + h + 6) (va_cpy (fA SL2 (9 + o + 6)) (fA SL2 (9 + h + 6)) (0 : Int32).toNatClampNeg (0 : Int32).toNatClampNeg (4 : Int32).toNatClampNeg)) (9 + h + 9) (va_cpy (fA (setA SL2 (9 + h + 6) (va_cpy (fA SL2 (9 + o + 6)) (fA SL2 (9 + h + 6)) (0 : Int32).toNatClampNeg (0 : Int32).toNatClampNeg (4 : Int32).toNatClampNeg)) (9 + o + 9)) (fA (setA SL2 (9 + h + 6) (va_cpy (fA SL2 (9 + o + 6)) (fA SL2 (9 + h + 6)) (0 : Int32).toNatClampNeg (0 : Int32).toNatClampNeg (4 : Int32).toNatClampNeg)) (9 + h + 9)) (0 : Int32).toNatClampNeg (0 : Int32).toNatClampNeg (8 : Int32).toNatClampNeg)) (9 + h) 3 ((nI n))) := XI.sz (n := n) hX_8 hh (by omega)
        have hF_11 : Fr (fun j k => (j = 9 + h ∧ 3 ≤ k ∧ k ≤ 7) ∨ (21 + 6 * h ≤ j ∧ j < 27 + 6 * h ∧ 2 ≤ k ∧ k ≤ 9) ∨ (39 + 6 * h ≤ j ∧ j < 45 + 6 * h ∧ k = 99) ∨ ((j = 15 + h ∨ j = 18 + h) ∧ k = 99)) S (setF (setA (setA SL2 (9 + h + 6) (va_cpy (fA SL2 (9 + o + 6)) (fA SL2 (9 + h + 6)) (0 : Int32).toNatClampNeg (0 : Int32).toNatClampNeg (4 : Int32).toNatClampNeg)) (9 + h + 9) (va_cpy (fA (setA SL2 (9 + h + 6) (va_cpy (fA SL2 (9 + o + 6)) (fA SL2 (9 + h + 6)) (0 : Int32).toNatClampNeg (0 : Int32).toNatClampNeg (4 : Int32).toNatClampNeg)) (9 + o + 9)) (fA (setA SL2 (9 + h + 6) (va_cpy (fA SL2 (9 + o + 6)) (fA SL2 (9 + h + 6)) (0 : Int32).toNatClampNeg (0 : Int32).toNatClampNeg (4 : Int32).toNatClampNeg)) (9 + h + 9)) (0 : Int32).toNatClampNeg (0 : Int32).toNatClampNeg (8 : Int32).toNatClampNeg)) (9 + h) 3 ((nI n))) := Fr.sF hF_9 (by omega)
        refine lv_aload_n hx hb (fk_get fk_cX7_become_1 5 rfl) rfl (lv_at hl 1 rfl) ?_
        refine lv_aload_n hx hb (fk_get fk_cX7_become_1 6 rfl) rfl (lv_at hl 2 rfl) ?_
        refine va_get (D := G.1) (ci := 9) (v := .int (fF (setF (setA (setA SL2 (9 + h + 6) (va_cpy (fA SL2 (9 + o + 6)) (fA SL2 (9 + h + 6)) (0 : Int32).toNatClampNeg (0 : Int32).toNatClampNeg (4 : Int32).toNatClampNeg)) (9 + h + 9) (va_cpy (fA (setA SL2 (9 + h + 6) (va_cpy (fA SL2 (9 + o + 6)) (fA SL2 (9 + h + 6)) (0 : Int32).toNatClampNeg (0 : Int32).toNatClampNeg (4 : Int32).toNatClampNeg)) (9 + o + 9)) (fA (setA SL2 (9 + h + 6) (va_cpy (fA SL2 (9 + o + 6)) (fA SL2 (9 + h + 6)) (0 : Int32).toNatClampNeg (0 : Int32).toNatClampNeg (4 : Int32).toNatClampNeg)) (9 + h + 9)) (0 : Int32).toNatClampNeg (0 : Int32).toNatClampNeg (8 : Int32).toNatClampNeg)) (9 + h) 3 ((nI n))) (9 + o) 4)) (C := RX7) (T := TX7) (N := 8) hx hb hT inX7 hown hK hP (9 + o) (ix_at (lt71 (by omega)) (cX_shop (pk_shop ho))) rfl 4 (by decide) (hT _ m1_210) (fun _ h9 => h9) rfl (fk_get fk_cX7_become_1 7 rfl) ?_
        rw [show fF (setF (setA (setA SL2 (9 + h + 6) (va_cpy (fA SL2 (9 + o + 6)) (fA SL2 (9 + h + 6)) (0 : Int32).toNatClampNeg (0 : Int32).toNatClampNeg (4 : Int32).toNatClampNeg)) (9 + h + 9) (va_cpy (fA (setA SL2 (9 + h + 6) (va_cpy (fA SL2 (9 + o + 6)) (fA SL2 (9 + h + 6)) (0 : Int32).toNatClampNeg (0 : Int32).toNatClampNeg (4 : Int32).toNatClampNeg)) (9 + o + 9)) (fA (setA SL2 (9 + h + 6) (va_cpy (fA SL2 (9 + o + 6)) (fA SL2 (9 + h + 6)) (0 : Int32).toNatClampNeg (0 : Int32).toNatClampNeg (4 : Int32).toNatClampNeg)) (9 + h + 9)) (0 : Int32).toNatClampNeg (0 : Int32).toNatClampNeg (8 : Int32).toNatClampNeg)) (9 + h) 3 ((nI n))) (9 + o) 4 = (fF SL2 (9 + o) 4) from by simp [fF_setF, fF_setR, fF_setA, fF_setL]]
        obtain ⟨n_12, en_12, bn_12⟩ := XI.seen hXl2 ho
        rw [en_12]
        refine va_put (D := G.1) (ci := 9) (v := .int ((nI n_12))) (ty := .int) (C := RX7) (T := TX7) (N := 8) hx hb hT inX7 tyX7 tyX7_ok nmX7 hown hK hP hD hS (9 + h) (ix_at (lt71 (by omega)) (cX_shop (pk_shop hh))) rfl 4 (by decide) (hT _ m1_210) (fun _ h9 => h9) rfl (by decide +kernel) rfl rfl (Nat.le_of_ble_eq_true rfl) (fk_get fk_cX7_become_1 8 rfl) (fun H locs hP hD hS => ?_)
        rw [pX_shop_4 (S := (setF (setA (setA SL2 (9 + h + 6) (va_cpy (fA SL2 (9 + o + 6)) (fA SL2 (9 + h + 6)) (0 : Int32).toNatClampNeg (0 : Int32).toNatClampNeg (4 : Int32).toNatClampNeg)) (9 + h + 9) (va_cpy (fA (setA SL2 (9 + h + 6) (va_cpy (fA SL2 (9 + o + 6)) (fA SL2 (9 + h + 6)) (0 : Int32).toNatClampNeg (0 : Int32).toNatClampNeg (4 : Int32).toNatClampNeg)) (9 + o + 9)) (fA (setA SL2 (9 + h + 6) (va_cpy (fA SL2 (9 + o + 6)) (fA SL2 (9 + h + 6)) (0 : Int32).toNatClampNeg (0 : Int32).toNatClampNeg (4 : Int32).toNatClampNeg)) (9 + h + 9)) (0 : Int32).toNatClampNeg (0 : Int32).toNatClampNeg (8 : Int32).toNatClampNeg)) (9 + h) 3 ((nI n)))) (lt71 (by omega)) (pk_shop hh) ((nI n_12))] at hP hD
        have hX_13 : XI (setF (setF (setA (setA SL2 (9 + h + 6) (va_cpy (fA SL2 (9 + o + 6)) (fA SL2 (9 + h + 6)) (0 : Int32).toNatClampNeg (0 : Int32).toNatClampNeg (4 : Int32).toNatClampNeg)) (9 + h + 9) (va_cpy (fA (setA SL2 (9 + h + 6) (va_cpy (fA SL2 (9 + o + 6)) (fA SL2 (9 + h + 6)) (0 : Int32).toNatClampNeg (0 : Int32).toNatClampNeg (4 : Int32).toNatClampNeg)) (9 + o + 9)) (fA (setA SL2 (9 + h + 6) (va_cpy (fA SL2 (9 + o + 6)) (fA SL2 (9 + h + 6)) (0 : Int32).toNatClampNeg (0 : Int32).toNatClampNeg (4 : Int32).toNatClampNeg)) (9 + h + 9)) (0 : Int32).toNatClampNeg (0 : Int32).toNatClampNeg (8 : Int32).toNatClampNeg)) (9 + h) 3 ((nI n))) (9 + h) 4 ((nI n_12))) := XI.se (n := n_12) hX_10 hh (by omega)
        have hF_14 : Fr (fun j k => (j = 9 + h ∧ 3 ≤ k ∧ k ≤ 7) ∨ (21 + 6 * h ≤ j ∧ j < 27 + 6 * h ∧ 2 ≤ k ∧ k ≤ 9) ∨ (39 + 6 * h ≤ j ∧ j < 45 + 6 * h ∧ k = 99) ∨ ((j = 15 + h ∨ j = 18 + h) ∧ k = 99)) S (setF (setF (setA (setA SL2 (9 + h + 6) (va_cpy (fA SL2 (9 + o + 6)) (fA SL2 (9 + h + 6)) (0 : Int32).toNatClampNeg (0 : Int32).toNatClampNeg (4 : Int32).toNatClampNeg)) (9 + h + 9) (va_cpy (fA (setA SL2 (9 + h + 6) (va_cpy (fA SL2 (9 + o + 6)) (fA SL2 (9 + h + 6)) (0 : Int32).toNatClampNeg (0 : Int32).toNatClampNeg (4 : Int32).toNatClampNeg)) (9 + o + 9)) (fA (setA SL2 (9 + h + 6) (va_cpy (fA SL2 (9 + o + 6)) (fA SL2 (9 + h + 6)) (0 : Int32).toNatClampNeg (0 : Int32).toNatClampNeg (4 : Int32).toNatClampNeg)) (9 + h + 9)) (0 : Int32).toNatClampNeg (0 : Int32).toNatClampNeg (8 : Int32).toNatClampNeg)) (9 + h) 3 ((nI n))) (9 + h) 4 ((nI n_12))) := Fr.sF hF_11 (by omega)
        refine lv_aload_n hx hb (fk_get fk_cX7_become_1 9 rfl) rfl (lv_at hl 1 rfl) ?_
        refine lv_aload_n hx hb (fk_get fk_cX7_become_1 10 rfl) rfl (lv_at hl 2 rfl) ?_
        refine va_get (D := G.1) (ci := 9) (v := .int (fF (setF (setF (setA (setA SL2 (9 + h + 6) (va_cpy (fA SL2 (9 + o + 6)) (fA SL2 (9 + h + 6)) (0 : Int32).toNatClampNeg (0 : Int32).toNatClampNeg (4 : Int32).toNatClampNeg)) (9 + h + 9) (va_cpy (fA (setA SL2 (9 + h + 6) (va_cpy (fA SL2 (9 + o + 6)) (fA SL2 (9 + h + 6)) (0 : Int32).toNatClampNeg (0 : Int32).toNatClampNeg (4 : Int32).toNatClampNeg)) (9 + o + 9)) (fA (setA SL2 (9 + h + 6) (va_cpy (fA SL2 (9 + o + 6)) (fA SL2 (9 + h + 6)) (0 : Int32).toNatClampNeg (0 : Int32).toNatClampNeg (4 : Int32).toNatClampNeg)) (9 + h + 9)) (0 : Int32).toNatClampNeg (0 : Int32).toNatClampNeg (8 : Int32).toNatClampNeg)) (9 + h) 3 ((nI n))) (9 + h) 4 ((nI n_12))) (9 + o) 5)) (C := RX7) (T := TX7) (N := 8) hx hb hT inX7 hown hK hP (9 + o) (ix_at (lt71 (by omega)) (cX_shop (pk_shop ho))) rfl 5 (by decide) (hT _ m1_212) (fun _ h9 => h9) rfl (fk_get fk_cX7_become_1 11 rfl) ?_
        rw [show fF (setF (setF (setA (setA SL2 (9 + h + 6) (va_cpy (fA SL2 (9 + o + 6)) (fA SL2 (9 + h + 6)) (0 : Int32).toNatClampNeg (0 : Int32).toNatClampNeg (4 : Int32).toNatClampNeg)) (9 + h + 9) (va_cpy (fA (setA SL2 (9 + h + 6) (va_cpy (fA SL2 (9 + o + 6)) (fA SL2 (9 + h + 6)) (0 : Int32).toNatClampNeg (0 : Int32).toNatClampNeg (4 : Int32).toNatClampNeg)) (9 + o + 9)) (fA (setA SL2 (9 + h + 6) (va_cpy (fA SL2 (9 + o + 6)) (fA SL2 (9 + h + 6)) (0 : Int32).toNatClampNeg (0 : Int32).toNatClampNeg (4 : Int32).toNatClampNeg)) (9 + h + 9)) (0 : Int32).toNatClampNeg (0 : Int32).toNatClampNeg (8 : Int32).toNatClampNeg)) (9 + h) 3 ((nI n))) (9 + h) 4 ((nI n_12))) (9 + o) 5 = (fF SL2 (9 + o) 5) from by simp [fF_setF, fF_setR, fF_setA, fF_setL]]
        obtain ⟨n_15, en_15, bn_15⟩ := XI.book hXl2 ho
        rw [en_15]
        refine va_put (D := G.1) (ci := 9) (v := .int ((nI n_15))) (ty := .int) (C := RX7) (T := TX7) (N := 8) hx hb hT inX7 tyX7 tyX7_ok nmX7 hown hK hP hD hS (9 + h) (ix_at (lt71 (by omega)) (cX_shop (pk_shop hh))) rfl 5 (by decide) (hT _ m1_212) (fun _ h9 => h9) rfl (by decide +kernel) rfl rfl (Nat.le_of_ble_eq_true rfl) (fk_get fk_cX7_become_1 12 rfl) (fun H locs hP hD hS => ?_)
        rw [pX_shop_5 (S := (setF (setF (setA (setA SL2 (9 + h + 6) (va_cpy (fA SL2 (9 + o + 6)) (fA SL2 (9 + h + 6)) (0 : Int32).toNatClampNeg (0 : Int32).toNatClampNeg (4 : Int32).toNatClampNeg)) (9 + h + 9) (va_cpy (fA (setA SL2 (9 + h + 6) (va_cpy (fA SL2 (9 + o + 6)) (fA SL2 (9 + h + 6)) (0 : Int32).toNatClampNeg (0 : Int32).toNatClampNeg (4 : Int32).toNatClampNeg)) (9 + o + 9)) (fA (setA SL2 (9 + h + 6) (va_cpy (fA SL2 (9 + o + 6)) (fA SL2 (9 + h + 6)) (0 : Int32).toNatClampNeg (0 : Int32).toNatClampNeg (4 : Int32).toNatClampNeg)) (9 + h + 9)) (0 : Int32).toNatClampNeg (0 : Int32).toNatClampNeg (8 : Int32).toNatClampNeg)) (9 + h) 3 ((nI n))) (9 + h) 4 ((nI n_12)))) (lt71 (by omega)) (pk_shop hh) ((nI n_15))] at hP hD
        have hX_16 : XI (setF (setF (setF (setA (setA SL2 (9 + h + 6) (va_cpy (fA SL2 (9 + o + 6)) (fA SL2 (9 + h + 6)) (0 : Int32).toNatClampNeg (0 : Int32).toNatClampNeg (4 : Int32).toNatClampNeg)) (9 + h + 9) (va_cpy (fA (setA SL2 (9 + h + 6) (va_cpy (fA SL2 (9 + o + 6)) (fA SL2 (9 + h + 6)) (0 : Int32).toNatClampNeg (0 : Int32).toNatClampNeg (4 : Int32).toNatClampNeg)) (9 + o + 9)) (fA (setA SL2 (9 + h + 6) (va_cpy (fA SL2 (9 + o + 6)) (fA SL2 (9 + h + 6)) (0 : Int32).toNatClampNeg (0 : Int32).toNatClampNeg (4 : Int32).toNatClampNeg)) (9 + h + 9)) (0 : Int32).toNatClampNeg (0 : Int32).toNatClampNeg (8 : Int32).toNatClampNeg)) (9 + h) 3 ((nI n))) (9 + h) 4 ((nI n_12))) (9 + h) 5 ((nI n_15))) := XI.bo (n := n_15) hX_13 hh (by omega)
        have hF_17 : Fr (fun j k => (j = 9 + h ∧ 3 ≤ k ∧ k ≤ 7) ∨ (21 + 6 * h ≤ j ∧ j < 27 + 6 * h ∧ 2 ≤ k ∧ k ≤ 9) ∨ (39 + 6 * h ≤ j ∧ j < 45 + 6 * h ∧ k = 99) ∨ ((j = 15 + h ∨ j = 18 + h) ∧ k = 99)) S (setF (setF (setF (setA (setA SL2 (9 + h + 6) (va_cpy (fA SL2 (9 + o + 6)) (fA SL2 (9 + h + 6)) (0 : Int32).toNatClampNeg (0 : Int32).toNatClampNeg (4 : Int32).toNatClampNeg)) (9 + h + 9) (va_cpy (fA (setA SL2 (9 + h + 6) (va_cpy (fA SL2 (9 + o + 6)) (fA SL2 (9 + h + 6)) (0 : Int32).toNatClampNeg (0 : Int32).toNatClampNeg (4 : Int32).toNatClampNeg)) (9 + o + 9)) (fA (setA SL2 (9 + h + 6) (va_cpy (fA SL2 (9 + o + 6)) (fA SL2 (9 + h + 6)) (0 : Int32).toNatClampNeg (0 : Int32).toNatClampNeg (4 : Int32).toNatClampNeg)) (9 + h + 9)) (0 : Int32).toNatClampNeg (0 : Int32).toNatClampNeg (8 : Int32).toNatClampNeg)) (9 + h) 3 ((nI n))) (9 + h) 4 ((nI n_12))) (9 + h) 5 ((nI n_15))) := Fr.sF hF_14 (by omega)
        refine lv_aload_n hx hb (fk_get fk_cX7_become_1 13 rfl) rfl (lv_at hl 1 rfl) ?_
        refine lv_aload_n hx hb (fk_get fk_cX7_become_1 14 rfl) rfl (lv_at hl 2 rfl) ?_
        refine va_get (D := G.1) (ci := 9) (v := .int (fF (setF (setF (setF (setA (setA SL2 (9 + h + 6) (va_cpy (fA SL2 (9 + o + 6)) (fA SL2 (9 + h + 6)) (0 : Int32).toNatClampNeg (0 : Int32).toNatClampNeg (4 : Int32).toNatClampNeg)) (9 + h + 9) (va_cpy (fA (setA SL2 (9 + h + 6) (va_cpy (fA SL2 (9 + o + 6)) (fA SL2 (9 + h + 6)) (0 : Int32).toNatClampNeg (0 : Int32).toNatClampNeg (4 : Int32).toNatClampNeg)) (9 + o + 9)) (fA (setA SL2 (9 + h + 6) (va_cpy (fA SL2 (9 + o + 6)) (fA SL2 (9 + h + 6)) (0 : Int32).toNatClampNeg (0 : Int32).toNatClampNeg (4 : Int32).toNatClampNeg)) (9 + h + 9)) (0 : Int32).toNatClampNeg (0 : Int32).toNatClampNeg (8 : Int32).toNatClampNeg)) (9 + h) 3 ((nI n))) (9 + h) 4 ((nI n_12))) (9 + h) 5 ((nI n_15))) (9 + o) 6)) (C := RX7) (T := TX7) (N := 8) hx hb hT inX7 hown hK hP (9 + o) (ix_at (lt71 (by omega)) (cX_shop (pk_shop ho))) rfl 6 (by decide) (hT _ m1_214) (fun _ h9 => h9) rfl (fk_get fk_cX7_become_1 15 rfl) ?_
        rw [show fF (setF (setF (setF (setA (setA SL2 (9 + h + 6) (va_cpy (fA SL2 (9 + o + 6)) (fA SL2 (9 + h + 6)) (0 : Int32).toNatClampNeg (0 : Int32).toNatClampNeg (4 : Int32).toNatClampNeg)) (9 + h + 9) (va_cpy (fA (setA SL2 (9 + h + 6) (va_cpy (fA SL2 (9 + o + 6)) (fA SL2 (9 + h + 6)) (0 : Int32).toNatClampNeg (0 : Int32).toNatClampNeg (4 : Int32).toNatClampNeg)) (9 + o + 9)) (fA (setA SL2 (9 + h + 6) (va_cpy (fA SL2 (9 + o + 6)) (fA SL2 (9 + h + 6)) (0 : Int32).toNatClampNeg (0 : Int32).toNatClampNeg (4 : Int32).toNatClampNeg)) (9 + h + 9)) (0 : Int32).toNatClampNeg (0 : Int32).toNatClampNeg (8 : Int32).toNatClampNeg)) (9 + h) 3 ((nI n))) (9 + h) 4 ((nI n_12))) (9 + h) 5 ((nI n_15))) (9 + o) 6 = (fF SL2 (9 + o) 6) from by simp [fF_setF, fF_setR, fF_setA, fF_setL]]
        refine va_put (D := G.1) (ci := 9) (v := .int ((fF SL2 (9 + o) 6))) (ty := .int) (C := RX7) (T := TX7) (N := 8) hx hb hT inX7 tyX7 tyX7_ok nmX7 hown hK hP hD hS (9 + h) (ix_at (lt71 (by omega)) (cX_shop (pk_shop hh))) rfl 6 (by decide) (hT _ m1_214) (fun _ h9 => h9) rfl (by decide +kernel) rfl rfl (Nat.le_of_ble_eq_true rfl) (fk_get fk_cX7_become_1 16 rfl) (fun H locs hP hD hS => ?_)
        rw [pX_shop_6 (S := (setF (setF (setF (setA (setA SL2 (9 + h + 6) (va_cpy (fA SL2 (9 + o + 6)) (fA SL2 (9 + h + 6)) (0 : Int32).toNatClampNeg (0 : Int32).toNatClampNeg (4 : Int32).toNatClampNeg)) (9 + h + 9) (va_cpy (fA (setA SL2 (9 + h + 6) (va_cpy (fA SL2 (9 + o + 6)) (fA SL2 (9 + h + 6)) (0 : Int32).toNatClampNeg (0 : Int32).toNatClampNeg (4 : Int32).toNatClampNeg)) (9 + o + 9)) (fA (setA SL2 (9 + h + 6) (va_cpy (fA SL2 (9 + o + 6)) (fA SL2 (9 + h + 6)) (0 : Int32).toNatClampNeg (0 : Int32).toNatClampNeg (4 : Int32).toNatClampNeg)) (9 + h + 9)) (0 : Int32).toNatClampNeg (0 : Int32).toNatClampNeg (8 : Int32).toNatClampNeg)) (9 + h) 3 ((nI n))) (9 + h) 4 ((nI n_12))) (9 + h) 5 ((nI n_15)))) (lt71 (by omega)) (pk_shop hh) ((fF SL2 (9 + o) 6))] at hP hD
        have hX_18 : XI (setF (setF (setF (setF (setA (setA SL2 (9 + h + 6) (va_cpy (fA SL2 (9 + o + 6)) (fA SL2 (9 + h + 6)) (0 : Int32).toNatClampNeg (0 : Int32).toNatClampNeg (4 : Int32).toNatClampNeg)) (9 + h + 9) (va_cpy (fA (setA SL2 (9 + h + 6) (va_cpy (fA SL2 (9 + o + 6)) (fA SL2 (9 + h + 6)) (0 : Int32).toNatClampNeg (0 : Int32).toNatClampNeg (4 : Int32).toNatClampNeg)) (9 + o + 9)) (fA (setA SL2 (9 + h + 6) (va_cpy (fA SL2 (9 + o + 6)) (fA SL2 (9 + h + 6)) (0 : Int32).toNatClampNeg (0 : Int32).toNatClampNeg (4 : Int32).toNatClampNeg)) (9 + h + 9)) (0 : Int32).toNatClampNeg (0 : Int32).toNatClampNeg (8 : Int32).toNatClampNeg)) (9 + h) 3 ((nI n))) (9 + h) 4 ((nI n_12))) (9 + h) 5 ((nI n_15))) (9 + h) 6 ((fF SL2 (9 + o) 6))) := XI.sF hX_16 _ ⟨by omega, by omega, by omega, by omega, by omega, by omega, by omega, by omega⟩
        have hF_19 : Fr (fun j k => (j = 9 + h ∧ 3 ≤ k ∧ k ≤ 7) ∨ (21 + 6 * h ≤ j ∧ j < 27 + 6 * h ∧ 2 ≤ k ∧ k ≤ 9) ∨ (39 + 6 * h ≤ j ∧ j < 45 + 6 * h ∧ k = 99) ∨ ((j = 15 + h ∨ j = 18 + h) ∧ k = 99)) S (setF (setF (setF (setF (setA (setA SL2 (9 + h + 6) (va_cpy (fA SL2 (9 + o + 6)) (fA SL2 (9 + h + 6)) (0 : Int32).toNatClampNeg (0 : Int32).toNatClampNeg (4 : Int32).toNatClampNeg)) (9 + h + 9) (va_cpy (fA (setA SL2 (9 + h + 6) (va_cpy (fA SL2 (9 + o + 6)) (fA SL2 (9 + h + 6)) (0 : Int32).toNatClampNeg (0 : Int32).toNatClampNeg (4 : Int32).toNatClampNeg)) (9 + o + 9)) (fA (setA SL2 (9 + h + 6) (va_cpy (fA SL2 (9 + o + 6)) (fA SL2 (9 + h + 6)) (0 : Int32).toNatClampNeg (0 : Int32).toNatClampNeg (4 : Int32).toNatClampNeg)) (9 + h + 9)) (0 : Int32).toNatClampNeg (0 : Int32).toNatClampNeg (8 : Int32).toNatClampNeg)) (9 + h) 3 ((nI n))) (9 + h) 4 ((nI n_12))) (9 + h) 5 ((nI n_15))) (9 + h) 6 ((fF SL2 (9 + o) 6))) := Fr.sF hF_17 (by omega)
        refine lv_aload_n hx hb (fk_get fk_cX7_become_1 17 rfl) rfl (lv_at hl 1 rfl) ?_
        refine lv_aload_n hx hb (fk_get fk_cX7_become_1 18 rfl) rfl (lv_at hl 2 rfl) ?_
        obtain ⟨n_20, en_20, bn_20⟩ := XI.ctr hX_18 ho
        refine va_get (D := G.1) (ci := 9) (v := va_rf ((fR (setF (setF (setF (setF (setA (setA SL2 (9 + h + 6) (va_cpy (fA SL2 (9 + o + 6)) (fA SL2 (9 + h + 6)) (0 : Int32).toNatClampNeg (0 : Int32).toNatClampNeg (4 : Int32).toNatClampNeg)) (9 + h + 9) (va_cpy (fA (setA SL2 (9 + h + 6) (va_cpy (fA SL2 (9 + o + 6)) (fA SL2 (9 + h + 6)) (0 : Int32).toNatClampNeg (0 : Int32).toNatClampNeg (4 : Int32).toNatClampNeg)) (9 + o + 9)) (fA (setA SL2 (9 + h + 6) (va_cpy (fA SL2 (9 + o + 6)) (fA SL2 (9 + h + 6)) (0 : Int32).toNatClampNeg (0 : Int32).toNatClampNeg (4 : Int32).toNatClampNeg)) (9 + h + 9)) (0 : Int32).toNatClampNeg (0 : Int32).toNatClampNeg (8 : Int32).toNatClampNeg)) (9 + h) 3 ((nI n))) (9 + h) 4 ((nI n_12))) (9 + h) 5 ((nI n_15))) (9 + h) 6 ((fF SL2 (9 + o) 6))) (9 + o) 7).map ad)) (C := RX7) (T := TX7) (N := 8) hx hb hT inX7 hown hK hP (9 + o) (ix_at (lt71 (by omega)) (cX_shop (pk_shop ho))) rfl 7 (by decide) (hT _ m1_216) (fun _ h9 => h9) rfl (fk_get fk_cX7_become_1 19 rfl) ?_
        rw [show va_rf ((fR (setF (setF (setF (setF (setA (setA SL2 (9 + h + 6) (va_cpy (fA SL2 (9 + o + 6)) (fA SL2 (9 + h + 6)) (0 : Int32).toNatClampNeg (0 : Int32).toNatClampNeg (4 : Int32).toNatClampNeg)) (9 + h + 9) (va_cpy (fA (setA SL2 (9 + h + 6) (va_cpy (fA SL2 (9 + o + 6)) (fA SL2 (9 + h + 6)) (0 : Int32).toNatClampNeg (0 : Int32).toNatClampNeg (4 : Int32).toNatClampNeg)) (9 + o + 9)) (fA (setA SL2 (9 + h + 6) (va_cpy (fA SL2 (9 + o + 6)) (fA SL2 (9 + h + 6)) (0 : Int32).toNatClampNeg (0 : Int32).toNatClampNeg (4 : Int32).toNatClampNeg)) (9 + h + 9)) (0 : Int32).toNatClampNeg (0 : Int32).toNatClampNeg (8 : Int32).toNatClampNeg)) (9 + h) 3 ((nI n))) (9 + h) 4 ((nI n_12))) (9 + h) 5 ((nI n_15))) (9 + h) 6 ((fF SL2 (9 + o) 6))) (9 + o) 7).map ad) = .ref (ad n_20) from by rw [en_20]; rfl]
        refine va_put (D := G.1) (ci := 9) (v := .ref (ad n_20)) (ty := (.object "LittleMore$Counter")) (C := RX7) (T := TX7) (N := 8) hx hb hT inX7 tyX7 tyX7_ok nmX7 hown hK hP hD hS (9 + h) (ix_at (lt71 (by omega)) (cX_shop (pk_shop hh))) rfl 7 (by decide) (hT _ m1_216) (fun _ h9 => h9) rfl (by decide +kernel) rfl rfl (Nat.le_of_ble_eq_true rfl) (fk_get fk_cX7_become_1 20 rfl) (fun H locs hP hD hS => ?_)
        rw [pX_shop_7 (S := (setF (setF (setF (setF (setA (setA SL2 (9 + h + 6) (va_cpy (fA SL2 (9 + o + 6)) (fA SL2 (9 + h + 6)) (0 : Int32).toNatClampNeg (0 : Int32).toNatClampNeg (4 : Int32).toNatClampNeg)) (9 + h + 9) (va_cpy (fA (setA SL2 (9 + h + 6) (va_cpy (fA SL2 (9 + o + 6)) (fA SL2 (9 + h + 6)) (0 : Int32).toNatClampNeg (0 : Int32).toNatClampNeg (4 : Int32).toNatClampNeg)) (9 + o + 9)) (fA (setA SL2 (9 + h + 6) (va_cpy (fA SL2 (9 + o + 6)) (fA SL2 (9 + h + 6)) (0 : Int32).toNatClampNeg (0 : Int32).toNatClampNeg (4 : Int32).toNatClampNeg)) (9 + h + 9)) (0 : Int32).toNatClampNeg (0 : Int32).toNatClampNeg (8 : Int32).toNatClampNeg)) (9 + h) 3 ((nI n))) (9 + h) 4 ((nI n_12))) (9 + h) 5 ((nI n_15))) (9 + h) 6 ((fF SL2 (9 + o) 6)))) (lt71 (by omega)) (pk_shop hh) (n_20)] at hP hD
        have hX_21 : XI (setR (setF (setF (setF (setF (setA (setA SL2 (9 + h + 6) (va_cpy (fA SL2 (9 + o + 6)) (fA SL2 (9 + h + 6)) (0 : Int32).toNatClampNeg (0 : Int32).toNatClampNeg (4 : Int32).toNatClampNeg)) (9 + h + 9) (va_cpy (fA (setA SL2 (9 + h + 6) (va_cpy (fA SL2 (9 + o + 6)) (fA SL2 (9 + h + 6)) (0 : Int32).toNatClampNeg (0 : Int32).toNatClampNeg (4 : Int32).toNatClampNeg)) (9 + o + 9)) (fA (setA SL2 (9 + h + 6) (va_cpy (fA SL2 (9 + o + 6)) (fA SL2 (9 + h + 6)) (0 : Int32).toNatClampNeg (0 : Int32).toNatClampNeg (4 : Int32).toNatClampNeg)) (9 + h + 9)) (0 : Int32).toNatClampNeg (0 : Int32).toNatClampNeg (8 : Int32).toNatClampNeg)) (9 + h) 3 ((nI n))) (9 + h) 4 ((nI n_12))) (9 + h) 5 ((nI n_15))) (9 + h) 6 ((fF SL2 (9 + o) 6))) (9 + h) 7 (some (n_20))) := XI.ct hX_18 hh bn_20
        have hF_22 : Fr (fun j k => (j = 9 + h ∧ 3 ≤ k ∧ k ≤ 7) ∨ (21 + 6 * h ≤ j ∧ j < 27 + 6 * h ∧ 2 ≤ k ∧ k ≤ 9) ∨ (39 + 6 * h ≤ j ∧ j < 45 + 6 * h ∧ k = 99) ∨ ((j = 15 + h ∨ j = 18 + h) ∧ k = 99)) S (setR (setF (setF (setF (setF (setA (setA SL2 (9 + h + 6) (va_cpy (fA SL2 (9 + o + 6)) (fA SL2 (9 + h + 6)) (0 : Int32).toNatClampNeg (0 : Int32).toNatClampNeg (4 : Int32).toNatClampNeg)) (9 + h + 9) (va_cpy (fA (setA SL2 (9 + h + 6) (va_cpy (fA SL2 (9 + o + 6)) (fA SL2 (9 + h + 6)) (0 : Int32).toNatClampNeg (0 : Int32).toNatClampNeg (4 : Int32).toNatClampNeg)) (9 + o + 9)) (fA (setA SL2 (9 + h + 6) (va_cpy (fA SL2 (9 + o + 6)) (fA SL2 (9 + h + 6)) (0 : Int32).toNatClampNeg (0 : Int32).toNatClampNeg (4 : Int32).toNatClampNeg)) (9 + h + 9)) (0 : Int32).toNatClampNeg (0 : Int32).toNatClampNeg (8 : Int32).toNatClampNeg)) (9 + h) 3 ((nI n))) (9 + h) 4 ((nI n_12))) (9 + h) 5 ((nI n_15))) (9 + h) 6 ((fF SL2 (9 + o) 6))) (9 + h) 7 (some (n_20))) := Fr.sR hF_19 (by omega)
        subst hQ
        have hpost : XI (setR (setF (setF (setF (setF (setA (setA SL2 (9 + h + 6) (va_cpy (fA SL2 (9 + o + 6)) (fA SL2 (9 + h + 6)) (0 : Int32).toNatClampNeg (0 : Int32).toNatClampNeg (4 : Int32).toNatClampNeg)) (9 + h + 9) (va_cpy (fA (setA SL2 (9 + h + 6) (va_cpy (fA SL2 (9 + o + 6)) (fA SL2 (9 + h + 6)) (0 : Int32).toNatClampNeg (0 : Int32).toNatClampNeg (4 : Int32).toNatClampNeg)) (9 + o + 9)) (fA (setA SL2 (9 + h + 6) (va_cpy (fA SL2 (9 + o + 6)) (fA SL2 (9 + h + 6)) (0 : Int32).toNatClampNeg (0 : Int32).toNatClampNeg (4 : Int32).toNatClampNeg)) (9 + h + 9)) (0 : Int32).toNatClampNeg (0 : Int32).toNatClampNeg (8 : Int32).toNatClampNeg)) (9 + h) 3 ((nI n))) (9 + h) 4 ((nI n_12))) (9 + h) 5 ((nI n_15))) (9 + h) 6 ((fF SL2 (9 + o) 6))) (9 + h) 7 (some (n_20))) ∧ Fr (fun j k => (j = 9 + h ∧ 3 ≤ k ∧ k ≤ 7) ∨ (21 + 6 * h ≤ j ∧ j < 27 + 6 * h ∧ 2 ≤ k ∧ k ≤ 9) ∨ (39 + 6 * h ≤ j ∧ j < 45 + 6 * h ∧ k = 99) ∨ ((j = 15 + h ∨ j = 18 + h) ∧ k = 99)) S (setR (setF (setF (setF (setF (setA (setA SL2 (9 + h + 6) (va_cpy (fA SL2 (9 + o + 6)) (fA SL2 (9 + h + 6)) (0 : Int32).toNatClampNeg (0 : Int32).toNatClampNeg (4 : Int32).toNatClampNeg)) (9 + h + 9) (va_cpy (fA (setA SL2 (9 + h + 6) (va_cpy (fA SL2 (9 + o + 6)) (fA SL2 (9 + h + 6)) (0 : Int32).toNatClampNeg (0 : Int32).toNatClampNeg (4 : Int32).toNatClampNeg)) (9 + o + 9)) (fA (setA SL2 (9 + h + 6) (va_cpy (fA SL2 (9 + o + 6)) (fA SL2 (9 + h + 6)) (0 : Int32).toNatClampNeg (0 : Int32).toNatClampNeg (4 : Int32).toNatClampNeg)) (9 + h + 9)) (0 : Int32).toNatClampNeg (0 : Int32).toNatClampNeg (8 : Int32).toNatClampNeg)) (9 + h) 3 ((nI n))) (9 + h) 4 ((nI n_12))) (9 + h) 5 ((nI n_15))) (9 + h) 6 ((fF SL2 (9 + o) 6))) (9 + h) 7 (some (n_20))) ∧ (BE S h o n (setR (setF (setF (setF (setF (setA (setA SL2 (9 + h + 6) (va_cpy (fA SL2 (9 + o + 6)) (fA SL2 (9 + h + 6)) (0 : Int32).toNatClampNeg (0 : Int32).toNatClampNeg (4 : Int32).toNatClampNeg)) (9 + h + 9) (va_cpy (fA (setA SL2 (9 + h + 6) (va_cpy (fA SL2 (9 + o + 6)) (fA SL2 (9 + h + 6)) (0 : Int32).toNatClampNeg (0 : Int32).toNatClampNeg (4 : Int32).toNatClampNeg)) (9 + o + 9)) (fA (setA SL2 (9 + h + 6) (va_cpy (fA SL2 (9 + o + 6)) (fA SL2 (9 + h + 6)) (0 : Int32).toNatClampNeg (0 : Int32).toNatClampNeg (4 : Int32).toNatClampNeg)) (9 + h + 9)) (0 : Int32).toNatClampNeg (0 : Int32).toNatClampNeg (8 : Int32).toNatClampNeg)) (9 + h) 3 ((nI n))) (9 + h) 4 ((nI n_12))) (9 + h) 5 ((nI n_15))) (9 + h) 6 ((fF SL2 (9 + o) 6))) (9 + h) 7 (some (n_20))) ∧ fR (setR (setF (setF (setF (setF (setA (setA SL2 (9 + h + 6) (va_cpy (fA SL2 (9 + o + 6)) (fA SL2 (9 + h + 6)) (0 : Int32).toNatClampNeg (0 : Int32).toNatClampNeg (4 : Int32).toNatClampNeg)) (9 + h + 9) (va_cpy (fA (setA SL2 (9 + h + 6) (va_cpy (fA SL2 (9 + o + 6)) (fA SL2 (9 + h + 6)) (0 : Int32).toNatClampNeg (0 : Int32).toNatClampNeg (4 : Int32).toNatClampNeg)) (9 + o + 9)) (fA (setA SL2 (9 + h + 6) (va_cpy (fA SL2 (9 + o + 6)) (fA SL2 (9 + h + 6)) (0 : Int32).toNatClampNeg (0 : Int32).toNatClampNeg (4 : Int32).toNatClampNeg)) (9 + h + 9)) (0 : Int32).toNatClampNeg (0 : Int32).toNatClampNeg (8 : Int32).toNatClampNeg)) (9 + h) 3 ((nI n))) (9 + h) 4 ((nI n_12))) (9 + h) 5 ((nI n_15))) (9 + h) 6 ((fF SL2 (9 + o) 6))) (9 + h) 7 (some (n_20))) (9 + h) 7 = fR S (9 + o) 7) := by
          have hfl_ : Fr (fun j k => (j = 9 + h ∧ 3 ≤ k ∧ k ≤ 7) ∨ ((j = 15 + h ∨ j = 18 + h) ∧ k = 99)) SL2 (setR (setF (setF (setF (setF (setA (setA SL2 (9 + h + 6) (va_cpy (fA SL2 (9 + o + 6)) (fA SL2 (9 + h + 6)) (0 : Int32).toNatClampNeg (0 : Int32).toNatClampNeg (4 : Int32).toNatClampNeg)) (9 + h + 9) (va_cpy (fA (setA SL2 (9 + h + 6) (va_cpy (fA SL2 (9 + o + 6)) (fA SL2 (9 + h + 6)) (0 : Int32).toNatClampNeg (0 : Int32).toNatClampNeg (4 : Int32).toNatClampNeg)) (9 + o + 9)) (fA (setA SL2 (9 + h + 6) (va_cpy (fA SL2 (9 + o + 6)) (fA SL2 (9 + h + 6)) (0 : Int32).toNatClampNeg (0 : Int32).toNatClampNeg (4 : Int32).toNatClampNeg)) (9 + h + 9)) (0 : Int32).toNatClampNeg (0 : Int32).toNatClampNeg (8 : Int32).toNatClampNeg)) (9 + h) 3 ((nI n))) (9 + h) 4 ((nI n_12))) (9 + h) 5 ((nI n_15))) (9 + h) 6 ((fF SL2 (9 + o) 6))) (9 + h) 7 (some (n_20))) := Fr.sR (Fr.sF (Fr.sF (Fr.sF (Fr.sF (Fr.sA (Fr.sA Fr.rf (by omega)) (by omega)) (by omega)) (by omega)) (by omega)) (by omega)) (by omega)
          refine ⟨hX_21, hF_22, ⟨fun k h1 h2 => ?_, fun c hc => (hC c (by omega)).fr hfl_ (by omega) (fun k a b => by omega) (by omega), fun k hk => ?_, fun k hk => ?_⟩, ?_⟩
          · rcases (show k = 3 ∨ k = 4 ∨ k = 5 ∨ k = 6 by omega) with rfl | rfl | rfl | rfl
            · rw [hn]
              simp [fF_setF, fF_setR, fF_setA]
            · rw [← hF2.F (j := 9 + o) (k := 4) (lt71 (by omega)) (by omega), en_12]
              simp [fF_setF, fF_setR, fF_setA]
            · rw [← hF2.F (j := 9 + o) (k := 5) (lt71 (by omega)) (by omega), en_15]
              simp [fF_setF, fF_setR, fF_setA]
            · rw [← hF2.F (j := 9 + o) (k := 6) (lt71 (by omega)) (by omega)]
              simp [fF_setF, fF_setR, fF_setA]
          · rw [← hF2.A (j := 9 + o + 6) (lt71 (by omega)) (by omega)]
            simp only [fA_setF, fA_setR]
            rw [fA_setA, if_neg (by omega), fA_setA, if_pos rfl]
            exact cpy0 (by decide) hk
          · rw [← hF2.A (j := 9 + o + 9) (lt71 (by omega)) (by omega)]
            simp only [fA_setF, fA_setR]
            rw [fA_setA, if_pos rfl]
            refine (cpy0 (by decide) hk).trans ?_
            rw [fA_setA, if_neg (by omega)]
          · rw [← hF2.R (j := 9 + o) (k := 7) (lt71 (by omega)) (by omega)]
            have z_ := en_20
            simp only [fR_setF, fR_setA] at z_
            rw [fR_setR, if_pos ⟨rfl, rfl⟩]
            exact z_.symm
        exact W.vret hx hb hr (fun t_ ht_ hW_ => ⟨⟨(setR (setF (setF (setF (setF (setA (setA SL2 (9 + h + 6) (va_cpy (fA SL2 (9 + o + 6)) (fA SL2 (9 + h + 6)) (0 : Int32).toNatClampNeg (0 : Int32).toNatClampNeg (4 : Int32).toNatClampNeg)) (9 + h + 9) (va_cpy (fA (setA SL2 (9 + h + 6) (va_cpy (fA SL2 (9 + o + 6)) (fA SL2 (9 + h + 6)) (0 : Int32).toNatClampNeg (0 : Int32).toNatClampNeg (4 : Int32).toNatClampNeg)) (9 + o + 9)) (fA (setA SL2 (9 + h + 6) (va_cpy (fA SL2 (9 + o + 6)) (fA SL2 (9 + h + 6)) (0 : Int32).toNatClampNeg (0 : Int32).toNatClampNeg (4 : Int32).toNatClampNeg)) (9 + h + 9)) (0 : Int32).toNatClampNeg (0 : Int32).toNatClampNeg (8 : Int32).toNatClampNeg)) (9 + h) 3 ((nI n))) (9 + h) 4 ((nI n_12))) (9 + h) 5 ((nI n_15))) (9 + h) 6 ((fF SL2 (9 + o) 6))) (9 + h) 7 (some (n_20))), rfl, hpost, by rw [ht_]; exact hP, va_K.moved hW_.alike hK, hD⟩, hS.F ht_⟩) hS.2.2 (fk_get fk_cX7_become_1 21 rfl)
      have q_c_5 : c < n := ci_nle (a := n) (b := c) (by omega) (by omega) c_5
      refine lv_aload_n hx hb (fk_get fk_cX7_become_0 6 rfl) rfl (lv_at hl 1 rfl) ?_
      refine va_get (D := G.1) (ci := 9) (v := .ref (ad (9 + h + 3))) (C := RX7) (T := TX7) (N := 8) hx hb hT inX7 hown hK hP (9 + h) (ix_at (lt71 (by omega)) (cX_shop (pk_shop hh))) rfl 0 (by decide) (hT _ m1_202) (fun _ h9 => h9) rfl (fk_get fk_cX7_become_0 7 rfl) ?_
      refine lv_iload_n hx hb (fk_get fk_cX7_become_0 8 rfl) rfl (lv_at hl 0 rfl) ?_
      refine x_ppl hx hb hK hP hh (k := c) (by omega) (rfl) (fk_get fk_cX7_become_0 9 rfl) ?_
      generalize hg_i_15 : 21 + 6 * h + c = i_15
      have hp_i_15 : pk i_15 = 7 := by rw [← hg_i_15]; exact pk_c hh (by omega)
      have hb_i_15 := pk7 hp_i_15
      refine lv_aload_n hx hb (fk_get fk_cX7_become_0 10 rfl) rfl (lv_at hl 2 rfl) ?_
      refine va_get (D := G.1) (ci := 9) (v := .ref (ad (9 + o + 3))) (C := RX7) (T := TX7) (N := 8) hx hb hT inX7 hown hK hP (9 + o) (ix_at (lt71 (by omega)) (cX_shop (pk_shop ho))) rfl 0 (by decide) (hT _ m1_202) (fun _ h9 => h9) rfl (fk_get fk_cX7_become_0 11 rfl) ?_
      refine lv_iload_n hx hb (fk_get fk_cX7_become_0 12 rfl) rfl (lv_at hl 0 rfl) ?_
      refine x_ppl hx hb hK hP ho (k := c) (by omega) (rfl) (fk_get fk_cX7_become_0 13 rfl) ?_
      generalize hg_i_21 : 21 + 6 * o + c = i_21
      have hp_i_21 : pk i_21 = 7 := by rw [← hg_i_21]; exact pk_c ho (by omega)
      have hb_i_21 := pk7 hp_i_21
      have hFc := va_self hD hS hA
      refine va_callv (va_runV (As := [.ref (ad i_21)]) (rest := []) ⟨hx, hb, hml, hown, hT⟩ (c_x3_become l G ad SL2 H_3.size (i_15) (i_21) (hp_i_15) (hp_i_21) (hXl2)) (tV 1 hT m3_219 m3_220 m3_221 m1_11 m3_222 rfl rfl (by decide +kernel) ⟨Nat.le_of_ble_eq_true rfl, Nat.le_of_ble_eq_true rfl⟩) ⟨PcW_blind, va_recv hK hP (ci := 5) (q0 := i_15) rfl (ix_at (lt71 (by omega)) (cX_cust hp_i_15)), PcW_of hP hK hD _⟩ rfl rfl hl.1 rfl (lv_room (Nat.le_of_ble_eq_true rfl)) (fk_get fk_cX7_become_0 14 rfl) ⟨Nat.zero_le _, Nat.zero_le _⟩) hS (fun q _ h => hFc q h) hFc (fun S_25 t_ H locs ht_ hvm_ hw_24 hB_ hz_ hk_ hS => ?_)
      obtain ⟨hP, -, hD1_⟩ := hB_
      rw [ht_] at hP
      have hD : va_D A (wX G ad S_25) := hD1_.weaken (fun k q _ h => hFc q.1 h)
      try dsimp only at hw_24
      obtain ⟨hX_26, hF_27_, hw_24⟩ := hw_24
      have hF_27 : Fr (fun j k => (j = 9 + h ∧ 3 ≤ k ∧ k ≤ 7) ∨ (21 + 6 * h ≤ j ∧ j < 27 + 6 * h ∧ 2 ≤ k ∧ k ≤ 9) ∨ (39 + 6 * h ≤ j ∧ j < 45 + 6 * h ∧ k = 99) ∨ ((j = 15 + h ∨ j = 18 + h) ∧ k = 99)) S S_25 := Fr.trans hFl2 (Fr.mono hF_27_ (fun j k h => by omega))
      have hff_ := hF_27_
      have hce_ := hw_24
      refine lv_iinc (v := (nI (c + 1))) (lv' := [(2, .int ((nI (c + 1)))), (0, .ref (ad (9 + h))), (1, .ref (ad (9 + o)))]) hx hb (fk_get fk_cX7_become_0 15 rfl) hl (k := 0) rfl ((nI_1 c)) (by decide) rfl (fun ls hl => ?_)
      refine lv_goto (tgt := 2) hx hb (fk_get fk_cX7_become_0 16 rfl) (by decide) ?_
      exact ih (c + 1) (S_25) _ _ ls (hX_26) (hF_27) (by omega) (by omega) ((hff_.F (lt71 (by omega)) (by omega)).trans hn2) (Fr.trans hF2 (Fr.mono hff_ (fun j k h9 => by omega))) (be_step hC hff_ hF2 hce_ hg_i_15 hg_i_21 hh ho hho (by omega)) hP hD hS (lv_sub hl [0, 1, 2] rfl)
  exact lp_1 (n + 1) (0) (S) _ _ ls (hX) ((Fr.rf : Fr (fun j k => (j = 9 + h ∧ 3 ≤ k ∧ k ≤ 7) ∨ (21 + 6 * h ≤ j ∧ j < 27 + 6 * h ∧ 2 ≤ k ∧ k ≤ 9) ∨ (39 + 6 * h ≤ j ∧ j < 45 + 6 * h ∧ k = 99) ∨ ((j = 15 + h ∨ j = 18 + h) ∧ k = 99)) S S)) (by omega) (by omega) (hn) (Fr.rf) (fun _ q => absurd q (by omega)) hP hD hS (lv_sub hl [0, 1, 2] rfl)
set_option maxHeartbeats 800000 in
set_option maxRecDepth 100000 in
theorem c_x11_shopToTryX (l : Launch) (G : GG) (ad : Nat → Nat) (S : FS) (sz : Nat) (n : Nat) (hn : fF S (9 + 0) 3 = nI n) (hn6 : n ≤ 6) (hX : XI S) : Met l yX11_shopToTry (Cond.code yX11_shopToTry cX11_shopToTry 1 (some (.object "LittleMore$Shop")) :: TBL) ({ frames := 4, cells := 0, slots := 0, locals := 115 } : Room) (PcW G (wX G ad S) sz [.ref (ad 0)]) (va_Qr (fun (S' : FS) => XI S' ∧ Fr (fun j k => (j = 11 ∧ 3 ≤ k ∧ k ≤ 7) ∨ (33 ≤ j ∧ j < 39 ∧ 2 ≤ k ∧ k ≤ 9) ∨ (51 ≤ j ∧ j < 57 ∧ k = 99) ∨ ((j = 17 ∨ j = 20) ∧ k = 99)) S S' ∧ (BE S 2 0 n S' ∧ fR S' (9 + 2) 7 = fR S (9 + 0) 7)) (fun S' a t => a = ad (9 + 2) ∧ BW G (va_A (wX G ad S) sz) (wX G ad S') t) (va_A (wX G ad S) sz)) 0 0 (va_A (wX G ad S) sz) := by
  refine Met.ofW (cc := cX11_shopToTry) (maxL := 1) (ret := (some (.object "LittleMore$Shop"))) (by decide) rfl ?_
  intro p e s m args below meth c₀ s₁ B hml hv
  obtain ⟨rfl, hsz, hP, hK, hD0⟩ := hv
  have hx := B.exec
  have hb := B.bytes
  have hr := B.returns
  have hT : ∀ w ∈ TBL, w.before ([.ref (ad 0)] : List Value).toArray s = true := fun w h => atoms_spec (ws := Cond.code yX11_shopToTry cX11_shopToTry 1 (some (.object "LittleMore$Shop")) :: TBL) B.pre w (List.mem_cons_of_mem _ h)
  have hown : s.vm.findClass "LittleMore" = some m.cls := findClass_of_methodNamed B.named
  have hlocks := B.notSynchronized
  subst hsz
  have hD := hD0.self (sz := s.heap.size)
  generalize hAe : va_A (wX G ad S) s.heap.size = A at hD ⊢
  have hA : ∀ q : Nat, s.heap.size ≤ q → A q := fun q h => by rw [← hAe]; exact Or.inr h
  have hS : va_S A s.heap s.heap [] := va_S.rf
  have hP : va_P G.1 vwCl (wX G ad S) s.heap := hP
  have hl := lv_entry ([.ref (ad 0)]) (n := 1) (Nat.le_of_ble_eq_true rfl)
  rw [lg_entry_eq]
  generalize (lg_sl ([.ref (ad 0)]) ++ List.replicate (1 - (lg_sl ([.ref (ad 0)])).length) Slot.unset).toArray = ls at hl ⊢
  have hl : lv_has ls 1 [(0, .ref (ad 0))] := hl
  refine W_abs (fun Q hQ => ?_)
  generalize ([.ref (ad 0)] : List Value).toArray = args at hT hQ ⊢
  refine lv_aload_n hx hb (fk_get fk_cX11_shopToTry_0 0 rfl) rfl (lv_at hl 0 rfl) ?_
  refine va_get (D := G.1) (ci := 13) (v := .ref (ad (9 + 2))) (C := RX11) (T := TX11) (N := 11) hx hb hT inX11 hown hK hP 0 (ix_at (lt71 (by omega)) (cX_0 G ad S)) rfl 3 (by decide) (hT _ m2_72) (fun _ h9 => h9) rfl (fk_get fk_cX11_shopToTry_0 1 rfl) ?_
  refine lv_aload_n hx hb (fk_get fk_cX11_shopToTry_0 2 rfl) rfl (lv_at hl 0 rfl) ?_
  refine va_get (D := G.1) (ci := 13) (v := .ref (ad (9 + 0))) (C := RX11) (T := TX11) (N := 11) hx hb hT inX11 hown hK hP 0 (ix_at (lt71 (by omega)) (cX_0 G ad S)) rfl 1 (by decide) (hT _ m2_70) (fun _ h9 => h9) rfl (fk_get fk_cX11_shopToTry_0 3 rfl) ?_
  have hFc := va_self hD hS hA
  refine va_callv (va_runV (As := [.ref (ad (9 + 0))]) (rest := []) ⟨hx, hb, hml, hown, hT⟩ (c_x7_becomeX l G ad S s.heap.size (2) (0) (n) ((by decide : 2 < 3)) ((by decide : 0 < 3)) (by first | assumption | omega) (hn) (hn6) (hX)) (tV 1 hT m3_215 m3_216 m3_217 m1_9 m3_218 rfl rfl (by decide +kernel) ⟨Nat.le_of_ble_eq_true rfl, Nat.le_of_ble_eq_true rfl⟩) ⟨PcW_blind, va_recv hK hP (ci := 9) (q0 := (9 + 2)) rfl (ix_at (lt71 (by omega)) (cX_shop (pk_shop (by decide : 2 < 3)))), PcW_of hP hK hD _⟩ rfl rfl hl.1 rfl (lv_room (Nat.le_of_ble_eq_true rfl)) (fk_get fk_cX11_shopToTry_0 4 rfl) ⟨Nat.zero_le _, Nat.zero_le _⟩) hS (fun q _ h => hFc q h) hFc (fun S_3 t_ H locs ht_ hvm_ hw_2 hB_ hz_ hk_ hS => ?_)
  obtain ⟨hP, -, hD1_⟩ := hB_
  rw [ht_] at hP
  have hD : va_D A (wX G ad S_3) := hD1_.weaken (fun k q _ h => hFc q.1 h)
  try dsimp only at hw_2
  obtain ⟨hX_4, hF_5_, hw_2⟩ := hw_2
  have hF_5 : Fr (fun j k => (j = 11 ∧ 3 ≤ k ∧ k ≤ 7) ∨ (33 ≤ j ∧ j < 39 ∧ 2 ≤ k ∧ k ≤ 9) ∨ (51 ≤ j ∧ j < 57 ∧ k = 99) ∨ ((j = 17 ∨ j = 20) ∧ k = 99)) S S_3 := Fr.trans (Fr.rf : Fr (fun j k => (j = 11 ∧ 3 ≤ k ∧ k ≤ 7) ∨ (33 ≤ j ∧ j < 39 ∧ 2 ≤ k ∧ k ≤ 9) ∨ (51 ≤ j ∧ j < 57 ∧ k = 99) ∨ ((j = 17 ∨ j = 20) ∧ k = 99)) S S) (Fr.mono hF_5_ (fun j k h => by omega))
  have hbe_ := hw_2
  refine lv_aload_n hx hb (fk_get fk_cX11_shopToTry_0 5 rfl) rfl (lv_at hl 0 rfl) ?_
  refine va_get (D := G.1) (ci := 13) (v := .ref (ad (9 + 2))) (C := RX11) (T := TX11) (N := 11) hx hb hT inX11 hown hK hP 0 (ix_at (lt71 (by omega)) (cX_0 G ad S_3)) rfl 3 (by decide) (hT _ m2_72) (fun _ h9 => h9) rfl (fk_get fk_cX11_shopToTry_0 6 rfl) ?_
  subst hQ
  exact W.aret hx hb hr (Or.inl ⟨_, rfl⟩) (Or.inr ⟨_, rfl⟩) (fun t_ ht_ hW_ => ⟨⟨S_3, _, rfl, by exact ⟨hX_4, hF_5, hbe_⟩, rfl, by rw [ht_]; exact hP, va_K.moved hW_.alike hK, hD⟩, hS.F ht_⟩) hS.2.2 (fk_get fk_cX11_shopToTry_0 7 rfl)
theorem c_x7_makeVisitsAloneXE (l : Launch) (G : GG) (ad : Nat → Nat) (S : FS) (sz : Nat) (h i q pz bb lz wz : Nat) (τ : Nat → Int32) (C : Cls) (hh : h < 3) (hpk : pk i = 7) (hcu : CuC S h i q pz τ C) (hgb : GB bb (gX S i q)) (hbb : bb < 800000) (hln : lstW 3 1 C = nI lz) (hlz : lz ≤ 99) (hw40 : wz ≤ 40) (x_ : Int32) (hxw : x_ = nI wz) (hX : XI S) : Met l yX7_makeVisitsAlone (Cond.code yX7_makeVisitsAlone cX7_makeVisitsAlone 5 (some .int) :: TBL) ({ frames := 6, cells := 0, slots := 0, locals := 174 } : Room) (PcW G (wX G ad S) sz [.ref (ad (9 + h)), .ref (ad i), .int (x_)]) (va_Qi (fun (r : Int32) (S' : FS) => XI S' ∧ Fr (fun j k => j = i ∧ 5 ≤ k ∧ k ≤ 9) S S' ∧ ((r, gX S' i q) = alN 1 (fF S (9 + h) 6) (lstW 3 1 C) τ C (fF S i 0) (wz) (gX S i q) ∧ GB (bb + wz) (gX S' i q))) (fun S' t => BW G (va_A (wX G ad S) sz) (wX G ad S') t) (va_A (wX G ad S) sz)) 0 0 (va_A (wX G ad S) sz) := by
  subst hxw
  exact c_x7_makeVisitsAloneX l G ad S sz h i q pz bb lz wz τ C hh hpk hcu hgb hbb hln hlz hw40 hX
set_option maxHeartbeats 800000 in
set_option maxRecDepth 100000 in
theorem c_x11_onX (l : Launch) (G : GG) (ad : Nat → Nat) (S : FS) (sz : Nat) (n pz : Nat) (K : Nat → Nat) (τ : Nat → Int32) (C : Cls) (x y_ w_ : Int32) (hn : fF S (9 + 0) 3 = nI n) (hn6 : n ≤ 6) (hcf : CuF S 0 n pz τ C K) (hgc : ∀ d, d < n → GC 9999 (gX S (21 + 6 * 0 + d) (K d))) (h99 : N99 C) (hX : XI S) : Met l yX11_on (Cond.code yX11_on cX11_on 8 (some .int) :: TBL) ({ frames := 7, cells := 0, slots := 0, locals := 202 } : Room) (PcW G (wX G ad S) sz [.ref (ad 0), .int (x), .int (y_), .int (w_)]) (va_Qi (fun (r : Int32) (S' : FS) => XI S' ∧ Fr (fun j k => (j = 11 ∧ 3 ≤ k ∧ k ≤ 7) ∨ (33 ≤ j ∧ j < 39 ∧ 2 ≤ k ∧ k ≤ 9) ∨ (51 ≤ j ∧ j < 57 ∧ k = 99) ∨ ((j = 17 ∨ j = 20) ∧ k = 99)) S S' ∧ (r = onP (fF S (9 + 0) 6) (lstW 3 1 C) (lstW 2 5 C) τ C n (fun d => gX S (21 + 6 * 0 + d) (K d)) x y_ w_)) (fun S' t => BW G (va_A (wX G ad S) sz) (wX G ad S') t) (va_A (wX G ad S) sz)) 0 0 (va_A (wX G ad S) sz) := by
  refine Met.ofW (cc := cX11_on) (maxL := 8) (ret := (some .int)) (by decide) rfl ?_
  intro p e s m args below meth c₀ s₁ B hml hv
  obtain ⟨rfl, hsz, hP, hK, hD0⟩ := hv
  have hx := B.exec
  have hb := B.bytes
  have hr := B.returns
  have hT : ∀ w ∈ TBL, w.before ([.ref (ad 0), .int (x), .int (y_), .int (w_)] : List Value).toArray s = true := fun w h => atoms_spec (ws := Cond.code yX11_on cX11_on 8 (some .int) :: TBL) B.pre w (List.mem_cons_of_mem _ h)
  have hown : s.vm.findClass "LittleMore" = some m.cls := findClass_of_methodNamed B.named
  have hlocks := B.notSynchronized
  subst hsz
  have hD := hD0.self (sz := s.heap.size)
  generalize hAe : va_A (wX G ad S) s.heap.size = A at hD ⊢
  have hA : ∀ q : Nat, s.heap.size ≤ q → A q := fun q h => by rw [← hAe]; exact Or.inr h
  have hS : va_S A s.heap s.heap [] := va_S.rf
  have hP : va_P G.1 vwCl (wX G ad S) s.heap := hP
  have hl := lv_entry ([.ref (ad 0), .int (x), .int (y_), .int (w_)]) (n := 8) (Nat.le_of_ble_eq_true rfl)
  rw [lg_entry_eq]
  generalize (lg_sl ([.ref (ad 0), .int (x), .int (y_), .int (w_)]) ++ List.replicate (8 - (lg_sl ([.ref (ad 0), .int (x), .int (y_), .int (w_)])).length) Slot.unset).toArray = ls at hl ⊢
  have hl : lv_has ls 8 [(0, .ref (ad 0)), (1, .int (x)), (2, .int (y_)), (3, .int (w_))] := hl
  refine W_abs (fun Q hQ => ?_)
  generalize ([.ref (ad 0), .int (x), .int (y_), .int (w_)] : List Value).toArray = args at hT hQ ⊢
  obtain ⟨-, hpz0, hcok0, hctx0, hsay0⟩ := id hcf
  obtain ⟨lz, hlz, hln⟩ := lst_99 (k := 3) C 1 ⟨1, by omega, rfl⟩ h99.2
  refine lv_aload_n hx hb (fk_get fk_cX11_on_0 0 rfl) rfl (lv_at hl 0 rfl) ?_
  have hFc := va_self hD hS hA
  refine va_callr (va_runV (As := []) (rest := []) ⟨hx, hb, hml, hown, hT⟩ (c_x11_shopToTryX l G ad S s.heap.size (n) (hn) (hn6) (hX)) (tV 0 hT m3_211 m3_213 mp_11 m1_1 m3_214 rfl rfl (by decide +kernel) ⟨Nat.le_of_ble_eq_true rfl, Nat.le_of_ble_eq_true rfl⟩) ⟨PcW_blind, va_recv hK hP (ci := 13) (q0 := 0) rfl (ix_at (lt71 (by omega)) (cX_0 G ad S)), PcW_of hP hK hD _⟩ rfl rfl hl.1 rfl (lv_room (Nat.le_of_ble_eq_true rfl)) (fk_get fk_cX11_on_0 1 rfl) ⟨Nat.zero_le _, Nat.zero_le _⟩) hS (fun q _ h => hFc q h) hFc (fun S_3 r_1 t_ H locs ht_ hvm_ hw_2 hB_ hz_ hk_ hS => ?_)
  obtain ⟨hra_, hB_⟩ := hB_
  subst hra_
  obtain ⟨hP, -, hD1_⟩ := hB_
  rw [ht_] at hP
  have hD : va_D A (wX G ad S_3) := hD1_.weaken (fun k q _ h => hFc q.1 h)
  try dsimp only at hw_2
  obtain ⟨hX_4, hF_5_, hw_2⟩ := hw_2
  have hF_5 : Fr (fun j k => (j = 11 ∧ 3 ≤ k ∧ k ≤ 7) ∨ (33 ≤ j ∧ j < 39 ∧ 2 ≤ k ∧ k ≤ 9) ∨ (51 ≤ j ∧ j < 57 ∧ k = 99) ∨ ((j = 17 ∨ j = 20) ∧ k = 99)) S S_3 := Fr.trans (Fr.rf : Fr (fun j k => (j = 11 ∧ 3 ≤ k ∧ k ≤ 7) ∨ (33 ≤ j ∧ j < 39 ∧ 2 ≤ k ∧ k ≤ 9) ∨ (51 ≤ j ∧ j < 57 ∧ k = 99) ∨ ((j = 17 ∨ j = 20) ∧ k = 99)) S S) (Fr.mono hF_5_ (fun j k h => by omega))
  obtain ⟨hbe_, hrr_⟩ := hw_2
  obtain ⟨hcf2_, hgx2_, hbf_, hsn2_⟩ := try_of hbe_ hrr_ hF_5_ hcf hn6
  have hn2_ : fF S_3 (9 + 2) 3 = nI n := (hbf_ 3 (by omega) (by omega)).trans hn
  have hpz2_ : fR S_3 (9 + 2) 7 = some pz := hcf2_.2.1
  have hcok2_ : COK S_3 pz := hcf2_.2.2.1
  have hof2_ : fF S_3 (9 + 2) 6 = fF S (9 + 0) 6 := hbf_ 6 (by omega) (by omega)
  have hgc2_ : ∀ d, d < n → GC 9999 (gX S_3 (21 + 6 * 2 + d) (K d)) := fun d hd => by rw [hgx2_ d hd]; exact hgc d hd
  refine lv_astore (lv' := [(4, .ref (ad (9 + 2))), (0, .ref (ad 0)), (1, .int (x)), (2, .int (y_)), (3, .int (w_))]) hx hb (fk_get fk_cX11_on_0 2 rfl) hl (by decide) rfl (fun ls hl => ?_)
  refine lv_aload hx hb (fk_get fk_cX11_on_0 3 rfl) (lv_at hl 0 rfl) ?_
  refine lv_iload_n hx hb (fk_get fk_cX11_on_0 4 rfl) rfl (lv_at hl 2 rfl) ?_
  refine va_csq (W.runV (As := [.int (x)]) (rest := []) ⟨hx, hb, hml, hown, hT⟩ (c_x7_at l G ad S_3 H.size (2) (n) (x) ((by decide : 2 < 3)) (hn2_) (hn6) (hX_4)) (tV 1 hT m2_120 m2_121 m2_122 m1_9 m2_123 rfl rfl (by decide +kernel) ⟨Nat.le_of_ble_eq_true rfl, Nat.le_of_ble_eq_true rfl⟩) ⟨PcW_blind, va_recv hK hP (ci := 9) (q0 := (9 + 2)) rfl (ix_at (lt71 (by omega)) (cX_shop (pk_shop (by decide : 2 < 3)))), PcW_of hP hK hD _⟩ rfl rfl hl.1 rfl (lv_room (Nat.le_of_ble_eq_true rfl)) (fk_get fk_cX11_on_0 5 rfl) ⟨Nat.zero_le _, Nat.zero_le _⟩) (fun r_6 hw_7 => ?_)
  try dsimp only at hw_7
  rcases hw_7 with ⟨j_9, hj_9, ej_9, rfl⟩ | ⟨rfl, hn_9⟩
  · rw [show va_rf (some (ad (21 + 6 * 2 + j_9))) = .ref (ad (21 + 6 * 2 + j_9)) from rfl]
    generalize hg_i_9 : 21 + 6 * 2 + j_9 = i_9
    have hp_i_9 : pk i_9 = 7 := by rw [← hg_i_9]; exact pk_c (by decide : 2 < 3) (show j_9 < 6 by omega)
    have hb_i_9 := pk7 hp_i_9
    refine lv_astore (lv' := [(5, .ref (ad i_9)), (4, .ref (ad (9 + 2))), (0, .ref (ad 0)), (1, .int (x)), (2, .int (y_)), (3, .int (w_))]) hx hb (fk_get fk_cX11_on_0 6 rfl) hl (by decide) rfl (fun ls hl => ?_)
    refine lv_aload hx hb (fk_get fk_cX11_on_0 7 rfl) (lv_at hl 0 rfl) ?_
    refine lv_ifnull hx hb (fk_get fk_cX11_on_0 8 rfl) ?_
    have hC_ : isC n x := inC hn6 hj_9 ej_9
    have hcl_ : x.toNatClampNeg = j_9 := by rw [ej_9]; exact nI_clamp (by omega)
    have hcn_ : fF S_3 i_9 0 = x := by rw [← hg_i_9, ej_9]; exact XI.num hX_4 (by omega) (by omega)
    have hgx_ : gX S_3 i_9 (K j_9) = gX S (21 + 6 * 0 + x.toNatClampNeg) (K x.toNatClampNeg) := by rw [hcl_, ← hg_i_9]; exact hgx2_ _ hj_9
    have hcu_ : CuC S_3 2 i_9 (K j_9) pz τ C := by rw [← hg_i_9]; exact hcf2_.at hj_9
    have hgb_ : GB 9999 (gX S_3 i_9 (K j_9)) := by rw [← hg_i_9]; exact (hgc2_ _ hj_9).1
    refine lv_iload_n hx hb (fk_get fk_cX11_on_0 9 rfl) rfl (lv_at hl 5 rfl) ?_
    refine lv_iconst (v := 0) hx hb (fk_get fk_cX11_on_0 10 rfl) (by decide) ?_
    refine lv_iconst (v := 4) hx hb (fk_get fk_cX11_on_0 11 rfl) (by decide) ?_
    refine vp_callSi (W.runS (As := [.int (w_), .int (0), .int (4)]) (rest := []) ⟨hx, hb, hml, hown, hT⟩ (c_xisOutside l (w_) (0) (4) ) (tS 3 hT m2_108 m2_109 m1_1 m2_110 rfl rfl (by decide +kernel) ⟨Nat.le_of_ble_eq_true rfl, Nat.le_of_ble_eq_true rfl⟩) ⟨PcN_blind, PcN_of _ _ _⟩ rfl rfl hl.1 rfl (lv_room (Nat.le_of_ble_eq_true rfl)) (fk_get fk_cX11_on_0 12 rfl) ⟨Nat.zero_le _, Nat.zero_le _⟩) (fun r_8 hw_9 => ?_)
    try dsimp only at hw_9
    refine lv_if_eq (tgt := 30) hx hb (fk_get fk_cX11_on_0 13 rfl) (by decide) (fun c_10 => ?_) (fun c_10 => ?_)
    · have p_c_10 := if1_f hw_9 c_10
      have hw_ := nor2.mp p_c_10
      refine lv_iload_n hx hb (fk_get fk_cX11_on_0 16 rfl) rfl (lv_at hl 4 rfl) ?_
      refine lv_iconst (v := 0) hx hb (fk_get fk_cX11_on_0 17 rfl) (by decide) ?_
      refine lv_bipush (v := 40) hx hb (fk_get fk_cX11_on_0 18 rfl) (by decide) ?_
      refine vp_callSi (W.runS (As := [.int (y_), .int (0), .int (40)]) (rest := []) ⟨hx, hb, hml, hown, hT⟩ (c_xisOutside l (y_) (0) (40) ) (tS 3 hT m2_108 m2_109 m1_1 m2_110 rfl rfl (by decide +kernel) ⟨Nat.le_of_ble_eq_true rfl, Nat.le_of_ble_eq_true rfl⟩) ⟨PcN_blind, PcN_of _ _ _⟩ rfl rfl hl.1 rfl (lv_room (Nat.le_of_ble_eq_true rfl)) (fk_get fk_cX11_on_0 19 rfl) ⟨Nat.zero_le _, Nat.zero_le _⟩) (fun r_11 hw_12 => ?_)
      try dsimp only at hw_12
      refine lv_if_eq (tgt := 43) hx hb (fk_get fk_cX11_on_0 20 rfl) (by decide) (fun c_13 => ?_) (fun c_13 => ?_)
      · have p_c_13 := if1_f hw_12 c_13
        obtain ⟨wz, hw40, ew⟩ := out_n (b := 40) p_c_13 (by decide)
        have hcy_ : y_.toNatClampNeg = wz := by rw [ew]; exact nI_clamp (by omega)
        have hy_ := nor2.mp p_c_13
        refine lv_aload hx hb (fk_get fk_cX11_on_0 23 rfl) (lv_at hl 0 rfl) ?_
        refine va_get (D := G.1) (ci := 5) (v := .int (fF S_3 i_9 7)) (C := RX3) (T := TX3) (N := 10) hx hb hT inX3 hown hK hP i_9 (ix_at (lt71 (by omega)) (cX_cust hp_i_9)) rfl 7 (by decide) (hT _ m1_171) (fun _ h9 => h9) rfl (fk_get fk_cX11_on_0 24 rfl) ?_
        refine lv_istore (lv' := [(6, .int ((fF S_3 i_9 7))), (5, .ref (ad i_9)), (4, .ref (ad (9 + 2))), (0, .ref (ad 0)), (1, .int (x)), (2, .int (y_)), (3, .int (w_))]) hx hb (fk_get fk_cX11_on_0 25 rfl) hl (by decide) rfl (fun ls hl => ?_)
        refine lv_aload hx hb (fk_get fk_cX11_on_0 26 rfl) (lv_at hl 2 rfl) ?_
        refine lv_aload hx hb (fk_get fk_cX11_on_0 27 rfl) (lv_at hl 1 rfl) ?_
        refine lv_iload_n hx hb (fk_get fk_cX11_on_0 28 rfl) rfl (lv_at hl 5 rfl) ?_
        have hFc := va_self hD hS hA
        refine va_calli (va_runV (As := [.ref (ad i_9), .int (y_)]) (rest := []) ⟨hx, hb, hml, hown, hT⟩ (c_x7_makeVisitsAloneXE l G ad S_3 H.size (2) (i_9) (K j_9) (pz) (9999) (lz) (wz) (τ) (C) ((by decide : 2 < 3)) (hp_i_9) (hcu_) (hgb_) (by omega) (hln) (hlz) (by omega) (y_) (ew) (hX_4)) (tV 2 hT m3_225 m3_226 m3_227 m1_9 m3_228 rfl rfl (by decide +kernel) ⟨Nat.le_of_ble_eq_true rfl, Nat.le_of_ble_eq_true rfl⟩) ⟨PcW_blind, va_recv hK hP (ci := 9) (q0 := (9 + 2)) rfl (ix_at (lt71 (by omega)) (cX_shop (pk_shop (by decide : 2 < 3)))), PcW_of hP hK hD _⟩ rfl rfl hl.1 rfl (lv_room (Nat.le_of_ble_eq_true rfl)) (fk_get fk_cX11_on_0 29 rfl) ⟨Nat.zero_le _, Nat.zero_le _⟩) hS (fun q _ h => hFc q h) hFc (fun r_14 S_16 t_ H locs ht_ hvm_ hw_15 hB_ hz_ hk_ hS => ?_)
        obtain ⟨hP, -, hD1_⟩ := hB_
        rw [ht_] at hP
        have hD : va_D A (wX G ad S_16) := hD1_.weaken (fun k q _ h => hFc q.1 h)
        try dsimp only at hw_15
        obtain ⟨hX_17, hF_18_, hw_15⟩ := hw_15
        have hF_18 : Fr (fun j k => (j = 11 ∧ 3 ≤ k ∧ k ≤ 7) ∨ (33 ≤ j ∧ j < 39 ∧ 2 ≤ k ∧ k ≤ 9) ∨ (51 ≤ j ∧ j < 57 ∧ k = 99) ∨ ((j = 17 ∨ j = 20) ∧ k = 99)) S S_16 := Fr.trans hF_5 (Fr.mono hF_18_ (fun j k h => by omega))
        obtain ⟨hal_, -⟩ := hw_15
        rw [hof2_, hcn_, hgx_, ← hcy_] at hal_
        have h5_ := congrFun hgx_ 5
        have hcuA_ := hcu_.fr (by omega) (by omega) hF_18_ (by omega) (by omega) (fun j k a b => by omega)
        have hpzA_ := hcuA_.1.2.2.1
        have hcokA_ := hcuA_.1.2.2.2.1
        have hpr_ : fF S_16 pz 0 = lstW 2 5 C := hcuA_.1.2.2.2.2.1
        refine lv_istore (lv' := [(7, .int (r_14)), (6, .int ((fF S_3 i_9 7))), (5, .ref (ad i_9)), (4, .ref (ad (9 + 2))), (0, .ref (ad 0)), (1, .int (x)), (2, .int (y_)), (3, .int (w_))]) hx hb (fk_get fk_cX11_on_0 30 rfl) hl (by decide) rfl (fun ls hl => ?_)
        refine lv_iload_n hx hb (fk_get fk_cX11_on_0 31 rfl) rfl (lv_at hl 7 rfl) ?_
        by_cases c_19 : w_ = (0 : Int32)
        · refine lv_tableIn (off := 31) (tgt := 92) hx hb (dk_get dk_cX11_on_0 0 rfl) (by rw [c_19]; decide) (by rw [c_19]; decide) (by rw [c_19]; rfl) (by decide) ?_
          refine lv_iload hx hb (fk_get fk_cX11_on_1 0 rfl) (lv_at hl 0 rfl) ?_
          have hfi_ : (r_14) = onP (fF S (9 + 0) 6) (lstW 3 1 C) (lstW 2 5 C) τ C n (fun d => gX S (21 + 6 * 0 + d) (K d)) x y_ w_ := on_a (G := (fun d => gX S (21 + 6 * 0 + d) (K d))) hC_ hw_ hy_ hal_ (Or.inl ⟨by assumption, rfl⟩)
          subst hQ
          have hpost : XI S_16 ∧ Fr (fun j k => (j = 11 ∧ 3 ≤ k ∧ k ≤ 7) ∨ (33 ≤ j ∧ j < 39 ∧ 2 ≤ k ∧ k ≤ 9) ∨ (51 ≤ j ∧ j < 57 ∧ k = 99) ∨ ((j = 17 ∨ j = 20) ∧ k = 99)) S S_16 ∧ ((r_14 : Int32) = onP (fF S (9 + 0) 6) (lstW 3 1 C) (lstW 2 5 C) τ C n (fun d => gX S (21 + 6 * 0 + d) (K d)) x y_ w_) := by
            exact ⟨hX_17, hF_18, (by first | exact hfi_ | exact on_1 (Or.inl (outC hn6 hn_9)) | exact on_1 (Or.inr hnw_) | exact on_2 hC_ hw_ hny_)⟩
          exact W.iret (v := r_14) hx hb hr (fun t_ ht_ hW_ => ⟨⟨r_14, S_16, rfl, hpost, by rw [ht_]; exact hP, va_K.moved hW_.alike hK, hD⟩, hS.F ht_⟩) hS.2.2 (fk_get fk_cX11_on_1 1 rfl)
        by_cases c_20 : w_ = (1 : Int32)
        · refine lv_tableIn (off := 34) (tgt := 95) hx hb (dk_get dk_cX11_on_0 0 rfl) (by rw [c_20]; decide) (by rw [c_20]; decide) (by rw [c_20]; rfl) (by decide) ?_
          refine lv_iload hx hb (fk_get fk_cX11_on_1 2 rfl) (lv_at hl 0 rfl) ?_
          refine lv_aload hx hb (fk_get fk_cX11_on_1 3 rfl) (lv_at hl 3 rfl) ?_
          refine va_get (D := G.1) (ci := 9) (v := va_rf ((fR S_16 (9 + 2) 7).map ad)) (C := RX7) (T := TX7) (N := 8) hx hb hT inX7 hown hK hP (9 + 2) (ix_at (lt71 (by omega)) (cX_shop (pk_shop (by decide : 2 < 3)))) rfl 7 (by decide) (hT _ m1_217) (fun _ h9 => h9) rfl (fk_get fk_cX11_on_1 4 rfl) ?_
          rw [show va_rf ((fR S_16 (9 + 2) 7).map ad) = .ref (ad pz) from by rw [hpzA_]; rfl]
          refine va_get (D := G.1) (ci := 3) (v := .int (fF S_16 pz 0)) (C := RX1) (T := TX1) (N := 4) hx hb hT inX1 hown hK hP pz (ix_at (hcokA_).2.1 (cX_ctr (hcokA_).1 (hcokA_).2.2.1)) rfl 0 (by decide) (hT _ m1_114) (fun _ h9 => h9) rfl (fk_get fk_cX11_on_1 5 rfl) ?_
          refine lv_imul hx hb (fk_get fk_cX11_on_1 6 rfl) ?_
          have hfi_ : ((r_14 * (fF S_16 pz 0))) = onP (fF S (9 + 0) 6) (lstW 3 1 C) (lstW 2 5 C) τ C n (fun d => gX S (21 + 6 * 0 + d) (K d)) x y_ w_ := on_a (G := (fun d => gX S (21 + 6 * 0 + d) (K d))) hC_ hw_ hy_ hal_ (Or.inr (Or.inl ⟨by assumption, by assumption, by rw [hpr_]⟩))
          subst hQ
          have hpost : XI S_16 ∧ Fr (fun j k => (j = 11 ∧ 3 ≤ k ∧ k ≤ 7) ∨ (33 ≤ j ∧ j < 39 ∧ 2 ≤ k ∧ k ≤ 9) ∨ (51 ≤ j ∧ j < 57 ∧ k = 99) ∨ ((j = 17 ∨ j = 20) ∧ k = 99)) S S_16 ∧ (((r_14 * (fF S_16 pz 0)) : Int32) = onP (fF S (9 + 0) 6) (lstW 3 1 C) (lstW 2 5 C) τ C n (fun d => gX S (21 + 6 * 0 + d) (K d)) x y_ w_) := by
            exact ⟨hX_17, hF_18, (by first | exact hfi_ | exact on_1 (Or.inl (outC hn6 hn_9)) | exact on_1 (Or.inr hnw_) | exact on_2 hC_ hw_ hny_)⟩
          exact W.iret (v := (r_14 * (fF S_16 pz 0))) hx hb hr (fun t_ ht_ hW_ => ⟨⟨(r_14 * (fF S_16 pz 0)), S_16, rfl, hpost, by rw [ht_]; exact hP, va_K.moved hW_.alike hK, hD⟩, hS.F ht_⟩) hS.2.2 (fk_get fk_cX11_on_1 7 rfl)
        by_cases c_21 : w_ = (2 : Int32)
        · refine lv_tableIn (off := 46) (tgt := 107) hx hb (dk_get dk_cX11_on_0 0 rfl) (by rw [c_21]; decide) (by rw [c_21]; decide) (by rw [c_21]; rfl) (by decide) ?_
          refine lv_aload hx hb (fk_get fk_cX11_on_1 8 rfl) (lv_at hl 2 rfl) ?_
          refine va_get (D := G.1) (ci := 5) (v := .int (fF S_16 i_9 7)) (C := RX3) (T := TX3) (N := 10) hx hb hT inX3 hown hK hP i_9 (ix_at (lt71 (by omega)) (cX_cust hp_i_9)) rfl 7 (by decide) (hT _ m1_171) (fun _ h9 => h9) rfl (fk_get fk_cX11_on_1 9 rfl) ?_
          refine lv_iload hx hb (fk_get fk_cX11_on_1 10 rfl) (lv_at hl 1 rfl) ?_
          refine lv_isub hx hb (fk_get fk_cX11_on_1 11 rfl) ?_
          have hfi_ : (((fF S_16 i_9 7) - (fF S_3 i_9 7))) = onP (fF S (9 + 0) 6) (lstW 3 1 C) (lstW 2 5 C) τ C n (fun d => gX S (21 + 6 * 0 + d) (K d)) x y_ w_ := on_a (G := (fun d => gX S (21 + 6 * 0 + d) (K d))) hC_ hw_ hy_ hal_ (Or.inr (Or.inr (Or.inl ⟨by assumption, by assumption, by assumption, by show _ = _ - (gX S (21 + 6 * 0 + x.toNatClampNeg) (K x.toNatClampNeg)) 5; rw [← h5_]; rfl⟩)))
          subst hQ
          have hpost : XI S_16 ∧ Fr (fun j k => (j = 11 ∧ 3 ≤ k ∧ k ≤ 7) ∨ (33 ≤ j ∧ j < 39 ∧ 2 ≤ k ∧ k ≤ 9) ∨ (51 ≤ j ∧ j < 57 ∧ k = 99) ∨ ((j = 17 ∨ j = 20) ∧ k = 99)) S S_16 ∧ ((((fF S_16 i_9 7) - (fF S_3 i_9 7)) : Int32) = onP (fF S (9 + 0) 6) (lstW 3 1 C) (lstW 2 5 C) τ C n (fun d => gX S (21 + 6 * 0 + d) (K d)) x y_ w_) := by
            exact ⟨hX_17, hF_18, (by first | exact hfi_ | exact on_1 (Or.inl (outC hn6 hn_9)) | exact on_1 (Or.inr hnw_) | exact on_2 hC_ hw_ hny_)⟩
          exact W.iret (v := ((fF S_16 i_9 7) - (fF S_3 i_9 7))) hx hb hr (fun t_ ht_ hW_ => ⟨⟨((fF S_16 i_9 7) - (fF S_3 i_9 7)), S_16, rfl, hpost, by rw [ht_]; exact hP, va_K.moved hW_.alike hK, hD⟩, hS.F ht_⟩) hS.2.2 (fk_get fk_cX11_on_1 12 rfl)
        by_cases c_22 : w_ = (3 : Int32)
        · refine lv_tableIn (off := 55) (tgt := 116) hx hb (dk_get dk_cX11_on_0 0 rfl) (by rw [c_22]; decide) (by rw [c_22]; decide) (by rw [c_22]; rfl) (by decide) ?_
          refine lv_aload hx hb (fk_get fk_cX11_on_1 13 rfl) (lv_at hl 2 rfl) ?_
          refine va_get (D := G.1) (ci := 5) (v := .int (fF S_16 i_9 5)) (C := RX3) (T := TX3) (N := 10) hx hb hT inX3 hown hK hP i_9 (ix_at (lt71 (by omega)) (cX_cust hp_i_9)) rfl 5 (by decide) (hT _ m1_160) (fun _ h9 => h9) rfl (fk_get fk_cX11_on_1 14 rfl) ?_
          have hfi_ : ((fF S_16 i_9 5)) = onP (fF S (9 + 0) 6) (lstW 3 1 C) (lstW 2 5 C) τ C n (fun d => gX S (21 + 6 * 0 + d) (K d)) x y_ w_ := on_a (G := (fun d => gX S (21 + 6 * 0 + d) (K d))) hC_ hw_ hy_ hal_ (Or.inr (Or.inr (Or.inr (Or.inl ⟨by assumption, by assumption, by assumption, by assumption, rfl⟩))))
          subst hQ
          have hpost : XI S_16 ∧ Fr (fun j k => (j = 11 ∧ 3 ≤ k ∧ k ≤ 7) ∨ (33 ≤ j ∧ j < 39 ∧ 2 ≤ k ∧ k ≤ 9) ∨ (51 ≤ j ∧ j < 57 ∧ k = 99) ∨ ((j = 17 ∨ j = 20) ∧ k = 99)) S S_16 ∧ (((fF S_16 i_9 5) : Int32) = onP (fF S (9 + 0) 6) (lstW 3 1 C) (lstW 2 5 C) τ C n (fun d => gX S (21 + 6 * 0 + d) (K d)) x y_ w_) := by
            exact ⟨hX_17, hF_18, (by first | exact hfi_ | exact on_1 (Or.inl (outC hn6 hn_9)) | exact on_1 (Or.inr hnw_) | exact on_2 hC_ hw_ hny_)⟩
          exact W.iret (v := (fF S_16 i_9 5)) hx hb hr (fun t_ ht_ hW_ => ⟨⟨(fF S_16 i_9 5), S_16, rfl, hpost, by rw [ht_]; exact hP, va_K.moved hW_.alike hK, hD⟩, hS.F ht_⟩) hS.2.2 (fk_get fk_cX11_on_1 15 rfl)
        have o_23 : (w_).toInt < 0 ∨ 3 < (w_).toInt := by
          have qc_19 : ¬ (w_).toInt = 0 := lv_neT c_19 (by decide)
          have qc_20 : ¬ (w_).toInt = 1 := lv_neT c_20 (by decide)
          have qc_21 : ¬ (w_).toInt = 2 := lv_neT c_21 (by decide)
          have qc_22 : ¬ (w_).toInt = 3 := lv_neT c_22 (by decide)
          omega
        refine lv_tableOut (tgt := 122) hx hb (dk_get dk_cX11_on_0 0 rfl) o_23 (by decide) ?_
        refine lv_aload hx hb (fk_get fk_cX11_on_1 16 rfl) (lv_at hl 2 rfl) ?_
        refine va_get (D := G.1) (ci := 5) (v := .int (fF S_16 i_9 6)) (C := RX3) (T := TX3) (N := 10) hx hb hT inX3 hown hK hP i_9 (ix_at (lt71 (by omega)) (cX_cust hp_i_9)) rfl 6 (by decide) (hT _ m1_166) (fun _ h9 => h9) rfl (fk_get fk_cX11_on_1 17 rfl) ?_
        have hfi_ : ((fF S_16 i_9 6)) = onP (fF S (9 + 0) 6) (lstW 3 1 C) (lstW 2 5 C) τ C n (fun d => gX S (21 + 6 * 0 + d) (K d)) x y_ w_ := on_a (G := (fun d => gX S (21 + 6 * 0 + d) (K d))) hC_ hw_ hy_ hal_ (Or.inr (Or.inr (Or.inr (Or.inr ⟨by assumption, by assumption, by assumption, by assumption, rfl⟩))))
        subst hQ
        have hpost : XI S_16 ∧ Fr (fun j k => (j = 11 ∧ 3 ≤ k ∧ k ≤ 7) ∨ (33 ≤ j ∧ j < 39 ∧ 2 ≤ k ∧ k ≤ 9) ∨ (51 ≤ j ∧ j < 57 ∧ k = 99) ∨ ((j = 17 ∨ j = 20) ∧ k = 99)) S S_16 ∧ (((fF S_16 i_9 6) : Int32) = onP (fF S (9 + 0) 6) (lstW 3 1 C) (lstW 2 5 C) τ C n (fun d => gX S (21 + 6 * 0 + d) (K d)) x y_ w_) := by
          exact ⟨hX_17, hF_18, (by first | exact hfi_ | exact on_1 (Or.inl (outC hn6 hn_9)) | exact on_1 (Or.inr hnw_) | exact on_2 hC_ hw_ hny_)⟩
        exact W.iret (v := (fF S_16 i_9 6)) hx hb hr (fun t_ ht_ hW_ => ⟨⟨(fF S_16 i_9 6), S_16, rfl, hpost, by rw [ht_]; exact hP, va_K.moved hW_.alike hK, hD⟩, hS.F ht_⟩) hS.2.2 (fk_get fk_cX11_on_1 18 rfl)
      have p_c_13 := if1_t hw_12 c_13
      have hny_ := nan2 p_c_13
      refine lv_bipush (v := (-2)) hx hb (fk_get fk_cX11_on_0 21 rfl) (by decide) ?_
      subst hQ
      have hpost : XI S_3 ∧ Fr (fun j k => (j = 11 ∧ 3 ≤ k ∧ k ≤ 7) ∨ (33 ≤ j ∧ j < 39 ∧ 2 ≤ k ∧ k ≤ 9) ∨ (51 ≤ j ∧ j < 57 ∧ k = 99) ∨ ((j = 17 ∨ j = 20) ∧ k = 99)) S S_3 ∧ (((-2) : Int32) = onP (fF S (9 + 0) 6) (lstW 3 1 C) (lstW 2 5 C) τ C n (fun d => gX S (21 + 6 * 0 + d) (K d)) x y_ w_) := by
        exact ⟨hX_4, hF_5, (by first | exact hfi_ | exact on_1 (Or.inl (outC hn6 hn_9)) | exact on_1 (Or.inr hnw_) | exact on_2 hC_ hw_ hny_)⟩
      exact W.iret (v := (-2)) hx hb hr (fun t_ ht_ hW_ => ⟨⟨(-2), S_3, rfl, hpost, by rw [ht_]; exact hP, va_K.moved hW_.alike hK, hD⟩, hS.F ht_⟩) hS.2.2 (fk_get fk_cX11_on_0 22 rfl)
    have p_c_10 := if1_t hw_9 c_10
    have hnw_ := nan2 p_c_10
    refine lv_iconst (v := (-1)) hx hb (fk_get fk_cX11_on_0 14 rfl) (by decide) ?_
    subst hQ
    have hpost : XI S_3 ∧ Fr (fun j k => (j = 11 ∧ 3 ≤ k ∧ k ≤ 7) ∨ (33 ≤ j ∧ j < 39 ∧ 2 ≤ k ∧ k ≤ 9) ∨ (51 ≤ j ∧ j < 57 ∧ k = 99) ∨ ((j = 17 ∨ j = 20) ∧ k = 99)) S S_3 ∧ (((-1) : Int32) = onP (fF S (9 + 0) 6) (lstW 3 1 C) (lstW 2 5 C) τ C n (fun d => gX S (21 + 6 * 0 + d) (K d)) x y_ w_) := by
      exact ⟨hX_4, hF_5, (by first | exact hfi_ | exact on_1 (Or.inl (outC hn6 hn_9)) | exact on_1 (Or.inr hnw_) | exact on_2 hC_ hw_ hny_)⟩
    exact W.iret (v := (-1)) hx hb hr (fun t_ ht_ hW_ => ⟨⟨(-1), S_3, rfl, hpost, by rw [ht_]; exact hP, va_K.moved hW_.alike hK, hD⟩, hS.F ht_⟩) hS.2.2 (fk_get fk_cX11_on_0 15 rfl)
  rw [show va_rf none = .null from rfl]
  refine lv_astoreN (lv' := [(5, .null), (4, .ref (ad (9 + 2))), (0, .ref (ad 0)), (1, .int (x)), (2, .int (y_)), (3, .int (w_))]) hx hb (fk_get fk_cX11_on_0 6 rfl) hl (by decide) rfl (fun ls hl => ?_)
  refine lv_aloadN hx hb (fk_get fk_cX11_on_0 7 rfl) (lv_at hl 0 rfl) ?_
  refine lv_ifnullN (tgt := 28) hx hb (fk_get fk_cX11_on_0 8 rfl) (by decide) ?_
  refine lv_iconst (v := (-1)) hx hb (fk_get fk_cX11_on_0 14 rfl) (by decide) ?_
  subst hQ
  have hpost : XI S_3 ∧ Fr (fun j k => (j = 11 ∧ 3 ≤ k ∧ k ≤ 7) ∨ (33 ≤ j ∧ j < 39 ∧ 2 ≤ k ∧ k ≤ 9) ∨ (51 ≤ j ∧ j < 57 ∧ k = 99) ∨ ((j = 17 ∨ j = 20) ∧ k = 99)) S S_3 ∧ (((-1) : Int32) = onP (fF S (9 + 0) 6) (lstW 3 1 C) (lstW 2 5 C) τ C n (fun d => gX S (21 + 6 * 0 + d) (K d)) x y_ w_) := by
    exact ⟨hX_4, hF_5, (by first | exact hfi_ | exact on_1 (Or.inl (outC hn6 hn_9)) | exact on_1 (Or.inr hnw_) | exact on_2 hC_ hw_ hny_)⟩
  exact W.iret (v := (-1)) hx hb hr (fun t_ ht_ hW_ => ⟨⟨(-1), S_3, rfl, hpost, by rw [ht_]; exact hP, va_K.moved hW_.alike hK, hD⟩, hS.F ht_⟩) hS.2.2 (fk_get fk_cX11_on_0 15 rfl)
set_option maxHeartbeats 800000 in
set_option maxRecDepth 100000 in
theorem c_x11_overX (l : Launch) (G : GG) (ad : Nat → Nat) (S : FS) (sz : Nat) (n pz : Nat) (K : Nat → Nat) (τ : Nat → Int32) (C : Cls) (x y_ w_ : Int32) (hn : fF S (9 + 0) 3 = nI n) (hn6 : n ≤ 6) (hcf : CuF S 0 n pz τ C K) (hgc : ∀ d, d < n → GC 9999 (gX S (21 + 6 * 0 + d) (K d))) (h99 : N99 C) (hX : XI S) : Met l yX11_over (Cond.code yX11_over cX11_over 6 (some .int) :: TBL) ({ frames := 7, cells := 0, slots := 0, locals := 202 } : Room) (PcW G (wX G ad S) sz [.ref (ad 0), .int (x), .int (y_), .int (w_)]) (va_Qi (fun (r : Int32) (S' : FS) => XI S' ∧ Fr (fun j k => (j = 11 ∧ 3 ≤ k ∧ k ≤ 7) ∨ (33 ≤ j ∧ j < 39 ∧ 2 ≤ k ∧ k ≤ 9) ∨ (51 ≤ j ∧ j < 57 ∧ k = 99) ∨ ((j = 17 ∨ j = 20) ∧ k = 99)) S S' ∧ (r = overP (fF S (9 + 0) 6) (lstW 3 1 C) (lstW 2 5 C) τ C n (fun d => gX S (21 + 6 * 0 + d) (K d)) x y_ w_)) (fun S' t => BW G (va_A (wX G ad S) sz) (wX G ad S') t) (va_A (wX G ad S) sz)) 0 0 (va_A (wX G ad S) sz) := by
  refine Met.ofW (cc := cX11_over) (maxL := 6) (ret := (some .int)) (by decide) rfl ?_
  intro p e s m args below meth c₀ s₁ B hml hv
  obtain ⟨rfl, hsz, hP, hK, hD0⟩ := hv
  have hx := B.exec
  have hb := B.bytes
  have hr := B.returns
  have hT : ∀ w ∈ TBL, w.before ([.ref (ad 0), .int (x), .int (y_), .int (w_)] : List Value).toArray s = true := fun w h => atoms_spec (ws := Cond.code yX11_over cX11_over 6 (some .int) :: TBL) B.pre w (List.mem_cons_of_mem _ h)
  have hown : s.vm.findClass "LittleMore" = some m.cls := findClass_of_methodNamed B.named
  have hlocks := B.notSynchronized
  subst hsz
  have hD := hD0.self (sz := s.heap.size)
  generalize hAe : va_A (wX G ad S) s.heap.size = A at hD ⊢
  have hA : ∀ q : Nat, s.heap.size ≤ q → A q := fun q h => by rw [← hAe]; exact Or.inr h
  have hS : va_S A s.heap s.heap [] := va_S.rf
  have hP : va_P G.1 vwCl (wX G ad S) s.heap := hP
  have hl := lv_entry ([.ref (ad 0), .int (x), .int (y_), .int (w_)]) (n := 6) (Nat.le_of_ble_eq_true rfl)
  rw [lg_entry_eq]
  generalize (lg_sl ([.ref (ad 0), .int (x), .int (y_), .int (w_)]) ++ List.replicate (6 - (lg_sl ([.ref (ad 0), .int (x), .int (y_), .int (w_)])).length) Slot.unset).toArray = ls at hl ⊢
  have hl : lv_has ls 6 [(0, .ref (ad 0)), (1, .int (x)), (2, .int (y_)), (3, .int (w_))] := hl
  refine W_abs (fun Q hQ => ?_)
  generalize ([.ref (ad 0), .int (x), .int (y_), .int (w_)] : List Value).toArray = args at hT hQ ⊢
  obtain ⟨-, hpz0, hcok0, hctx0, hsay0⟩ := id hcf
  obtain ⟨lz, hlz, hln⟩ := lst_99 (k := 3) C 1 ⟨1, by omega, rfl⟩ h99.2
  refine lv_aload_n hx hb (fk_get fk_cX11_over_0 0 rfl) rfl (lv_at hl 0 rfl) ?_
  have hFc := va_self hD hS hA
  refine va_callr (va_runV (As := []) (rest := []) ⟨hx, hb, hml, hown, hT⟩ (c_x11_shopToTryX l G ad S s.heap.size (n) (hn) (hn6) (hX)) (tV 0 hT m3_211 m3_213 mp_11 m1_1 m3_214 rfl rfl (by decide +kernel) ⟨Nat.le_of_ble_eq_true rfl, Nat.le_of_ble_eq_true rfl⟩) ⟨PcW_blind, va_recv hK hP (ci := 13) (q0 := 0) rfl (ix_at (lt71 (by omega)) (cX_0 G ad S)), PcW_of hP hK hD _⟩ rfl rfl hl.1 rfl (lv_room (Nat.le_of_ble_eq_true rfl)) (fk_get fk_cX11_over_0 1 rfl) ⟨Nat.zero_le _, Nat.zero_le _⟩) hS (fun q _ h => hFc q h) hFc (fun S_3 r_1 t_ H locs ht_ hvm_ hw_2 hB_ hz_ hk_ hS => ?_)
  obtain ⟨hra_, hB_⟩ := hB_
  subst hra_
  obtain ⟨hP, -, hD1_⟩ := hB_
  rw [ht_] at hP
  have hD : va_D A (wX G ad S_3) := hD1_.weaken (fun k q _ h => hFc q.1 h)
  try dsimp only at hw_2
  obtain ⟨hX_4, hF_5_, hw_2⟩ := hw_2
  have hF_5 : Fr (fun j k => (j = 11 ∧ 3 ≤ k ∧ k ≤ 7) ∨ (33 ≤ j ∧ j < 39 ∧ 2 ≤ k ∧ k ≤ 9) ∨ (51 ≤ j ∧ j < 57 ∧ k = 99) ∨ ((j = 17 ∨ j = 20) ∧ k = 99)) S S_3 := Fr.trans (Fr.rf : Fr (fun j k => (j = 11 ∧ 3 ≤ k ∧ k ≤ 7) ∨ (33 ≤ j ∧ j < 39 ∧ 2 ≤ k ∧ k ≤ 9) ∨ (51 ≤ j ∧ j < 57 ∧ k = 99) ∨ ((j = 17 ∨ j = 20) ∧ k = 99)) S S) (Fr.mono hF_5_ (fun j k h => by omega))
  obtain ⟨hbe_, hrr_⟩ := hw_2
  obtain ⟨hcf2_, hgx2_, hbf_, hsn2_⟩ := try_of hbe_ hrr_ hF_5_ hcf hn6
  have hn2_ : fF S_3 (9 + 2) 3 = nI n := (hbf_ 3 (by omega) (by omega)).trans hn
  have hpz2_ : fR S_3 (9 + 2) 7 = some pz := hcf2_.2.1
  have hcok2_ : COK S_3 pz := hcf2_.2.2.1
  have hof2_ : fF S_3 (9 + 2) 6 = fF S (9 + 0) 6 := hbf_ 6 (by omega) (by omega)
  have hgc2_ : ∀ d, d < n → GC 9999 (gX S_3 (21 + 6 * 2 + d) (K d)) := fun d hd => by rw [hgx2_ d hd]; exact hgc d hd
  refine lv_astore (lv' := [(4, .ref (ad (9 + 2))), (0, .ref (ad 0)), (1, .int (x)), (2, .int (y_)), (3, .int (w_))]) hx hb (fk_get fk_cX11_over_0 2 rfl) hl (by decide) rfl (fun ls hl => ?_)
  refine lv_aload hx hb (fk_get fk_cX11_over_0 3 rfl) (lv_at hl 0 rfl) ?_
  refine lv_iload_n hx hb (fk_get fk_cX11_over_0 4 rfl) rfl (lv_at hl 2 rfl) ?_
  refine va_csq (W.runV (As := [.int (x)]) (rest := []) ⟨hx, hb, hml, hown, hT⟩ (c_x7_at l G ad S_3 H.size (2) (n) (x) ((by decide : 2 < 3)) (hn2_) (hn6) (hX_4)) (tV 1 hT m2_120 m2_121 m2_122 m1_9 m2_123 rfl rfl (by decide +kernel) ⟨Nat.le_of_ble_eq_true rfl, Nat.le_of_ble_eq_true rfl⟩) ⟨PcW_blind, va_recv hK hP (ci := 9) (q0 := (9 + 2)) rfl (ix_at (lt71 (by omega)) (cX_shop (pk_shop (by decide : 2 < 3)))), PcW_of hP hK hD _⟩ rfl rfl hl.1 rfl (lv_room (Nat.le_of_ble_eq_true rfl)) (fk_get fk_cX11_over_0 5 rfl) ⟨Nat.zero_le _, Nat.zero_le _⟩) (fun r_6 hw_7 => ?_)
  try dsimp only at hw_7
  rcases hw_7 with ⟨j_9, hj_9, ej_9, rfl⟩ | ⟨rfl, hn_9⟩
  · rw [show va_rf (some (ad (21 + 6 * 2 + j_9))) = .ref (ad (21 + 6 * 2 + j_9)) from rfl]
    generalize hg_i_9 : 21 + 6 * 2 + j_9 = i_9
    have hp_i_9 : pk i_9 = 7 := by rw [← hg_i_9]; exact pk_c (by decide : 2 < 3) (show j_9 < 6 by omega)
    have hb_i_9 := pk7 hp_i_9
    refine lv_astore (lv' := [(5, .ref (ad i_9)), (4, .ref (ad (9 + 2))), (0, .ref (ad 0)), (1, .int (x)), (2, .int (y_)), (3, .int (w_))]) hx hb (fk_get fk_cX11_over_0 6 rfl) hl (by decide) rfl (fun ls hl => ?_)
    refine lv_aload hx hb (fk_get fk_cX11_over_0 7 rfl) (lv_at hl 0 rfl) ?_
    refine lv_ifnonnull (tgt := 22) hx hb (fk_get fk_cX11_over_0 8 rfl) (by decide) ?_
    have hC_ : isC n x := inC hn6 hj_9 ej_9
    have hcl_ : x.toNatClampNeg = j_9 := by rw [ej_9]; exact nI_clamp (by omega)
    have hcn_ : fF S_3 i_9 0 = x := by rw [← hg_i_9, ej_9]; exact XI.num hX_4 (by omega) (by omega)
    have hgx_ : gX S_3 i_9 (K j_9) = gX S (21 + 6 * 0 + x.toNatClampNeg) (K x.toNatClampNeg) := by rw [hcl_, ← hg_i_9]; exact hgx2_ _ hj_9
    have hcu_ : CuC S_3 2 i_9 (K j_9) pz τ C := by rw [← hg_i_9]; exact hcf2_.at hj_9
    have hgb_ : GB 9999 (gX S_3 i_9 (K j_9)) := by rw [← hg_i_9]; exact (hgc2_ _ hj_9).1
    refine lv_iload_n hx hb (fk_get fk_cX11_over_0 11 rfl) rfl (lv_at hl 4 rfl) ?_
    refine lv_iconst (v := 1) hx hb (fk_get fk_cX11_over_0 12 rfl) (by decide) ?_
    refine lv_bipush (v := 99) hx hb (fk_get fk_cX11_over_0 13 rfl) (by decide) ?_
    refine vp_callSi (W.runS (As := [.int (y_), .int (1), .int (99)]) (rest := []) ⟨hx, hb, hml, hown, hT⟩ (c_xisOutside l (y_) (1) (99) ) (tS 3 hT m2_108 m2_109 m1_1 m2_110 rfl rfl (by decide +kernel) ⟨Nat.le_of_ble_eq_true rfl, Nat.le_of_ble_eq_true rfl⟩) ⟨PcN_blind, PcN_of _ _ _⟩ rfl rfl hl.1 rfl (lv_room (Nat.le_of_ble_eq_true rfl)) (fk_get fk_cX11_over_0 14 rfl) ⟨Nat.zero_le _, Nat.zero_le _⟩) (fun r_8 hw_9 => ?_)
    try dsimp only at hw_9
    refine lv_if_ne (tgt := 42) hx hb (fk_get fk_cX11_over_0 15 rfl) (by decide) (fun c_10 => ?_) (fun c_10 => ?_)
    · have p_c_10 := if1_t hw_9 c_10
      have hnp_ := nan2 p_c_10
      refine lv_ldc (v := (-1000002)) hx hb hown (hT _ m4_32) (fk_get fk_cX11_over_0 21 rfl) ?_
      subst hQ
      have hpost : XI S_3 ∧ Fr (fun j k => (j = 11 ∧ 3 ≤ k ∧ k ≤ 7) ∨ (33 ≤ j ∧ j < 39 ∧ 2 ≤ k ∧ k ≤ 9) ∨ (51 ≤ j ∧ j < 57 ∧ k = 99) ∨ ((j = 17 ∨ j = 20) ∧ k = 99)) S S_3 ∧ (((-1000002) : Int32) = overP (fF S (9 + 0) 6) (lstW 3 1 C) (lstW 2 5 C) τ C n (fun d => gX S (21 + 6 * 0 + d) (K d)) x y_ w_) := by
        exact ⟨hX_4, hF_5, (by first | exact over_1 (outC hn6 hn_9) | exact over_2 hC_ (Or.inl hnp_) | exact over_2 hC_ (Or.inr hny_) | (rw [hpr_, h2_]; exact hfi_))⟩
      exact W.iret (v := (-1000002)) hx hb hr (fun t_ ht_ hW_ => ⟨⟨(-1000002), S_3, rfl, hpost, by rw [ht_]; exact hP, va_K.moved hW_.alike hK, hD⟩, hS.F ht_⟩) hS.2.2 (fk_get fk_cX11_over_0 22 rfl)
    have p_c_10 := if1_f hw_9 c_10
    have hp_ := nor2.mp p_c_10
    refine lv_iload_n hx hb (fk_get fk_cX11_over_0 16 rfl) rfl (lv_at hl 5 rfl) ?_
    refine lv_iconst (v := 1) hx hb (fk_get fk_cX11_over_0 17 rfl) (by decide) ?_
    refine lv_bipush (v := 40) hx hb (fk_get fk_cX11_over_0 18 rfl) (by decide) ?_
    refine vp_callSi (W.runS (As := [.int (w_), .int (1), .int (40)]) (rest := []) ⟨hx, hb, hml, hown, hT⟩ (c_xisOutside l (w_) (1) (40) ) (tS 3 hT m2_108 m2_109 m1_1 m2_110 rfl rfl (by decide +kernel) ⟨Nat.le_of_ble_eq_true rfl, Nat.le_of_ble_eq_true rfl⟩) ⟨PcN_blind, PcN_of _ _ _⟩ rfl rfl hl.1 rfl (lv_room (Nat.le_of_ble_eq_true rfl)) (fk_get fk_cX11_over_0 19 rfl) ⟨Nat.zero_le _, Nat.zero_le _⟩) (fun r_11 hw_12 => ?_)
    try dsimp only at hw_12
    refine lv_if_eq (tgt := 45) hx hb (fk_get fk_cX11_over_0 20 rfl) (by decide) (fun c_13 => ?_) (fun c_13 => ?_)
    · have p_c_13 := if1_f hw_12 c_13
      obtain ⟨wz, hw40, ew⟩ := out_1 (b := 40) p_c_13 (by decide)
      have hcy_ : w_.toNatClampNeg = wz := by rw [ew]; exact nI_clamp (by omega)
      have hy_ := nor2.mp p_c_13
      refine lv_aload hx hb (fk_get fk_cX11_over_0 23 rfl) (lv_at hl 1 rfl) ?_
      refine lv_aload hx hb (fk_get fk_cX11_over_0 24 rfl) (lv_at hl 0 rfl) ?_
      refine lv_iload_n hx hb (fk_get fk_cX11_over_0 25 rfl) rfl (lv_at hl 5 rfl) ?_
      have hFc := va_self hD hS hA
      refine va_calli (va_runV (As := [.ref (ad i_9), .int (w_)]) (rest := []) ⟨hx, hb, hml, hown, hT⟩ (c_x7_makeVisitsAloneXE l G ad S_3 H.size (2) (i_9) (K j_9) (pz) (9999) (lz) (wz) (τ) (C) ((by decide : 2 < 3)) (hp_i_9) (hcu_) (hgb_) (by omega) (hln) (hlz) (by omega) (w_) (ew) (hX_4)) (tV 2 hT m3_225 m3_226 m3_227 m1_9 m3_228 rfl rfl (by decide +kernel) ⟨Nat.le_of_ble_eq_true rfl, Nat.le_of_ble_eq_true rfl⟩) ⟨PcW_blind, va_recv hK hP (ci := 9) (q0 := (9 + 2)) rfl (ix_at (lt71 (by omega)) (cX_shop (pk_shop (by decide : 2 < 3)))), PcW_of hP hK hD _⟩ rfl rfl hl.1 rfl (lv_room (Nat.le_of_ble_eq_true rfl)) (fk_get fk_cX11_over_0 26 rfl) ⟨Nat.zero_le _, Nat.zero_le _⟩) hS (fun q _ h => hFc q h) hFc (fun r_14 S_16 t_ H locs ht_ hvm_ hw_15 hB_ hz_ hk_ hS => ?_)
      obtain ⟨hP, -, hD1_⟩ := hB_
      rw [ht_] at hP
      have hD : va_D A (wX G ad S_16) := hD1_.weaken (fun k q _ h => hFc q.1 h)
      try dsimp only at hw_15
      obtain ⟨hX_17, hF_18_, hw_15⟩ := hw_15
      have hF_18 : Fr (fun j k => (j = 11 ∧ 3 ≤ k ∧ k ≤ 7) ∨ (33 ≤ j ∧ j < 39 ∧ 2 ≤ k ∧ k ≤ 9) ∨ (51 ≤ j ∧ j < 57 ∧ k = 99) ∨ ((j = 17 ∨ j = 20) ∧ k = 99)) S S_16 := Fr.trans hF_5 (Fr.mono hF_18_ (fun j k h => by omega))
      obtain ⟨hal_, -⟩ := hw_15
      rw [hof2_, hcn_, hgx_, ← hcy_] at hal_
      have h2_ : fF S_16 i_9 4 = gX S (21 + 6 * 0 + x.toNatClampNeg) (K x.toNatClampNeg) 2 := (Fr.F hF_18_ (j := i_9) (k := 4) (lt71 (by omega)) (by omega)).trans (congrFun hgx_ 2)
      have hcuA_ := hcu_.fr (by omega) (by omega) hF_18_ (by omega) (by omega) (fun j k a b => by omega)
      have hpzA_ := hcuA_.1.2.2.1
      have hcokA_ := hcuA_.1.2.2.2.1
      have hpr_ : fF S_16 pz 0 = lstW 2 5 C := hcuA_.1.2.2.2.2.1
      have hfi_ := over_r (off := fF S (9 + 0) 6) (pr := lstW 2 5 C) (G := (fun d => gX S (21 + 6 * 0 + d) (K d))) hC_ hp_ hy_ hal_
      refine lv_aload hx hb (fk_get fk_cX11_over_0 27 rfl) (lv_at hl 1 rfl) ?_
      refine va_get (D := G.1) (ci := 9) (v := va_rf ((fR S_16 (9 + 2) 7).map ad)) (C := RX7) (T := TX7) (N := 8) hx hb hT inX7 hown hK hP (9 + 2) (ix_at (lt71 (by omega)) (cX_shop (pk_shop (by decide : 2 < 3)))) rfl 7 (by decide) (hT _ m1_217) (fun _ h9 => h9) rfl (fk_get fk_cX11_over_0 28 rfl) ?_
      rw [show va_rf ((fR S_16 (9 + 2) 7).map ad) = .ref (ad pz) from by rw [hpzA_]; rfl]
      refine va_get (D := G.1) (ci := 3) (v := .int (fF S_16 pz 0)) (C := RX1) (T := TX1) (N := 4) hx hb hT inX1 hown hK hP pz (ix_at (hcokA_).2.1 (cX_ctr (hcokA_).1 (hcokA_).2.2.1)) rfl 0 (by decide) (hT _ m1_114) (fun _ h9 => h9) rfl (fk_get fk_cX11_over_0 29 rfl) ?_
      refine lv_imul hx hb (fk_get fk_cX11_over_0 30 rfl) ?_
      refine lv_iload_n hx hb (fk_get fk_cX11_over_0 31 rfl) rfl (lv_at hl 5 rfl) ?_
      refine lv_aload hx hb (fk_get fk_cX11_over_1 0 rfl) (lv_at hl 0 rfl) ?_
      refine va_get (D := G.1) (ci := 5) (v := .int (fF S_16 i_9 4)) (C := RX3) (T := TX3) (N := 10) hx hb hT inX3 hown hK hP i_9 (ix_at (lt71 (by omega)) (cX_cust hp_i_9)) rfl 4 (by decide) (hT _ m1_157) (fun _ h9 => h9) rfl (fk_get fk_cX11_over_1 1 rfl) ?_
      refine lv_imul hx hb (fk_get fk_cX11_over_1 2 rfl) ?_
      refine lv_iload_n hx hb (fk_get fk_cX11_over_1 3 rfl) rfl (lv_at hl 4 rfl) ?_
      refine lv_imul hx hb (fk_get fk_cX11_over_1 4 rfl) ?_
      refine lv_isub hx hb (fk_get fk_cX11_over_1 5 rfl) ?_
      subst hQ
      have hpost : XI S_16 ∧ Fr (fun j k => (j = 11 ∧ 3 ≤ k ∧ k ≤ 7) ∨ (33 ≤ j ∧ j < 39 ∧ 2 ≤ k ∧ k ≤ 9) ∨ (51 ≤ j ∧ j < 57 ∧ k = 99) ∨ ((j = 17 ∨ j = 20) ∧ k = 99)) S S_16 ∧ ((((r_14 * (fF S_16 pz 0)) - ((w_ * (fF S_16 i_9 4)) * y_)) : Int32) = overP (fF S (9 + 0) 6) (lstW 3 1 C) (lstW 2 5 C) τ C n (fun d => gX S (21 + 6 * 0 + d) (K d)) x y_ w_) := by
        exact ⟨hX_17, hF_18, (by first | exact over_1 (outC hn6 hn_9) | exact over_2 hC_ (Or.inl hnp_) | exact over_2 hC_ (Or.inr hny_) | (rw [hpr_, h2_]; exact hfi_))⟩
      exact W.iret (v := ((r_14 * (fF S_16 pz 0)) - ((w_ * (fF S_16 i_9 4)) * y_))) hx hb hr (fun t_ ht_ hW_ => ⟨⟨((r_14 * (fF S_16 pz 0)) - ((w_ * (fF S_16 i_9 4)) * y_)), S_16, rfl, hpost, by rw [ht_]; exact hP, va_K.moved hW_.alike hK, hD⟩, hS.F ht_⟩) hS.2.2 (fk_get fk_cX11_over_1 6 rfl)
    have p_c_13 := if1_t hw_12 c_13
    have hny_ := nan2 p_c_13
    refine lv_ldc (v := (-1000002)) hx hb hown (hT _ m4_32) (fk_get fk_cX11_over_0 21 rfl) ?_
    subst hQ
    have hpost : XI S_3 ∧ Fr (fun j k => (j = 11 ∧ 3 ≤ k ∧ k ≤ 7) ∨ (33 ≤ j ∧ j < 39 ∧ 2 ≤ k ∧ k ≤ 9) ∨ (51 ≤ j ∧ j < 57 ∧ k = 99) ∨ ((j = 17 ∨ j = 20) ∧ k = 99)) S S_3 ∧ (((-1000002) : Int32) = overP (fF S (9 + 0) 6) (lstW 3 1 C) (lstW 2 5 C) τ C n (fun d => gX S (21 + 6 * 0 + d) (K d)) x y_ w_) := by
      exact ⟨hX_4, hF_5, (by first | exact over_1 (outC hn6 hn_9) | exact over_2 hC_ (Or.inl hnp_) | exact over_2 hC_ (Or.inr hny_) | (rw [hpr_, h2_]; exact hfi_))⟩
    exact W.iret (v := (-1000002)) hx hb hr (fun t_ ht_ hW_ => ⟨⟨(-1000002), S_3, rfl, hpost, by rw [ht_]; exact hP, va_K.moved hW_.alike hK, hD⟩, hS.F ht_⟩) hS.2.2 (fk_get fk_cX11_over_0 22 rfl)
  rw [show va_rf none = .null from rfl]
  refine lv_astoreN (lv' := [(5, .null), (4, .ref (ad (9 + 2))), (0, .ref (ad 0)), (1, .int (x)), (2, .int (y_)), (3, .int (w_))]) hx hb (fk_get fk_cX11_over_0 6 rfl) hl (by decide) rfl (fun ls hl => ?_)
  refine lv_aloadN hx hb (fk_get fk_cX11_over_0 7 rfl) (lv_at hl 0 rfl) ?_
  refine lv_ifnonnullN hx hb (fk_get fk_cX11_over_0 8 rfl) ?_
  refine lv_ldc (v := (-1000001)) hx hb hown (hT _ m4_31) (fk_get fk_cX11_over_0 9 rfl) ?_
  subst hQ
  have hpost : XI S_3 ∧ Fr (fun j k => (j = 11 ∧ 3 ≤ k ∧ k ≤ 7) ∨ (33 ≤ j ∧ j < 39 ∧ 2 ≤ k ∧ k ≤ 9) ∨ (51 ≤ j ∧ j < 57 ∧ k = 99) ∨ ((j = 17 ∨ j = 20) ∧ k = 99)) S S_3 ∧ (((-1000001) : Int32) = overP (fF S (9 + 0) 6) (lstW 3 1 C) (lstW 2 5 C) τ C n (fun d => gX S (21 + 6 * 0 + d) (K d)) x y_ w_) := by
    exact ⟨hX_4, hF_5, (by first | exact over_1 (outC hn6 hn_9) | exact over_2 hC_ (Or.inl hnp_) | exact over_2 hC_ (Or.inr hny_) | (rw [hpr_, h2_]; exact hfi_))⟩
  exact W.iret (v := (-1000001)) hx hb hr (fun t_ ht_ hW_ => ⟨⟨(-1000001), S_3, rfl, hpost, by rw [ht_]; exact hP, va_K.moved hW_.alike hK, hD⟩, hS.F ht_⟩) hS.2.2 (fk_get fk_cX11_over_0 10 rfl)
set_option maxHeartbeats 800000 in
set_option maxRecDepth 100000 in
theorem c_x11_shopBehindX (l : Launch) (G : GG) (ad : Nat → Nat) (S : FS) (sz : Nat) (n pz wz : Nat) (K : Nat → Nat) (τ : Nat → Int32) (C : Cls) (x : Int32) (hn : fF S (9 + 0) 3 = nI n) (hn6 : n ≤ 6) (hcf : CuF S 0 n pz τ C K) (hgc : ∀ d, d < n → GC 9999 (gX S (21 + 6 * 0 + d) (K d))) (h99 : N99 C) (ew : x = nI wz) (hw40 : wz ≤ 40) (hX : XI S) : Met l yX11_shopBehind (Cond.code yX11_shopBehind cX11_shopBehind 4 (some (.object "LittleMore$Shop")) :: TBL) ({ frames := 7, cells := 0, slots := 0, locals := 200 } : Room) (PcW G (wX G ad S) sz [.ref (ad 0), .int (x)]) (va_Qr (fun (S' : FS) => XI S' ∧ Fr (fun j k => (j = 11 ∧ 3 ≤ k ∧ k ≤ 7) ∨ (33 ≤ j ∧ j < 39 ∧ 2 ≤ k ∧ k ≤ 9) ∨ (51 ≤ j ∧ j < 57 ∧ k = 99) ∨ ((j = 17 ∨ j = 20) ∧ k = 99)) S S' ∧ (fF S' (9 + 2) 3 = nI n ∧ CuF S' 2 n pz τ C K ∧ fF S' (9 + 2) 6 = (fF S (9 + 0) 6) ∧ (∀ d, d < n → GC (9999 + wz) (gX S' (21 + 6 * 2 + d) (K d))) ∧ cutF n (fun d => gX S' (21 + 6 * 2 + d) (K d)) = (stF 1 (fF S (9 + 0) 6) (lstW 3 1 C) τ C n wz (cutF n (fun d => gX S (21 + 6 * 0 + d) (K d)))))) (fun S' a t => a = ad (9 + 2) ∧ BW G (va_A (wX G ad S) sz) (wX G ad S') t) (va_A (wX G ad S) sz)) 0 0 (va_A (wX G ad S) sz) := by
  refine Met.ofW (cc := cX11_shopBehind) (maxL := 4) (ret := (some (.object "LittleMore$Shop"))) (by decide) rfl ?_
  intro p e s m args below meth c₀ s₁ B hml hv
  obtain ⟨rfl, hsz, hP, hK, hD0⟩ := hv
  have hx := B.exec
  have hb := B.bytes
  have hr := B.returns
  have hT : ∀ w ∈ TBL, w.before ([.ref (ad 0), .int (x)] : List Value).toArray s = true := fun w h => atoms_spec (ws := Cond.code yX11_shopBehind cX11_shopBehind 4 (some (.object "LittleMore$Shop")) :: TBL) B.pre w (List.mem_cons_of_mem _ h)
  have hown : s.vm.findClass "LittleMore" = some m.cls := findClass_of_methodNamed B.named
  have hlocks := B.notSynchronized
  subst hsz
  have hD := hD0.self (sz := s.heap.size)
  generalize hAe : va_A (wX G ad S) s.heap.size = A at hD ⊢
  have hA : ∀ q : Nat, s.heap.size ≤ q → A q := fun q h => by rw [← hAe]; exact Or.inr h
  have hS : va_S A s.heap s.heap [] := va_S.rf
  have hP : va_P G.1 vwCl (wX G ad S) s.heap := hP
  have hl := lv_entry ([.ref (ad 0), .int (x)]) (n := 4) (Nat.le_of_ble_eq_true rfl)
  rw [lg_entry_eq]
  generalize (lg_sl ([.ref (ad 0), .int (x)]) ++ List.replicate (4 - (lg_sl ([.ref (ad 0), .int (x)])).length) Slot.unset).toArray = ls at hl ⊢
  have hl : lv_has ls 4 [(0, .ref (ad 0)), (1, .int (x))] := hl
  refine W_abs (fun Q hQ => ?_)
  generalize ([.ref (ad 0), .int (x)] : List Value).toArray = args at hT hQ ⊢
  obtain ⟨-, hpz0, hcok0, hctx0, hsay0⟩ := id hcf
  obtain ⟨lz, hlz, hln⟩ := lst_99 (k := 3) C 1 ⟨1, by omega, rfl⟩ h99.2
  refine lv_aload_n hx hb (fk_get fk_cX11_shopBehind_0 0 rfl) rfl (lv_at hl 0 rfl) ?_
  have hFc := va_self hD hS hA
  refine va_callr (va_runV (As := []) (rest := []) ⟨hx, hb, hml, hown, hT⟩ (c_x11_shopToTryX l G ad S s.heap.size (n) (hn) (hn6) (hX)) (tV 0 hT m3_211 m3_213 mp_11 m1_1 m3_214 rfl rfl (by decide +kernel) ⟨Nat.le_of_ble_eq_true rfl, Nat.le_of_ble_eq_true rfl⟩) ⟨PcW_blind, va_recv hK hP (ci := 13) (q0 := 0) rfl (ix_at (lt71 (by omega)) (cX_0 G ad S)), PcW_of hP hK hD _⟩ rfl rfl hl.1 rfl (lv_room (Nat.le_of_ble_eq_true rfl)) (fk_get fk_cX11_shopBehind_0 1 rfl) ⟨Nat.zero_le _, Nat.zero_le _⟩) hS (fun q _ h => hFc q h) hFc (fun S_3 r_1 t_ H locs ht_ hvm_ hw_2 hB_ hz_ hk_ hS => ?_)
  obtain ⟨hra_, hB_⟩ := hB_
  subst hra_
  obtain ⟨hP, -, hD1_⟩ := hB_
  rw [ht_] at hP
  have hD : va_D A (wX G ad S_3) := hD1_.weaken (fun k q _ h => hFc q.1 h)
  try dsimp only at hw_2
  obtain ⟨hX_4, hF_5_, hw_2⟩ := hw_2
  have hF_5 : Fr (fun j k => (j = 11 ∧ 3 ≤ k ∧ k ≤ 7) ∨ (33 ≤ j ∧ j < 39 ∧ 2 ≤ k ∧ k ≤ 9) ∨ (51 ≤ j ∧ j < 57 ∧ k = 99) ∨ ((j = 17 ∨ j = 20) ∧ k = 99)) S S_3 := Fr.trans (Fr.rf : Fr (fun j k => (j = 11 ∧ 3 ≤ k ∧ k ≤ 7) ∨ (33 ≤ j ∧ j < 39 ∧ 2 ≤ k ∧ k ≤ 9) ∨ (51 ≤ j ∧ j < 57 ∧ k = 99) ∨ ((j = 17 ∨ j = 20) ∧ k = 99)) S S) (Fr.mono hF_5_ (fun j k h => by omega))
  obtain ⟨hbe_, hrr_⟩ := hw_2
  obtain ⟨hcf2_, hgx2_, hbf_, hsn2_⟩ := try_of hbe_ hrr_ hF_5_ hcf hn6
  have hn2_ : fF S_3 (9 + 2) 3 = nI n := (hbf_ 3 (by omega) (by omega)).trans hn
  have hpz2_ : fR S_3 (9 + 2) 7 = some pz := hcf2_.2.1
  have hcok2_ : COK S_3 pz := hcf2_.2.2.1
  have hof2_ : fF S_3 (9 + 2) 6 = fF S (9 + 0) 6 := hbf_ 6 (by omega) (by omega)
  have hgc2_ : ∀ d, d < n → GC 9999 (gX S_3 (21 + 6 * 2 + d) (K d)) := fun d hd => by rw [hgx2_ d hd]; exact hgc d hd
  refine lv_astore_n (lv' := [(2, .ref (ad (9 + 2))), (0, .ref (ad 0)), (1, .int (x))]) hx hb (fk_get fk_cX11_shopBehind_0 2 rfl) rfl hl (by decide) rfl (fun ls hl => ?_)
  refine lv_iconst (v := 0) hx hb (fk_get fk_cX11_shopBehind_0 3 rfl) (by decide) ?_
  refine lv_istore_n (lv' := [(3, .int (0)), (2, .ref (ad (9 + 2))), (0, .ref (ad 0)), (1, .int (x))]) hx hb (fk_get fk_cX11_shopBehind_0 4 rfl) rfl hl (by decide) rfl (fun ls hl => ?_)
  have lp_6 : ∀ (fu : Nat) (c : Nat) (SL7 : FS) (H_8 : Heap) (locs_9 : List Loc) (ls : Array Slot),  (XI SL7) → (Fr (fun j k => (j = 11 ∧ 3 ≤ k ∧ k ≤ 7) ∨ (33 ≤ j ∧ j < 39 ∧ 2 ≤ k ∧ k ≤ 9) ∨ (51 ≤ j ∧ j < 57 ∧ k = 99) ∨ ((j = 17 ∨ j = 20) ∧ k = 99)) S SL7) → (c ≤ wz) → (wz < c + fu) → (fF SL7 (9 + 2) 3 = nI n) → (CuF SL7 2 n pz τ C K) → (fF SL7 (9 + 2) 6 = (fF S (9 + 0) 6)) → (∀ d, d < n → GC (9999 + c) (gX SL7 (21 + 6 * 2 + d) (K d))) → (stF 1 (fF S (9 + 0) 6) (lstW 3 1 C) τ C n (wz - c) (cutF n (fun d => gX SL7 (21 + 6 * 2 + d) (K d))) = (stF 1 (fF S (9 + 0) 6) (lstW 3 1 C) τ C n wz (cutF n (fun d => gX S (21 + 6 * 0 + d) (K d))))) → va_P G.1 vwCl (wX G ad SL7) H_8 → va_D A (wX G ad SL7) → va_S A s.heap H_8 locs_9 → lv_has ls 4 [(3, .int ((nI c))), (2, .ref (ad (9 + 2))), (0, .ref (ad 0)), (1, .int (x))] → W p l e ({ frames := 7, cells := 0, slots := 0, locals := 200 } : Room) s m args below meth c₀ H_8 locs_9 0 0 Q (F0 m 7 ls []) := by
    intro fu
    induction fu with
    | zero =>
      intro c SL7 H_8 locs_9 ls hXl7 hFl7 hk hf hnL hcfL hofL hgcL hST hP hD hS hl
      exact absurd hf (by omega)
    | succ fu ih =>
      intro c SL7 H_8 locs_9 ls hXl7 hFl7 hk hf hnL hcfL hofL hgcL hST hP hD hS hl
      obtain ⟨-, hpzL, hcokL, hctxL, hsayL⟩ := id hcfL
      refine lv_iload_n hx hb (fk_get fk_cX11_shopBehind_0 5 rfl) rfl (lv_at hl 0 rfl) ?_
      refine lv_iload_n hx hb (fk_get fk_cX11_shopBehind_0 6 rfl) rfl (lv_at hl 3 rfl) ?_
      refine lv_icmp_ge (tgt := 23) hx hb (fk_get fk_cX11_shopBehind_0 7 rfl) (by decide) (fun c_10 => ?_) (fun c_10 => ?_)
      · have hge_ : wz ≤ c := (nI_leI (a := wz) (b := c) (by omega) (by omega)).mp (by rw [← ew]; exact c_10)
        refine lv_aload_n hx hb (fk_get fk_cX11_shopBehind_0 13 rfl) rfl (lv_at hl 1 rfl) ?_
        subst hQ
        exact W.aret hx hb hr (Or.inl ⟨_, rfl⟩) (Or.inr ⟨_, rfl⟩) (fun t_ ht_ hW_ => ⟨⟨SL7, _, rfl, by exact ⟨hXl7, hFl7, ⟨hnL, hcfL, hofL, fun d hd => (hgcL d hd).mono (by omega), st_en hST hge_⟩⟩, rfl, by rw [ht_]; exact hP, va_K.moved hW_.alike hK, hD⟩, hS.F ht_⟩) hS.2.2 (fk_get fk_cX11_shopBehind_0 14 rfl)
      have hlt_ : c < wz := Nat.lt_of_not_le (fun z_ => c_10 (by rw [ew]; exact (nI_leI (a := wz) (b := c) (by omega) (by omega)).mpr z_))
      refine lv_aload_n hx hb (fk_get fk_cX11_shopBehind_0 8 rfl) rfl (lv_at hl 1 rfl) ?_
      have hFc := va_self hD hS hA
      refine va_calli (va_runV (As := []) (rest := []) ⟨hx, hb, hml, hown, hT⟩ (c_x7_makeSaturdayX l G ad SL7 H_8.size (2) (n) (pz) (9999 + c) (lz) (K) (τ) (C) ((by decide : 2 < 3)) (by first | assumption | omega) (by first | assumption | omega) (hcfL) ((fun d hd => (hgcL d hd).1)) (by omega) (hln) (hlz) (hXl7)) (tV 0 hT m3_202 m3_203 m3_204 m1_9 m3_205 rfl rfl (by decide +kernel) ⟨Nat.le_of_ble_eq_true rfl, Nat.le_of_ble_eq_true rfl⟩) ⟨PcW_blind, va_recv hK hP (ci := 9) (q0 := (9 + 2)) rfl (ix_at (lt71 (by omega)) (cX_shop (pk_shop (by decide : 2 < 3)))), PcW_of hP hK hD _⟩ rfl rfl hl.1 rfl (lv_room (Nat.le_of_ble_eq_true rfl)) (fk_get fk_cX11_shopBehind_0 9 rfl) ⟨Nat.zero_le _, Nat.zero_le _⟩) hS (fun q _ h => hFc q h) hFc (fun r_11 S_13 t_ H locs ht_ hvm_ hw_12 hB_ hz_ hk_ hS => ?_)
      obtain ⟨hP, -, hD1_⟩ := hB_
      rw [ht_] at hP
      have hD : va_D A (wX G ad S_13) := hD1_.weaken (fun k q _ h => hFc q.1 h)
      try dsimp only at hw_12
      obtain ⟨hX_14, hF_15_, hw_12⟩ := hw_12
      have hF_15 : Fr (fun j k => (j = 11 ∧ 3 ≤ k ∧ k ≤ 7) ∨ (33 ≤ j ∧ j < 39 ∧ 2 ≤ k ∧ k ≤ 9) ∨ (51 ≤ j ∧ j < 57 ∧ k = 99) ∨ ((j = 17 ∨ j = 20) ∧ k = 99)) S S_13 := Fr.trans hFl7 (Fr.mono hF_15_ (fun j k h => by omega))
      obtain ⟨hsr_, hsg_⟩ := hw_12
      rw [hofL] at hsg_ hsr_
      have hcfN : CuF S_13 2 n pz τ C K := hcfL.fr (by omega) hn6 hF_15_ (fun d hd_ => by omega) (by omega) (fun j k a b => by omega)
      have hnN : fF S_13 (9 + 2) 3 = nI n := (Fr.F hF_15_ (lt71 (by omega)) (by omega)).trans hnL
      have hofN := (Fr.F hF_15_ (j := 9 + 2) (k := 6) (lt71 (by omega)) (by omega)).trans hofL
      have hgcN : ∀ d, d < n → GC (9999 + (c + 1)) (gX S_13 (21 + 6 * 2 + d) (K d)) := fun d hd => by rw [show gX S_13 (21 + 6 * 2 + d) (K d) = _ from hsg_ d hd]; exact sa_gc (B := 9999 + c) (by omega) hgcL d hd
      refine lv_pop hx hb (fk_get fk_cX11_shopBehind_0 10 rfl) rfl ?_
      refine lv_iinc (v := (nI (c + 1))) (lv' := [(3, .int ((nI (c + 1)))), (2, .ref (ad (9 + 2))), (0, .ref (ad 0)), (1, .int (x))]) hx hb (fk_get fk_cX11_shopBehind_0 11 rfl) hl (k := 0) rfl ((nI_1 c)) (by decide) rfl (fun ls hl => ?_)
      refine lv_goto (tgt := 7) hx hb (fk_get fk_cX11_shopBehind_0 12 rfl) (by decide) ?_
      exact ih (c + 1) (S_13) _ _ ls (hX_14) (hF_15) (by omega) (by omega) (hnN) (hcfN) (hofN) (hgcN) (st_st hST hlt_ hsg_) hP hD hS (lv_sub hl [0, 1, 2, 3] rfl)
  exact lp_6 (wz + 1) (0) (S_3) _ _ ls (hX_4) (hF_5) (by omega) (by omega) (hn2_) (hcf2_) (hof2_) (hgc2_) (by rw [Nat.sub_zero]; exact congrArg _ (cut_cg (fun d hd => hgx2_ d hd))) hP hD hS (lv_sub hl [0, 1, 2, 3] rfl)
set_option maxHeartbeats 800000 in
set_option maxRecDepth 100000 in
theorem c_x11_lostX (l : Launch) (G : GG) (ad : Nat → Nat) (S : FS) (sz : Nat) (n pz : Nat) (K : Nat → Nat) (τ : Nat → Int32) (C : Cls) (x : Int32) (hn : fF S (9 + 0) 3 = nI n) (hn6 : n ≤ 6) (hcf : CuF S 0 n pz τ C K) (hgc : ∀ d, d < n → GC 9999 (gX S (21 + 6 * 0 + d) (K d))) (h99 : N99 C) (hX : XI S) : Met l yX11_lost (Cond.code yX11_lost cX11_lost 2 (some .int) :: TBL) ({ frames := 8, cells := 0, slots := 0, locals := 227 } : Room) (PcW G (wX G ad S) sz [.ref (ad 0), .int (x)]) (va_Qi (fun (r : Int32) (S' : FS) => XI S' ∧ Fr (fun j k => (j = 11 ∧ 3 ≤ k ∧ k ≤ 7) ∨ (33 ≤ j ∧ j < 39 ∧ 2 ≤ k ∧ k ≤ 9) ∨ (51 ≤ j ∧ j < 57 ∧ k = 99) ∨ ((j = 17 ∨ j = 20) ∧ k = 99)) S S' ∧ (r = lostP (fF S (9 + 0) 6) (lstW 3 1 C) τ C n (fun d => gX S (21 + 6 * 0 + d) (K d)) x)) (fun S' t => BW G (va_A (wX G ad S) sz) (wX G ad S') t) (va_A (wX G ad S) sz)) 0 0 (va_A (wX G ad S) sz) := by
  refine Met.ofW (cc := cX11_lost) (maxL := 2) (ret := (some .int)) (by decide) rfl ?_
  intro p e s m args below meth c₀ s₁ B hml hv
  obtain ⟨rfl, hsz, hP, hK, hD0⟩ := hv
  have hx := B.exec
  have hb := B.bytes
  have hr := B.returns
  have hT : ∀ w ∈ TBL, w.before ([.ref (ad 0), .int (x)] : List Value).toArray s = true := fun w h => atoms_spec (ws := Cond.code yX11_lost cX11_lost 2 (some .int) :: TBL) B.pre w (List.mem_cons_of_mem _ h)
  have hown : s.vm.findClass "LittleMore" = some m.cls := findClass_of_methodNamed B.named
  have hlocks := B.notSynchronized
  subst hsz
  have hD := hD0.self (sz := s.heap.size)
  generalize hAe : va_A (wX G ad S) s.heap.size = A at hD ⊢
  have hA : ∀ q : Nat, s.heap.size ≤ q → A q := fun q h => by rw [← hAe]; exact Or.inr h
  have hS : va_S A s.heap s.heap [] := va_S.rf
  have hP : va_P G.1 vwCl (wX G ad S) s.heap := hP
  have hl := lv_entry ([.ref (ad 0), .int (x)]) (n := 2) (Nat.le_of_ble_eq_true rfl)
  rw [lg_entry_eq]
  generalize (lg_sl ([.ref (ad 0), .int (x)]) ++ List.replicate (2 - (lg_sl ([.ref (ad 0), .int (x)])).length) Slot.unset).toArray = ls at hl ⊢
  have hl : lv_has ls 2 [(0, .ref (ad 0)), (1, .int (x))] := hl
  refine W_abs (fun Q hQ => ?_)
  generalize ([.ref (ad 0), .int (x)] : List Value).toArray = args at hT hQ ⊢
  obtain ⟨-, hpz0, hcok0, hctx0, hsay0⟩ := id hcf
  obtain ⟨lz, hlz, hln⟩ := lst_99 (k := 3) C 1 ⟨1, by omega, rfl⟩ h99.2
  refine lv_iload_n hx hb (fk_get fk_cX11_lost_0 0 rfl) rfl (lv_at hl 1 rfl) ?_
  refine lv_iconst (v := 0) hx hb (fk_get fk_cX11_lost_0 1 rfl) (by decide) ?_
  refine lv_bipush (v := 40) hx hb (fk_get fk_cX11_lost_0 2 rfl) (by decide) ?_
  refine vp_callSi (W.runS (As := [.int (x), .int (0), .int (40)]) (rest := []) ⟨hx, hb, hml, hown, hT⟩ (c_xisOutside l (x) (0) (40) ) (tS 3 hT m2_108 m2_109 m1_1 m2_110 rfl rfl (by decide +kernel) ⟨Nat.le_of_ble_eq_true rfl, Nat.le_of_ble_eq_true rfl⟩) ⟨PcN_blind, PcN_of _ _ _⟩ rfl rfl hl.1 rfl (lv_room (Nat.le_of_ble_eq_true rfl)) (fk_get fk_cX11_lost_0 3 rfl) ⟨Nat.zero_le _, Nat.zero_le _⟩) (fun r_1 hw_2 => ?_)
  try dsimp only at hw_2
  refine lv_if_eq (tgt := 13) hx hb (fk_get fk_cX11_lost_0 4 rfl) (by decide) (fun c_3 => ?_) (fun c_3 => ?_)
  · have p_c_3 := if1_f hw_2 c_3
    obtain ⟨wz, hw40, ew⟩ := out_n (b := 40) p_c_3 (by decide)
    have hcy_ : x.toNatClampNeg = wz := by rw [ew]; exact nI_clamp (by omega)
    have hy_ := nor2.mp p_c_3
    refine lv_aload_n hx hb (fk_get fk_cX11_lost_0 7 rfl) rfl (lv_at hl 0 rfl) ?_
    refine lv_iload_n hx hb (fk_get fk_cX11_lost_0 8 rfl) rfl (lv_at hl 1 rfl) ?_
    have hFc := va_self hD hS hA
    refine va_callr (va_runV (As := [.int (x)]) (rest := []) ⟨hx, hb, hml, hown, hT⟩ (c_x11_shopBehindX l G ad S s.heap.size (n) (pz) (wz) (K) (τ) (C) (x) (by first | assumption | omega) (by first | assumption | omega) (hcf) (hgc) (h99) (ew) (by omega) (hX)) (tV 1 hT m4_23 m4_25 mp_13 m1_1 m4_26 rfl rfl (by decide +kernel) ⟨Nat.le_of_ble_eq_true rfl, Nat.le_of_ble_eq_true rfl⟩) ⟨PcW_blind, va_recv hK hP (ci := 13) (q0 := 0) rfl (ix_at (lt71 (by omega)) (cX_0 G ad S)), PcW_of hP hK hD _⟩ rfl rfl hl.1 rfl (lv_room (Nat.le_of_ble_eq_true rfl)) (fk_get fk_cX11_lost_0 9 rfl) ⟨Nat.zero_le _, Nat.zero_le _⟩) hS (fun q _ h => hFc q h) hFc (fun S_6 r_4 t_ H locs ht_ hvm_ hw_5 hB_ hz_ hk_ hS => ?_)
    obtain ⟨hra_, hB_⟩ := hB_
    subst hra_
    obtain ⟨hP, -, hD1_⟩ := hB_
    rw [ht_] at hP
    have hD : va_D A (wX G ad S_6) := hD1_.weaken (fun k q _ h => hFc q.1 h)
    try dsimp only at hw_5
    obtain ⟨hX_7, hF_8_, hw_5⟩ := hw_5
    have hF_8 : Fr (fun j k => (j = 11 ∧ 3 ≤ k ∧ k ≤ 7) ∨ (33 ≤ j ∧ j < 39 ∧ 2 ≤ k ∧ k ≤ 9) ∨ (51 ≤ j ∧ j < 57 ∧ k = 99) ∨ ((j = 17 ∨ j = 20) ∧ k = 99)) S S_6 := Fr.trans (Fr.rf : Fr (fun j k => (j = 11 ∧ 3 ≤ k ∧ k ≤ 7) ∨ (33 ≤ j ∧ j < 39 ∧ 2 ≤ k ∧ k ≤ 9) ∨ (51 ≤ j ∧ j < 57 ∧ k = 99) ∨ ((j = 17 ∨ j = 20) ∧ k = 99)) S S) (Fr.mono hF_8_ (fun j k h => by omega))
    obtain ⟨hn2_, hcf2_, hof2_, hgc2_, hcut_⟩ := hw_5
    refine vp_callSi (W.runV (As := []) (rest := []) ⟨hx, hb, hml, hown, hT⟩ (c_x7_goneBitsX l G ad S_6 H.size (2) (n) (pz) (9999 + wz) (lz) (K) (τ) (C) ((by decide : 2 < 3)) (by first | assumption | omega) (by first | assumption | omega) (hcf2_) (fun d hd => (hgc2_ d hd).1) (by omega) (hX_7)) (tV 0 hT m3_161 m3_162 m3_163 m1_9 m3_164 rfl rfl (by decide +kernel) ⟨Nat.le_of_ble_eq_true rfl, Nat.le_of_ble_eq_true rfl⟩) ⟨PcW_blind, va_recv hK hP (ci := 9) (q0 := (9 + 2)) rfl (ix_at (lt71 (by omega)) (cX_shop (pk_shop (by decide : 2 < 3)))), PcW_of hP hK hD _⟩ rfl rfl hl.1 rfl (lv_room (Nat.le_of_ble_eq_true rfl)) (fk_get fk_cX11_lost_0 10 rfl) ⟨Nat.zero_le _, Nat.zero_le _⟩) (fun r_9 hw_10 => ?_)
    try dsimp only at hw_10
    have hgo_ := hw_10
    subst hQ
    have hpost : XI S_6 ∧ Fr (fun j k => (j = 11 ∧ 3 ≤ k ∧ k ≤ 7) ∨ (33 ≤ j ∧ j < 39 ∧ 2 ≤ k ∧ k ≤ 9) ∨ (51 ≤ j ∧ j < 57 ∧ k = 99) ∨ ((j = 17 ∨ j = 20) ∧ k = 99)) S S_6 ∧ ((r_9 : Int32) = lostP (fF S (9 + 0) 6) (lstW 3 1 C) τ C n (fun d => gX S (21 + 6 * 0 + d) (K d)) x) := by
      exact ⟨hX_7, hF_8, (by first | exact (if_neg hny_).symm | exact lost_x hgo_ hcut_ hcy_ hy_)⟩
    exact W.iret (v := r_9) hx hb hr (fun t_ ht_ hW_ => ⟨⟨r_9, S_6, rfl, hpost, by rw [ht_]; exact hP, va_K.moved hW_.alike hK, hD⟩, hS.F ht_⟩) hS.2.2 (fk_get fk_cX11_lost_0 11 rfl)
  have p_c_3 := if1_t hw_2 c_3
  have hny_ := nan2 p_c_3
  refine lv_bipush (v := (-2)) hx hb (fk_get fk_cX11_lost_0 5 rfl) (by decide) ?_
  subst hQ
  have hpost : XI S ∧ Fr (fun j k => (j = 11 ∧ 3 ≤ k ∧ k ≤ 7) ∨ (33 ≤ j ∧ j < 39 ∧ 2 ≤ k ∧ k ≤ 9) ∨ (51 ≤ j ∧ j < 57 ∧ k = 99) ∨ ((j = 17 ∨ j = 20) ∧ k = 99)) S S ∧ (((-2) : Int32) = lostP (fF S (9 + 0) 6) (lstW 3 1 C) τ C n (fun d => gX S (21 + 6 * 0 + d) (K d)) x) := by
    exact ⟨hX, (Fr.rf : Fr (fun j k => (j = 11 ∧ 3 ≤ k ∧ k ≤ 7) ∨ (33 ≤ j ∧ j < 39 ∧ 2 ≤ k ∧ k ≤ 9) ∨ (51 ≤ j ∧ j < 57 ∧ k = 99) ∨ ((j = 17 ∨ j = 20) ∧ k = 99)) S S), (by first | exact (if_neg hny_).symm | exact lost_x hgo_ hcut_ hcy_ hy_)⟩
  exact W.iret (v := (-2)) hx hb hr (fun t_ ht_ hW_ => ⟨⟨(-2), S, rfl, hpost, by rw [ht_]; exact hP, va_K.moved hW_.alike hK, hD⟩, hS.F ht_⟩) hS.2.2 (fk_get fk_cX11_lost_0 6 rfl)
