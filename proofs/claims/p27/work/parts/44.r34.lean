set_option maxHeartbeats 800000 in
set_option maxRecDepth 100000 in
theorem c_x3_begin (l : Launch) (G : GG) (ad : Nat → Nat) (S : FS) (sz : Nat) (q i : Nat) (v_ w_ : Int32) (hq : q < 7) (hpk : pk i = 7) (hX : XI S) : Met l yX3_begin (Cond.code yX3_begin cX3_begin 4 none :: TBL) ({ frames := 3, cells := 0, slots := 0, locals := 91 } : Room) (PcW G (wX G ad S) sz [.ref (ad i), .ref (ad (2 + q)), .int (v_), .int (w_)]) (va_Qv (fun (S' : FS) => XI S' ∧ Fr (fun j k => (j = i ∧ 2 ≤ k ∧ k ≤ 9) ∨ (j = i + 18 ∧ k = 99)) S S' ∧ (fR S' i 2 = some (2 + q) ∧ fF S' i 3 = v_ ∧ fF S' i 4 = w_ ∧ fF S' i 5 = 3 ∧ (∀ k, 6 ≤ k → k ≤ 9 → fF S' i k = 0) ∧ ∀ k, k < 4 → fA S' (i + 18) k = 0)) (fun S' t => BW G (va_A (wX G ad S) sz) (wX G ad S') t) (va_A (wX G ad S) sz)) 0 0 (va_A (wX G ad S) sz) := by
  refine Met.ofW (cc := cX3_begin) (maxL := 4) (ret := none) (by decide) rfl ?_
  intro p e s m args below meth c₀ s₁ B hml hv
  obtain ⟨rfl, hsz, hP, hK, hD0⟩ := hv
  have hx := B.exec
  have hb := B.bytes
  have hr := B.returns
  have hT : ∀ w ∈ TBL, w.before ([.ref (ad i), .ref (ad (2 + q)), .int (v_), .int (w_)] : List Value).toArray s = true := fun w h => atoms_spec (ws := Cond.code yX3_begin cX3_begin 4 none :: TBL) B.pre w (List.mem_cons_of_mem _ h)
  have hown : s.vm.findClass "LittleMore$Customer" = some m.cls := findClass_of_methodNamed B.named
  have hlocks := B.notSynchronized
  subst hsz
  have hD := hD0.self (sz := s.heap.size)
  generalize hAe : va_A (wX G ad S) s.heap.size = A at hD ⊢
  have hA : ∀ q : Nat, s.heap.size ≤ q → A q := fun q h => by rw [← hAe]; exact Or.inr h
  have hS : va_S A s.heap s.heap [] := va_S.rf
  have hP : va_P G.1 vwCl (wX G ad S) s.heap := hP
  have hl := lv_entry ([.ref (ad i), .ref (ad (2 + q)), .int (v_), .int (w_)]) (n := 4) (Nat.le_of_ble_eq_true rfl)
  rw [lg_entry_eq]
  generalize (lg_sl ([.ref (ad i), .ref (ad (2 + q)), .int (v_), .int (w_)]) ++ List.replicate (4 - (lg_sl ([.ref (ad i), .ref (ad (2 + q)), .int (v_), .int (w_)])).length) Slot.unset).toArray = ls at hl ⊢
  have hl : lv_has ls 4 [(0, .ref (ad i)), (1, .ref (ad (2 + q))), (2, .int (v_)), (3, .int (w_))] := hl
  refine W_abs (fun Q hQ => ?_)
  generalize ([.ref (ad i), .ref (ad (2 + q)), .int (v_), .int (w_)] : List Value).toArray = args at hT hQ ⊢
  have hb_i := pk7 hpk
  refine lv_aload_n hx hb (fk_get fk_cX3_begin_0 0 rfl) rfl (lv_at hl 0 rfl) ?_
  refine lv_aload_n hx hb (fk_get fk_cX3_begin_0 1 rfl) rfl (lv_at hl 1 rfl) ?_
  refine va_put (D := G.1) (ci := 5) (v := .ref (ad (2 + q))) (ty := (.object "LittleMore$Kind")) (C := RX3) (T := TX3) (N := 10) hx hb hT inX3 tyX3 tyX3_ok nmX3 hown hK hP hD hS i (ix_at (lt71 (by omega)) (cX_cust hpk)) rfl 2 (by decide) (hT _ m1_143) (fun _ h9 => h9) rfl (by decide +kernel) rfl rfl (Nat.le_of_ble_eq_true rfl) (fk_get fk_cX3_begin_0 2 rfl) (fun H locs hP hD hS => ?_)
  rw [pX_cust_2 (S := S) (lt71 (by omega)) (hpk) (2 + q)] at hP hD
  have hX_1 : XI (setR S i 2 (some (2 + q))) := XI.kput hX hpk hq
  have hF_2 : Fr (fun j k => (j = i ∧ 2 ≤ k ∧ k ≤ 9) ∨ (j = i + 18 ∧ k = 99)) S (setR S i 2 (some (2 + q))) := Fr.sR (Fr.rf : Fr (fun j k => (j = i ∧ 2 ≤ k ∧ k ≤ 9) ∨ (j = i + 18 ∧ k = 99)) S S) (by omega)
  refine lv_aload_n hx hb (fk_get fk_cX3_begin_0 3 rfl) rfl (lv_at hl 0 rfl) ?_
  refine lv_iload_n hx hb (fk_get fk_cX3_begin_0 4 rfl) rfl (lv_at hl 2 rfl) ?_
  refine va_put (D := G.1) (ci := 5) (v := .int (v_)) (ty := .int) (C := RX3) (T := TX3) (N := 10) hx hb hT inX3 tyX3 tyX3_ok nmX3 hown hK hP hD hS i (ix_at (lt71 (by omega)) (cX_cust hpk)) rfl 3 (by decide) (hT _ m1_147) (fun _ h9 => h9) rfl (by decide +kernel) rfl rfl (Nat.le_of_ble_eq_true rfl) (fk_get fk_cX3_begin_0 5 rfl) (fun H locs hP hD hS => ?_)
  rw [pX_cust_3 (S := (setR S i 2 (some (2 + q)))) (lt71 (by omega)) (hpk) (v_)] at hP hD
  have hX_3 : XI (setF (setR S i 2 (some (2 + q))) i 3 (v_)) := XI.sF hX_1 _ ⟨by omega, by omega, by omega, by omega, by omega, by omega, by omega, by omega⟩
  have hF_4 : Fr (fun j k => (j = i ∧ 2 ≤ k ∧ k ≤ 9) ∨ (j = i + 18 ∧ k = 99)) S (setF (setR S i 2 (some (2 + q))) i 3 (v_)) := Fr.sF hF_2 (by omega)
  refine lv_aload_n hx hb (fk_get fk_cX3_begin_0 6 rfl) rfl (lv_at hl 0 rfl) ?_
  refine lv_iload_n hx hb (fk_get fk_cX3_begin_0 7 rfl) rfl (lv_at hl 3 rfl) ?_
  refine va_put (D := G.1) (ci := 5) (v := .int (w_)) (ty := .int) (C := RX3) (T := TX3) (N := 10) hx hb hT inX3 tyX3 tyX3_ok nmX3 hown hK hP hD hS i (ix_at (lt71 (by omega)) (cX_cust hpk)) rfl 4 (by decide) (hT _ m1_153) (fun _ h9 => h9) rfl (by decide +kernel) rfl rfl (Nat.le_of_ble_eq_true rfl) (fk_get fk_cX3_begin_0 8 rfl) (fun H locs hP hD hS => ?_)
  rw [pX_cust_4 (S := (setF (setR S i 2 (some (2 + q))) i 3 (v_))) (lt71 (by omega)) (hpk) (w_)] at hP hD
  have hX_5 : XI (setF (setF (setR S i 2 (some (2 + q))) i 3 (v_)) i 4 (w_)) := XI.sF hX_3 _ ⟨by omega, by omega, by omega, by omega, by omega, by omega, by omega, by omega⟩
  have hF_6 : Fr (fun j k => (j = i ∧ 2 ≤ k ∧ k ≤ 9) ∨ (j = i + 18 ∧ k = 99)) S (setF (setF (setR S i 2 (some (2 + q))) i 3 (v_)) i 4 (w_)) := Fr.sF hF_4 (by omega)
  refine lv_aload_n hx hb (fk_get fk_cX3_begin_0 9 rfl) rfl (lv_at hl 0 rfl) ?_
  refine lv_iconst (v := 3) hx hb (fk_get fk_cX3_begin_0 10 rfl) (by decide) ?_
  refine va_put (D := G.1) (ci := 5) (v := .int (3)) (ty := .int) (C := RX3) (T := TX3) (N := 10) hx hb hT inX3 tyX3 tyX3_ok nmX3 hown hK hP hD hS i (ix_at (lt71 (by omega)) (cX_cust hpk)) rfl 5 (by decide) (hT _ m1_159) (fun _ h9 => h9) rfl (by decide +kernel) rfl rfl (Nat.le_of_ble_eq_true rfl) (fk_get fk_cX3_begin_0 11 rfl) (fun H locs hP hD hS => ?_)
  rw [pX_cust_5 (S := (setF (setF (setR S i 2 (some (2 + q))) i 3 (v_)) i 4 (w_))) (lt71 (by omega)) (hpk) (3)] at hP hD
  have hX_7 : XI (setF (setF (setF (setR S i 2 (some (2 + q))) i 3 (v_)) i 4 (w_)) i 5 (3)) := XI.sF hX_5 _ ⟨by omega, by omega, by omega, by omega, by omega, by omega, by omega, by omega⟩
  have hF_8 : Fr (fun j k => (j = i ∧ 2 ≤ k ∧ k ≤ 9) ∨ (j = i + 18 ∧ k = 99)) S (setF (setF (setF (setR S i 2 (some (2 + q))) i 3 (v_)) i 4 (w_)) i 5 (3)) := Fr.sF hF_6 (by omega)
  refine lv_aload_n hx hb (fk_get fk_cX3_begin_0 12 rfl) rfl (lv_at hl 0 rfl) ?_
  refine lv_iconst (v := 0) hx hb (fk_get fk_cX3_begin_0 13 rfl) (by decide) ?_
  refine va_put (D := G.1) (ci := 5) (v := .int (0)) (ty := .int) (C := RX3) (T := TX3) (N := 10) hx hb hT inX3 tyX3 tyX3_ok nmX3 hown hK hP hD hS i (ix_at (lt71 (by omega)) (cX_cust hpk)) rfl 6 (by decide) (hT _ m1_163) (fun _ h9 => h9) rfl (by decide +kernel) rfl rfl (Nat.le_of_ble_eq_true rfl) (fk_get fk_cX3_begin_0 14 rfl) (fun H locs hP hD hS => ?_)
  rw [pX_cust_6 (S := (setF (setF (setF (setR S i 2 (some (2 + q))) i 3 (v_)) i 4 (w_)) i 5 (3))) (lt71 (by omega)) (hpk) (0)] at hP hD
  have hX_9 : XI (setF (setF (setF (setF (setR S i 2 (some (2 + q))) i 3 (v_)) i 4 (w_)) i 5 (3)) i 6 (0)) := XI.sF hX_7 _ ⟨by omega, by omega, by omega, by omega, by omega, by omega, by omega, by omega⟩
  have hF_10 : Fr (fun j k => (j = i ∧ 2 ≤ k ∧ k ≤ 9) ∨ (j = i + 18 ∧ k = 99)) S (setF (setF (setF (setF (setR S i 2 (some (2 + q))) i 3 (v_)) i 4 (w_)) i 5 (3)) i 6 (0)) := Fr.sF hF_8 (by omega)
  refine lv_aload_n hx hb (fk_get fk_cX3_begin_0 15 rfl) rfl (lv_at hl 0 rfl) ?_
  refine lv_iconst (v := 0) hx hb (fk_get fk_cX3_begin_0 16 rfl) (by decide) ?_
  refine va_put (D := G.1) (ci := 5) (v := .int (0)) (ty := .int) (C := RX3) (T := TX3) (N := 10) hx hb hT inX3 tyX3 tyX3_ok nmX3 hown hK hP hD hS i (ix_at (lt71 (by omega)) (cX_cust hpk)) rfl 7 (by decide) (hT _ m1_169) (fun _ h9 => h9) rfl (by decide +kernel) rfl rfl (Nat.le_of_ble_eq_true rfl) (fk_get fk_cX3_begin_0 17 rfl) (fun H locs hP hD hS => ?_)
  rw [pX_cust_7 (S := (setF (setF (setF (setF (setR S i 2 (some (2 + q))) i 3 (v_)) i 4 (w_)) i 5 (3)) i 6 (0))) (lt71 (by omega)) (hpk) (0)] at hP hD
  have hX_11 : XI (setF (setF (setF (setF (setF (setR S i 2 (some (2 + q))) i 3 (v_)) i 4 (w_)) i 5 (3)) i 6 (0)) i 7 (0)) := XI.sF hX_9 _ ⟨by omega, by omega, by omega, by omega, by omega, by omega, by omega, by omega⟩
  have hF_12 : Fr (fun j k => (j = i ∧ 2 ≤ k ∧ k ≤ 9) ∨ (j = i + 18 ∧ k = 99)) S (setF (setF (setF (setF (setF (setR S i 2 (some (2 + q))) i 3 (v_)) i 4 (w_)) i 5 (3)) i 6 (0)) i 7 (0)) := Fr.sF hF_10 (by omega)
  refine lv_aload_n hx hb (fk_get fk_cX3_begin_0 18 rfl) rfl (lv_at hl 0 rfl) ?_
  refine lv_iconst (v := 0) hx hb (fk_get fk_cX3_begin_0 19 rfl) (by decide) ?_
  refine va_put (D := G.1) (ci := 5) (v := .int (0)) (ty := .int) (C := RX3) (T := TX3) (N := 10) hx hb hT inX3 tyX3 tyX3_ok nmX3 hown hK hP hD hS i (ix_at (lt71 (by omega)) (cX_cust hpk)) rfl 8 (by decide) (hT _ m1_173) (fun _ h9 => h9) rfl (by decide +kernel) rfl rfl (Nat.le_of_ble_eq_true rfl) (fk_get fk_cX3_begin_0 20 rfl) (fun H locs hP hD hS => ?_)
  rw [pX_cust_8 (S := (setF (setF (setF (setF (setF (setR S i 2 (some (2 + q))) i 3 (v_)) i 4 (w_)) i 5 (3)) i 6 (0)) i 7 (0))) (lt71 (by omega)) (hpk) (0)] at hP hD
  have hX_13 : XI (setF (setF (setF (setF (setF (setF (setR S i 2 (some (2 + q))) i 3 (v_)) i 4 (w_)) i 5 (3)) i 6 (0)) i 7 (0)) i 8 (0)) := XI.sF hX_11 _ ⟨by omega, by omega, by omega, by omega, by omega, by omega, by omega, by omega⟩
  have hF_14 : Fr (fun j k => (j = i ∧ 2 ≤ k ∧ k ≤ 9) ∨ (j = i + 18 ∧ k = 99)) S (setF (setF (setF (setF (setF (setF (setR S i 2 (some (2 + q))) i 3 (v_)) i 4 (w_)) i 5 (3)) i 6 (0)) i 7 (0)) i 8 (0)) := Fr.sF hF_12 (by omega)
  refine lv_aload_n hx hb (fk_get fk_cX3_begin_0 21 rfl) rfl (lv_at hl 0 rfl) ?_
  refine lv_iconst (v := 0) hx hb (fk_get fk_cX3_begin_0 22 rfl) (by decide) ?_
  refine va_put (D := G.1) (ci := 5) (v := .int (0)) (ty := .boolean) (C := RX3) (T := TX3) (N := 10) hx hb hT inX3 tyX3 tyX3_ok nmX3 hown hK hP hD hS i (ix_at (lt71 (by omega)) (cX_cust hpk)) rfl 9 (by decide) (hT _ m1_178) (fun _ h9 => h9) rfl (by decide +kernel) rfl rfl (Nat.le_of_ble_eq_true rfl) (fk_get fk_cX3_begin_0 23 rfl) (fun H locs hP hD hS => ?_)
  rw [pX_cust_9 (S := (setF (setF (setF (setF (setF (setF (setR S i 2 (some (2 + q))) i 3 (v_)) i 4 (w_)) i 5 (3)) i 6 (0)) i 7 (0)) i 8 (0))) (lt71 (by omega)) (hpk) (0)] at hP hD
  have hX_15 : XI (setF (setF (setF (setF (setF (setF (setF (setR S i 2 (some (2 + q))) i 3 (v_)) i 4 (w_)) i 5 (3)) i 6 (0)) i 7 (0)) i 8 (0)) i 9 (0)) := XI.gone_ hX_13 hpk (Or.inl rfl)
  have hF_16 : Fr (fun j k => (j = i ∧ 2 ≤ k ∧ k ≤ 9) ∨ (j = i + 18 ∧ k = 99)) S (setF (setF (setF (setF (setF (setF (setF (setR S i 2 (some (2 + q))) i 3 (v_)) i 4 (w_)) i 5 (3)) i 6 (0)) i 7 (0)) i 8 (0)) i 9 (0)) := Fr.sF hF_14 (by omega)
  refine lv_aload_n hx hb (fk_get fk_cX3_begin_0 24 rfl) rfl (lv_at hl 0 rfl) ?_
  refine va_get (D := G.1) (ci := 5) (v := .ref (ad (i + 18))) (C := RX3) (T := TX3) (N := 10) hx hb hT inX3 hown hK hP i (ix_at (lt71 (by omega)) (cX_cust hpk)) rfl 1 (by decide) (hT _ m1_140) (fun _ h9 => h9) rfl (fk_get fk_cX3_begin_0 25 rfl) ?_
  refine lv_iconst (v := 0) hx hb (fk_get fk_cX3_begin_0 26 rfl) (by decide) ?_
  have hFc := va_self hD hS hA
  refine va_callv (va_runS (As := [.ref (ad (i + 18)), .int (0)]) (rest := []) ⟨hx, hb, hml, hown, hT⟩ (c_jfill l G ad (setF (setF (setF (setF (setF (setF (setF (setR S i 2 (some (2 + q))) i 3 (v_)) i 4 (w_)) i 5 (3)) i 6 (0)) i 7 (0)) i 8 (0)) i 9 (0)) H.size (i + 18) (4) (0) ((Or.inl ⟨rfl, rfl, Or.inr (pk_e7 hpk)⟩)) (by omega) (by omega) (hX_15)) (tS 2 hT m2_115 m2_67 m1_16 m2_68 rfl rfl (by decide +kernel) ⟨Nat.le_of_ble_eq_true rfl, Nat.le_of_ble_eq_true rfl⟩) ⟨PcW_blind, PcW_of hP hK hD _⟩ rfl rfl hl.1 rfl (lv_room (Nat.le_of_ble_eq_true rfl)) (fk_get fk_cX3_begin_0 27 rfl) ⟨Nat.zero_le _, Nat.zero_le _⟩) hS (fun q _ h => hFc q h) hFc (fun S_19 t_ H locs ht_ hvm_ hw_18 hB_ hz_ hk_ hS => ?_)
  obtain ⟨hP, -, hD1_⟩ := hB_
  rw [ht_] at hP
  have hD : va_D A (wX G ad S_19) := hD1_.weaken (fun k q _ h => hFc q.1 h)
  try dsimp only at hw_18
  obtain ⟨hX_20, hF_21_, hw_18⟩ := hw_18
  have hF_21 : Fr (fun j k => (j = i ∧ 2 ≤ k ∧ k ≤ 9) ∨ (j = i + 18 ∧ k = 99)) S S_19 := Fr.trans hF_16 (Fr.mono hF_21_ (fun j k h => by omega))
  have hff_ := hF_21_
  have hfa_ := hw_18
  subst hQ
  have hpost : XI S_19 ∧ Fr (fun j k => (j = i ∧ 2 ≤ k ∧ k ≤ 9) ∨ (j = i + 18 ∧ k = 99)) S S_19 ∧ (fR S_19 i 2 = some (2 + q) ∧ fF S_19 i 3 = v_ ∧ fF S_19 i 4 = w_ ∧ fF S_19 i 5 = 3 ∧ (∀ k, 6 ≤ k → k ≤ 9 → fF S_19 i k = 0) ∧ ∀ k, k < 4 → fA S_19 (i + 18) k = 0) := by
    exact ⟨hX_20, hF_21, ⟨(hff_.R (lt71 (by omega)) (by omega)).trans (by simp [fR_setF, fR_setR]), (hff_.F (lt71 (by omega)) (by omega)).trans (by simp [fF_setF, fF_setR, fF_setA, fF_setL]), (hff_.F (lt71 (by omega)) (by omega)).trans (by simp [fF_setF, fF_setR, fF_setA, fF_setL]), (hff_.F (lt71 (by omega)) (by omega)).trans (by simp [fF_setF, fF_setR, fF_setA, fF_setL]), fun k h1 h2 => (hff_.F (lt71 (by omega)) (by omega)).trans (by rcases (show k = 6 ∨ k = 7 ∨ k = 8 ∨ k = 9 by omega) with rfl | rfl | rfl | rfl <;> simp [fF_setF, fF_setR, fF_setA, fF_setL]), hfa_⟩⟩
  exact W.vret hx hb hr (fun t_ ht_ hW_ => ⟨⟨S_19, rfl, hpost, by rw [ht_]; exact hP, va_K.moved hW_.alike hK, hD⟩, hS.F ht_⟩) hS.2.2 (fk_get fk_cX3_begin_0 28 rfl)
set_option maxHeartbeats 800000 in
set_option maxRecDepth 100000 in
theorem c_x3_become (l : Launch) (G : GG) (ad : Nat → Nat) (S : FS) (sz : Nat) (i j : Nat) (hpk : pk i = 7) (hpj : pk j = 7) (hX : XI S) : Met l yX3_become (Cond.code yX3_become cX3_become 2 none :: TBL) ({ frames := 2, cells := 0, slots := 0, locals := 64 } : Room) (PcW G (wX G ad S) sz [.ref (ad i), .ref (ad j)]) (va_Qv (fun (S' : FS) => XI S' ∧ Fr (fun j k => (j = i ∧ 2 ≤ k ∧ k ≤ 9) ∨ (j = i + 18 ∧ k = 99)) S S' ∧ CE S i j S') (fun S' t => BW G (va_A (wX G ad S) sz) (wX G ad S') t) (va_A (wX G ad S) sz)) 0 0 (va_A (wX G ad S) sz) := by
  refine Met.ofW (cc := cX3_become) (maxL := 2) (ret := none) (by decide) rfl ?_
  intro p e s m args below meth c₀ s₁ B hml hv
  obtain ⟨rfl, hsz, hP, hK, hD0⟩ := hv
  have hx := B.exec
  have hb := B.bytes
  have hr := B.returns
  have hT : ∀ w ∈ TBL, w.before ([.ref (ad i), .ref (ad j)] : List Value).toArray s = true := fun w h => atoms_spec (ws := Cond.code yX3_become cX3_become 2 none :: TBL) B.pre w (List.mem_cons_of_mem _ h)
  have hown : s.vm.findClass "LittleMore$Customer" = some m.cls := findClass_of_methodNamed B.named
  have hlocks := B.notSynchronized
  subst hsz
  have hD := hD0.self (sz := s.heap.size)
  generalize hAe : va_A (wX G ad S) s.heap.size = A at hD ⊢
  have hA : ∀ q : Nat, s.heap.size ≤ q → A q := fun q h => by rw [← hAe]; exact Or.inr h
  have hS : va_S A s.heap s.heap [] := va_S.rf
  have hP : va_P G.1 vwCl (wX G ad S) s.heap := hP
  have hl := lv_entry ([.ref (ad i), .ref (ad j)]) (n := 2) (Nat.le_of_ble_eq_true rfl)
  rw [lg_entry_eq]
  generalize (lg_sl ([.ref (ad i), .ref (ad j)]) ++ List.replicate (2 - (lg_sl ([.ref (ad i), .ref (ad j)])).length) Slot.unset).toArray = ls at hl ⊢
  have hl : lv_has ls 2 [(0, .ref (ad i)), (1, .ref (ad j))] := hl
  refine W_abs (fun Q hQ => ?_)
  generalize ([.ref (ad i), .ref (ad j)] : List Value).toArray = args at hT hQ ⊢
  have hb_i := pk7 hpk
  have hb_j := pk7 hpj
  refine lv_aload_n hx hb (fk_get fk_cX3_become_0 0 rfl) rfl (lv_at hl 0 rfl) ?_
  refine lv_aload_n hx hb (fk_get fk_cX3_become_0 1 rfl) rfl (lv_at hl 1 rfl) ?_
  obtain ⟨n_1, en_1, bn_1⟩ := XI.kin hX hpj
  refine va_get (D := G.1) (ci := 5) (v := va_rf ((fR S j 2).map ad)) (C := RX3) (T := TX3) (N := 10) hx hb hT inX3 hown hK hP j (ix_at (lt71 (by omega)) (cX_cust hpj)) rfl 2 (by decide) (hT _ m1_143) (fun _ h9 => h9) rfl (fk_get fk_cX3_become_0 2 rfl) ?_
  rw [show va_rf ((fR S j 2).map ad) = .ref (ad (2 + n_1)) from by rw [en_1]; rfl]
  refine va_put (D := G.1) (ci := 5) (v := .ref (ad (2 + n_1))) (ty := (.object "LittleMore$Kind")) (C := RX3) (T := TX3) (N := 10) hx hb hT inX3 tyX3 tyX3_ok nmX3 hown hK hP hD hS i (ix_at (lt71 (by omega)) (cX_cust hpk)) rfl 2 (by decide) (hT _ m1_143) (fun _ h9 => h9) rfl (by decide +kernel) rfl rfl (Nat.le_of_ble_eq_true rfl) (fk_get fk_cX3_become_0 3 rfl) (fun H locs hP hD hS => ?_)
  rw [pX_cust_2 (S := S) (lt71 (by omega)) (hpk) (2 + n_1)] at hP hD
  have hX_2 : XI (setR S i 2 (some (2 + n_1))) := XI.kput hX hpk bn_1
  have hF_3 : Fr (fun j k => (j = i ∧ 2 ≤ k ∧ k ≤ 9) ∨ (j = i + 18 ∧ k = 99)) S (setR S i 2 (some (2 + n_1))) := Fr.sR (Fr.rf : Fr (fun j k => (j = i ∧ 2 ≤ k ∧ k ≤ 9) ∨ (j = i + 18 ∧ k = 99)) S S) (by omega)
  refine lv_aload_n hx hb (fk_get fk_cX3_become_0 4 rfl) rfl (lv_at hl 0 rfl) ?_
  refine lv_aload_n hx hb (fk_get fk_cX3_become_0 5 rfl) rfl (lv_at hl 1 rfl) ?_
  refine va_get (D := G.1) (ci := 5) (v := .int (fF (setR S i 2 (some (2 + n_1))) j 3)) (C := RX3) (T := TX3) (N := 10) hx hb hT inX3 hown hK hP j (ix_at (lt71 (by omega)) (cX_cust hpj)) rfl 3 (by decide) (hT _ m1_147) (fun _ h9 => h9) rfl (fk_get fk_cX3_become_0 6 rfl) ?_
  rw [show fF (setR S i 2 (some (2 + n_1))) j 3 = (fF S j 3) from by simp [fF_setF, fF_setR, fF_setA, fF_setL]]
  refine va_put (D := G.1) (ci := 5) (v := .int ((fF S j 3))) (ty := .int) (C := RX3) (T := TX3) (N := 10) hx hb hT inX3 tyX3 tyX3_ok nmX3 hown hK hP hD hS i (ix_at (lt71 (by omega)) (cX_cust hpk)) rfl 3 (by decide) (hT _ m1_147) (fun _ h9 => h9) rfl (by decide +kernel) rfl rfl (Nat.le_of_ble_eq_true rfl) (fk_get fk_cX3_become_0 7 rfl) (fun H locs hP hD hS => ?_)
  rw [pX_cust_3 (S := (setR S i 2 (some (2 + n_1)))) (lt71 (by omega)) (hpk) ((fF S j 3))] at hP hD
  have hX_4 : XI (setF (setR S i 2 (some (2 + n_1))) i 3 ((fF S j 3))) := XI.sF hX_2 _ ⟨by omega, by omega, by omega, by omega, by omega, by omega, by omega, by omega⟩
  have hF_5 : Fr (fun j k => (j = i ∧ 2 ≤ k ∧ k ≤ 9) ∨ (j = i + 18 ∧ k = 99)) S (setF (setR S i 2 (some (2 + n_1))) i 3 ((fF S j 3))) := Fr.sF hF_3 (by omega)
  refine lv_aload_n hx hb (fk_get fk_cX3_become_0 8 rfl) rfl (lv_at hl 0 rfl) ?_
  refine lv_aload_n hx hb (fk_get fk_cX3_become_0 9 rfl) rfl (lv_at hl 1 rfl) ?_
  refine va_get (D := G.1) (ci := 5) (v := .int (fF (setF (setR S i 2 (some (2 + n_1))) i 3 ((fF S j 3))) j 4)) (C := RX3) (T := TX3) (N := 10) hx hb hT inX3 hown hK hP j (ix_at (lt71 (by omega)) (cX_cust hpj)) rfl 4 (by decide) (hT _ m1_153) (fun _ h9 => h9) rfl (fk_get fk_cX3_become_0 10 rfl) ?_
  rw [show fF (setF (setR S i 2 (some (2 + n_1))) i 3 ((fF S j 3))) j 4 = (fF S j 4) from by simp [fF_setF, fF_setR, fF_setA, fF_setL]]
  refine va_put (D := G.1) (ci := 5) (v := .int ((fF S j 4))) (ty := .int) (C := RX3) (T := TX3) (N := 10) hx hb hT inX3 tyX3 tyX3_ok nmX3 hown hK hP hD hS i (ix_at (lt71 (by omega)) (cX_cust hpk)) rfl 4 (by decide) (hT _ m1_153) (fun _ h9 => h9) rfl (by decide +kernel) rfl rfl (Nat.le_of_ble_eq_true rfl) (fk_get fk_cX3_become_0 11 rfl) (fun H locs hP hD hS => ?_)
  rw [pX_cust_4 (S := (setF (setR S i 2 (some (2 + n_1))) i 3 ((fF S j 3)))) (lt71 (by omega)) (hpk) ((fF S j 4))] at hP hD
  have hX_6 : XI (setF (setF (setR S i 2 (some (2 + n_1))) i 3 ((fF S j 3))) i 4 ((fF S j 4))) := XI.sF hX_4 _ ⟨by omega, by omega, by omega, by omega, by omega, by omega, by omega, by omega⟩
  have hF_7 : Fr (fun j k => (j = i ∧ 2 ≤ k ∧ k ≤ 9) ∨ (j = i + 18 ∧ k = 99)) S (setF (setF (setR S i 2 (some (2 + n_1))) i 3 ((fF S j 3))) i 4 ((fF S j 4))) := Fr.sF hF_5 (by omega)
  refine lv_aload_n hx hb (fk_get fk_cX3_become_0 12 rfl) rfl (lv_at hl 0 rfl) ?_
  refine lv_aload_n hx hb (fk_get fk_cX3_become_0 13 rfl) rfl (lv_at hl 1 rfl) ?_
  refine va_get (D := G.1) (ci := 5) (v := .int (fF (setF (setF (setR S i 2 (some (2 + n_1))) i 3 ((fF S j 3))) i 4 ((fF S j 4))) j 5)) (C := RX3) (T := TX3) (N := 10) hx hb hT inX3 hown hK hP j (ix_at (lt71 (by omega)) (cX_cust hpj)) rfl 5 (by decide) (hT _ m1_159) (fun _ h9 => h9) rfl (fk_get fk_cX3_become_0 14 rfl) ?_
  rw [show fF (setF (setF (setR S i 2 (some (2 + n_1))) i 3 ((fF S j 3))) i 4 ((fF S j 4))) j 5 = (fF S j 5) from by simp [fF_setF, fF_setR, fF_setA, fF_setL]]
  refine va_put (D := G.1) (ci := 5) (v := .int ((fF S j 5))) (ty := .int) (C := RX3) (T := TX3) (N := 10) hx hb hT inX3 tyX3 tyX3_ok nmX3 hown hK hP hD hS i (ix_at (lt71 (by omega)) (cX_cust hpk)) rfl 5 (by decide) (hT _ m1_159) (fun _ h9 => h9) rfl (by decide +kernel) rfl rfl (Nat.le_of_ble_eq_true rfl) (fk_get fk_cX3_become_0 15 rfl) (fun H locs hP hD hS => ?_)
  rw [pX_cust_5 (S := (setF (setF (setR S i 2 (some (2 + n_1))) i 3 ((fF S j 3))) i 4 ((fF S j 4)))) (lt71 (by omega)) (hpk) ((fF S j 5))] at hP hD
  have hX_8 : XI (setF (setF (setF (setR S i 2 (some (2 + n_1))) i 3 ((fF S j 3))) i 4 ((fF S j 4))) i 5 ((fF S j 5))) := XI.sF hX_6 _ ⟨by omega, by omega, by omega, by omega, by omega, by omega, by omega, by omega⟩
  have hF_9 : Fr (fun j k => (j = i ∧ 2 ≤ k ∧ k ≤ 9) ∨ (j = i + 18 ∧ k = 99)) S (setF (setF (setF (setR S i 2 (some (2 + n_1))) i 3 ((fF S j 3))) i 4 ((fF S j 4))) i 5 ((fF S j 5))) := Fr.sF hF_7 (by omega)
  refine lv_aload_n hx hb (fk_get fk_cX3_become_0 16 rfl) rfl (lv_at hl 0 rfl) ?_
  refine lv_aload_n hx hb (fk_get fk_cX3_become_0 17 rfl) rfl (lv_at hl 1 rfl) ?_
  refine va_get (D := G.1) (ci := 5) (v := .int (fF (setF (setF (setF (setR S i 2 (some (2 + n_1))) i 3 ((fF S j 3))) i 4 ((fF S j 4))) i 5 ((fF S j 5))) j 6)) (C := RX3) (T := TX3) (N := 10) hx hb hT inX3 hown hK hP j (ix_at (lt71 (by omega)) (cX_cust hpj)) rfl 6 (by decide) (hT _ m1_163) (fun _ h9 => h9) rfl (fk_get fk_cX3_become_0 18 rfl) ?_
  rw [show fF (setF (setF (setF (setR S i 2 (some (2 + n_1))) i 3 ((fF S j 3))) i 4 ((fF S j 4))) i 5 ((fF S j 5))) j 6 = (fF S j 6) from by simp [fF_setF, fF_setR, fF_setA, fF_setL]]
  refine va_put (D := G.1) (ci := 5) (v := .int ((fF S j 6))) (ty := .int) (C := RX3) (T := TX3) (N := 10) hx hb hT inX3 tyX3 tyX3_ok nmX3 hown hK hP hD hS i (ix_at (lt71 (by omega)) (cX_cust hpk)) rfl 6 (by decide) (hT _ m1_163) (fun _ h9 => h9) rfl (by decide +kernel) rfl rfl (Nat.le_of_ble_eq_true rfl) (fk_get fk_cX3_become_0 19 rfl) (fun H locs hP hD hS => ?_)
  rw [pX_cust_6 (S := (setF (setF (setF (setR S i 2 (some (2 + n_1))) i 3 ((fF S j 3))) i 4 ((fF S j 4))) i 5 ((fF S j 5)))) (lt71 (by omega)) (hpk) ((fF S j 6))] at hP hD
  have hX_10 : XI (setF (setF (setF (setF (setR S i 2 (some (2 + n_1))) i 3 ((fF S j 3))) i 4 ((fF S j 4))) i 5 ((fF S j 5))) i 6 ((fF S j 6))) := XI.sF hX_8 _ ⟨by omega, by omega, by omega, by omega, by omega, by omega, by omega, by omega⟩
  have hF_11 : Fr (fun j k => (j = i ∧ 2 ≤ k ∧ k ≤ 9) ∨ (j = i + 18 ∧ k = 99)) S (setF (setF (setF (setF (setR S i 2 (some (2 + n_1))) i 3 ((fF S j 3))) i 4 ((fF S j 4))) i 5 ((fF S j 5))) i 6 ((fF S j 6))) := Fr.sF hF_9 (by omega)
  refine lv_aload_n hx hb (fk_get fk_cX3_become_0 20 rfl) rfl (lv_at hl 0 rfl) ?_
  refine lv_aload_n hx hb (fk_get fk_cX3_become_0 21 rfl) rfl (lv_at hl 1 rfl) ?_
  refine va_get (D := G.1) (ci := 5) (v := .int (fF (setF (setF (setF (setF (setR S i 2 (some (2 + n_1))) i 3 ((fF S j 3))) i 4 ((fF S j 4))) i 5 ((fF S j 5))) i 6 ((fF S j 6))) j 7)) (C := RX3) (T := TX3) (N := 10) hx hb hT inX3 hown hK hP j (ix_at (lt71 (by omega)) (cX_cust hpj)) rfl 7 (by decide) (hT _ m1_169) (fun _ h9 => h9) rfl (fk_get fk_cX3_become_0 22 rfl) ?_
  rw [show fF (setF (setF (setF (setF (setR S i 2 (some (2 + n_1))) i 3 ((fF S j 3))) i 4 ((fF S j 4))) i 5 ((fF S j 5))) i 6 ((fF S j 6))) j 7 = (fF S j 7) from by simp [fF_setF, fF_setR, fF_setA, fF_setL]]
  refine va_put (D := G.1) (ci := 5) (v := .int ((fF S j 7))) (ty := .int) (C := RX3) (T := TX3) (N := 10) hx hb hT inX3 tyX3 tyX3_ok nmX3 hown hK hP hD hS i (ix_at (lt71 (by omega)) (cX_cust hpk)) rfl 7 (by decide) (hT _ m1_169) (fun _ h9 => h9) rfl (by decide +kernel) rfl rfl (Nat.le_of_ble_eq_true rfl) (fk_get fk_cX3_become_0 23 rfl) (fun H locs hP hD hS => ?_)
  rw [pX_cust_7 (S := (setF (setF (setF (setF (setR S i 2 (some (2 + n_1))) i 3 ((fF S j 3))) i 4 ((fF S j 4))) i 5 ((fF S j 5))) i 6 ((fF S j 6)))) (lt71 (by omega)) (hpk) ((fF S j 7))] at hP hD
  have hX_12 : XI (setF (setF (setF (setF (setF (setR S i 2 (some (2 + n_1))) i 3 ((fF S j 3))) i 4 ((fF S j 4))) i 5 ((fF S j 5))) i 6 ((fF S j 6))) i 7 ((fF S j 7))) := XI.sF hX_10 _ ⟨by omega, by omega, by omega, by omega, by omega, by omega, by omega, by omega⟩
  have hF_13 : Fr (fun j k => (j = i ∧ 2 ≤ k ∧ k ≤ 9) ∨ (j = i + 18 ∧ k = 99)) S (setF (setF (setF (setF (setF (setR S i 2 (some (2 + n_1))) i 3 ((fF S j 3))) i 4 ((fF S j 4))) i 5 ((fF S j 5))) i 6 ((fF S j 6))) i 7 ((fF S j 7))) := Fr.sF hF_11 (by omega)
  refine lv_aload_n hx hb (fk_get fk_cX3_become_0 24 rfl) rfl (lv_at hl 0 rfl) ?_
  refine lv_aload_n hx hb (fk_get fk_cX3_become_0 25 rfl) rfl (lv_at hl 1 rfl) ?_
  refine va_get (D := G.1) (ci := 5) (v := .int (fF (setF (setF (setF (setF (setF (setR S i 2 (some (2 + n_1))) i 3 ((fF S j 3))) i 4 ((fF S j 4))) i 5 ((fF S j 5))) i 6 ((fF S j 6))) i 7 ((fF S j 7))) j 8)) (C := RX3) (T := TX3) (N := 10) hx hb hT inX3 hown hK hP j (ix_at (lt71 (by omega)) (cX_cust hpj)) rfl 8 (by decide) (hT _ m1_173) (fun _ h9 => h9) rfl (fk_get fk_cX3_become_0 26 rfl) ?_
  rw [show fF (setF (setF (setF (setF (setF (setR S i 2 (some (2 + n_1))) i 3 ((fF S j 3))) i 4 ((fF S j 4))) i 5 ((fF S j 5))) i 6 ((fF S j 6))) i 7 ((fF S j 7))) j 8 = (fF S j 8) from by simp [fF_setF, fF_setR, fF_setA, fF_setL]]
  refine va_put (D := G.1) (ci := 5) (v := .int ((fF S j 8))) (ty := .int) (C := RX3) (T := TX3) (N := 10) hx hb hT inX3 tyX3 tyX3_ok nmX3 hown hK hP hD hS i (ix_at (lt71 (by omega)) (cX_cust hpk)) rfl 8 (by decide) (hT _ m1_173) (fun _ h9 => h9) rfl (by decide +kernel) rfl rfl (Nat.le_of_ble_eq_true rfl) (fk_get fk_cX3_become_0 27 rfl) (fun H locs hP hD hS => ?_)
  rw [pX_cust_8 (S := (setF (setF (setF (setF (setF (setR S i 2 (some (2 + n_1))) i 3 ((fF S j 3))) i 4 ((fF S j 4))) i 5 ((fF S j 5))) i 6 ((fF S j 6))) i 7 ((fF S j 7)))) (lt71 (by omega)) (hpk) ((fF S j 8))] at hP hD
  have hX_14 : XI (setF (setF (setF (setF (setF (setF (setR S i 2 (some (2 + n_1))) i 3 ((fF S j 3))) i 4 ((fF S j 4))) i 5 ((fF S j 5))) i 6 ((fF S j 6))) i 7 ((fF S j 7))) i 8 ((fF S j 8))) := XI.sF hX_12 _ ⟨by omega, by omega, by omega, by omega, by omega, by omega, by omega, by omega⟩
  have hF_15 : Fr (fun j k => (j = i ∧ 2 ≤ k ∧ k ≤ 9) ∨ (j = i + 18 ∧ k = 99)) S (setF (setF (setF (setF (setF (setF (setR S i 2 (some (2 + n_1))) i 3 ((fF S j 3))) i 4 ((fF S j 4))) i 5 ((fF S j 5))) i 6 ((fF S j 6))) i 7 ((fF S j 7))) i 8 ((fF S j 8))) := Fr.sF hF_13 (by omega)
  refine lv_aload_n hx hb (fk_get fk_cX3_become_0 28 rfl) rfl (lv_at hl 0 rfl) ?_
  refine lv_aload_n hx hb (fk_get fk_cX3_become_0 29 rfl) rfl (lv_at hl 1 rfl) ?_
  refine va_get (D := G.1) (ci := 5) (v := .int (fF (setF (setF (setF (setF (setF (setF (setR S i 2 (some (2 + n_1))) i 3 ((fF S j 3))) i 4 ((fF S j 4))) i 5 ((fF S j 5))) i 6 ((fF S j 6))) i 7 ((fF S j 7))) i 8 ((fF S j 8))) j 9)) (C := RX3) (T := TX3) (N := 10) hx hb hT inX3 hown hK hP j (ix_at (lt71 (by omega)) (cX_cust hpj)) rfl 9 (by decide) (hT _ m1_178) (fun _ h9 => h9) rfl (fk_get fk_cX3_become_0 30 rfl) ?_
  rw [show fF (setF (setF (setF (setF (setF (setF (setR S i 2 (some (2 + n_1))) i 3 ((fF S j 3))) i 4 ((fF S j 4))) i 5 ((fF S j 5))) i 6 ((fF S j 6))) i 7 ((fF S j 7))) i 8 ((fF S j 8))) j 9 = (fF S j 9) from by simp [fF_setF, fF_setR, fF_setA, fF_setL]]
  refine va_put (D := G.1) (ci := 5) (v := .int ((fF S j 9))) (ty := .boolean) (C := RX3) (T := TX3) (N := 10) hx hb hT inX3 tyX3 tyX3_ok nmX3 hown hK hP hD hS i (ix_at (lt71 (by omega)) (cX_cust hpk)) rfl 9 (by decide) (hT _ m1_178) (fun _ h9 => h9) rfl (by decide +kernel) (nar_b (hX.gone01 hpj)) (fit_b (hX.gone01 hpj)) (Nat.le_of_ble_eq_true rfl) (fk_get fk_cX3_become_0 31 rfl) (fun H locs hP hD hS => ?_)
  rw [pX_cust_9 (S := (setF (setF (setF (setF (setF (setF (setR S i 2 (some (2 + n_1))) i 3 ((fF S j 3))) i 4 ((fF S j 4))) i 5 ((fF S j 5))) i 6 ((fF S j 6))) i 7 ((fF S j 7))) i 8 ((fF S j 8)))) (lt71 (by omega)) (hpk) ((fF S j 9))] at hP hD
  have hX_16 : XI (setF (setF (setF (setF (setF (setF (setF (setR S i 2 (some (2 + n_1))) i 3 ((fF S j 3))) i 4 ((fF S j 4))) i 5 ((fF S j 5))) i 6 ((fF S j 6))) i 7 ((fF S j 7))) i 8 ((fF S j 8))) i 9 ((fF S j 9))) := XI.gone_ hX_14 hpk (hX.gone01 hpj)
  have hF_17 : Fr (fun j k => (j = i ∧ 2 ≤ k ∧ k ≤ 9) ∨ (j = i + 18 ∧ k = 99)) S (setF (setF (setF (setF (setF (setF (setF (setR S i 2 (some (2 + n_1))) i 3 ((fF S j 3))) i 4 ((fF S j 4))) i 5 ((fF S j 5))) i 6 ((fF S j 6))) i 7 ((fF S j 7))) i 8 ((fF S j 8))) i 9 ((fF S j 9))) := Fr.sF hF_15 (by omega)
  refine lv_aload_n hx hb (fk_get fk_cX3_become_1 0 rfl) rfl (lv_at hl 1 rfl) ?_
  refine va_get (D := G.1) (ci := 5) (v := .ref (ad (j + 18))) (C := RX3) (T := TX3) (N := 10) hx hb hT inX3 hown hK hP j (ix_at (lt71 (by omega)) (cX_cust hpj)) rfl 1 (by decide) (hT _ m1_140) (fun _ h9 => h9) rfl (fk_get fk_cX3_become_1 1 rfl) ?_
  refine lv_iconst (v := 0) hx hb (fk_get fk_cX3_become_1 2 rfl) (by decide) ?_
  refine lv_aload_n hx hb (fk_get fk_cX3_become_1 3 rfl) rfl (lv_at hl 0 rfl) ?_
  refine va_get (D := G.1) (ci := 5) (v := .ref (ad (i + 18))) (C := RX3) (T := TX3) (N := 10) hx hb hT inX3 hown hK hP i (ix_at (lt71 (by omega)) (cX_cust hpk)) rfl 1 (by decide) (hT _ m1_140) (fun _ h9 => h9) rfl (fk_get fk_cX3_become_1 4 rfl) ?_
  refine lv_iconst (v := 0) hx hb (fk_get fk_cX3_become_1 5 rfl) (by decide) ?_
  refine lv_iconst (v := 4) hx hb (fk_get fk_cX3_become_1 6 rfl) (by decide) ?_
  refine va_copyi hx hb (by rw [hml]; exact hl.1.symm) hown (hT _ m3_223) (hT _ m3_152) (hT _ m3_151) (hT _ m1_24) hK hP hD hS (j + 18) (i + 18) 0 0 (ix_at (lt71 (by omega)) (cX_arr (Or.inl ⟨rfl, rfl, Or.inr (pk_e7 hpj)⟩))) (ix_at (lt71 (by omega)) (cX_arr (Or.inl ⟨rfl, rfl, Or.inr (pk_e7 hpk)⟩))) rfl rfl rfl (by decide) (by decide) (by decide) (by decide) (by decide) (fun _ _ => rfl) (Nat.le_of_ble_eq_true rfl) (Nat.le_of_ble_eq_true rfl) (fk_get fk_cX3_become_1 7 rfl) (fun H locs hP hD hS => ?_)
  rw [pX_arr (G := G) (ad := ad) (S := (setF (setF (setF (setF (setF (setF (setF (setR S i 2 (some (2 + n_1))) i 3 ((fF S j 3))) i 4 ((fF S j 4))) i 5 ((fF S j 5))) i 6 ((fF S j 6))) i 7 ((fF S j 7))) i 8 ((fF S j 8))) i 9 ((fF S j 9)))) (lt71 (by omega)) (Or.inl ⟨rfl, rfl, Or.inr (pk_e7 hpk)⟩) (va_cpy (fA (setF (setF (setF (setF (setF (setF (setF (setR S i 2 (some (2 + n_1))) i 3 ((fF S j 3))) i 4 ((fF S j 4))) i 5 ((fF S j 5))) i 6 ((fF S j 6))) i 7 ((fF S j 7))) i 8 ((fF S j 8))) i 9 ((fF S j 9))) (j + 18)) (fA (setF (setF (setF (setF (setF (setF (setF (setR S i 2 (some (2 + n_1))) i 3 ((fF S j 3))) i 4 ((fF S j 4))) i 5 ((fF S j 5))) i 6 ((fF S j 6))) i 7 ((fF S j 7))) i 8 ((fF S j 8))) i 9 ((fF S j 9))) (i + 18)) (0 : Int32).toNatClampNeg (0 : Int32).toNatClampNeg (4 : Int32).toNatClampNeg)] at hP hD
  have hX_18 : XI (setA (setF (setF (setF (setF (setF (setF (setF (setR S i 2 (some (2 + n_1))) i 3 ((fF S j 3))) i 4 ((fF S j 4))) i 5 ((fF S j 5))) i 6 ((fF S j 6))) i 7 ((fF S j 7))) i 8 ((fF S j 8))) i 9 ((fF S j 9))) (i + 18) (va_cpy (fA (setF (setF (setF (setF (setF (setF (setF (setR S i 2 (some (2 + n_1))) i 3 ((fF S j 3))) i 4 ((fF S j 4))) i 5 ((fF S j 5))) i 6 ((fF S j 6))) i 7 ((fF S j 7))) i 8 ((fF S j 8))) i 9 ((fF S j 9))) (j + 18)) (fA (setF (setF (setF (setF (setF (setF (setF (setR S i 2 (some (2 + n_1))) i 3 ((fF S j 3))) i 4 ((fF S j 4))) i 5 ((fF S j 5))) i 6 ((fF S j 6))) i 7 ((fF S j 7))) i 8 ((fF S j 8))) i 9 ((fF S j 9))) (i + 18)) (0 : Int32).toNatClampNeg (0 : Int32).toNatClampNeg (4 : Int32).toNatClampNeg)) := XI.sA hX_16 _ (by omega)
  have hF_19 : Fr (fun j k => (j = i ∧ 2 ≤ k ∧ k ≤ 9) ∨ (j = i + 18 ∧ k = 99)) S (setA (setF (setF (setF (setF (setF (setF (setF (setR S i 2 (some (2 + n_1))) i 3 ((fF S j 3))) i 4 ((fF S j 4))) i 5 ((fF S j 5))) i 6 ((fF S j 6))) i 7 ((fF S j 7))) i 8 ((fF S j 8))) i 9 ((fF S j 9))) (i + 18) (va_cpy (fA (setF (setF (setF (setF (setF (setF (setF (setR S i 2 (some (2 + n_1))) i 3 ((fF S j 3))) i 4 ((fF S j 4))) i 5 ((fF S j 5))) i 6 ((fF S j 6))) i 7 ((fF S j 7))) i 8 ((fF S j 8))) i 9 ((fF S j 9))) (j + 18)) (fA (setF (setF (setF (setF (setF (setF (setF (setR S i 2 (some (2 + n_1))) i 3 ((fF S j 3))) i 4 ((fF S j 4))) i 5 ((fF S j 5))) i 6 ((fF S j 6))) i 7 ((fF S j 7))) i 8 ((fF S j 8))) i 9 ((fF S j 9))) (i + 18)) (0 : Int32).toNatClampNeg (0 : Int32).toNatClampNeg (4 : Int32).toNatClampNeg)) := Fr.sA hF_17 (by omega)
  subst hQ
  have hpost : XI (setA (setF (setF (setF (setF (setF (setF (setF (setR S i 2 (some (2 + n_1))) i 3 ((fF S j 3))) i 4 ((fF S j 4))) i 5 ((fF S j 5))) i 6 ((fF S j 6))) i 7 ((fF S j 7))) i 8 ((fF S j 8))) i 9 ((fF S j 9))) (i + 18) (va_cpy (fA (setF (setF (setF (setF (setF (setF (setF (setR S i 2 (some (2 + n_1))) i 3 ((fF S j 3))) i 4 ((fF S j 4))) i 5 ((fF S j 5))) i 6 ((fF S j 6))) i 7 ((fF S j 7))) i 8 ((fF S j 8))) i 9 ((fF S j 9))) (j + 18)) (fA (setF (setF (setF (setF (setF (setF (setF (setR S i 2 (some (2 + n_1))) i 3 ((fF S j 3))) i 4 ((fF S j 4))) i 5 ((fF S j 5))) i 6 ((fF S j 6))) i 7 ((fF S j 7))) i 8 ((fF S j 8))) i 9 ((fF S j 9))) (i + 18)) (0 : Int32).toNatClampNeg (0 : Int32).toNatClampNeg (4 : Int32).toNatClampNeg)) ∧ Fr (fun j k => (j = i ∧ 2 ≤ k ∧ k ≤ 9) ∨ (j = i + 18 ∧ k = 99)) S (setA (setF (setF (setF (setF (setF (setF (setF (setR S i 2 (some (2 + n_1))) i 3 ((fF S j 3))) i 4 ((fF S j 4))) i 5 ((fF S j 5))) i 6 ((fF S j 6))) i 7 ((fF S j 7))) i 8 ((fF S j 8))) i 9 ((fF S j 9))) (i + 18) (va_cpy (fA (setF (setF (setF (setF (setF (setF (setF (setR S i 2 (some (2 + n_1))) i 3 ((fF S j 3))) i 4 ((fF S j 4))) i 5 ((fF S j 5))) i 6 ((fF S j 6))) i 7 ((fF S j 7))) i 8 ((fF S j 8))) i 9 ((fF S j 9))) (j + 18)) (fA (setF (setF (setF (setF (setF (setF (setF (setR S i 2 (some (2 + n_1))) i 3 ((fF S j 3))) i 4 ((fF S j 4))) i 5 ((fF S j 5))) i 6 ((fF S j 6))) i 7 ((fF S j 7))) i 8 ((fF S j 8))) i 9 ((fF S j 9))) (i + 18)) (0 : Int32).toNatClampNeg (0 : Int32).toNatClampNeg (4 : Int32).toNatClampNeg)) ∧ CE S i j (setA (setF (setF (setF (setF (setF (setF (setF (setR S i 2 (some (2 + n_1))) i 3 ((fF S j 3))) i 4 ((fF S j 4))) i 5 ((fF S j 5))) i 6 ((fF S j 6))) i 7 ((fF S j 7))) i 8 ((fF S j 8))) i 9 ((fF S j 9))) (i + 18) (va_cpy (fA (setF (setF (setF (setF (setF (setF (setF (setR S i 2 (some (2 + n_1))) i 3 ((fF S j 3))) i 4 ((fF S j 4))) i 5 ((fF S j 5))) i 6 ((fF S j 6))) i 7 ((fF S j 7))) i 8 ((fF S j 8))) i 9 ((fF S j 9))) (j + 18)) (fA (setF (setF (setF (setF (setF (setF (setF (setR S i 2 (some (2 + n_1))) i 3 ((fF S j 3))) i 4 ((fF S j 4))) i 5 ((fF S j 5))) i 6 ((fF S j 6))) i 7 ((fF S j 7))) i 8 ((fF S j 8))) i 9 ((fF S j 9))) (i + 18)) (0 : Int32).toNatClampNeg (0 : Int32).toNatClampNeg (4 : Int32).toNatClampNeg)) := by
    exact ⟨hX_18, hF_19, ⟨fun k h1 h2 => by rcases (show k = 3 ∨ k = 4 ∨ k = 5 ∨ k = 6 ∨ k = 7 ∨ k = 8 ∨ k = 9 by omega) with rfl | rfl | rfl | rfl | rfl | rfl | rfl <;> simp [fF_setF, fF_setR, fF_setA, fF_setL], by simp [fR_setF, fR_setR, fR_setA]; exact en_1.symm, fun k hk => by rw [fA_setA, if_pos rfl]; unfold va_cpy; rw [if_pos (by constructor <;> simp <;> omega)]; simp [fA_setF, fA_setR]⟩⟩
  exact W.vret hx hb hr (fun t_ ht_ hW_ => ⟨⟨(setA (setF (setF (setF (setF (setF (setF (setF (setR S i 2 (some (2 + n_1))) i 3 ((fF S j 3))) i 4 ((fF S j 4))) i 5 ((fF S j 5))) i 6 ((fF S j 6))) i 7 ((fF S j 7))) i 8 ((fF S j 8))) i 9 ((fF S j 9))) (i + 18) (va_cpy (fA (setF (setF (setF (setF (setF (setF (setF (setR S i 2 (some (2 + n_1))) i 3 ((fF S j 3))) i 4 ((fF S j 4))) i 5 ((fF S j 5))) i 6 ((fF S j 6))) i 7 ((fF S j 7))) i 8 ((fF S j 8))) i 9 ((fF S j 9))) (j + 18)) (fA (setF (setF (setF (setF (setF (setF (setF (setR S i 2 (some (2 + n_1))) i 3 ((fF S j 3))) i 4 ((fF S j 4))) i 5 ((fF S j 5))) i 6 ((fF S j 6))) i 7 ((fF S j 7))) i 8 ((fF S j 8))) i 9 ((fF S j 9))) (i + 18)) (0 : Int32).toNatClampNeg (0 : Int32).toNatClampNeg (4 : Int32).toNatClampNeg)), rfl, hpost, by rw [ht_]; exact hP, va_K.moved hW_.alike hK, hD⟩, hS.F ht_⟩) hS.2.2 (fk_get fk_cX3_become_1 8 rfl)
