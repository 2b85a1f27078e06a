set_option maxHeartbeats 800000 in
set_option maxRecDepth 100000 in
theorem c_x11_nobodyX (l : Launch) (G : GG) (ad : Nat → Nat) (S : FS) (sz : Nat) (n pz : Nat) (K : Nat → Nat) (τ : Nat → Int32) (C : Cls) (hn : fF S (9 + 0) 3 = nI n) (hn6 : n ≤ 6) (hcf : CuF S 0 n pz τ C K) (hgc : ∀ d, d < n → GC 9999 (gX S (21 + 6 * 0 + d) (K d))) (h99 : N99 C) (hX : XI S) : Met l yX11_nobody (Cond.code yX11_nobody cX11_nobody 3 (some .int) :: TBL) ({ frames := 7, cells := 0, slots := 0, locals := 200 } : Room) (PcW G (wX G ad S) sz [.ref (ad 0)]) (va_Qi (fun (r : Int32) (S' : FS) => XI S' ∧ Fr (fun j k => (j = 11 ∧ 3 ≤ k ∧ k ≤ 7) ∨ (33 ≤ j ∧ j < 39 ∧ 2 ≤ k ∧ k ≤ 9) ∨ (51 ≤ j ∧ j < 57 ∧ k = 99) ∨ ((j = 17 ∨ j = 20) ∧ k = 99)) S S' ∧ (r = nobP (fF S (9 + 0) 6) (lstW 3 1 C) τ C n (fun d => gX S (21 + 6 * 0 + d) (K d)))) (fun S' t => BW G (va_A (wX G ad S) sz) (wX G ad S') t) (va_A (wX G ad S) sz)) 0 0 (va_A (wX G ad S) sz) := by
  refine Met.ofW (cc := cX11_nobody) (maxL := 3) (ret := (some .int)) (by decide) rfl ?_
  intro p e s m args below meth c₀ s₁ B hml hv
  obtain ⟨rfl, hsz, hP, hK, hD0⟩ := hv
  have hx := B.exec
  have hb := B.bytes
  have hr := B.returns
  have hT : ∀ w ∈ TBL, w.before ([.ref (ad 0)] : List Value).toArray s = true := fun w h => atoms_spec (ws := Cond.code yX11_nobody cX11_nobody 3 (some .int) :: TBL) B.pre w (List.mem_cons_of_mem _ h)
  have hown : s.vm.findClass "LittleMore" = some m.cls := findClass_of_methodNamed B.named
  have hlocks := B.notSynchronized
  subst hsz
  have hD := hD0.self (sz := s.heap.size)
  generalize hAe : va_A (wX G ad S) s.heap.size = A at hD ⊢
  have hA : ∀ q : Nat, s.heap.size ≤ q → A q := fun q h => by rw [← hAe]; exact Or.inr h
  have hS : va_S A s.heap s.heap [] := va_S.rf
  have hP : va_P G.1 vwCl (wX G ad S) s.heap := hP
  have hl := lv_entry ([.ref (ad 0)]) (n := 3) (Nat.le_of_ble_eq_true rfl)
  rw [lg_entry_eq]
  generalize (lg_sl ([.ref (ad 0)]) ++ List.replicate (3 - (lg_sl ([.ref (ad 0)])).length) Slot.unset).toArray = ls at hl ⊢
  have hl : lv_has ls 3 [(0, .ref (ad 0))] := hl
  refine W_abs (fun Q hQ => ?_)
  generalize ([.ref (ad 0)] : List Value).toArray = args at hT hQ ⊢
  obtain ⟨-, hpz0, hcok0, hctx0, hsay0⟩ := id hcf
  obtain ⟨lz, hlz, hln⟩ := lst_99 (k := 3) C 1 ⟨1, by omega, rfl⟩ h99.2
  refine lv_aload_n hx hb (fk_get fk_cX11_nobody_0 0 rfl) rfl (lv_at hl 0 rfl) ?_
  have hFc := va_self hD hS hA
  refine va_callr (va_runV (As := []) (rest := []) ⟨hx, hb, hml, hown, hT⟩ (c_x11_shopToTryX l G ad S s.heap.size (n) (hn) (hn6) (hX)) (tV 0 hT m3_211 m3_213 mp_11 m1_1 m3_214 rfl rfl (by decide +kernel) ⟨Nat.le_of_ble_eq_true rfl, Nat.le_of_ble_eq_true rfl⟩) ⟨PcW_blind, va_recv hK hP (ci := 13) (q0 := 0) rfl (ix_at (lt71 (by omega)) (cX_0 G ad S)), PcW_of hP hK hD _⟩ rfl rfl hl.1 rfl (lv_room (Nat.le_of_ble_eq_true rfl)) (fk_get fk_cX11_nobody_0 1 rfl) ⟨Nat.zero_le _, Nat.zero_le _⟩) hS (fun q _ h => hFc q h) hFc (fun S_3 r_1 t_ H locs ht_ hvm_ hw_2 hB_ hz_ hk_ hS => ?_)
  obtain ⟨hra_, hB_⟩ := hB_
  subst hra_
  obtain ⟨hP, -, hD1_⟩ := hB_
  rw [ht_] at hP
  have hD : va_D A (wX G ad S_3) := hD1_.weaken (fun k q _ h => hFc q.1 h)
  try dsimp only at hw_2
  obtain ⟨hX_4, hF_5_, hw_2⟩ := hw_2
  have hF_5 : Fr (fun j k => (j = 11 ∧ 3 ≤ k ∧ k ≤ 7) ∨ (33 ≤ j ∧ j < 39 ∧ 2 ≤ k ∧ k ≤ 9) ∨ (51 ≤ j ∧ j < 57 ∧ k = 99) ∨ ((j = 17 ∨ j = 20) ∧ k = 99)) S S_3 := Fr.trans (Fr.rf : Fr (fun j k => (j = 11 ∧ 3 ≤ k ∧ k ≤ 7) ∨ (33 ≤ j ∧ j < 39 ∧ 2 ≤ k ∧ k ≤ 9) ∨ (51 ≤ j ∧ j < 57 ∧ k = 99) ∨ ((j = 17 ∨ j = 20) ∧ k = 99)) S S) (Fr.mono hF_5_ (fun j k h => by omega))
  obtain ⟨hbe_, hrr_⟩ := hw_2
  obtain ⟨hcf2_, hgx2_, hbf_, hsn2_⟩ := try_of hbe_ hrr_ hF_5_ hcf hn6
  have hn2_ : fF S_3 (9 + 2) 3 = nI n := (hbf_ 3 (by omega) (by omega)).trans hn
  have hpz2_ : fR S_3 (9 + 2) 7 = some pz := hcf2_.2.1
  have hcok2_ : COK S_3 pz := hcf2_.2.2.1
  have hof2_ : fF S_3 (9 + 2) 6 = fF S (9 + 0) 6 := hbf_ 6 (by omega) (by omega)
  have hgc2_ : ∀ d, d < n → GC 9999 (gX S_3 (21 + 6 * 2 + d) (K d)) := fun d hd => by rw [hgx2_ d hd]; exact hgc d hd
  refine lv_astore_n (lv' := [(1, .ref (ad (9 + 2))), (0, .ref (ad 0))]) hx hb (fk_get fk_cX11_nobody_0 2 rfl) rfl hl (by decide) rfl (fun ls hl => ?_)
  refine lv_iconst (v := 0) hx hb (fk_get fk_cX11_nobody_0 3 rfl) (by decide) ?_
  refine lv_istore_n (lv' := [(2, .int (0)), (1, .ref (ad (9 + 2))), (0, .ref (ad 0))]) hx hb (fk_get fk_cX11_nobody_0 4 rfl) rfl hl (by decide) rfl (fun ls hl => ?_)
  have lp_6 : ∀ (fu : Nat) (c : Nat) (SL7 : FS) (H_8 : Heap) (locs_9 : List Loc) (ls : Array Slot),  (XI SL7) → (Fr (fun j k => (j = 11 ∧ 3 ≤ k ∧ k ≤ 7) ∨ (33 ≤ j ∧ j < 39 ∧ 2 ≤ k ∧ k ≤ 9) ∨ (51 ≤ j ∧ j < 57 ∧ k = 99) ∨ ((j = 17 ∨ j = 20) ∧ k = 99)) S SL7) → (c ≤ 41) → (41 < c + fu) → (fF SL7 (9 + 2) 3 = nI n) → (CuF SL7 2 n pz τ C K) → (fF SL7 (9 + 2) 6 = (fF S (9 + 0) 6)) → (∀ d, d < n → GC (9999 + c) (gX SL7 (21 + 6 * 2 + d) (K d))) → (nobN (fF S (9 + 0) 6) (lstW 3 1 C) τ C n (41 - c) c (cutF n (fun d => gX SL7 (21 + 6 * 2 + d) (K d))) = (nobN (fF S (9 + 0) 6) (lstW 3 1 C) τ C n 41 0 (cutF n (fun d => gX S (21 + 6 * 0 + d) (K d))))) → va_P G.1 vwCl (wX G ad SL7) H_8 → va_D A (wX G ad SL7) → va_S A s.heap H_8 locs_9 → lv_has ls 3 [(2, .int ((nI c))), (1, .ref (ad (9 + 2))), (0, .ref (ad 0))] → W p l e ({ frames := 7, cells := 0, slots := 0, locals := 200 } : Room) s m args below meth c₀ H_8 locs_9 0 0 Q (F0 m 7 ls []) := by
    intro fu
    induction fu with
    | zero =>
      intro c SL7 H_8 locs_9 ls hXl7 hFl7 hk hf hnL hcfL hofL hgcL hNo hP hD hS hl
      exact absurd hf (by omega)
    | succ fu ih =>
      intro c SL7 H_8 locs_9 ls hXl7 hFl7 hk hf hnL hcfL hofL hgcL hNo hP hD hS hl
      obtain ⟨-, hpzL, hcokL, hctxL, hsayL⟩ := id hcfL
      refine lv_iload_n hx hb (fk_get fk_cX11_nobody_0 5 rfl) rfl (lv_at hl 0 rfl) ?_
      refine lv_bipush (v := 40) hx hb (fk_get fk_cX11_nobody_0 6 rfl) (by decide) ?_
      refine lv_icmp_gt (tgt := 33) hx hb (fk_get fk_cX11_nobody_0 7 rfl) (by decide) (fun c_10 => ?_) (fun c_10 => ?_)
      · have q_c_10 : 40 < c := ci_lt (a := 40) (b := c) (by omega) (by omega) c_10
        have hfi_ := no_en hNo (by omega)
        refine lv_bipush (v := (-5)) hx hb (fk_get fk_cX11_nobody_0 18 rfl) (by decide) ?_
        subst hQ
        have hpost : XI SL7 ∧ Fr (fun j k => (j = 11 ∧ 3 ≤ k ∧ k ≤ 7) ∨ (33 ≤ j ∧ j < 39 ∧ 2 ≤ k ∧ k ≤ 9) ∨ (51 ≤ j ∧ j < 57 ∧ k = 99) ∨ ((j = 17 ∨ j = 20) ∧ k = 99)) S SL7 ∧ (((-5) : Int32) = nobP (fF S (9 + 0) 6) (lstW 3 1 C) τ C n (fun d => gX S (21 + 6 * 0 + d) (K d))) := by
          exact ⟨hXl7, hFl7, hfi_⟩
        exact W.iret (v := (-5)) hx hb hr (fun t_ ht_ hW_ => ⟨⟨(-5), SL7, rfl, hpost, by rw [ht_]; exact hP, va_K.moved hW_.alike hK, hD⟩, hS.F ht_⟩) hS.2.2 (fk_get fk_cX11_nobody_0 19 rfl)
      have q_c_10 : c ≤ 40 := ci_nlt (a := 40) (b := c) (by omega) (by omega) c_10
      refine lv_aload_n hx hb (fk_get fk_cX11_nobody_0 8 rfl) rfl (lv_at hl 1 rfl) ?_
      refine vp_callSi (W.runV (As := []) (rest := []) ⟨hx, hb, hml, hown, hT⟩ (c_x7_howManyRefuseX l G ad SL7 H_8.size (2) (n) (pz) (9999 + c) (lz) (K) (τ) (C) ((by decide : 2 < 3)) (by first | assumption | omega) (by first | assumption | omega) (hcfL) ((fun d hd => (hgcL d hd).1)) (by omega) (hXl7)) (tV 0 hT m4_14 m4_15 m4_16 m1_9 m4_17 rfl rfl (by decide +kernel) ⟨Nat.le_of_ble_eq_true rfl, Nat.le_of_ble_eq_true rfl⟩) ⟨PcW_blind, va_recv hK hP (ci := 9) (q0 := (9 + 2)) rfl (ix_at (lt71 (by omega)) (cX_shop (pk_shop (by decide : 2 < 3)))), PcW_of hP hK hD _⟩ rfl rfl hl.1 rfl (lv_room (Nat.le_of_ble_eq_true rfl)) (fk_get fk_cX11_nobody_0 9 rfl) ⟨Nat.zero_le _, Nat.zero_le _⟩) (fun r_11 hw_12 => ?_)
      try dsimp only at hw_12
      rw [hofL] at hw_12
      subst hw_12
      refine lv_if_ne (tgt := 22) hx hb (fk_get fk_cX11_nobody_0 10 rfl) (by decide) (fun c_13 => ?_) (fun c_13 => ?_)
      · have hrf_ := fun z_ => c_13 ((rf0 hn6).mpr z_)
        refine lv_aload_n hx hb (fk_get fk_cX11_nobody_0 13 rfl) rfl (lv_at hl 1 rfl) ?_
        have hFc := va_self hD hS hA
        refine va_calli (va_runV (As := []) (rest := []) ⟨hx, hb, hml, hown, hT⟩ (c_x7_makeSaturdayX l G ad SL7 H_8.size (2) (n) (pz) (9999 + c) (lz) (K) (τ) (C) ((by decide : 2 < 3)) (by first | assumption | omega) (by first | assumption | omega) (hcfL) ((fun d hd => (hgcL d hd).1)) (by omega) (hln) (hlz) (hXl7)) (tV 0 hT m3_202 m3_203 m3_204 m1_9 m3_205 rfl rfl (by decide +kernel) ⟨Nat.le_of_ble_eq_true rfl, Nat.le_of_ble_eq_true rfl⟩) ⟨PcW_blind, va_recv hK hP (ci := 9) (q0 := (9 + 2)) rfl (ix_at (lt71 (by omega)) (cX_shop (pk_shop (by decide : 2 < 3)))), PcW_of hP hK hD _⟩ rfl rfl hl.1 rfl (lv_room (Nat.le_of_ble_eq_true rfl)) (fk_get fk_cX11_nobody_0 14 rfl) ⟨Nat.zero_le _, Nat.zero_le _⟩) hS (fun q _ h => hFc q h) hFc (fun r_14 S_16 t_ H locs ht_ hvm_ hw_15 hB_ hz_ hk_ hS => ?_)
        obtain ⟨hP, -, hD1_⟩ := hB_
        rw [ht_] at hP
        have hD : va_D A (wX G ad S_16) := hD1_.weaken (fun k q _ h => hFc q.1 h)
        try dsimp only at hw_15
        obtain ⟨hX_17, hF_18_, hw_15⟩ := hw_15
        have hF_18 : Fr (fun j k => (j = 11 ∧ 3 ≤ k ∧ k ≤ 7) ∨ (33 ≤ j ∧ j < 39 ∧ 2 ≤ k ∧ k ≤ 9) ∨ (51 ≤ j ∧ j < 57 ∧ k = 99) ∨ ((j = 17 ∨ j = 20) ∧ k = 99)) S S_16 := Fr.trans hFl7 (Fr.mono hF_18_ (fun j k h => by omega))
        obtain ⟨hsr_, hsg_⟩ := hw_15
        rw [hofL] at hsg_ hsr_
        have hcfN : CuF S_16 2 n pz τ C K := hcfL.fr (by omega) hn6 hF_18_ (fun d hd_ => by omega) (by omega) (fun j k a b => by omega)
        have hnN : fF S_16 (9 + 2) 3 = nI n := (Fr.F hF_18_ (lt71 (by omega)) (by omega)).trans hnL
        have hofN := (Fr.F hF_18_ (j := 9 + 2) (k := 6) (lt71 (by omega)) (by omega)).trans hofL
        have hgcN : ∀ d, d < n → GC (9999 + (c + 1)) (gX S_16 (21 + 6 * 2 + d) (K d)) := fun d hd => by rw [show gX S_16 (21 + 6 * 2 + d) (K d) = _ from hsg_ d hd]; exact sa_gc (B := 9999 + c) (by omega) hgcL d hd
        refine lv_pop hx hb (fk_get fk_cX11_nobody_0 15 rfl) rfl ?_
        refine lv_iinc (v := (nI (c + 1))) (lv' := [(2, .int ((nI (c + 1)))), (1, .ref (ad (9 + 2))), (0, .ref (ad 0))]) hx hb (fk_get fk_cX11_nobody_0 16 rfl) hl (k := 0) rfl ((nI_1 c)) (by decide) rfl (fun ls hl => ?_)
        refine lv_goto (tgt := 7) hx hb (fk_get fk_cX11_nobody_0 17 rfl) (by decide) ?_
        exact ih (c + 1) (S_16) _ _ ls (hX_17) (hF_18) (by omega) (by omega) (hnN) (hcfN) (hofN) (hgcN) (no_n hNo (by omega) hrf_ hsg_) hP hD hS (lv_sub hl [0, 1, 2] rfl)
      have hfi_ := no_y hNo (by omega) ((rf0 hn6).mp (by first | exact c_13 | exact Decidable.not_not.mp c_13))
      refine lv_iload_n hx hb (fk_get fk_cX11_nobody_0 11 rfl) rfl (lv_at hl 0 rfl) ?_
      subst hQ
      have hpost : XI SL7 ∧ Fr (fun j k => (j = 11 ∧ 3 ≤ k ∧ k ≤ 7) ∨ (33 ≤ j ∧ j < 39 ∧ 2 ≤ k ∧ k ≤ 9) ∨ (51 ≤ j ∧ j < 57 ∧ k = 99) ∨ ((j = 17 ∨ j = 20) ∧ k = 99)) S SL7 ∧ (((nI c) : Int32) = nobP (fF S (9 + 0) 6) (lstW 3 1 C) τ C n (fun d => gX S (21 + 6 * 0 + d) (K d))) := by
        exact ⟨hXl7, hFl7, hfi_⟩
      exact W.iret (v := (nI c)) hx hb hr (fun t_ ht_ hW_ => ⟨⟨(nI c), SL7, rfl, hpost, by rw [ht_]; exact hP, va_K.moved hW_.alike hK, hD⟩, hS.F ht_⟩) hS.2.2 (fk_get fk_cX11_nobody_0 12 rfl)
  exact lp_6 (41 + 1) (0) (S_3) _ _ ls (hX_4) (hF_5) (by omega) (by omega) (hn2_) (hcf2_) (hof2_) (hgc2_) (congrArg (nobN _ _ τ C n 41 0) (cut_cg (fun d hd => hgx2_ d hd))) hP hD hS (lv_sub hl [0, 1, 2] rfl)
set_option maxHeartbeats 800000 in
set_option maxRecDepth 100000 in
theorem c_x11_learntX (l : Launch) (G : GG) (ad : Nat → Nat) (S : FS) (sz : Nat) (n pz : Nat) (K : Nat → Nat) (τ : Nat → Int32) (C : Cls) (x w_ : Int32) (hn : fF S (9 + 0) 3 = nI n) (hn6 : n ≤ 6) (hcf : CuF S 0 n pz τ C K) (hgc : ∀ d, d < n → GC 9999 (gX S (21 + 6 * 0 + d) (K d))) (h99 : N99 C) (hX : XI S) : Met l yX11_learnt (Cond.code yX11_learnt cX11_learnt 6 (some .int) :: TBL) ({ frames := 7, cells := 0, slots := 0, locals := 202 } : Room) (PcW G (wX G ad S) sz [.ref (ad 0), .int (x), .int (w_)]) (va_Qi (fun (r : Int32) (S' : FS) => XI S' ∧ Fr (fun j k => (j = 11 ∧ 3 ≤ k ∧ k ≤ 7) ∨ (33 ≤ j ∧ j < 39 ∧ 2 ≤ k ∧ k ≤ 9) ∨ (51 ≤ j ∧ j < 57 ∧ k = 99) ∨ ((j = 17 ∨ j = 20) ∧ k = 99)) S S' ∧ (r = leaP (fF S (9 + 0) 6) (lstW 3 1 C) τ C n (fun d => gX S (21 + 6 * 0 + d) (K d)) x w_)) (fun S' t => BW G (va_A (wX G ad S) sz) (wX G ad S') t) (va_A (wX G ad S) sz)) 0 0 (va_A (wX G ad S) sz) := by
  refine Met.ofW (cc := cX11_learnt) (maxL := 6) (ret := (some .int)) (by decide) rfl ?_
  intro p e s m args below meth c₀ s₁ B hml hv
  obtain ⟨rfl, hsz, hP, hK, hD0⟩ := hv
  have hx := B.exec
  have hb := B.bytes
  have hr := B.returns
  have hT : ∀ w ∈ TBL, w.before ([.ref (ad 0), .int (x), .int (w_)] : List Value).toArray s = true := fun w h => atoms_spec (ws := Cond.code yX11_learnt cX11_learnt 6 (some .int) :: TBL) B.pre w (List.mem_cons_of_mem _ h)
  have hown : s.vm.findClass "LittleMore" = some m.cls := findClass_of_methodNamed B.named
  have hlocks := B.notSynchronized
  subst hsz
  have hD := hD0.self (sz := s.heap.size)
  generalize hAe : va_A (wX G ad S) s.heap.size = A at hD ⊢
  have hA : ∀ q : Nat, s.heap.size ≤ q → A q := fun q h => by rw [← hAe]; exact Or.inr h
  have hS : va_S A s.heap s.heap [] := va_S.rf
  have hP : va_P G.1 vwCl (wX G ad S) s.heap := hP
  have hl := lv_entry ([.ref (ad 0), .int (x), .int (w_)]) (n := 6) (Nat.le_of_ble_eq_true rfl)
  rw [lg_entry_eq]
  generalize (lg_sl ([.ref (ad 0), .int (x), .int (w_)]) ++ List.replicate (6 - (lg_sl ([.ref (ad 0), .int (x), .int (w_)])).length) Slot.unset).toArray = ls at hl ⊢
  have hl : lv_has ls 6 [(0, .ref (ad 0)), (1, .int (x)), (2, .int (w_))] := hl
  refine W_abs (fun Q hQ => ?_)
  generalize ([.ref (ad 0), .int (x), .int (w_)] : List Value).toArray = args at hT hQ ⊢
  obtain ⟨-, hpz0, hcok0, hctx0, hsay0⟩ := id hcf
  obtain ⟨lz, hlz, hln⟩ := lst_99 (k := 3) C 1 ⟨1, by omega, rfl⟩ h99.2
  refine lv_aload_n hx hb (fk_get fk_cX11_learnt_0 0 rfl) rfl (lv_at hl 0 rfl) ?_
  have hFc := va_self hD hS hA
  refine va_callr (va_runV (As := []) (rest := []) ⟨hx, hb, hml, hown, hT⟩ (c_x11_shopToTryX l G ad S s.heap.size (n) (hn) (hn6) (hX)) (tV 0 hT m3_211 m3_213 mp_11 m1_1 m3_214 rfl rfl (by decide +kernel) ⟨Nat.le_of_ble_eq_true rfl, Nat.le_of_ble_eq_true rfl⟩) ⟨PcW_blind, va_recv hK hP (ci := 13) (q0 := 0) rfl (ix_at (lt71 (by omega)) (cX_0 G ad S)), PcW_of hP hK hD _⟩ rfl rfl hl.1 rfl (lv_room (Nat.le_of_ble_eq_true rfl)) (fk_get fk_cX11_learnt_0 1 rfl) ⟨Nat.zero_le _, Nat.zero_le _⟩) hS (fun q _ h => hFc q h) hFc (fun S_3 r_1 t_ H locs ht_ hvm_ hw_2 hB_ hz_ hk_ hS => ?_)
  obtain ⟨hra_, hB_⟩ := hB_
  subst hra_
  obtain ⟨hP, -, hD1_⟩ := hB_
  rw [ht_] at hP
  have hD : va_D A (wX G ad S_3) := hD1_.weaken (fun k q _ h => hFc q.1 h)
  try dsimp only at hw_2
  obtain ⟨hX_4, hF_5_, hw_2⟩ := hw_2
  have hF_5 : Fr (fun j k => (j = 11 ∧ 3 ≤ k ∧ k ≤ 7) ∨ (33 ≤ j ∧ j < 39 ∧ 2 ≤ k ∧ k ≤ 9) ∨ (51 ≤ j ∧ j < 57 ∧ k = 99) ∨ ((j = 17 ∨ j = 20) ∧ k = 99)) S S_3 := Fr.trans (Fr.rf : Fr (fun j k => (j = 11 ∧ 3 ≤ k ∧ k ≤ 7) ∨ (33 ≤ j ∧ j < 39 ∧ 2 ≤ k ∧ k ≤ 9) ∨ (51 ≤ j ∧ j < 57 ∧ k = 99) ∨ ((j = 17 ∨ j = 20) ∧ k = 99)) S S) (Fr.mono hF_5_ (fun j k h => by omega))
  obtain ⟨hbe_, hrr_⟩ := hw_2
  obtain ⟨hcf2_, hgx2_, hbf_, hsn2_⟩ := try_of hbe_ hrr_ hF_5_ hcf hn6
  have hn2_ : fF S_3 (9 + 2) 3 = nI n := (hbf_ 3 (by omega) (by omega)).trans hn
  have hpz2_ : fR S_3 (9 + 2) 7 = some pz := hcf2_.2.1
  have hcok2_ : COK S_3 pz := hcf2_.2.2.1
  have hof2_ : fF S_3 (9 + 2) 6 = fF S (9 + 0) 6 := hbf_ 6 (by omega) (by omega)
  have hgc2_ : ∀ d, d < n → GC 9999 (gX S_3 (21 + 6 * 2 + d) (K d)) := fun d hd => by rw [hgx2_ d hd]; exact hgc d hd
  refine lv_astore_n (lv' := [(3, .ref (ad (9 + 2))), (0, .ref (ad 0)), (1, .int (x)), (2, .int (w_))]) hx hb (fk_get fk_cX11_learnt_0 2 rfl) rfl hl (by decide) rfl (fun ls hl => ?_)
  refine lv_aload_n hx hb (fk_get fk_cX11_learnt_0 3 rfl) rfl (lv_at hl 0 rfl) ?_
  refine lv_iload_n hx hb (fk_get fk_cX11_learnt_0 4 rfl) rfl (lv_at hl 2 rfl) ?_
  refine va_csq (W.runV (As := [.int (x)]) (rest := []) ⟨hx, hb, hml, hown, hT⟩ (c_x7_at l G ad S_3 H.size (2) (n) (x) ((by decide : 2 < 3)) (hn2_) (hn6) (hX_4)) (tV 1 hT m2_120 m2_121 m2_122 m1_9 m2_123 rfl rfl (by decide +kernel) ⟨Nat.le_of_ble_eq_true rfl, Nat.le_of_ble_eq_true rfl⟩) ⟨PcW_blind, va_recv hK hP (ci := 9) (q0 := (9 + 2)) rfl (ix_at (lt71 (by omega)) (cX_shop (pk_shop (by decide : 2 < 3)))), PcW_of hP hK hD _⟩ rfl rfl hl.1 rfl (lv_room (Nat.le_of_ble_eq_true rfl)) (fk_get fk_cX11_learnt_0 5 rfl) ⟨Nat.zero_le _, Nat.zero_le _⟩) (fun r_6 hw_7 => ?_)
  try dsimp only at hw_7
  rcases hw_7 with ⟨j_7, hj_7, ej_7, rfl⟩ | ⟨rfl, hn_7⟩
  · rw [show va_rf (some (ad (21 + 6 * 2 + j_7))) = .ref (ad (21 + 6 * 2 + j_7)) from rfl]
    generalize hg_i_7 : 21 + 6 * 2 + j_7 = i_7
    have hp_i_7 : pk i_7 = 7 := by rw [← hg_i_7]; exact pk_c (by decide : 2 < 3) (show j_7 < 6 by omega)
    have hb_i_7 := pk7 hp_i_7
    refine lv_astore (lv' := [(4, .ref (ad i_7)), (3, .ref (ad (9 + 2))), (0, .ref (ad 0)), (1, .int (x)), (2, .int (w_))]) hx hb (fk_get fk_cX11_learnt_0 6 rfl) hl (by decide) rfl (fun ls hl => ?_)
    refine lv_aload hx hb (fk_get fk_cX11_learnt_0 7 rfl) (lv_at hl 0 rfl) ?_
    refine lv_ifnonnull (tgt := 19) hx hb (fk_get fk_cX11_learnt_0 8 rfl) (by decide) ?_
    have hC_ : isC n x := inC hn6 hj_7 ej_7
    have hcl_ : x.toNatClampNeg = j_7 := by rw [ej_7]; exact nI_clamp (by omega)
    have hcn_ : fF S_3 i_7 0 = x := by rw [← hg_i_7, ej_7]; exact XI.num hX_4 (by omega) (by omega)
    have hgx_ : gX S_3 i_7 (K j_7) = gX S (21 + 6 * 0 + x.toNatClampNeg) (K x.toNatClampNeg) := by rw [hcl_, ← hg_i_7]; exact hgx2_ _ hj_7
    have hcu_ : CuC S_3 2 i_7 (K j_7) pz τ C := by rw [← hg_i_7]; exact hcf2_.at hj_7
    have hgb_ : GB 9999 (gX S_3 i_7 (K j_7)) := by rw [← hg_i_7]; exact (hgc2_ _ hj_7).1
    refine lv_iload_n hx hb (fk_get fk_cX11_learnt_0 11 rfl) rfl (lv_at hl 4 rfl) ?_
    refine lv_iconst (v := 0) hx hb (fk_get fk_cX11_learnt_0 12 rfl) (by decide) ?_
    refine lv_bipush (v := 99) hx hb (fk_get fk_cX11_learnt_0 13 rfl) (by decide) ?_
    refine vp_callSi (W.runS (As := [.int (w_), .int (0), .int (99)]) (rest := []) ⟨hx, hb, hml, hown, hT⟩ (c_xisOutside l (w_) (0) (99) ) (tS 3 hT m2_108 m2_109 m1_1 m2_110 rfl rfl (by decide +kernel) ⟨Nat.le_of_ble_eq_true rfl, Nat.le_of_ble_eq_true rfl⟩) ⟨PcN_blind, PcN_of _ _ _⟩ rfl rfl hl.1 rfl (lv_room (Nat.le_of_ble_eq_true rfl)) (fk_get fk_cX11_learnt_0 14 rfl) ⟨Nat.zero_le _, Nat.zero_le _⟩) (fun r_8 hw_9 => ?_)
    try dsimp only at hw_9
    refine lv_if_eq (tgt := 32) hx hb (fk_get fk_cX11_learnt_0 15 rfl) (by decide) (fun c_10 => ?_) (fun c_10 => ?_)
    · have p_c_10 := if1_f hw_9 c_10
      have hw_ := nor2.mp p_c_10
      refine lv_iconst (v := 0) hx hb (fk_get fk_cX11_learnt_0 18 rfl) (by decide) ?_
      refine lv_istore (lv' := [(5, .int (0)), (4, .ref (ad i_7)), (3, .ref (ad (9 + 2))), (0, .ref (ad 0)), (1, .int (x)), (2, .int (w_))]) hx hb (fk_get fk_cX11_learnt_0 19 rfl) hl (by decide) rfl (fun ls hl => ?_)
      have lp_11 : ∀ (fu : Nat) (c : Nat) (SL35 : FS) (H_13 : Heap) (locs_14 : List Loc) (ls : Array Slot),  (XI SL35) → (Fr (fun j k => (j = 11 ∧ 3 ≤ k ∧ k ≤ 7) ∨ (33 ≤ j ∧ j < 39 ∧ 2 ≤ k ∧ k ≤ 9) ∨ (51 ≤ j ∧ j < 57 ∧ k = 99) ∨ ((j = 17 ∨ j = 20) ∧ k = 99)) S SL35) → (c ≤ 41) → (41 < c + fu) → (CuC SL35 2 i_7 (K j_7) pz τ C) → (fF SL35 (9 + 2) 6 = (fF S (9 + 0) 6)) → (fF SL35 i_7 0 = x) → (GB (9999 + c) (gX SL35 i_7 (K j_7))) → (leaN (fF S (9 + 0) 6) (lstW 3 1 C) τ C x w_ (41 - c) c (gX SL35 i_7 (K j_7)) = (leaN (fF S (9 + 0) 6) (lstW 3 1 C) τ C x w_ 41 0 (gX S (21 + 6 * 0 + x.toNatClampNeg) (K x.toNatClampNeg)))) → va_P G.1 vwCl (wX G ad SL35) H_13 → va_D A (wX G ad SL35) → va_S A s.heap H_13 locs_14 → lv_has ls 6 [(5, .int ((nI c))), (4, .ref (ad i_7)), (3, .ref (ad (9 + 2))), (0, .ref (ad 0)), (1, .int (x)), (2, .int (w_))] → W p l e ({ frames := 7, cells := 0, slots := 0, locals := 202 } : Room) s m args below meth c₀ H_13 locs_14 0 0 Q (F0 m 35 ls []) := by
        intro fu
        induction fu with
        | zero =>
          intro c SL35 H_13 locs_14 ls hXl35 hFl35 hk hf hcuL hofL hcnL hgbL hLe hP hD hS hl
          exact absurd hf (by omega)
        | succ fu ih =>
          intro c SL35 H_13 locs_14 ls hXl35 hFl35 hk hf hcuL hofL hcnL hgbL hLe hP hD hS hl
          refine lv_iload hx hb (fk_get fk_cX11_learnt_0 20 rfl) (lv_at hl 0 rfl) ?_
          refine lv_bipush (v := 40) hx hb (fk_get fk_cX11_learnt_0 21 rfl) (by decide) ?_
          refine lv_icmp_gt (tgt := 69) hx hb (fk_get fk_cX11_learnt_0 22 rfl) (by decide) (fun c_15 => ?_) (fun c_15 => ?_)
          · have q_c_15 : 40 < c := ci_lt (a := 40) (b := c) (by omega) (by omega) c_15
            have hfi_ := le_en hLe (by omega)
            refine lv_bipush (v := (-5)) hx hb (fk_get fk_cX11_learnt_1 5 rfl) (by decide) ?_
            subst hQ
            have hpost : XI SL35 ∧ Fr (fun j k => (j = 11 ∧ 3 ≤ k ∧ k ≤ 7) ∨ (33 ≤ j ∧ j < 39 ∧ 2 ≤ k ∧ k ≤ 9) ∨ (51 ≤ j ∧ j < 57 ∧ k = 99) ∨ ((j = 17 ∨ j = 20) ∧ k = 99)) S SL35 ∧ (((-5) : Int32) = leaP (fF S (9 + 0) 6) (lstW 3 1 C) τ C n (fun d => gX S (21 + 6 * 0 + d) (K d)) x w_) := by
              exact ⟨hXl35, hFl35, (by first | exact lea_1 (outC hn6 hn_7) | exact lea_2 hC_ hnw_ | exact hfi_.trans (lea_3 (G := (fun d => gX S (21 + 6 * 0 + d) (K d))) hC_ hw_))⟩
            exact W.iret (v := (-5)) hx hb hr (fun t_ ht_ hW_ => ⟨⟨(-5), SL35, rfl, hpost, by rw [ht_]; exact hP, va_K.moved hW_.alike hK, hD⟩, hS.F ht_⟩) hS.2.2 (fk_get fk_cX11_learnt_1 6 rfl)
          have q_c_15 : c ≤ 40 := ci_nlt (a := 40) (b := c) (by omega) (by omega) c_15
          refine lv_aload_n hx hb (fk_get fk_cX11_learnt_0 23 rfl) rfl (lv_at hl 2 rfl) ?_
          refine lv_aload hx hb (fk_get fk_cX11_learnt_0 24 rfl) (lv_at hl 1 rfl) ?_
          refine vp_callSi (W.runV (As := [.ref (ad i_7)]) (rest := []) ⟨hx, hb, hml, hown, hT⟩ (c_x7_moreF l G ad SL35 H_13.size (2) (i_7) (K j_7) (pz) (τ) (C) ((by decide : 2 < 3)) (hp_i_7) (hcuL) (hXl35)) (tV 1 hT m2_124 m2_125 m2_126 m1_9 m2_127 rfl rfl (by decide +kernel) ⟨Nat.le_of_ble_eq_true rfl, Nat.le_of_ble_eq_true rfl⟩) ⟨PcW_blind, va_recv hK hP (ci := 9) (q0 := (9 + 2)) rfl (ix_at (lt71 (by omega)) (cX_shop (pk_shop (by decide : 2 < 3)))), PcW_of hP hK hD _⟩ rfl rfl hl.1 rfl (lv_room (Nat.le_of_ble_eq_true rfl)) (fk_get fk_cX11_learnt_0 25 rfl) ⟨Nat.zero_le _, Nat.zero_le _⟩) (fun r_16 hw_17 => ?_)
          try dsimp only at hw_17
          rw [hofL, hcnL] at hw_17
          subst hw_17
          refine lv_iload_n hx hb (fk_get fk_cX11_learnt_0 26 rfl) rfl (lv_at hl 5 rfl) ?_
          refine lv_icmp_gt (tgt := 55) hx hb (fk_get fk_cX11_learnt_0 27 rfl) (by decide) (fun c_18 => ?_) (fun c_18 => ?_)
          · have hgt_ := Int32.not_le.mpr c_18
            refine lv_aload_n hx hb (fk_get fk_cX11_learnt_0 30 rfl) rfl (lv_at hl 2 rfl) ?_
            refine lv_aload hx hb (fk_get fk_cX11_learnt_0 31 rfl) (lv_at hl 1 rfl) ?_
            refine lv_iconst (v := 1) hx hb (fk_get fk_cX11_learnt_1 0 rfl) (by decide) ?_
            have hFc := va_self hD hS hA
            refine va_calli (va_runV (As := [.ref (ad i_7), .int (1)]) (rest := []) ⟨hx, hb, hml, hown, hT⟩ (c_x7_makeVisitsAloneXE l G ad SL35 H_13.size (2) (i_7) (K j_7) (pz) (9999 + c) (lz) (1) (τ) (C) ((by decide : 2 < 3)) (hp_i_7) (hcuL) (hgbL) (by omega) (hln) (hlz) (by omega) (1) (rfl) (hXl35)) (tV 2 hT m3_225 m3_226 m3_227 m1_9 m3_228 rfl rfl (by decide +kernel) ⟨Nat.le_of_ble_eq_true rfl, Nat.le_of_ble_eq_true rfl⟩) ⟨PcW_blind, va_recv hK hP (ci := 9) (q0 := (9 + 2)) rfl (ix_at (lt71 (by omega)) (cX_shop (pk_shop (by decide : 2 < 3)))), PcW_of hP hK hD _⟩ rfl rfl hl.1 rfl (lv_room (Nat.le_of_ble_eq_true rfl)) (fk_get fk_cX11_learnt_1 1 rfl) ⟨Nat.zero_le _, Nat.zero_le _⟩) hS (fun q _ h => hFc q h) hFc (fun r_19 S_21 t_ H locs ht_ hvm_ hw_20 hB_ hz_ hk_ hS => ?_)
            obtain ⟨hP, -, hD1_⟩ := hB_
            rw [ht_] at hP
            have hD : va_D A (wX G ad S_21) := hD1_.weaken (fun k q _ h => hFc q.1 h)
            try dsimp only at hw_20
            obtain ⟨hX_22, hF_23_, hw_20⟩ := hw_20
            have hF_23 : Fr (fun j k => (j = 11 ∧ 3 ≤ k ∧ k ≤ 7) ∨ (33 ≤ j ∧ j < 39 ∧ 2 ≤ k ∧ k ≤ 9) ∨ (51 ≤ j ∧ j < 57 ∧ k = 99) ∨ ((j = 17 ∨ j = 20) ∧ k = 99)) S S_21 := Fr.trans hFl35 (Fr.mono hF_23_ (fun j k h => by omega))
            obtain ⟨hal_, hgb3_⟩ := hw_20
            rw [hofL, hcnL] at hal_
            have hgv_ := congrArg Prod.snd hal_
            have hcuN := hcuL.fr (by omega) (by omega) hF_23_ (by omega) (by omega) (fun j k a b => by omega)
            have hofN := (Fr.F hF_23_ (j := 9 + 2) (k := 6) (lt71 (by omega)) (by omega)).trans hofL
            have hcnN := (Fr.F hF_23_ (j := i_7) (k := 0) (lt71 (by omega)) (by omega)).trans hcnL
            refine lv_pop hx hb (fk_get fk_cX11_learnt_1 2 rfl) rfl ?_
            refine lv_iinc (v := (nI (c + 1))) (lv' := [(5, .int ((nI (c + 1)))), (4, .ref (ad i_7)), (3, .ref (ad (9 + 2))), (0, .ref (ad 0)), (1, .int (x)), (2, .int (w_))]) hx hb (fk_get fk_cX11_learnt_1 3 rfl) hl (k := 0) rfl ((nI_1 c)) (by decide) rfl (fun ls hl => ?_)
            refine lv_goto (tgt := 35) hx hb (fk_get fk_cX11_learnt_1 4 rfl) (by decide) ?_
            exact ih (c + 1) (S_21) _ _ ls (hX_22) (hF_23) (by omega) (by omega) (hcuN) (hofN) (hcnN) (hgb3_) (le_n hLe (by omega) hgt_ hgv_) hP hD hS (lv_sub hl [0, 1, 2, 3, 4, 5] rfl)
          have hfi_ := le_y hLe (by omega) (Int32.not_lt.mp c_18)
          refine lv_iload hx hb (fk_get fk_cX11_learnt_0 28 rfl) (lv_at hl 0 rfl) ?_
          subst hQ
          have hpost : XI SL35 ∧ Fr (fun j k => (j = 11 ∧ 3 ≤ k ∧ k ≤ 7) ∨ (33 ≤ j ∧ j < 39 ∧ 2 ≤ k ∧ k ≤ 9) ∨ (51 ≤ j ∧ j < 57 ∧ k = 99) ∨ ((j = 17 ∨ j = 20) ∧ k = 99)) S SL35 ∧ (((nI c) : Int32) = leaP (fF S (9 + 0) 6) (lstW 3 1 C) τ C n (fun d => gX S (21 + 6 * 0 + d) (K d)) x w_) := by
            exact ⟨hXl35, hFl35, (by first | exact lea_1 (outC hn6 hn_7) | exact lea_2 hC_ hnw_ | exact hfi_.trans (lea_3 (G := (fun d => gX S (21 + 6 * 0 + d) (K d))) hC_ hw_))⟩
          exact W.iret (v := (nI c)) hx hb hr (fun t_ ht_ hW_ => ⟨⟨(nI c), SL35, rfl, hpost, by rw [ht_]; exact hP, va_K.moved hW_.alike hK, hD⟩, hS.F ht_⟩) hS.2.2 (fk_get fk_cX11_learnt_0 29 rfl)
      exact lp_11 (42) (0) (S_3) _ _ ls (hX_4) (hF_5) (by omega) (by omega) (hcu_) (hof2_) (hcn_) (hgb_) (congrArg (leaN _ _ τ C x w_ 41 0) hgx_) hP hD hS (lv_sub hl [0, 1, 2, 3, 4, 5] rfl)
    have p_c_10 := if1_t hw_9 c_10
    have hnw_ := nan2 p_c_10
    refine lv_bipush (v := (-2)) hx hb (fk_get fk_cX11_learnt_0 16 rfl) (by decide) ?_
    subst hQ
    have hpost : XI S_3 ∧ Fr (fun j k => (j = 11 ∧ 3 ≤ k ∧ k ≤ 7) ∨ (33 ≤ j ∧ j < 39 ∧ 2 ≤ k ∧ k ≤ 9) ∨ (51 ≤ j ∧ j < 57 ∧ k = 99) ∨ ((j = 17 ∨ j = 20) ∧ k = 99)) S S_3 ∧ (((-2) : Int32) = leaP (fF S (9 + 0) 6) (lstW 3 1 C) τ C n (fun d => gX S (21 + 6 * 0 + d) (K d)) x w_) := by
      exact ⟨hX_4, hF_5, (by first | exact lea_1 (outC hn6 hn_7) | exact lea_2 hC_ hnw_ | exact hfi_.trans (lea_3 (G := (fun d => gX S (21 + 6 * 0 + d) (K d))) hC_ hw_))⟩
    exact W.iret (v := (-2)) hx hb hr (fun t_ ht_ hW_ => ⟨⟨(-2), S_3, rfl, hpost, by rw [ht_]; exact hP, va_K.moved hW_.alike hK, hD⟩, hS.F ht_⟩) hS.2.2 (fk_get fk_cX11_learnt_0 17 rfl)
  rw [show va_rf none = .null from rfl]
  refine lv_astoreN (lv' := [(4, .null), (3, .ref (ad (9 + 2))), (0, .ref (ad 0)), (1, .int (x)), (2, .int (w_))]) hx hb (fk_get fk_cX11_learnt_0 6 rfl) hl (by decide) rfl (fun ls hl => ?_)
  refine lv_aloadN hx hb (fk_get fk_cX11_learnt_0 7 rfl) (lv_at hl 0 rfl) ?_
  refine lv_ifnonnullN hx hb (fk_get fk_cX11_learnt_0 8 rfl) ?_
  refine lv_iconst (v := (-1)) hx hb (fk_get fk_cX11_learnt_0 9 rfl) (by decide) ?_
  subst hQ
  have hpost : XI S_3 ∧ Fr (fun j k => (j = 11 ∧ 3 ≤ k ∧ k ≤ 7) ∨ (33 ≤ j ∧ j < 39 ∧ 2 ≤ k ∧ k ≤ 9) ∨ (51 ≤ j ∧ j < 57 ∧ k = 99) ∨ ((j = 17 ∨ j = 20) ∧ k = 99)) S S_3 ∧ (((-1) : Int32) = leaP (fF S (9 + 0) 6) (lstW 3 1 C) τ C n (fun d => gX S (21 + 6 * 0 + d) (K d)) x w_) := by
    exact ⟨hX_4, hF_5, (by first | exact lea_1 (outC hn6 hn_7) | exact lea_2 hC_ hnw_ | exact hfi_.trans (lea_3 (G := (fun d => gX S (21 + 6 * 0 + d) (K d))) hC_ hw_))⟩
  exact W.iret (v := (-1)) hx hb hr (fun t_ ht_ hW_ => ⟨⟨(-1), S_3, rfl, hpost, by rw [ht_]; exact hP, va_K.moved hW_.alike hK, hD⟩, hS.F ht_⟩) hS.2.2 (fk_get fk_cX11_learnt_0 10 rfl)
set_option maxHeartbeats 800000 in
set_option maxRecDepth 100000 in
theorem c_x11_paidWithX (l : Launch) (G : GG) (ad : Nat → Nat) (S : FS) (sz : Nat) (n pz wz : Nat) (K : Nat → Nat) (τ : Nat → Int32) (C : Cls) (x : Int32) (o_ : Int32) (hn : fF S (9 + 0) 3 = nI n) (hn6 : n ≤ 6) (hcf : CuF S 0 n pz τ C K) (hgc : ∀ d, d < n → GC 9999 (gX S (21 + 6 * 0 + d) (K d))) (h99 : N99 C) (ew : x = nI wz) (hw40 : wz ≤ 40) (hX : XI S) : Met l yX11_paidWith (Cond.code yX11_paidWith cX11_paidWith 6 (some .int) :: TBL) ({ frames := 7, cells := 0, slots := 0, locals := 200 } : Room) (PcW G (wX G ad S) sz [.ref (ad 0), .int (o_), .int (x)]) (va_Qi (fun (r : Int32) (S' : FS) => XI S' ∧ Fr (fun j k => (j = 11 ∧ 3 ≤ k ∧ k ≤ 7) ∨ (33 ≤ j ∧ j < 39 ∧ 2 ≤ k ∧ k ≤ 9) ∨ (51 ≤ j ∧ j < 57 ∧ k = 99) ∨ ((j = 17 ∨ j = 20) ∧ k = 99)) S S' ∧ (r = bsF 1 o_ (lstW 3 1 C) τ C n wz (cutF n (fun d => gX S (21 + 6 * 0 + d) (K d))) * (lstW 2 5 C))) (fun S' t => BW G (va_A (wX G ad S) sz) (wX G ad S') t) (va_A (wX G ad S) sz)) 0 0 (va_A (wX G ad S) sz) := by
  refine Met.ofW (cc := cX11_paidWith) (maxL := 6) (ret := (some .int)) (by decide) rfl ?_
  intro p e s m args below meth c₀ s₁ B hml hv
  obtain ⟨rfl, hsz, hP, hK, hD0⟩ := hv
  have hx := B.exec
  have hb := B.bytes
  have hr := B.returns
  have hT : ∀ w ∈ TBL, w.before ([.ref (ad 0), .int (o_), .int (x)] : List Value).toArray s = true := fun w h => atoms_spec (ws := Cond.code yX11_paidWith cX11_paidWith 6 (some .int) :: TBL) B.pre w (List.mem_cons_of_mem _ h)
  have hown : s.vm.findClass "LittleMore" = some m.cls := findClass_of_methodNamed B.named
  have hlocks := B.notSynchronized
  subst hsz
  have hD := hD0.self (sz := s.heap.size)
  generalize hAe : va_A (wX G ad S) s.heap.size = A at hD ⊢
  have hA : ∀ q : Nat, s.heap.size ≤ q → A q := fun q h => by rw [← hAe]; exact Or.inr h
  have hS : va_S A s.heap s.heap [] := va_S.rf
  have hP : va_P G.1 vwCl (wX G ad S) s.heap := hP
  have hl := lv_entry ([.ref (ad 0), .int (o_), .int (x)]) (n := 6) (Nat.le_of_ble_eq_true rfl)
  rw [lg_entry_eq]
  generalize (lg_sl ([.ref (ad 0), .int (o_), .int (x)]) ++ List.replicate (6 - (lg_sl ([.ref (ad 0), .int (o_), .int (x)])).length) Slot.unset).toArray = ls at hl ⊢
  have hl : lv_has ls 6 [(0, .ref (ad 0)), (1, .int (o_)), (2, .int (x))] := hl
  refine W_abs (fun Q hQ => ?_)
  generalize ([.ref (ad 0), .int (o_), .int (x)] : List Value).toArray = args at hT hQ ⊢
  obtain ⟨-, hpz0, hcok0, hctx0, hsay0⟩ := id hcf
  obtain ⟨lz, hlz, hln⟩ := lst_99 (k := 3) C 1 ⟨1, by omega, rfl⟩ h99.2
  refine lv_aload_n hx hb (fk_get fk_cX11_paidWith_0 0 rfl) rfl (lv_at hl 0 rfl) ?_
  have hFc := va_self hD hS hA
  refine va_callr (va_runV (As := []) (rest := []) ⟨hx, hb, hml, hown, hT⟩ (c_x11_shopToTryX l G ad S s.heap.size (n) (hn) (hn6) (hX)) (tV 0 hT m3_211 m3_213 mp_11 m1_1 m3_214 rfl rfl (by decide +kernel) ⟨Nat.le_of_ble_eq_true rfl, Nat.le_of_ble_eq_true rfl⟩) ⟨PcW_blind, va_recv hK hP (ci := 13) (q0 := 0) rfl (ix_at (lt71 (by omega)) (cX_0 G ad S)), PcW_of hP hK hD _⟩ rfl rfl hl.1 rfl (lv_room (Nat.le_of_ble_eq_true rfl)) (fk_get fk_cX11_paidWith_0 1 rfl) ⟨Nat.zero_le _, Nat.zero_le _⟩) hS (fun q _ h => hFc q h) hFc (fun S_3 r_1 t_ H locs ht_ hvm_ hw_2 hB_ hz_ hk_ hS => ?_)
  obtain ⟨hra_, hB_⟩ := hB_
  subst hra_
  obtain ⟨hP, -, hD1_⟩ := hB_
  rw [ht_] at hP
  have hD : va_D A (wX G ad S_3) := hD1_.weaken (fun k q _ h => hFc q.1 h)
  try dsimp only at hw_2
  obtain ⟨hX_4, hF_5_, hw_2⟩ := hw_2
  have hF_5 : Fr (fun j k => (j = 11 ∧ 3 ≤ k ∧ k ≤ 7) ∨ (33 ≤ j ∧ j < 39 ∧ 2 ≤ k ∧ k ≤ 9) ∨ (51 ≤ j ∧ j < 57 ∧ k = 99) ∨ ((j = 17 ∨ j = 20) ∧ k = 99)) S S_3 := Fr.trans (Fr.rf : Fr (fun j k => (j = 11 ∧ 3 ≤ k ∧ k ≤ 7) ∨ (33 ≤ j ∧ j < 39 ∧ 2 ≤ k ∧ k ≤ 9) ∨ (51 ≤ j ∧ j < 57 ∧ k = 99) ∨ ((j = 17 ∨ j = 20) ∧ k = 99)) S S) (Fr.mono hF_5_ (fun j k h => by omega))
  obtain ⟨hbe_, hrr_⟩ := hw_2
  obtain ⟨hcf2_, hgx2_, hbf_, hsn2_⟩ := try_of hbe_ hrr_ hF_5_ hcf hn6
  have hn2_ : fF S_3 (9 + 2) 3 = nI n := (hbf_ 3 (by omega) (by omega)).trans hn
  have hpz2_ : fR S_3 (9 + 2) 7 = some pz := hcf2_.2.1
  have hcok2_ : COK S_3 pz := hcf2_.2.2.1
  have hof2_ : fF S_3 (9 + 2) 6 = fF S (9 + 0) 6 := hbf_ 6 (by omega) (by omega)
  have hgc2_ : ∀ d, d < n → GC 9999 (gX S_3 (21 + 6 * 2 + d) (K d)) := fun d hd => by rw [hgx2_ d hd]; exact hgc d hd
  refine lv_astore_n (lv' := [(3, .ref (ad (9 + 2))), (0, .ref (ad 0)), (1, .int (o_)), (2, .int (x))]) hx hb (fk_get fk_cX11_paidWith_0 2 rfl) rfl hl (by decide) rfl (fun ls hl => ?_)
  refine lv_aload_n hx hb (fk_get fk_cX11_paidWith_0 3 rfl) rfl (lv_at hl 0 rfl) ?_
  refine lv_iload_n hx hb (fk_get fk_cX11_paidWith_0 4 rfl) rfl (lv_at hl 2 rfl) ?_
  refine va_put (D := G.1) (ci := 9) (v := .int (o_)) (ty := .int) (C := RX7) (T := TX7) (N := 8) hx hb hT inX7 tyX7 tyX7_ok nmX7 hown hK hP hD hS (9 + 2) (ix_at (lt71 (by omega)) (cX_shop (pk_shop (by decide : 2 < 3)))) rfl 6 (by decide) (hT _ m1_215) (fun _ h9 => h9) rfl (by decide +kernel) rfl rfl (Nat.le_of_ble_eq_true rfl) (fk_get fk_cX11_paidWith_0 5 rfl) (fun H locs hP hD hS => ?_)
  rw [pX_shop_6 (S := S_3) (lt71 (by omega)) (pk_shop (by decide : 2 < 3)) (o_)] at hP hD
  have hX_6 : XI (setF S_3 (9 + 2) 6 (o_)) := XI.sF hX_4 _ ⟨by omega, by omega, by omega, by omega, by omega, by omega, by omega, by omega⟩
  have hF_7 : Fr (fun j k => (j = 11 ∧ 3 ≤ k ∧ k ≤ 7) ∨ (33 ≤ j ∧ j < 39 ∧ 2 ≤ k ∧ k ≤ 9) ∨ (51 ≤ j ∧ j < 57 ∧ k = 99) ∨ ((j = 17 ∨ j = 20) ∧ k = 99)) S (setF S_3 (9 + 2) 6 (o_)) := Fr.sF hF_5 (by omega)
  have hfo_ : Fr (fun j k => j = 9 + 2 ∧ k = 6) _ ((setF S_3 (9 + 2) 6 (o_))) := Fr.sF Fr.rf (by omega)
  have hn2o_ : fF ((setF S_3 (9 + 2) 6 (o_))) (9 + 2) 3 = nI n := (hfo_.F (lt71 (by omega)) (by omega)).trans hn2_
  have hcf2o_ : CuF ((setF S_3 (9 + 2) 6 (o_))) 2 n pz τ C K := hcf2_.fr (by omega) hn6 hfo_ (fun d hd_ => by omega) (by omega) (fun j k a b => by omega)
  have hof2o_ : fF ((setF S_3 (9 + 2) 6 (o_))) (9 + 2) 6 = o_ := by simp [fF_setF]
  have hgx2o_ : ∀ d, d < n → gX ((setF S_3 (9 + 2) 6 (o_))) (21 + 6 * 2 + d) (K d) = gX S (21 + 6 * 0 + d) (K d) := fun d hd => (gx_same hfo_ (by omega) (by omega) (by omega)).trans (hgx2_ d hd)
  have hgc2o_ : ∀ d, d < n → GC 9999 (gX ((setF S_3 (9 + 2) 6 (o_))) (21 + 6 * 2 + d) (K d)) := fun d hd => by rw [hgx2o_ d hd]; exact hgc d hd
  refine lv_iconst (v := 0) hx hb (fk_get fk_cX11_paidWith_0 6 rfl) (by decide) ?_
  refine lv_istore (lv' := [(4, .int (0)), (3, .ref (ad (9 + 2))), (0, .ref (ad 0)), (1, .int (o_)), (2, .int (x))]) hx hb (fk_get fk_cX11_paidWith_0 7 rfl) hl (by decide) rfl (fun ls hl => ?_)
  refine lv_iconst (v := 0) hx hb (fk_get fk_cX11_paidWith_0 8 rfl) (by decide) ?_
  refine lv_istore (lv' := [(5, .int (0)), (4, .int (0)), (3, .ref (ad (9 + 2))), (0, .ref (ad 0)), (1, .int (o_)), (2, .int (x))]) hx hb (fk_get fk_cX11_paidWith_0 9 rfl) hl (by decide) rfl (fun ls hl => ?_)
  have lp_8 : ∀ (fu : Nat) (c : Nat) (v4 : Int32) (SL16 : FS) (H_10 : Heap) (locs_11 : List Loc) (ls : Array Slot),  (XI SL16) → (Fr (fun j k => (j = 11 ∧ 3 ≤ k ∧ k ≤ 7) ∨ (33 ≤ j ∧ j < 39 ∧ 2 ≤ k ∧ k ≤ 9) ∨ (51 ≤ j ∧ j < 57 ∧ k = 99) ∨ ((j = 17 ∨ j = 20) ∧ k = 99)) S SL16) → (c ≤ wz) → (wz < c + fu) → (fF SL16 (9 + 2) 3 = nI n) → (CuF SL16 2 n pz τ C K) → (fF SL16 (9 + 2) 6 = o_) → (∀ d, d < n → GC (9999 + c) (gX SL16 (21 + 6 * 2 + d) (K d))) → (stF 1 o_ (lstW 3 1 C) τ C n (wz - c) (cutF n (fun d => gX SL16 (21 + 6 * 2 + d) (K d))) = stF 1 o_ (lstW 3 1 C) τ C n wz (cutF n (fun d => gX S (21 + 6 * 0 + d) (K d)))) → (v4 + bsF 1 o_ (lstW 3 1 C) τ C n (wz - c) (cutF n (fun d => gX SL16 (21 + 6 * 2 + d) (K d))) = bsF 1 o_ (lstW 3 1 C) τ C n wz (cutF n (fun d => gX S (21 + 6 * 0 + d) (K d)))) → va_P G.1 vwCl (wX G ad SL16) H_10 → va_D A (wX G ad SL16) → va_S A s.heap H_10 locs_11 → lv_has ls 6 [(5, .int ((nI c))), (4, .int (v4)), (3, .ref (ad (9 + 2))), (0, .ref (ad 0)), (1, .int (o_)), (2, .int (x))] → W p l e ({ frames := 7, cells := 0, slots := 0, locals := 200 } : Room) s m args below meth c₀ H_10 locs_11 0 0 Q (F0 m 16 ls []) := by
    intro fu
    induction fu with
    | zero =>
      intro c v4 SL16 H_10 locs_11 ls hXl16 hFl16 hk hf hnL hcfL hofL hgcL hST hBS hP hD hS hl
      exact absurd hf (by omega)
    | succ fu ih =>
      intro c v4 SL16 H_10 locs_11 ls hXl16 hFl16 hk hf hnL hcfL hofL hgcL hST hBS hP hD hS hl
      obtain ⟨-, hpzL, hcokL, hctxL, hsayL⟩ := id hcfL
      refine lv_iload hx hb (fk_get fk_cX11_paidWith_0 10 rfl) (lv_at hl 0 rfl) ?_
      refine lv_iload_n hx hb (fk_get fk_cX11_paidWith_0 11 rfl) rfl (lv_at hl 5 rfl) ?_
      refine lv_icmp_ge (tgt := 37) hx hb (fk_get fk_cX11_paidWith_0 12 rfl) (by decide) (fun c_12 => ?_) (fun c_12 => ?_)
      · have hge_ : wz ≤ c := (nI_leI (a := wz) (b := c) (by omega) (by omega)).mp (by rw [← ew]; exact c_12)
        refine lv_iload hx hb (fk_get fk_cX11_paidWith_0 20 rfl) (lv_at hl 1 rfl) ?_
        refine lv_aload_n hx hb (fk_get fk_cX11_paidWith_0 21 rfl) rfl (lv_at hl 2 rfl) ?_
        refine va_get (D := G.1) (ci := 9) (v := va_rf ((fR SL16 (9 + 2) 7).map ad)) (C := RX7) (T := TX7) (N := 8) hx hb hT inX7 hown hK hP (9 + 2) (ix_at (lt71 (by omega)) (cX_shop (pk_shop (by decide : 2 < 3)))) rfl 7 (by decide) (hT _ m1_217) (fun _ h9 => h9) rfl (fk_get fk_cX11_paidWith_0 22 rfl) ?_
        rw [show va_rf ((fR SL16 (9 + 2) 7).map ad) = .ref (ad pz) from by rw [hpzL]; rfl]
        refine va_get (D := G.1) (ci := 3) (v := .int (fF SL16 pz 0)) (C := RX1) (T := TX1) (N := 4) hx hb hT inX1 hown hK hP pz (ix_at (hcokL).2.1 (cX_ctr (hcokL).1 (hcokL).2.2.1)) rfl 0 (by decide) (hT _ m1_114) (fun _ h9 => h9) rfl (fk_get fk_cX11_paidWith_0 23 rfl) ?_
        refine lv_imul hx hb (fk_get fk_cX11_paidWith_0 24 rfl) ?_
        subst hQ
        have hpost : XI SL16 ∧ Fr (fun j k => (j = 11 ∧ 3 ≤ k ∧ k ≤ 7) ∨ (33 ≤ j ∧ j < 39 ∧ 2 ≤ k ∧ k ≤ 9) ∨ (51 ≤ j ∧ j < 57 ∧ k = 99) ∨ ((j = 17 ∨ j = 20) ∧ k = 99)) S SL16 ∧ (((v4 * (fF SL16 pz 0)) : Int32) = bsF 1 o_ (lstW 3 1 C) τ C n wz (cutF n (fun d => gX S (21 + 6 * 0 + d) (K d))) * (lstW 2 5 C)) := by
          exact ⟨hXl16, hFl16, (by rw [show fF SL16 pz 0 = (lstW 2 5 C) from hctxL.1, bs_en hBS hge_])⟩
        exact W.iret (v := (v4 * (fF SL16 pz 0))) hx hb hr (fun t_ ht_ hW_ => ⟨⟨(v4 * (fF SL16 pz 0)), SL16, rfl, hpost, by rw [ht_]; exact hP, va_K.moved hW_.alike hK, hD⟩, hS.F ht_⟩) hS.2.2 (fk_get fk_cX11_paidWith_0 25 rfl)
      have hlt_ : c < wz := Nat.lt_of_not_le (fun z_ => c_12 (by rw [ew]; exact (nI_leI (a := wz) (b := c) (by omega) (by omega)).mpr z_))
      refine lv_iload hx hb (fk_get fk_cX11_paidWith_0 13 rfl) (lv_at hl 1 rfl) ?_
      refine lv_aload_n hx hb (fk_get fk_cX11_paidWith_0 14 rfl) rfl (lv_at hl 2 rfl) ?_
      have hFc := va_self hD hS hA
      refine va_calli (va_runV (As := []) (rest := [.int (v4)]) ⟨hx, hb, hml, hown, hT⟩ (c_x7_makeSaturdayX l G ad SL16 H_10.size (2) (n) (pz) (9999 + c) (lz) (K) (τ) (C) ((by decide : 2 < 3)) (by first | assumption | omega) (by first | assumption | omega) (hcfL) ((fun d hd => (hgcL d hd).1)) (by omega) (hln) (hlz) (hXl16)) (tV 0 hT m3_202 m3_203 m3_204 m1_9 m3_205 rfl rfl (by decide +kernel) ⟨Nat.le_of_ble_eq_true rfl, Nat.le_of_ble_eq_true rfl⟩) ⟨PcW_blind, va_recv hK hP (ci := 9) (q0 := (9 + 2)) rfl (ix_at (lt71 (by omega)) (cX_shop (pk_shop (by decide : 2 < 3)))), PcW_of hP hK hD _⟩ rfl rfl hl.1 rfl (lv_room (Nat.le_of_ble_eq_true rfl)) (fk_get fk_cX11_paidWith_0 15 rfl) ⟨Nat.zero_le _, Nat.zero_le _⟩) hS (fun q _ h => hFc q h) hFc (fun r_13 S_15 t_ H locs ht_ hvm_ hw_14 hB_ hz_ hk_ hS => ?_)
      obtain ⟨hP, -, hD1_⟩ := hB_
      rw [ht_] at hP
      have hD : va_D A (wX G ad S_15) := hD1_.weaken (fun k q _ h => hFc q.1 h)
      try dsimp only at hw_14
      obtain ⟨hX_16, hF_17_, hw_14⟩ := hw_14
      have hF_17 : Fr (fun j k => (j = 11 ∧ 3 ≤ k ∧ k ≤ 7) ∨ (33 ≤ j ∧ j < 39 ∧ 2 ≤ k ∧ k ≤ 9) ∨ (51 ≤ j ∧ j < 57 ∧ k = 99) ∨ ((j = 17 ∨ j = 20) ∧ k = 99)) S S_15 := Fr.trans hFl16 (Fr.mono hF_17_ (fun j k h => by omega))
      obtain ⟨hsr_, hsg_⟩ := hw_14
      rw [hofL] at hsg_ hsr_
      have hcfN : CuF S_15 2 n pz τ C K := hcfL.fr (by omega) hn6 hF_17_ (fun d hd_ => by omega) (by omega) (fun j k a b => by omega)
      have hnN : fF S_15 (9 + 2) 3 = nI n := (Fr.F hF_17_ (lt71 (by omega)) (by omega)).trans hnL
      have hofN := (Fr.F hF_17_ (j := 9 + 2) (k := 6) (lt71 (by omega)) (by omega)).trans hofL
      have hgcN : ∀ d, d < n → GC (9999 + (c + 1)) (gX S_15 (21 + 6 * 2 + d) (K d)) := fun d hd => by rw [show gX S_15 (21 + 6 * 2 + d) (K d) = _ from hsg_ d hd]; exact sa_gc (B := 9999 + c) (by omega) hgcL d hd
      refine lv_iadd hx hb (fk_get fk_cX11_paidWith_0 16 rfl) ?_
      refine lv_istore (lv' := [(4, .int ((v4 + r_13))), (5, .int ((nI c))), (3, .ref (ad (9 + 2))), (0, .ref (ad 0)), (1, .int (o_)), (2, .int (x))]) hx hb (fk_get fk_cX11_paidWith_0 17 rfl) hl (by decide) rfl (fun ls hl => ?_)
      refine lv_iinc (v := (nI (c + 1))) (lv' := [(5, .int ((nI (c + 1)))), (4, .int ((v4 + r_13))), (3, .ref (ad (9 + 2))), (0, .ref (ad 0)), (1, .int (o_)), (2, .int (x))]) hx hb (fk_get fk_cX11_paidWith_0 18 rfl) hl (k := 1) rfl ((nI_1 c)) (by decide) rfl (fun ls hl => ?_)
      refine lv_goto (tgt := 16) hx hb (fk_get fk_cX11_paidWith_0 19 rfl) (by decide) ?_
      exact ih (c + 1) ((v4 + r_13)) (S_15) _ _ ls (hX_16) (hF_17) (by omega) (by omega) (hnN) (hcfN) (hofN) (hgcN) (st_st hST hlt_ hsg_) ((by rw [hsr_]; exact bs_st hBS hlt_ hsg_)) hP hD hS (lv_sub hl [0, 1, 2, 3, 4, 5] rfl)
  exact lp_8 (wz + 1) (0) (0) (setF S_3 (9 + 2) 6 (o_)) _ _ ls (hX_6) (hF_7) (by omega) (by omega) (hn2o_) (hcf2o_) (hof2o_) (hgc2o_) (by rw [Nat.sub_zero]; exact congrArg _ (cut_cg (fun d hd => hgx2o_ d hd))) (by rw [Nat.sub_zero, Int32.zero_add]; exact congrArg _ (cut_cg (fun d hd => hgx2o_ d hd))) hP hD hS (lv_sub hl [0, 1, 2, 3, 4, 5] rfl)
