set_option maxHeartbeats 800000 in
set_option maxRecDepth 100000 in
theorem c_x11_dareX (l : Launch) (G : GG) (ad : Nat → Nat) (S : FS) (sz : Nat) (n pz : Nat) (K : Nat → Nat) (τ : Nat → Int32) (C : Cls) (x w_ : Int32) (hn : fF S (9 + 0) 3 = nI n) (hn6 : n ≤ 6) (hcf : CuF S 0 n pz τ C K) (hgc : ∀ d, d < n → GC 9999 (gX S (21 + 6 * 0 + d) (K d))) (h99 : N99 C) (hX : XI S) : Met l yX11_dare (Cond.code yX11_dare cX11_dare 7 (some .int) :: TBL) ({ frames := 8, cells := 0, slots := 0, locals := 229 } : Room) (PcW G (wX G ad S) sz [.ref (ad 0), .int (x), .int (w_)]) (va_Qi (fun (r : Int32) (S' : FS) => XI S' ∧ Fr (fun j k => (j = 11 ∧ 3 ≤ k ∧ k ≤ 7) ∨ (33 ≤ j ∧ j < 39 ∧ 2 ≤ k ∧ k ≤ 9) ∨ (51 ≤ j ∧ j < 57 ∧ k = 99) ∨ ((j = 17 ∨ j = 20) ∧ k = 99)) S S' ∧ (r = darP (lstW 3 1 C) (lstW 2 5 C) τ C n (fun d => gX S (21 + 6 * 0 + d) (K d)) x w_)) (fun S' t => BW G (va_A (wX G ad S) sz) (wX G ad S') t) (va_A (wX G ad S) sz)) 0 0 (va_A (wX G ad S) sz) := by
  refine Met.ofW (cc := cX11_dare) (maxL := 7) (ret := (some .int)) (by decide) rfl ?_
  intro p e s m args below meth c₀ s₁ B hml hv
  obtain ⟨rfl, hsz, hP, hK, hD0⟩ := hv
  have hx := B.exec
  have hb := B.bytes
  have hr := B.returns
  have hT : ∀ w ∈ TBL, w.before ([.ref (ad 0), .int (x), .int (w_)] : List Value).toArray s = true := fun w h => atoms_spec (ws := Cond.code yX11_dare cX11_dare 7 (some .int) :: TBL) B.pre w (List.mem_cons_of_mem _ h)
  have hown : s.vm.findClass "LittleMore" = some m.cls := findClass_of_methodNamed B.named
  have hlocks := B.notSynchronized
  subst hsz
  have hD := hD0.self (sz := s.heap.size)
  generalize hAe : va_A (wX G ad S) s.heap.size = A at hD ⊢
  have hA : ∀ q : Nat, s.heap.size ≤ q → A q := fun q h => by rw [← hAe]; exact Or.inr h
  have hS : va_S A s.heap s.heap [] := va_S.rf
  have hP : va_P G.1 vwCl (wX G ad S) s.heap := hP
  have hl := lv_entry ([.ref (ad 0), .int (x), .int (w_)]) (n := 7) (Nat.le_of_ble_eq_true rfl)
  rw [lg_entry_eq]
  generalize (lg_sl ([.ref (ad 0), .int (x), .int (w_)]) ++ List.replicate (7 - (lg_sl ([.ref (ad 0), .int (x), .int (w_)])).length) Slot.unset).toArray = ls at hl ⊢
  have hl : lv_has ls 7 [(0, .ref (ad 0)), (1, .int (x)), (2, .int (w_))] := hl
  refine W_abs (fun Q hQ => ?_)
  generalize ([.ref (ad 0), .int (x), .int (w_)] : List Value).toArray = args at hT hQ ⊢
  obtain ⟨-, hpz0, hcok0, hctx0, hsay0⟩ := id hcf
  obtain ⟨lz, hlz, hln⟩ := lst_99 (k := 3) C 1 ⟨1, by omega, rfl⟩ h99.2
  refine lv_iload_n hx hb (fk_get fk_cX11_dare_0 0 rfl) rfl (lv_at hl 2 rfl) ?_
  refine lv_iconst (v := 0) hx hb (fk_get fk_cX11_dare_0 1 rfl) (by decide) ?_
  refine lv_iconst (v := 1) hx hb (fk_get fk_cX11_dare_0 2 rfl) (by decide) ?_
  refine vp_callSi (W.runS (As := [.int (w_), .int (0), .int (1)]) (rest := []) ⟨hx, hb, hml, hown, hT⟩ (c_xisOutside l (w_) (0) (1) ) (tS 3 hT m2_108 m2_109 m1_1 m2_110 rfl rfl (by decide +kernel) ⟨Nat.le_of_ble_eq_true rfl, Nat.le_of_ble_eq_true rfl⟩) ⟨PcN_blind, PcN_of _ _ _⟩ rfl rfl hl.1 rfl (lv_room (Nat.le_of_ble_eq_true rfl)) (fk_get fk_cX11_dare_0 3 rfl) ⟨Nat.zero_le _, Nat.zero_le _⟩) (fun r_1 hw_2 => ?_)
  try dsimp only at hw_2
  refine lv_if_eq (tgt := 11) hx hb (fk_get fk_cX11_dare_0 4 rfl) (by decide) (fun c_3 => ?_) (fun c_3 => ?_)
  · have p_c_3 := if1_f hw_2 c_3
    have hw_ := nor2.mp p_c_3
    refine lv_iload_n hx hb (fk_get fk_cX11_dare_0 7 rfl) rfl (lv_at hl 1 rfl) ?_
    refine lv_iconst (v := 1) hx hb (fk_get fk_cX11_dare_0 8 rfl) (by decide) ?_
    refine lv_bipush (v := 20) hx hb (fk_get fk_cX11_dare_0 9 rfl) (by decide) ?_
    refine vp_callSi (W.runS (As := [.int (x), .int (1), .int (20)]) (rest := []) ⟨hx, hb, hml, hown, hT⟩ (c_xisOutside l (x) (1) (20) ) (tS 3 hT m2_108 m2_109 m1_1 m2_110 rfl rfl (by decide +kernel) ⟨Nat.le_of_ble_eq_true rfl, Nat.le_of_ble_eq_true rfl⟩) ⟨PcN_blind, PcN_of _ _ _⟩ rfl rfl hl.1 rfl (lv_room (Nat.le_of_ble_eq_true rfl)) (fk_get fk_cX11_dare_0 10 rfl) ⟨Nat.zero_le _, Nat.zero_le _⟩) (fun r_4 hw_5 => ?_)
    try dsimp only at hw_5
    refine lv_if_eq (tgt := 24) hx hb (fk_get fk_cX11_dare_0 11 rfl) (by decide) (fun c_6 => ?_) (fun c_6 => ?_)
    · have p_c_6 := if1_f hw_5 c_6
      obtain ⟨wz, hw40, ew⟩ := out_1 (b := 20) p_c_6 (by decide)
      have hcy_ : x.toNatClampNeg = wz := by rw [ew]; exact nI_clamp (by omega)
      have hy_ := nor2.mp p_c_6
      have hw40b : wz ≤ 40 := by omega
      refine lv_iconst (v := 0) hx hb (fk_get fk_cX11_dare_0 14 rfl) (by decide) ?_
      refine lv_istore_n (lv' := [(3, .int (0)), (0, .ref (ad 0)), (1, .int (x)), (2, .int (w_))]) hx hb (fk_get fk_cX11_dare_0 15 rfl) rfl hl (by decide) rfl (fun ls hl => ?_)
      refine lv_iconst (v := (-1)) hx hb (fk_get fk_cX11_dare_0 16 rfl) (by decide) ?_
      refine lv_istore (lv' := [(4, .int ((-1))), (3, .int (0)), (0, .ref (ad 0)), (1, .int (x)), (2, .int (w_))]) hx hb (fk_get fk_cX11_dare_0 17 rfl) hl (by decide) rfl (fun ls hl => ?_)
      refine lv_iconst (v := 0) hx hb (fk_get fk_cX11_dare_0 18 rfl) (by decide) ?_
      refine lv_istore (lv' := [(5, .int (0)), (4, .int ((-1))), (3, .int (0)), (0, .ref (ad 0)), (1, .int (x)), (2, .int (w_))]) hx hb (fk_get fk_cX11_dare_0 19 rfl) hl (by decide) rfl (fun ls hl => ?_)
      have lp_7 : ∀ (fu : Nat) (c : Nat) (v3 v4 : Int32) (SL32 : FS) (H_9 : Heap) (locs_10 : List Loc) (ls : Array Slot),  (XI SL32) → (Fr (fun j k => (j = 11 ∧ 3 ≤ k ∧ k ≤ 7) ∨ (33 ≤ j ∧ j < 39 ∧ 2 ≤ k ∧ k ≤ 9) ∨ (51 ≤ j ∧ j < 57 ∧ k = 99) ∨ ((j = 17 ∨ j = 20) ∧ k = 99)) S SL32) → (c ≤ 31) → (31 < c + fu) → (fF SL32 (9 + 0) 3 = nI n) → (CuF SL32 0 n pz τ C K) → (∀ d, d < n → gX SL32 (21 + 6 * 0 + d) (K d) = gX S (21 + 6 * 0 + d) (K d)) → ((v3, v4) = daN (darF (lstW 3 1 C) (lstW 2 5 C) τ C n (fun d => gX S (21 + 6 * 0 + d) (K d)) wz) c) → va_P G.1 vwCl (wX G ad SL32) H_9 → va_D A (wX G ad SL32) → va_S A s.heap H_9 locs_10 → lv_has ls 7 [(5, .int ((nI c))), (4, .int (v4)), (3, .int (v3)), (0, .ref (ad 0)), (1, .int (x)), (2, .int (w_))] → W p l e ({ frames := 8, cells := 0, slots := 0, locals := 229 } : Room) s m args below meth c₀ H_9 locs_10 0 0 Q (F0 m 32 ls []) := by
        intro fu
        induction fu with
        | zero =>
          intro c v3 v4 SL32 H_9 locs_10 ls hXl32 hFl32 hk hf hn2 hcfL hgxL hD_ hP hD hS hl
          exact absurd hf (by omega)
        | succ fu ih =>
          intro c v3 v4 SL32 H_9 locs_10 ls hXl32 hFl32 hk hf hn2 hcfL hgxL hD_ hP hD hS hl
          refine lv_iload hx hb (fk_get fk_cX11_dare_0 20 rfl) (lv_at hl 0 rfl) ?_
          refine lv_bipush (v := 30) hx hb (fk_get fk_cX11_dare_0 21 rfl) (by decide) ?_
          refine lv_icmp_gt (tgt := 68) hx hb (fk_get fk_cX11_dare_0 22 rfl) (by decide) (fun c_11 => ?_) (fun c_11 => ?_)
          · have q_c_11 : 30 < c := ci_lt (a := 30) (b := c) (by omega) (by omega) c_11
            have e31_ : c = 31 := by omega
            rw [e31_, ← hcy_] at hD_
            have hfi_ := dar_r hw_ hy_ hD_
            refine lv_iload_n hx hb (fk_get fk_cX11_dare_1 5 rfl) rfl (lv_at hl 5 rfl) ?_
            refine lv_if_ne (tgt := 76) hx hb (fk_get fk_cX11_dare_1 6 rfl) (by decide) (fun c_12 => ?_) (fun c_12 => ?_)
            · refine lv_iload hx hb (fk_get fk_cX11_dare_1 9 rfl) (lv_at hl 1 rfl) ?_
              subst hQ
              have hpost : XI SL32 ∧ Fr (fun j k => (j = 11 ∧ 3 ≤ k ∧ k ≤ 7) ∨ (33 ≤ j ∧ j < 39 ∧ 2 ≤ k ∧ k ≤ 9) ∨ (51 ≤ j ∧ j < 57 ∧ k = 99) ∨ ((j = 17 ∨ j = 20) ∧ k = 99)) S SL32 ∧ ((v4 : Int32) = darP (lstW 3 1 C) (lstW 2 5 C) τ C n (fun d => gX S (21 + 6 * 0 + d) (K d)) x w_) := by
                exact ⟨hXl32, hFl32, (by first | exact dar_1 hnw_ | exact dar_2 hw_ hny_ | exact hfi_.1 (by first | assumption | exact Decidable.not_not.mp (by assumption)) | exact hfi_.2 (by assumption))⟩
              exact W.iret (v := v4) hx hb hr (fun t_ ht_ hW_ => ⟨⟨v4, SL32, rfl, hpost, by rw [ht_]; exact hP, va_K.moved hW_.alike hK, hD⟩, hS.F ht_⟩) hS.2.2 (fk_get fk_cX11_dare_1 10 rfl)
            refine lv_iload_n hx hb (fk_get fk_cX11_dare_1 7 rfl) rfl (lv_at hl 2 rfl) ?_
            refine lv_goto (tgt := 78) hx hb (fk_get fk_cX11_dare_1 8 rfl) (by decide) ?_
            subst hQ
            have hpost : XI SL32 ∧ Fr (fun j k => (j = 11 ∧ 3 ≤ k ∧ k ≤ 7) ∨ (33 ≤ j ∧ j < 39 ∧ 2 ≤ k ∧ k ≤ 9) ∨ (51 ≤ j ∧ j < 57 ∧ k = 99) ∨ ((j = 17 ∨ j = 20) ∧ k = 99)) S SL32 ∧ ((v3 : Int32) = darP (lstW 3 1 C) (lstW 2 5 C) τ C n (fun d => gX S (21 + 6 * 0 + d) (K d)) x w_) := by
              exact ⟨hXl32, hFl32, (by first | exact dar_1 hnw_ | exact dar_2 hw_ hny_ | exact hfi_.1 (by first | assumption | exact Decidable.not_not.mp (by assumption)) | exact hfi_.2 (by assumption))⟩
            exact W.iret (v := v3) hx hb hr (fun t_ ht_ hW_ => ⟨⟨v3, SL32, rfl, hpost, by rw [ht_]; exact hP, va_K.moved hW_.alike hK, hD⟩, hS.F ht_⟩) hS.2.2 (fk_get fk_cX11_dare_1 10 rfl)
          have q_c_11 : c ≤ 30 := ci_nlt (a := 30) (b := c) (by omega) (by omega) c_11
          refine lv_aload_n hx hb (fk_get fk_cX11_dare_0 23 rfl) rfl (lv_at hl 3 rfl) ?_
          refine lv_iload hx hb (fk_get fk_cX11_dare_0 24 rfl) (lv_at hl 0 rfl) ?_
          refine lv_iload_n hx hb (fk_get fk_cX11_dare_0 25 rfl) rfl (lv_at hl 4 rfl) ?_
          have hFc := va_self hD hS hA
          refine va_calli (va_runV (As := [.int ((nI c)), .int (x)]) (rest := []) ⟨hx, hb, hml, hown, hT⟩ (c_x11_paidWithX l G ad SL32 H_9.size (n) (pz) (wz) (K) (τ) (C) (x) ((nI c)) (hn2) (by first | assumption | omega) (hcfL) ((fun d hd => by rw [hgxL d hd]; exact hgc d hd)) (h99) (ew) (by omega) (hXl32)) (tV 2 hT m4_2 m4_4 mp_12 m1_1 m4_5 rfl rfl (by decide +kernel) ⟨Nat.le_of_ble_eq_true rfl, Nat.le_of_ble_eq_true rfl⟩) ⟨PcW_blind, va_recv hK hP (ci := 13) (q0 := 0) rfl (ix_at (lt71 (by omega)) (cX_0 G ad SL32)), PcW_of hP hK hD _⟩ rfl rfl hl.1 rfl (lv_room (Nat.le_of_ble_eq_true rfl)) (fk_get fk_cX11_dare_0 26 rfl) ⟨Nat.zero_le _, Nat.zero_le _⟩) hS (fun q _ h => hFc q h) hFc (fun r_13 S_15 t_ H locs ht_ hvm_ hw_14 hB_ hz_ hk_ hS => ?_)
          obtain ⟨hP, -, hD1_⟩ := hB_
          rw [ht_] at hP
          have hD : va_D A (wX G ad S_15) := hD1_.weaken (fun k q _ h => hFc q.1 h)
          try dsimp only at hw_14
          obtain ⟨hX_16, hF_17_, hw_14⟩ := hw_14
          have hF_17 : Fr (fun j k => (j = 11 ∧ 3 ≤ k ∧ k ≤ 7) ∨ (33 ≤ j ∧ j < 39 ∧ 2 ≤ k ∧ k ≤ 9) ∨ (51 ≤ j ∧ j < 57 ∧ k = 99) ∨ ((j = 17 ∨ j = 20) ∧ k = 99)) S S_15 := Fr.trans hFl32 (Fr.mono hF_17_ (fun j k h => by omega))
          rw [cut_cg (n := n) (G := (fun d => gX SL32 (21 + 6 * 0 + d) (K d))) (G' := (fun d => gX S (21 + 6 * 0 + d) (K d))) (fun d hd => hgxL d hd)] at hw_14
          have hv_ : r_13 = (darF (lstW 3 1 C) (lstW 2 5 C) τ C n (fun d => gX S (21 + 6 * 0 + d) (K d)) wz) c := hw_14
          have hn2N : fF S_15 (9 + 0) 3 = nI n := (Fr.F hF_17_ (lt71 (by omega)) (by omega)).trans hn2
          have hcfN : CuF S_15 0 n pz τ C K := hcfL.fr (by omega) hn6 hF_17_ (fun d hd_ => by omega) (by omega) (fun j k a b => by omega)
          have hgxN : ∀ d, d < n → gX S_15 (21 + 6 * 0 + d) (K d) = gX S (21 + 6 * 0 + d) (K d) := fun d hd => (gx_same hF_17_ (by omega) (by omega) (by omega)).trans (hgxL d hd)
          refine lv_istore (lv' := [(6, .int (r_13)), (5, .int ((nI c))), (4, .int (v4)), (3, .int (v3)), (0, .ref (ad 0)), (1, .int (x)), (2, .int (w_))]) hx hb (fk_get fk_cX11_dare_0 27 rfl) hl (by decide) rfl (fun ls hl => ?_)
          refine lv_iload hx hb (fk_get fk_cX11_dare_0 28 rfl) (lv_at hl 0 rfl) ?_
          refine lv_iload hx hb (fk_get fk_cX11_dare_0 29 rfl) (lv_at hl 2 rfl) ?_
          refine lv_icmp_le (tgt := 62) hx hb (fk_get fk_cX11_dare_0 30 rfl) (by decide) (fun c_18 => ?_) (fun c_18 => ?_)
          · refine lv_iinc (v := (nI (c + 1))) (lv' := [(5, .int ((nI (c + 1)))), (6, .int (r_13)), (4, .int (v4)), (3, .int (v3)), (0, .ref (ad 0)), (1, .int (x)), (2, .int (w_))]) hx hb (fk_get fk_cX11_dare_1 3 rfl) hl (k := 1) rfl ((nI_1 c)) (by decide) rfl (fun ls hl => ?_)
            refine lv_goto (tgt := 32) hx hb (fk_get fk_cX11_dare_1 4 rfl) (by decide) ?_
            exact ih (c + 1) (v3) (v4) (S_15) _ _ ls (hX_16) (hF_17) (by omega) (by omega) (hn2N) (hcfN) (hgxN) ((by first | exact da_y hD_ hv_ (by assumption) | exact da_y hD_ hv_ (Int32.not_le.mp (by assumption)) | exact da_n hD_ hv_ (Int32.not_lt.mpr (by assumption)) | exact da_n hD_ hv_ (by assumption))) hP hD hS (lv_sub hl [0, 2, 3, 4, 5, 6] rfl)
          refine lv_iload hx hb (fk_get fk_cX11_dare_0 31 rfl) (lv_at hl 0 rfl) ?_
          refine lv_istore (lv' := [(4, .int (r_13)), (6, .int (r_13)), (5, .int ((nI c))), (3, .int (v3)), (0, .ref (ad 0)), (1, .int (x)), (2, .int (w_))]) hx hb (fk_get fk_cX11_dare_1 0 rfl) hl (by decide) rfl (fun ls hl => ?_)
          refine lv_iload hx hb (fk_get fk_cX11_dare_1 1 rfl) (lv_at hl 2 rfl) ?_
          refine lv_istore_n (lv' := [(3, .int ((nI c))), (4, .int (r_13)), (6, .int (r_13)), (5, .int ((nI c))), (0, .ref (ad 0)), (1, .int (x)), (2, .int (w_))]) hx hb (fk_get fk_cX11_dare_1 2 rfl) rfl hl (by decide) rfl (fun ls hl => ?_)
          refine lv_iinc (v := (nI (c + 1))) (lv' := [(5, .int ((nI (c + 1)))), (3, .int ((nI c))), (4, .int (r_13)), (6, .int (r_13)), (0, .ref (ad 0)), (1, .int (x)), (2, .int (w_))]) hx hb (fk_get fk_cX11_dare_1 3 rfl) hl (k := 3) rfl ((nI_1 c)) (by decide) rfl (fun ls hl => ?_)
          refine lv_goto (tgt := 32) hx hb (fk_get fk_cX11_dare_1 4 rfl) (by decide) ?_
          exact ih (c + 1) ((nI c)) (r_13) (S_15) _ _ ls (hX_16) (hF_17) (by omega) (by omega) (hn2N) (hcfN) (hgxN) ((by first | exact da_y hD_ hv_ (by assumption) | exact da_y hD_ hv_ (Int32.not_le.mp (by assumption)) | exact da_n hD_ hv_ (Int32.not_lt.mpr (by assumption)) | exact da_n hD_ hv_ (by assumption))) hP hD hS (lv_sub hl [0, 2, 1, 4, 5, 6] rfl)
      exact lp_7 (32) (0) (0) ((-1)) (S) _ _ ls (hX) ((Fr.rf : Fr (fun j k => (j = 11 ∧ 3 ≤ k ∧ k ≤ 7) ∨ (33 ≤ j ∧ j < 39 ∧ 2 ≤ k ∧ k ≤ 9) ∨ (51 ≤ j ∧ j < 57 ∧ k = 99) ∨ ((j = 17 ∨ j = 20) ∧ k = 99)) S S)) (by omega) (by omega) (hn) (hcf) (fun _ _ => rfl) (rfl) hP hD hS (lv_sub hl [0, 1, 2, 3, 4, 5] rfl)
    have p_c_6 := if1_t hw_5 c_6
    have hny_ := nan2 p_c_6
    refine lv_bipush (v := (-2)) hx hb (fk_get fk_cX11_dare_0 12 rfl) (by decide) ?_
    subst hQ
    have hpost : XI S ∧ Fr (fun j k => (j = 11 ∧ 3 ≤ k ∧ k ≤ 7) ∨ (33 ≤ j ∧ j < 39 ∧ 2 ≤ k ∧ k ≤ 9) ∨ (51 ≤ j ∧ j < 57 ∧ k = 99) ∨ ((j = 17 ∨ j = 20) ∧ k = 99)) S S ∧ (((-2) : Int32) = darP (lstW 3 1 C) (lstW 2 5 C) τ C n (fun d => gX S (21 + 6 * 0 + d) (K d)) x w_) := by
      exact ⟨hX, (Fr.rf : Fr (fun j k => (j = 11 ∧ 3 ≤ k ∧ k ≤ 7) ∨ (33 ≤ j ∧ j < 39 ∧ 2 ≤ k ∧ k ≤ 9) ∨ (51 ≤ j ∧ j < 57 ∧ k = 99) ∨ ((j = 17 ∨ j = 20) ∧ k = 99)) S S), (by first | exact dar_1 hnw_ | exact dar_2 hw_ hny_ | exact hfi_.1 (by first | assumption | exact Decidable.not_not.mp (by assumption)) | exact hfi_.2 (by assumption))⟩
    exact W.iret (v := (-2)) hx hb hr (fun t_ ht_ hW_ => ⟨⟨(-2), S, rfl, hpost, by rw [ht_]; exact hP, va_K.moved hW_.alike hK, hD⟩, hS.F ht_⟩) hS.2.2 (fk_get fk_cX11_dare_0 13 rfl)
  have p_c_3 := if1_t hw_2 c_3
  have hnw_ := nan2 p_c_3
  refine lv_iconst (v := (-1)) hx hb (fk_get fk_cX11_dare_0 5 rfl) (by decide) ?_
  subst hQ
  have hpost : XI S ∧ Fr (fun j k => (j = 11 ∧ 3 ≤ k ∧ k ≤ 7) ∨ (33 ≤ j ∧ j < 39 ∧ 2 ≤ k ∧ k ≤ 9) ∨ (51 ≤ j ∧ j < 57 ∧ k = 99) ∨ ((j = 17 ∨ j = 20) ∧ k = 99)) S S ∧ (((-1) : Int32) = darP (lstW 3 1 C) (lstW 2 5 C) τ C n (fun d => gX S (21 + 6 * 0 + d) (K d)) x w_) := by
    exact ⟨hX, (Fr.rf : Fr (fun j k => (j = 11 ∧ 3 ≤ k ∧ k ≤ 7) ∨ (33 ≤ j ∧ j < 39 ∧ 2 ≤ k ∧ k ≤ 9) ∨ (51 ≤ j ∧ j < 57 ∧ k = 99) ∨ ((j = 17 ∨ j = 20) ∧ k = 99)) S S), (by first | exact dar_1 hnw_ | exact dar_2 hw_ hny_ | exact hfi_.1 (by first | assumption | exact Decidable.not_not.mp (by assumption)) | exact hfi_.2 (by assumption))⟩
  exact W.iret (v := (-1)) hx hb hr (fun t_ ht_ hW_ => ⟨⟨(-1), S, rfl, hpost, by rw [ht_]; exact hP, va_K.moved hW_.alike hK, hD⟩, hS.F ht_⟩) hS.2.2 (fk_get fk_cX11_dare_0 6 rfl)
set_option maxHeartbeats 800000 in
set_option maxRecDepth 100000 in
theorem c_x11_nearestX (l : Launch) (G : GG) (ad : Nat → Nat) (S : FS) (sz : Nat) (n pz : Nat) (K : Nat → Nat) (τ : Nat → Int32) (C : Cls) (x : Int32) (hn : fF S (9 + 0) 3 = nI n) (hn6 : n ≤ 6) (hcf : CuF S 0 n pz τ C K) (hgc : ∀ d, d < n → GC 9999 (gX S (21 + 6 * 0 + d) (K d))) (h99 : N99 C) (hX : XI S) : Met l yX11_nearest (Cond.code yX11_nearest cX11_nearest 8 (some .int) :: TBL) ({ frames := 7, cells := 0, slots := 0, locals := 202 } : Room) (PcW G (wX G ad S) sz [.ref (ad 0), .int (x)]) (va_Qi (fun (r : Int32) (S' : FS) => XI S' ∧ Fr (fun j k => (j = 11 ∧ 3 ≤ k ∧ k ≤ 7) ∨ (33 ≤ j ∧ j < 39 ∧ 2 ≤ k ∧ k ≤ 9) ∨ (51 ≤ j ∧ j < 57 ∧ k = 99) ∨ ((j = 17 ∨ j = 20) ∧ k = 99)) S S' ∧ (r = neaP (fF S (9 + 0) 6) (lstW 3 1 C) τ C n (fun d => gX S (21 + 6 * 0 + d) (K d)) x)) (fun S' t => BW G (va_A (wX G ad S) sz) (wX G ad S') t) (va_A (wX G ad S) sz)) 0 0 (va_A (wX G ad S) sz) := by
  refine Met.ofW (cc := cX11_nearest) (maxL := 8) (ret := (some .int)) (by decide) rfl ?_
  intro p e s m args below meth c₀ s₁ B hml hv
  obtain ⟨rfl, hsz, hP, hK, hD0⟩ := hv
  have hx := B.exec
  have hb := B.bytes
  have hr := B.returns
  have hT : ∀ w ∈ TBL, w.before ([.ref (ad 0), .int (x)] : List Value).toArray s = true := fun w h => atoms_spec (ws := Cond.code yX11_nearest cX11_nearest 8 (some .int) :: TBL) B.pre w (List.mem_cons_of_mem _ h)
  have hown : s.vm.findClass "LittleMore" = some m.cls := findClass_of_methodNamed B.named
  have hlocks := B.notSynchronized
  subst hsz
  have hD := hD0.self (sz := s.heap.size)
  generalize hAe : va_A (wX G ad S) s.heap.size = A at hD ⊢
  have hA : ∀ q : Nat, s.heap.size ≤ q → A q := fun q h => by rw [← hAe]; exact Or.inr h
  have hS : va_S A s.heap s.heap [] := va_S.rf
  have hP : va_P G.1 vwCl (wX G ad S) s.heap := hP
  have hl := lv_entry ([.ref (ad 0), .int (x)]) (n := 8) (Nat.le_of_ble_eq_true rfl)
  rw [lg_entry_eq]
  generalize (lg_sl ([.ref (ad 0), .int (x)]) ++ List.replicate (8 - (lg_sl ([.ref (ad 0), .int (x)])).length) Slot.unset).toArray = ls at hl ⊢
  have hl : lv_has ls 8 [(0, .ref (ad 0)), (1, .int (x))] := hl
  refine W_abs (fun Q hQ => ?_)
  generalize ([.ref (ad 0), .int (x)] : List Value).toArray = args at hT hQ ⊢
  obtain ⟨-, hpz0, hcok0, hctx0, hsay0⟩ := id hcf
  obtain ⟨lz, hlz, hln⟩ := lst_99 (k := 3) C 1 ⟨1, by omega, rfl⟩ h99.2
  refine lv_iload_n hx hb (fk_get fk_cX11_nearest_0 0 rfl) rfl (lv_at hl 1 rfl) ?_
  refine lv_iconst (v := 1) hx hb (fk_get fk_cX11_nearest_0 1 rfl) (by decide) ?_
  refine lv_bipush (v := 20) hx hb (fk_get fk_cX11_nearest_0 2 rfl) (by decide) ?_
  refine vp_callSi (W.runS (As := [.int (x), .int (1), .int (20)]) (rest := []) ⟨hx, hb, hml, hown, hT⟩ (c_xisOutside l (x) (1) (20) ) (tS 3 hT m2_108 m2_109 m1_1 m2_110 rfl rfl (by decide +kernel) ⟨Nat.le_of_ble_eq_true rfl, Nat.le_of_ble_eq_true rfl⟩) ⟨PcN_blind, PcN_of _ _ _⟩ rfl rfl hl.1 rfl (lv_room (Nat.le_of_ble_eq_true rfl)) (fk_get fk_cX11_nearest_0 3 rfl) ⟨Nat.zero_le _, Nat.zero_le _⟩) (fun r_1 hw_2 => ?_)
  try dsimp only at hw_2
  refine lv_if_eq (tgt := 13) hx hb (fk_get fk_cX11_nearest_0 4 rfl) (by decide) (fun c_3 => ?_) (fun c_3 => ?_)
  · have p_c_3 := if1_f hw_2 c_3
    obtain ⟨wz, hw40, ew⟩ := out_1 (b := 20) p_c_3 (by decide)
    have hcy_ : x.toNatClampNeg = wz := by rw [ew]; exact nI_clamp (by omega)
    have hy_ := nor2.mp p_c_3
    refine lv_aload_n hx hb (fk_get fk_cX11_nearest_0 7 rfl) rfl (lv_at hl 0 rfl) ?_
    have hFc := va_self hD hS hA
    refine va_callr (va_runV (As := []) (rest := []) ⟨hx, hb, hml, hown, hT⟩ (c_x11_shopToTryX l G ad S s.heap.size (n) (hn) (hn6) (hX)) (tV 0 hT m3_211 m3_213 mp_11 m1_1 m3_214 rfl rfl (by decide +kernel) ⟨Nat.le_of_ble_eq_true rfl, Nat.le_of_ble_eq_true rfl⟩) ⟨PcW_blind, va_recv hK hP (ci := 13) (q0 := 0) rfl (ix_at (lt71 (by omega)) (cX_0 G ad S)), PcW_of hP hK hD _⟩ rfl rfl hl.1 rfl (lv_room (Nat.le_of_ble_eq_true rfl)) (fk_get fk_cX11_nearest_0 8 rfl) ⟨Nat.zero_le _, Nat.zero_le _⟩) hS (fun q _ h => hFc q h) hFc (fun S_6 r_4 t_ H locs ht_ hvm_ hw_5 hB_ hz_ hk_ hS => ?_)
    obtain ⟨hra_, hB_⟩ := hB_
    subst hra_
    obtain ⟨hP, -, hD1_⟩ := hB_
    rw [ht_] at hP
    have hD : va_D A (wX G ad S_6) := hD1_.weaken (fun k q _ h => hFc q.1 h)
    try dsimp only at hw_5
    obtain ⟨hX_7, hF_8_, hw_5⟩ := hw_5
    have hF_8 : Fr (fun j k => (j = 11 ∧ 3 ≤ k ∧ k ≤ 7) ∨ (33 ≤ j ∧ j < 39 ∧ 2 ≤ k ∧ k ≤ 9) ∨ (51 ≤ j ∧ j < 57 ∧ k = 99) ∨ ((j = 17 ∨ j = 20) ∧ k = 99)) S S_6 := Fr.trans (Fr.rf : Fr (fun j k => (j = 11 ∧ 3 ≤ k ∧ k ≤ 7) ∨ (33 ≤ j ∧ j < 39 ∧ 2 ≤ k ∧ k ≤ 9) ∨ (51 ≤ j ∧ j < 57 ∧ k = 99) ∨ ((j = 17 ∨ j = 20) ∧ k = 99)) S S) (Fr.mono hF_8_ (fun j k h => by omega))
    obtain ⟨hbe_, hrr_⟩ := hw_5
    obtain ⟨hcf2_, hgx2_, hbf_, hsn2_⟩ := try_of hbe_ hrr_ hF_8_ hcf hn6
    have hn2_ : fF S_6 (9 + 2) 3 = nI n := (hbf_ 3 (by omega) (by omega)).trans hn
    have hpz2_ : fR S_6 (9 + 2) 7 = some pz := hcf2_.2.1
    have hcok2_ : COK S_6 pz := hcf2_.2.2.1
    have hof2_ : fF S_6 (9 + 2) 6 = fF S (9 + 0) 6 := hbf_ 6 (by omega) (by omega)
    have hgc2_ : ∀ d, d < n → GC 9999 (gX S_6 (21 + 6 * 2 + d) (K d)) := fun d hd => by rw [hgx2_ d hd]; exact hgc d hd
    refine lv_astore_n (lv' := [(2, .ref (ad (9 + 2))), (0, .ref (ad 0)), (1, .int (x))]) hx hb (fk_get fk_cX11_nearest_0 9 rfl) rfl hl (by decide) rfl (fun ls hl => ?_)
    refine lv_bipush (v := (-5)) hx hb (fk_get fk_cX11_nearest_0 10 rfl) (by decide) ?_
    refine lv_istore_n (lv' := [(3, .int ((-5))), (2, .ref (ad (9 + 2))), (0, .ref (ad 0)), (1, .int (x))]) hx hb (fk_get fk_cX11_nearest_0 11 rfl) rfl hl (by decide) rfl (fun ls hl => ?_)
    refine lv_iconst (v := 0) hx hb (fk_get fk_cX11_nearest_0 12 rfl) (by decide) ?_
    refine lv_istore (lv' := [(4, .int (0)), (3, .int ((-5))), (2, .ref (ad (9 + 2))), (0, .ref (ad 0)), (1, .int (x))]) hx hb (fk_get fk_cX11_nearest_0 13 rfl) hl (by decide) rfl (fun ls hl => ?_)
    refine lv_iconst (v := 0) hx hb (fk_get fk_cX11_nearest_0 14 rfl) (by decide) ?_
    refine lv_istore (lv' := [(5, .int (0)), (4, .int (0)), (3, .int ((-5))), (2, .ref (ad (9 + 2))), (0, .ref (ad 0)), (1, .int (x))]) hx hb (fk_get fk_cX11_nearest_0 15 rfl) hl (by decide) rfl (fun ls hl => ?_)
    have lp_9 : ∀ (fu : Nat) (c : Nat) (v3 v4 : Int32) (SL27 : FS) (H_11 : Heap) (locs_12 : List Loc) (ls : Array Slot),  (XI SL27) → (Fr (fun j k => (j = 11 ∧ 3 ≤ k ∧ k ≤ 7) ∨ (33 ≤ j ∧ j < 39 ∧ 2 ≤ k ∧ k ≤ 9) ∨ (51 ≤ j ∧ j < 57 ∧ k = 99) ∨ ((j = 17 ∨ j = 20) ∧ k = 99)) S SL27) → (c ≤ n) → (n < c + fu) → (fF SL27 (9 + 2) 3 = nI n) → (CuF SL27 2 n pz τ C K) → (fF SL27 (9 + 2) 6 = (fF S (9 + 0) 6)) → (∀ d, c ≤ d → d < n → gX SL27 (21 + 6 * 2 + d) (K d) = gX S (21 + 6 * 0 + d) (K d)) → ((v3, v4) = neaN (neaF (fF S (9 + 0) 6) (lstW 3 1 C) τ C (fun d => gX S (21 + 6 * 0 + d) (K d)) x) c) → va_P G.1 vwCl (wX G ad SL27) H_11 → va_D A (wX G ad SL27) → va_S A s.heap H_11 locs_12 → lv_has ls 8 [(5, .int ((nI c))), (4, .int (v4)), (3, .int (v3)), (2, .ref (ad (9 + 2))), (0, .ref (ad 0)), (1, .int (x))] → W p l e ({ frames := 7, cells := 0, slots := 0, locals := 202 } : Room) s m args below meth c₀ H_11 locs_12 0 0 Q (F0 m 27 ls []) := by
      intro fu
      induction fu with
      | zero =>
        intro c v3 v4 SL27 H_11 locs_12 ls hXl27 hFl27 hk hf hnL hcfL hofL hgxL hN_ hP hD hS hl
        exact absurd hf (by omega)
      | succ fu ih =>
        intro c v3 v4 SL27 H_11 locs_12 ls hXl27 hFl27 hk hf hnL hcfL hofL hgxL hN_ hP hD hS hl
        refine lv_iload hx hb (fk_get fk_cX11_nearest_0 16 rfl) (lv_at hl 0 rfl) ?_
        refine lv_aload_n hx hb (fk_get fk_cX11_nearest_0 17 rfl) rfl (lv_at hl 3 rfl) ?_
        refine va_get (D := G.1) (ci := 9) (v := .int (fF SL27 (9 + 2) 3)) (C := RX7) (T := TX7) (N := 8) hx hb hT inX7 hown hK hP (9 + 2) (ix_at (lt71 (by omega)) (cX_shop (pk_shop (by decide : 2 < 3)))) rfl 3 (by decide) (hT _ m1_209) (fun _ h9 => h9) rfl (fk_get fk_cX11_nearest_0 18 rfl) ?_
        rw [hnL]
        refine lv_icmp_ge (tgt := 89) hx hb (fk_get fk_cX11_nearest_0 19 rfl) (by decide) (fun c_13 => ?_) (fun c_13 => ?_)
        · have q_c_13 : n ≤ c := ci_le (a := n) (b := c) (by omega) (by omega) c_13
          have e_ : c = n := by omega
          rw [e_] at hN_
          have hfi_ := nea_r hy_ hN_
          refine lv_iload_n hx hb (fk_get fk_cX11_nearest_1 15 rfl) rfl (lv_at hl 2 rfl) ?_
          subst hQ
          have hpost : XI SL27 ∧ Fr (fun j k => (j = 11 ∧ 3 ≤ k ∧ k ≤ 7) ∨ (33 ≤ j ∧ j < 39 ∧ 2 ≤ k ∧ k ≤ 9) ∨ (51 ≤ j ∧ j < 57 ∧ k = 99) ∨ ((j = 17 ∨ j = 20) ∧ k = 99)) S SL27 ∧ ((v3 : Int32) = neaP (fF S (9 + 0) 6) (lstW 3 1 C) τ C n (fun d => gX S (21 + 6 * 0 + d) (K d)) x) := by
            exact ⟨hXl27, hFl27, (by first | exact (if_neg hny_).symm | exact hfi_)⟩
          exact W.iret (v := v3) hx hb hr (fun t_ ht_ hW_ => ⟨⟨v3, SL27, rfl, hpost, by rw [ht_]; exact hP, va_K.moved hW_.alike hK, hD⟩, hS.F ht_⟩) hS.2.2 (fk_get fk_cX11_nearest_1 16 rfl)
        have q_c_13 : c < n := ci_nle (a := n) (b := c) (by omega) (by omega) c_13
        refine lv_aload_n hx hb (fk_get fk_cX11_nearest_0 20 rfl) rfl (lv_at hl 3 rfl) ?_
        refine va_get (D := G.1) (ci := 9) (v := .ref (ad (9 + 2 + 3))) (C := RX7) (T := TX7) (N := 8) hx hb hT inX7 hown hK hP (9 + 2) (ix_at (lt71 (by omega)) (cX_shop (pk_shop (by decide : 2 < 3)))) rfl 0 (by decide) (hT _ m1_203) (fun _ h9 => h9) rfl (fk_get fk_cX11_nearest_0 21 rfl) ?_
        refine lv_iload hx hb (fk_get fk_cX11_nearest_0 22 rfl) (lv_at hl 0 rfl) ?_
        refine x_ppl hx hb hK hP (by decide : 2 < 3) (k := c) (by omega) (rfl) (fk_get fk_cX11_nearest_0 23 rfl) ?_
        generalize hg_i_42 : 21 + 6 * 2 + c = i_42
        have hp_i_42 : pk i_42 = 7 := by rw [← hg_i_42]; exact pk_c (by decide : 2 < 3) (by omega)
        have hb_i_42 := pk7 hp_i_42
        refine lv_astore (lv' := [(6, .ref (ad i_42)), (5, .int ((nI c))), (4, .int (v4)), (3, .int (v3)), (2, .ref (ad (9 + 2))), (0, .ref (ad 0)), (1, .int (x))]) hx hb (fk_get fk_cX11_nearest_0 24 rfl) hl (by decide) rfl (fun ls hl => ?_)
        refine lv_aload_n hx hb (fk_get fk_cX11_nearest_0 25 rfl) rfl (lv_at hl 4 rfl) ?_
        refine lv_aload hx hb (fk_get fk_cX11_nearest_0 26 rfl) (lv_at hl 0 rfl) ?_
        refine lv_iload_n hx hb (fk_get fk_cX11_nearest_0 27 rfl) rfl (lv_at hl 6 rfl) ?_
        have hFc := va_self hD hS hA
        refine va_calli (va_runV (As := [.ref (ad i_42), .int (x)]) (rest := []) ⟨hx, hb, hml, hown, hT⟩ (c_x7_makeVisitsAloneXE l G ad SL27 H_11.size (2) (i_42) (K c) (pz) (9999) (lz) (wz) (τ) (C) ((by decide : 2 < 3)) (hp_i_42) ((by rw [← hg_i_42]; exact hcfL.at (by omega))) ((by rw [← hg_i_42, hgxL c (Nat.le_refl c) (by omega)]; exact (hgc c (by omega)).1)) (by omega) (hln) (hlz) (by omega) (x) (ew) (hXl27)) (tV 2 hT m3_225 m3_226 m3_227 m1_9 m3_228 rfl rfl (by decide +kernel) ⟨Nat.le_of_ble_eq_true rfl, Nat.le_of_ble_eq_true rfl⟩) ⟨PcW_blind, va_recv hK hP (ci := 9) (q0 := (9 + 2)) rfl (ix_at (lt71 (by omega)) (cX_shop (pk_shop (by decide : 2 < 3)))), PcW_of hP hK hD _⟩ rfl rfl hl.1 rfl (lv_room (Nat.le_of_ble_eq_true rfl)) (fk_get fk_cX11_nearest_0 28 rfl) ⟨Nat.zero_le _, Nat.zero_le _⟩) hS (fun q _ h => hFc q h) hFc (fun r_14 S_16 t_ H locs ht_ hvm_ hw_15 hB_ hz_ hk_ hS => ?_)
        obtain ⟨hP, -, hD1_⟩ := hB_
        rw [ht_] at hP
        have hD : va_D A (wX G ad S_16) := hD1_.weaken (fun k q _ h => hFc q.1 h)
        try dsimp only at hw_15
        obtain ⟨hX_17, hF_18_, hw_15⟩ := hw_15
        have hF_18 : Fr (fun j k => (j = 11 ∧ 3 ≤ k ∧ k ≤ 7) ∨ (33 ≤ j ∧ j < 39 ∧ 2 ≤ k ∧ k ≤ 9) ∨ (51 ≤ j ∧ j < 57 ∧ k = 99) ∨ ((j = 17 ∨ j = 20) ∧ k = 99)) S S_16 := Fr.trans hFl27 (Fr.mono hF_18_ (fun j k h => by omega))
        obtain ⟨hal_, -⟩ := hw_15
        rw [hofL, show fF SL27 i_42 0 = nI c by rw [← hg_i_42]; exact XI.num hXl27 (by omega) (by omega), show gX SL27 i_42 (K c) = gX S (21 + 6 * 0 + c) (K c) by rw [← hg_i_42]; exact hgxL c (Nat.le_refl c) (by omega), ← hcy_] at hal_
        have hnN : fF S_16 (9 + 2) 3 = nI n := (Fr.F hF_18_ (lt71 (by omega)) (by omega)).trans hnL
        have hcfN : CuF S_16 2 n pz τ C K := hcfL.fr (by omega) hn6 hF_18_ (fun d hd_ => by omega) (by omega) (fun j k a b => by omega)
        have hofN := (Fr.F hF_18_ (j := 9 + 2) (k := 6) (lt71 (by omega)) (by omega)).trans hofL
        have hgxN : ∀ d, c + 1 ≤ d → d < n → gX S_16 (21 + 6 * 2 + d) (K d) = gX S (21 + 6 * 0 + d) (K d) := fun d hcd hd => (gx_same hF_18_ (by omega) (by omega) (by omega)).trans (hgxL d (by omega) hd)
        have hwt_ : fF S_16 i_42 4 = gX S (21 + 6 * 0 + c) (K c) 2 := (congrFun (congrArg Prod.snd hal_) 2).trans (al_2 _ _)
        refine lv_iload_n hx hb (fk_get fk_cX11_nearest_0 29 rfl) rfl (lv_at hl 6 rfl) ?_
        refine lv_aload hx hb (fk_get fk_cX11_nearest_0 30 rfl) (lv_at hl 0 rfl) ?_
        refine va_get (D := G.1) (ci := 5) (v := .int (fF S_16 i_42 4)) (C := RX3) (T := TX3) (N := 10) hx hb hT inX3 hown hK hP i_42 (ix_at (lt71 (by omega)) (cX_cust hp_i_42)) rfl 4 (by decide) (hT _ m1_157) (fun _ h9 => h9) rfl (fk_get fk_cX11_nearest_0 31 rfl) ?_
        refine lv_imul hx hb (fk_get fk_cX11_nearest_1 0 rfl) ?_
        refine lv_isub hx hb (fk_get fk_cX11_nearest_1 1 rfl) ?_
        refine vp_callSi (W.runS (As := [.int ((r_14 - (x * (fF S_16 i_42 4))))]) (rest := []) ⟨hx, hb, hml, hown, hT⟩ (c_jabs l ((r_14 - (x * (fF S_16 i_42 4)))) ) (tS 1 hT m4_37 m4_38 m1_18 m4_39 rfl rfl (by decide +kernel) ⟨Nat.le_of_ble_eq_true rfl, Nat.le_of_ble_eq_true rfl⟩) ⟨PcN_blind, PcN_of _ _ _⟩ rfl rfl hl.1 rfl (lv_room (Nat.le_of_ble_eq_true rfl)) (fk_get fk_cX11_nearest_1 2 rfl) ⟨Nat.zero_le _, Nat.zero_le _⟩) (fun r_19 hw_20 => ?_)
        try dsimp only at hw_20
        have hab_ := hw_20
        have hv_ : (r_19) = (neaF (fF S (9 + 0) 6) (lstW 3 1 C) τ C (fun d => gX S (21 + 6 * 0 + d) (K d)) x) c := by
          rw [hab_, hwt_]
          show absI _ = absI ((alN 1 _ _ τ C (nI c) _ (gX S (21 + 6 * 0 + c) (K c))).1 - x * gX S (21 + 6 * 0 + c) (K c) 2)
          rw [← hal_]
        refine lv_istore (lv' := [(7, .int (r_19)), (6, .ref (ad i_42)), (5, .int ((nI c))), (4, .int (v4)), (3, .int (v3)), (2, .ref (ad (9 + 2))), (0, .ref (ad 0)), (1, .int (x))]) hx hb (fk_get fk_cX11_nearest_1 3 rfl) hl (by decide) rfl (fun ls hl => ?_)
        refine lv_iload_n hx hb (fk_get fk_cX11_nearest_1 4 rfl) rfl (lv_at hl 4 rfl) ?_
        refine lv_if_lt (tgt := 76) hx hb (fk_get fk_cX11_nearest_1 5 rfl) (by decide) (fun c_21 => ?_) (fun c_21 => ?_)
        · refine lv_iload hx hb (fk_get fk_cX11_nearest_1 9 rfl) (lv_at hl 0 rfl) ?_
          refine lv_istore (lv' := [(4, .int (r_19)), (7, .int (r_19)), (6, .ref (ad i_42)), (5, .int ((nI c))), (3, .int (v3)), (2, .ref (ad (9 + 2))), (0, .ref (ad 0)), (1, .int (x))]) hx hb (fk_get fk_cX11_nearest_1 10 rfl) hl (by decide) rfl (fun ls hl => ?_)
          refine lv_iload hx hb (fk_get fk_cX11_nearest_1 11 rfl) (lv_at hl 3 rfl) ?_
          refine lv_istore_n (lv' := [(3, .int ((nI c))), (4, .int (r_19)), (7, .int (r_19)), (6, .ref (ad i_42)), (5, .int ((nI c))), (2, .ref (ad (9 + 2))), (0, .ref (ad 0)), (1, .int (x))]) hx hb (fk_get fk_cX11_nearest_1 12 rfl) rfl hl (by decide) rfl (fun ls hl => ?_)
          refine lv_iinc (v := (nI (c + 1))) (lv' := [(5, .int ((nI (c + 1)))), (3, .int ((nI c))), (4, .int (r_19)), (7, .int (r_19)), (6, .ref (ad i_42)), (2, .ref (ad (9 + 2))), (0, .ref (ad 0)), (1, .int (x))]) hx hb (fk_get fk_cX11_nearest_1 13 rfl) hl (k := 4) rfl ((nI_1 c)) (by decide) rfl (fun ls hl => ?_)
          refine lv_goto (tgt := 27) hx hb (fk_get fk_cX11_nearest_1 14 rfl) (by decide) ?_
          exact ih (c + 1) ((nI c)) (r_19) (S_16) _ _ ls (hX_17) (hF_18) (by omega) (by omega) (hnN) (hcfN) (hofN) (hgxN) ((by first | exact ne_y hN_ hv_ (Or.inl (by assumption)) | exact ne_y hN_ hv_ (Or.inr (by first | assumption | exact Int32.not_le.mp (by assumption))) | exact ne_n hN_ hv_ (by first | assumption | exact Int32.not_lt.mpr (by assumption)) (by first | assumption | exact Int32.not_lt.mpr (by assumption)))) hP hD hS (lv_sub hl [0, 2, 1, 5, 6, 7] rfl)
        refine lv_iload hx hb (fk_get fk_cX11_nearest_1 6 rfl) (lv_at hl 0 rfl) ?_
        refine lv_iload hx hb (fk_get fk_cX11_nearest_1 7 rfl) (lv_at hl 3 rfl) ?_
        refine lv_icmp_ge (tgt := 83) hx hb (fk_get fk_cX11_nearest_1 8 rfl) (by decide) (fun c_22 => ?_) (fun c_22 => ?_)
        · refine lv_iinc (v := (nI (c + 1))) (lv' := [(5, .int ((nI (c + 1)))), (7, .int (r_19)), (6, .ref (ad i_42)), (4, .int (v4)), (3, .int (v3)), (2, .ref (ad (9 + 2))), (0, .ref (ad 0)), (1, .int (x))]) hx hb (fk_get fk_cX11_nearest_1 13 rfl) hl (k := 2) rfl ((nI_1 c)) (by decide) rfl (fun ls hl => ?_)
          refine lv_goto (tgt := 27) hx hb (fk_get fk_cX11_nearest_1 14 rfl) (by decide) ?_
          exact ih (c + 1) (v3) (v4) (S_16) _ _ ls (hX_17) (hF_18) (by omega) (by omega) (hnN) (hcfN) (hofN) (hgxN) ((by first | exact ne_y hN_ hv_ (Or.inl (by assumption)) | exact ne_y hN_ hv_ (Or.inr (by first | assumption | exact Int32.not_le.mp (by assumption))) | exact ne_n hN_ hv_ (by first | assumption | exact Int32.not_lt.mpr (by assumption)) (by first | assumption | exact Int32.not_lt.mpr (by assumption)))) hP hD hS (lv_sub hl [0, 3, 4, 5, 6, 7] rfl)
        refine lv_iload hx hb (fk_get fk_cX11_nearest_1 9 rfl) (lv_at hl 0 rfl) ?_
        refine lv_istore (lv' := [(4, .int (r_19)), (7, .int (r_19)), (6, .ref (ad i_42)), (5, .int ((nI c))), (3, .int (v3)), (2, .ref (ad (9 + 2))), (0, .ref (ad 0)), (1, .int (x))]) hx hb (fk_get fk_cX11_nearest_1 10 rfl) hl (by decide) rfl (fun ls hl => ?_)
        refine lv_iload hx hb (fk_get fk_cX11_nearest_1 11 rfl) (lv_at hl 3 rfl) ?_
        refine lv_istore_n (lv' := [(3, .int ((nI c))), (4, .int (r_19)), (7, .int (r_19)), (6, .ref (ad i_42)), (5, .int ((nI c))), (2, .ref (ad (9 + 2))), (0, .ref (ad 0)), (1, .int (x))]) hx hb (fk_get fk_cX11_nearest_1 12 rfl) rfl hl (by decide) rfl (fun ls hl => ?_)
        refine lv_iinc (v := (nI (c + 1))) (lv' := [(5, .int ((nI (c + 1)))), (3, .int ((nI c))), (4, .int (r_19)), (7, .int (r_19)), (6, .ref (ad i_42)), (2, .ref (ad (9 + 2))), (0, .ref (ad 0)), (1, .int (x))]) hx hb (fk_get fk_cX11_nearest_1 13 rfl) hl (k := 4) rfl ((nI_1 c)) (by decide) rfl (fun ls hl => ?_)
        refine lv_goto (tgt := 27) hx hb (fk_get fk_cX11_nearest_1 14 rfl) (by decide) ?_
        exact ih (c + 1) ((nI c)) (r_19) (S_16) _ _ ls (hX_17) (hF_18) (by omega) (by omega) (hnN) (hcfN) (hofN) (hgxN) ((by first | exact ne_y hN_ hv_ (Or.inl (by assumption)) | exact ne_y hN_ hv_ (Or.inr (by first | assumption | exact Int32.not_le.mp (by assumption))) | exact ne_n hN_ hv_ (by first | assumption | exact Int32.not_lt.mpr (by assumption)) (by first | assumption | exact Int32.not_lt.mpr (by assumption)))) hP hD hS (lv_sub hl [0, 2, 1, 5, 6, 7] rfl)
    exact lp_9 (n + 1) (0) ((-5)) (0) (S_6) _ _ ls (hX_7) (hF_8) (by omega) (by omega) (hn2_) (hcf2_) (hof2_) (fun d _ hd => hgx2_ d hd) (rfl) hP hD hS (lv_sub hl [0, 1, 2, 3, 4, 5] rfl)
  have p_c_3 := if1_t hw_2 c_3
  have hny_ := nan2 p_c_3
  refine lv_bipush (v := (-2)) hx hb (fk_get fk_cX11_nearest_0 5 rfl) (by decide) ?_
  subst hQ
  have hpost : XI S ∧ Fr (fun j k => (j = 11 ∧ 3 ≤ k ∧ k ≤ 7) ∨ (33 ≤ j ∧ j < 39 ∧ 2 ≤ k ∧ k ≤ 9) ∨ (51 ≤ j ∧ j < 57 ∧ k = 99) ∨ ((j = 17 ∨ j = 20) ∧ k = 99)) S S ∧ (((-2) : Int32) = neaP (fF S (9 + 0) 6) (lstW 3 1 C) τ C n (fun d => gX S (21 + 6 * 0 + d) (K d)) x) := by
    exact ⟨hX, (Fr.rf : Fr (fun j k => (j = 11 ∧ 3 ≤ k ∧ k ≤ 7) ∨ (33 ≤ j ∧ j < 39 ∧ 2 ≤ k ∧ k ≤ 9) ∨ (51 ≤ j ∧ j < 57 ∧ k = 99) ∨ ((j = 17 ∨ j = 20) ∧ k = 99)) S S), (by first | exact (if_neg hny_).symm | exact hfi_)⟩
  exact W.iret (v := (-2)) hx hb hr (fun t_ ht_ hW_ => ⟨⟨(-2), S, rfl, hpost, by rw [ht_]; exact hP, va_K.moved hW_.alike hK, hD⟩, hS.F ht_⟩) hS.2.2 (fk_get fk_cX11_nearest_0 6 rfl)
