theorem nI_dn {k : Nat} (h : 1 ≤ k) : nI k - 1 + -1 = nI (k - 1) - 1 := by
  obtain ⟨j, rfl⟩ : ∃ j, k = j + 1 := ⟨k - 1, by omega⟩
  rw [← nI_1 j, Int32.sub_eq_add_neg, Int32.sub_eq_add_neg, Int32.add_assoc (nI j) 1 (-1), show (1 : Int32) + -1 = 0 from by decide, Int32.add_zero, Nat.add_sub_cancel]
set_option maxHeartbeats 800000 in
set_option maxRecDepth 100000 in
theorem c_nearest (l : Launch) (G : GG) (ad : Nat → Nat) (S : FS) (sz : Nat) (n : Nat) (n_ : Int32) (hn : fF S 0 1 = nI n) (hn6 : n ≤ 6) (hHOK : HOK S) (hSV : SV 9999 S) (h15 : fF S 0 15 = 0) : Met l yX12_nearest (Cond.code yX12_nearest cX12_nearest 7 (some .int) :: TBL) ({ frames := 9, cells := 0, slots := 0, locals := 258 } : Room) (PcW G (wR G ad S) sz [.ref (ad 0), .int (n_)]) (va_Qi (fun (r : Int32) (S' : FS) => QP (setF S 0 8 0) S') (fun S' t => BW G (va_A (wR G ad S) sz) (wR G ad S') t) (va_A (wR G ad S) sz)) 0 0 (va_A (wR G ad S) sz) := by
  refine Met.ofW (cc := cX12_nearest) (maxL := 7) (ret := (some .int)) (by decide) rfl ?_
  intro p e s m args below meth c₀ s₁ B hml hv
  obtain ⟨rfl, hsz, hP, hK, hD0⟩ := hv
  have hx := B.exec
  have hb := B.bytes
  have hr := B.returns
  have hT : ∀ w ∈ TBL, w.before ([.ref (ad 0), .int (n_)] : List Value).toArray s = true := fun w h => atoms_spec (ws := Cond.code yX12_nearest cX12_nearest 7 (some .int) :: TBL) B.pre w (List.mem_cons_of_mem _ h)
  have hown : s.vm.findClass "LittleMoreModel" = some m.cls := findClass_of_methodNamed B.named
  have hlocks := B.notSynchronized
  subst hsz
  have hD := hD0.self (sz := s.heap.size)
  generalize hAe : va_A (wR G ad S) s.heap.size = A at hD ⊢
  have hA : ∀ q : Nat, s.heap.size ≤ q → A q := fun q h => by rw [← hAe]; exact Or.inr h
  have hS : va_S A s.heap s.heap [] := va_S.rf
  have hP : va_P G.1 vwCl (wR G ad S) s.heap := hP
  have hl := lv_entry ([.ref (ad 0), .int (n_)]) (n := 7) (Nat.le_of_ble_eq_true rfl)
  rw [lg_entry_eq]
  generalize (lg_sl ([.ref (ad 0), .int (n_)]) ++ List.replicate (7 - (lg_sl ([.ref (ad 0), .int (n_)])).length) Slot.unset).toArray = ls at hl ⊢
  have hl : lv_has ls 7 [(0, .ref (ad 0)), (1, .int (n_))] := hl
  refine W_abs (fun Q hQ => ?_)
  generalize ([.ref (ad 0), .int (n_)] : List Value).toArray = args at hT hQ ⊢
  refine lv_aload_n hx hb (fk_get fk_cX12_nearest_0 0 rfl) rfl (lv_at hl 0 rfl) ?_
  refine lv_iconst (v := 0) hx hb (fk_get fk_cX12_nearest_0 1 rfl) (by decide) ?_
  refine va_put (D := G.1) (ci := 14) (v := .int (0)) (ty := .int) (C := RX12) (T := TX12) (N := 49) hx hb hT inX12 tyX12 tyX12_ok nmX12 hown hK hP hD hS 0 (ix_at (by decide) (cR_0 G ad S)) rfl 8 (by decide) (hT _ m5_109) (fun _ h9 => h9) rfl (by decide +kernel) rfl rfl (Nat.le_of_ble_eq_true rfl) (fk_get fk_cX12_nearest_0 2 rfl) (fun H locs hP hD hS => ?_)
  rw [pR_thrown G ad S (0)] at hP hD
  refine lv_iload_n hx hb (fk_get fk_cX12_nearest_0 3 rfl) rfl (lv_at hl 1 rfl) ?_
  refine lv_i2l hx hb (fk_get fk_cX12_nearest_0 4 rfl) rfl ?_
  refine lv_lconst (v := 1) hx hb (fk_get fk_cX12_nearest_0 5 rfl) (by decide) ?_
  refine lv_ldc2 (v := 20) hx hb hown (hT _ m6_166) (fk_get fk_cX12_nearest_0 6 rfl) ?_
  refine vp_callSi (W.runS (As := [.long ((n_).toInt64), .long (1), .long (20)]) (rest := []) ⟨hx, hb, hml, hown, hT⟩ (c_in l ((n_).toInt64) (1) (20) ) (tS 3 hT m6_31 m6_32 m1_17 m6_33 rfl rfl (by decide +kernel) ⟨Nat.le_of_ble_eq_true rfl, Nat.le_of_ble_eq_true rfl⟩) ⟨PcN_blind, PcN_of _ _ _⟩ rfl rfl hl.1 rfl (lv_room (Nat.le_of_ble_eq_true rfl)) (fk_get fk_cX12_nearest_0 7 rfl) ⟨Nat.zero_le _, Nat.zero_le _⟩) (fun r_1 hw_2 => ?_)
  try dsimp only at hw_2
  have hw_2 := in_eq hw_2 (n_) 1 20 (rfl) (by decide) (by decide)
  refine lv_if_ne (tgt := 20) hx hb (fk_get fk_cX12_nearest_0 8 rfl) (by decide) (fun c_3 => ?_) (fun c_3 => ?_)
  · have p_c_3 := if1_t hw_2 c_3
    obtain ⟨hw20, ew⟩ := in_n (b := 20) ⟨Int32.le_trans (by decide) p_c_3.1, p_c_3.2⟩ (by decide)
    refine lv_bipush (v := (-5)) hx hb (fk_get fk_cX12_nearest_0 11 rfl) (by decide) ?_
    refine lv_istore_n (lv' := [(2, .int ((-5))), (0, .ref (ad 0)), (1, .int (n_))]) hx hb (fk_get fk_cX12_nearest_0 12 rfl) rfl hl (by decide) rfl (fun ls hl => ?_)
    refine lv_iconst (v := 0) hx hb (fk_get fk_cX12_nearest_0 13 rfl) (by decide) ?_
    refine lv_istore_n (lv' := [(3, .int (0)), (2, .int ((-5))), (0, .ref (ad 0)), (1, .int (n_))]) hx hb (fk_get fk_cX12_nearest_0 14 rfl) rfl hl (by decide) rfl (fun ls hl => ?_)
    refine lv_aload_n hx hb (fk_get fk_cX12_nearest_0 15 rfl) rfl (lv_at hl 2 rfl) ?_
    have hFc := va_self hD hS hA
    refine va_callv (va_runV (As := []) (rest := []) ⟨hx, hb, hml, hown, hT⟩ (c_open l G ad (setF S 0 8 (0)) H.size (9999) (hSV)) (tV 0 hT m6_218 m6_220 mp_49 m1_17 m6_221 rfl rfl (by decide +kernel) ⟨Nat.le_of_ble_eq_true rfl, Nat.le_of_ble_eq_true rfl⟩) ⟨PcW_blind, va_recv hK hP (ci := 14) (q0 := 0) rfl (ix_at (by decide) (cR_0 G ad (setF S 0 8 (0)))), PcW_of hP hK hD _⟩ rfl rfl hl.1 rfl (lv_room (Nat.le_of_ble_eq_true rfl)) (fk_get fk_cX12_nearest_0 16 rfl) ⟨Nat.zero_le _, Nat.zero_le _⟩) hS (fun q _ h => hFc q h) hFc (fun S_6 t_ H locs ht_ hvm_ hw_5 hB_ hz_ hk_ hS => ?_)
    obtain ⟨hP, -, hD1_⟩ := hB_
    rw [ht_] at hP
    have hD : va_D A (wR G ad S_6) := hD1_.weaken (fun k q _ h => hFc q.1 h)
    try dsimp only at hw_5
    have hI0 := hw_5
    refine lv_iconst (v := 0) hx hb (fk_get fk_cX12_nearest_0 17 rfl) (by decide) ?_
    refine lv_istore (lv' := [(4, .int (0)), (3, .int (0)), (2, .int ((-5))), (0, .ref (ad 0)), (1, .int (n_))]) hx hb (fk_get fk_cX12_nearest_0 18 rfl) hl (by decide) rfl (fun ls hl => ?_)
    have lp_7 : ∀ (fu : Nat) (k : Nat) (v2 v3 : Int32) (SL : FS) (H_9 : Heap) (locs_10 : List Loc) (ls : Array Slot),  (k ≤ n) → (n < k + fu) → (MI (setF S 0 8 0) SL (9999 + 20 * k)) → va_P G.1 vwCl (wR G ad SL) H_9 → va_D A (wR G ad SL) → va_S A s.heap H_9 locs_10 → lv_has ls 7 [(4, .int ((nI k))), (3, .int (v3)), (2, .int (v2)), (0, .ref (ad 0)), (1, .int (n_))] → W p l e ({ frames := 9, cells := 0, slots := 0, locals := 258 } : Room) s m args below meth c₀ H_9 locs_10 0 0 Q (F0 m 32 ls []) := by
      intro fu
      induction fu with
      | zero =>
        intro k v2 v3 SL H_9 locs_10 ls hk hf hI hP hD hS hl
        exact absurd hf (by omega)
      | succ fu ih =>
        intro k v2 v3 SL H_9 locs_10 ls hk hf hI hP hD hS hl
        refine lv_iload hx hb (fk_get fk_cX12_nearest_0 19 rfl) (lv_at hl 0 rfl) ?_
        refine lv_aload_n hx hb (fk_get fk_cX12_nearest_0 20 rfl) rfl (lv_at hl 3 rfl) ?_
        refine va_get (D := G.1) (ci := 14) (v := .int ((fF SL 0 1))) (C := RX12) (T := TX12) (N := 49) hx hb hT inX12 hown hK hP 0 (ix_at (by decide) (cR_0 G ad SL)) rfl 1 (by decide) (hT _ m5_102) (fun _ h9 => h9) rfl (fk_get fk_cX12_nearest_0 21 rfl) ?_
        refine lv_icmp_ge (tgt := 110) hx hb (fk_get fk_cX12_nearest_0 22 rfl) (by decide) (fun c_11 => ?_) (fun c_11 => ?_)
        · refine lv_aload_n hx hb (fk_get fk_cX12_nearest_1 27 rfl) rfl (lv_at hl 3 rfl) ?_
          have hFc := va_self hD hS hA
          refine va_callv (va_runV (As := []) (rest := []) ⟨hx, hb, hml, hown, hT⟩ (c_close l G ad SL H_9.size ((setF S 0 8 0)) (9999 + 20 * k) (hI)) (tV 0 hT m6_226 m6_228 mp_51 m1_17 m6_229 rfl rfl (by decide +kernel) ⟨Nat.le_of_ble_eq_true rfl, Nat.le_of_ble_eq_true rfl⟩) ⟨PcW_blind, va_recv hK hP (ci := 14) (q0 := 0) rfl (ix_at (by decide) (cR_0 G ad SL)), PcW_of hP hK hD _⟩ rfl rfl hl.1 rfl (lv_room (Nat.le_of_ble_eq_true rfl)) (fk_get fk_cX12_nearest_1 28 rfl) ⟨Nat.zero_le _, Nat.zero_le _⟩) hS (fun q _ h => hFc q h) hFc (fun S_14 t_ H locs ht_ hvm_ hw_13 hB_ hz_ hk_ hS => ?_)
          obtain ⟨hP, -, hD1_⟩ := hB_
          rw [ht_] at hP
          have hD : va_D A (wR G ad S_14) := hD1_.weaken (fun k q _ h => hFc q.1 h)
          try dsimp only at hw_13
          have hZq := hw_13
          refine lv_iload_n hx hb (fk_get fk_cX12_nearest_1 29 rfl) rfl (lv_at hl 2 rfl) ?_
          subst hQ
          have hpost : QP (setF S 0 8 0) S_14 := by
            first | exact QP.rf h15 | exact hZq
          exact W.iret (v := v2) hx hb hr (fun t_ ht_ hW_ => ⟨⟨v2, S_14, rfl, hpost, by rw [ht_]; exact hP, va_K.moved hW_.alike hK, hD⟩, hS.F ht_⟩) hS.2.2 (fk_get fk_cX12_nearest_1 30 rfl)
        have hlt : k < n := Nat.lt_of_not_le (fun wk => c_11 (by rw [show fF SL 0 1 = nI n from hI.f (by decide) hn]; exact (nI_leI (a := n) (b := k) (by omega) (by omega)).mpr wk))
        refine lv_aload_n hx hb (fk_get fk_cX12_nearest_0 23 rfl) rfl (lv_at hl 3 rfl) ?_
        refine lv_iload hx hb (fk_get fk_cX12_nearest_0 24 rfl) (lv_at hl 0 rfl) ?_
        refine lv_iload_n hx hb (fk_get fk_cX12_nearest_0 25 rfl) rfl (lv_at hl 4 rfl) ?_
        have hFc := va_self hD hS hA
        refine va_calli (va_runV (As := [.int ((nI k)), .int (n_)]) (rest := []) ⟨hx, hb, hml, hown, hT⟩ (c_buysInE l G ad SL H_9.size ((nI k)) (k) (9999 + 20 * k) (n_.toNatClampNeg) (hI.HOK hHOK) (hI.SV) (by omega) (rfl) (by omega) (by omega) (n_) (ew)) (tV 2 hT m6_222 m6_224 mp_50 m1_17 m6_225 rfl rfl (by decide +kernel) ⟨Nat.le_of_ble_eq_true rfl, Nat.le_of_ble_eq_true rfl⟩) ⟨PcW_blind, va_recv hK hP (ci := 14) (q0 := 0) rfl (ix_at (by decide) (cR_0 G ad SL)), PcW_of hP hK hD _⟩ rfl rfl hl.1 rfl (lv_room (Nat.le_of_ble_eq_true rfl)) (fk_get fk_cX12_nearest_0 26 rfl) ⟨Nat.zero_le _, Nat.zero_le _⟩) hS (fun q _ h => hFc q h) hFc (fun r_15 S_17 t_ H locs ht_ hvm_ hw_16 hB_ hz_ hk_ hS => ?_)
        obtain ⟨hP, -, hD1_⟩ := hB_
        rw [ht_] at hP
        have hD : va_D A (wR G ad S_17) := hD1_.weaken (fun k q _ h => hFc q.1 h)
        try dsimp only at hw_16
        obtain ⟨hM2, hS2⟩ := hw_16
        have hI1 := (hI.M hM2 hS2).mono (C := 9999 + 20 * (k + 1)) (by omega)
        refine lv_iload_n hx hb (fk_get fk_cX12_nearest_0 27 rfl) rfl (lv_at hl 4 rfl) ?_
        refine lv_aload_n hx hb (fk_get fk_cX12_nearest_0 28 rfl) rfl (lv_at hl 3 rfl) ?_
        refine lv_iload hx hb (fk_get fk_cX12_nearest_0 29 rfl) (lv_at hl 0 rfl) ?_
        refine lv_iconst (v := 2) hx hb (fk_get fk_cX12_nearest_0 30 rfl) (by decide) ?_
        refine vp_callSi (W.runV (As := [.int ((nI k)), .int (2)]) (rest := [.int (n_), .int (r_15)]) ⟨hx, hb, hml, hown, hT⟩ (c_of0 l G ad S_17 H.size ((nI k)) (2) (((12 * k) + 2)) (n_add (n_mul (rfl) (rfl)) (rfl)) (by omega)) (tV 2 hT m6_119 m6_121 mp_34 m1_17 m6_122 rfl rfl (by decide +kernel) ⟨Nat.le_of_ble_eq_true rfl, Nat.le_of_ble_eq_true rfl⟩) ⟨PcW_blind, va_recv hK hP (ci := 14) (q0 := 0) rfl (ix_at (by decide) (cR_0 G ad S_17)), PcW_of hP hK hD _⟩ rfl rfl hl.1 rfl (lv_room (Nat.le_of_ble_eq_true rfl)) (fk_get fk_cX12_nearest_0 31 rfl) ⟨Nat.zero_le _, Nat.zero_le _⟩) (fun r_18 hw_19 => ?_)
        try dsimp only at hw_19
        refine lv_imul hx hb (fk_get fk_cX12_nearest_1 0 rfl) ?_
        refine lv_isub hx hb (fk_get fk_cX12_nearest_1 1 rfl) ?_
        refine vp_callSi (W.runS (As := [.int ((r_15 - (n_ * r_18)))]) (rest := []) ⟨hx, hb, hml, hown, hT⟩ (c_plainly l ((r_15 - (n_ * r_18))) ) (tS 1 hT m6_234 m6_235 m1_17 m6_236 rfl rfl (by decide +kernel) ⟨Nat.le_of_ble_eq_true rfl, Nat.le_of_ble_eq_true rfl⟩) ⟨PcN_blind, PcN_of _ _ _⟩ rfl rfl hl.1 rfl (lv_room (Nat.le_of_ble_eq_true rfl)) (fk_get fk_cX12_nearest_1 2 rfl) ⟨Nat.zero_le _, Nat.zero_le _⟩) (fun r_20 hw_21 => ?_)
        try dsimp only at hw_21
        refine lv_istore (lv' := [(5, .int (r_20)), (4, .int ((nI k))), (3, .int (v3)), (2, .int (v2)), (0, .ref (ad 0)), (1, .int (n_))]) hx hb (fk_get fk_cX12_nearest_1 3 rfl) hl (by decide) rfl (fun ls hl => ?_)
        refine lv_iload_n hx hb (fk_get fk_cX12_nearest_1 4 rfl) rfl (lv_at hl 3 rfl) ?_
        refine lv_if_lt (tgt := 73) hx hb (fk_get fk_cX12_nearest_1 5 rfl) (by decide) (fun c_22 => ?_) (fun c_22 => ?_)
        · refine lv_iconst (v := 1) hx hb (fk_get fk_cX12_nearest_1 9 rfl) (by decide) ?_
          refine lv_goto (tgt := 78) hx hb (fk_get fk_cX12_nearest_1 10 rfl) (by decide) ?_
          refine lv_istore (lv' := [(6, .int (1)), (5, .int (r_20)), (4, .int ((nI k))), (3, .int (v3)), (2, .int (v2)), (0, .ref (ad 0)), (1, .int (n_))]) hx hb (fk_get fk_cX12_nearest_1 12 rfl) hl (by decide) rfl (fun ls hl => ?_)
          refine lv_iload hx hb (fk_get fk_cX12_nearest_1 13 rfl) (lv_at hl 0 rfl) ?_
          refine lv_if_eq (tgt := 90) hx hb (fk_get fk_cX12_nearest_1 14 rfl) (by decide) (fun c_23 => absurd c_23 ((by decide))) (fun _ => ?_)
          refine lv_iload hx hb (fk_get fk_cX12_nearest_1 15 rfl) (lv_at hl 2 rfl) ?_
          refine lv_goto (tgt := 91) hx hb (fk_get fk_cX12_nearest_1 16 rfl) (by decide) ?_
          refine lv_istore_n (lv' := [(2, .int ((nI k))), (6, .int (1)), (5, .int (r_20)), (4, .int ((nI k))), (3, .int (v3)), (0, .ref (ad 0)), (1, .int (n_))]) hx hb (fk_get fk_cX12_nearest_1 18 rfl) rfl hl (by decide) rfl (fun ls hl => ?_)
          refine lv_iload hx hb (fk_get fk_cX12_nearest_1 19 rfl) (lv_at hl 1 rfl) ?_
          refine lv_if_eq (tgt := 102) hx hb (fk_get fk_cX12_nearest_1 20 rfl) (by decide) (fun c_24 => absurd c_24 ((by decide))) (fun _ => ?_)
          refine lv_iload hx hb (fk_get fk_cX12_nearest_1 21 rfl) (lv_at hl 2 rfl) ?_
          refine lv_goto (tgt := 103) hx hb (fk_get fk_cX12_nearest_1 22 rfl) (by decide) ?_
          refine lv_istore_n (lv' := [(3, .int (r_20)), (2, .int ((nI k))), (6, .int (1)), (5, .int (r_20)), (4, .int ((nI k))), (0, .ref (ad 0)), (1, .int (n_))]) hx hb (fk_get fk_cX12_nearest_1 24 rfl) rfl hl (by decide) rfl (fun ls hl => ?_)
          refine lv_iinc (v := (nI (k + 1))) (lv' := [(4, .int ((nI (k + 1)))), (3, .int (r_20)), (2, .int ((nI k))), (6, .int (1)), (5, .int (r_20)), (0, .ref (ad 0)), (1, .int (n_))]) hx hb (fk_get fk_cX12_nearest_1 25 rfl) hl (k := 4) rfl ((nI_1 k)) (by decide) rfl (fun ls hl => ?_)
          refine lv_goto (tgt := 32) hx hb (fk_get fk_cX12_nearest_1 26 rfl) (by decide) ?_
          exact ih (k + 1) ((nI k)) (r_20) (S_17) _ _ ls (by omega) (by omega) (hI1) hP hD hS (lv_sub hl [0, 1, 2, 5, 6] rfl)
        refine lv_iload hx hb (fk_get fk_cX12_nearest_1 6 rfl) (lv_at hl 0 rfl) ?_
        refine lv_iload_n hx hb (fk_get fk_cX12_nearest_1 7 rfl) rfl (lv_at hl 2 rfl) ?_
        refine lv_icmp_ge (tgt := 77) hx hb (fk_get fk_cX12_nearest_1 8 rfl) (by decide) (fun c_25 => ?_) (fun c_25 => ?_)
        · refine lv_iconst (v := 0) hx hb (fk_get fk_cX12_nearest_1 11 rfl) (by decide) ?_
          refine lv_istore (lv' := [(6, .int (0)), (5, .int (r_20)), (4, .int ((nI k))), (3, .int (v3)), (2, .int (v2)), (0, .ref (ad 0)), (1, .int (n_))]) hx hb (fk_get fk_cX12_nearest_1 12 rfl) hl (by decide) rfl (fun ls hl => ?_)
          refine lv_iload hx hb (fk_get fk_cX12_nearest_1 13 rfl) (lv_at hl 0 rfl) ?_
          refine lv_if_eq (tgt := 90) hx hb (fk_get fk_cX12_nearest_1 14 rfl) (by decide) (fun _ => ?_) (fun c_26 => absurd ((by decide)) c_26)
          refine lv_iload_n hx hb (fk_get fk_cX12_nearest_1 17 rfl) rfl (lv_at hl 4 rfl) ?_
          refine lv_istore_n (lv' := [(2, .int (v2)), (6, .int (0)), (5, .int (r_20)), (4, .int ((nI k))), (3, .int (v3)), (0, .ref (ad 0)), (1, .int (n_))]) hx hb (fk_get fk_cX12_nearest_1 18 rfl) rfl hl (by decide) rfl (fun ls hl => ?_)
          refine lv_iload hx hb (fk_get fk_cX12_nearest_1 19 rfl) (lv_at hl 1 rfl) ?_
          refine lv_if_eq (tgt := 102) hx hb (fk_get fk_cX12_nearest_1 20 rfl) (by decide) (fun _ => ?_) (fun c_27 => absurd ((by decide)) c_27)
          refine lv_iload_n hx hb (fk_get fk_cX12_nearest_1 23 rfl) rfl (lv_at hl 4 rfl) ?_
          refine lv_istore_n (lv' := [(3, .int (v3)), (2, .int (v2)), (6, .int (0)), (5, .int (r_20)), (4, .int ((nI k))), (0, .ref (ad 0)), (1, .int (n_))]) hx hb (fk_get fk_cX12_nearest_1 24 rfl) rfl hl (by decide) rfl (fun ls hl => ?_)
          refine lv_iinc (v := (nI (k + 1))) (lv' := [(4, .int ((nI (k + 1)))), (3, .int (v3)), (2, .int (v2)), (6, .int (0)), (5, .int (r_20)), (0, .ref (ad 0)), (1, .int (n_))]) hx hb (fk_get fk_cX12_nearest_1 25 rfl) hl (k := 4) rfl ((nI_1 k)) (by decide) rfl (fun ls hl => ?_)
          refine lv_goto (tgt := 32) hx hb (fk_get fk_cX12_nearest_1 26 rfl) (by decide) ?_
          exact ih (k + 1) (v2) (v3) (S_17) _ _ ls (by omega) (by omega) (hI1) hP hD hS (lv_sub hl [0, 1, 2, 5, 6] rfl)
        refine lv_iconst (v := 1) hx hb (fk_get fk_cX12_nearest_1 9 rfl) (by decide) ?_
        refine lv_goto (tgt := 78) hx hb (fk_get fk_cX12_nearest_1 10 rfl) (by decide) ?_
        refine lv_istore (lv' := [(6, .int (1)), (5, .int (r_20)), (4, .int ((nI k))), (3, .int (v3)), (2, .int (v2)), (0, .ref (ad 0)), (1, .int (n_))]) hx hb (fk_get fk_cX12_nearest_1 12 rfl) hl (by decide) rfl (fun ls hl => ?_)
        refine lv_iload hx hb (fk_get fk_cX12_nearest_1 13 rfl) (lv_at hl 0 rfl) ?_
        refine lv_if_eq (tgt := 90) hx hb (fk_get fk_cX12_nearest_1 14 rfl) (by decide) (fun c_28 => absurd c_28 ((by decide))) (fun _ => ?_)
        refine lv_iload hx hb (fk_get fk_cX12_nearest_1 15 rfl) (lv_at hl 2 rfl) ?_
        refine lv_goto (tgt := 91) hx hb (fk_get fk_cX12_nearest_1 16 rfl) (by decide) ?_
        refine lv_istore_n (lv' := [(2, .int ((nI k))), (6, .int (1)), (5, .int (r_20)), (4, .int ((nI k))), (3, .int (v3)), (0, .ref (ad 0)), (1, .int (n_))]) hx hb (fk_get fk_cX12_nearest_1 18 rfl) rfl hl (by decide) rfl (fun ls hl => ?_)
        refine lv_iload hx hb (fk_get fk_cX12_nearest_1 19 rfl) (lv_at hl 1 rfl) ?_
        refine lv_if_eq (tgt := 102) hx hb (fk_get fk_cX12_nearest_1 20 rfl) (by decide) (fun c_29 => absurd c_29 ((by decide))) (fun _ => ?_)
        refine lv_iload hx hb (fk_get fk_cX12_nearest_1 21 rfl) (lv_at hl 2 rfl) ?_
        refine lv_goto (tgt := 103) hx hb (fk_get fk_cX12_nearest_1 22 rfl) (by decide) ?_
        refine lv_istore_n (lv' := [(3, .int (r_20)), (2, .int ((nI k))), (6, .int (1)), (5, .int (r_20)), (4, .int ((nI k))), (0, .ref (ad 0)), (1, .int (n_))]) hx hb (fk_get fk_cX12_nearest_1 24 rfl) rfl hl (by decide) rfl (fun ls hl => ?_)
        refine lv_iinc (v := (nI (k + 1))) (lv' := [(4, .int ((nI (k + 1)))), (3, .int (r_20)), (2, .int ((nI k))), (6, .int (1)), (5, .int (r_20)), (0, .ref (ad 0)), (1, .int (n_))]) hx hb (fk_get fk_cX12_nearest_1 25 rfl) hl (k := 4) rfl ((nI_1 k)) (by decide) rfl (fun ls hl => ?_)
        refine lv_goto (tgt := 32) hx hb (fk_get fk_cX12_nearest_1 26 rfl) (by decide) ?_
        exact ih (k + 1) ((nI k)) (r_20) (S_17) _ _ ls (by omega) (by omega) (hI1) hP hD hS (lv_sub hl [0, 1, 2, 5, 6] rfl)
    exact lp_7 (n + 1) (0) ((-5)) (0) (S_6) _ _ ls (by omega) (by omega) (hI0) hP hD hS (lv_sub hl [0, 1, 2, 3, 4] rfl)
  have p_c_3 := if1_f hw_2 c_3
  refine lv_bipush (v := (-2)) hx hb (fk_get fk_cX12_nearest_0 9 rfl) (by decide) ?_
  subst hQ
  have hpost : QP (setF S 0 8 0) (setF S 0 8 (0)) := by
    first | exact QP.rf h15 | exact hZq
  exact W.iret (v := (-2)) hx hb hr (fun t_ ht_ hW_ => ⟨⟨(-2), (setF S 0 8 (0)), rfl, hpost, by rw [ht_]; exact hP, va_K.moved hW_.alike hK, hD⟩, hS.F ht_⟩) hS.2.2 (fk_get fk_cX12_nearest_0 10 rfl)
set_option maxHeartbeats 800000 in
set_option maxRecDepth 100000 in
theorem c_who (l : Launch) (G : GG) (ad : Nat → Nat) (S : FS) (sz : Nat) (n z : Nat) (hn : fF S 0 1 = nI n) (hn6 : n ≤ 6) (hHOK : HOK S) (hSV : SV 9999 S) (h15 : fF S 0 15 = 0) (hz : fF S 0 5 = nI z) (hz4 : z ≤ 4) : Met l yX12_who (Cond.code yX12_who cX12_who 3 (some .int) :: TBL) ({ frames := 9, cells := 0, slots := 0, locals := 257 } : Room) (PcW G (wR G ad S) sz [.ref (ad 0)]) (va_Qi (fun (r : Int32) (S' : FS) => QP (setF S 0 8 0) S') (fun S' t => BW G (va_A (wR G ad S) sz) (wR G ad S') t) (va_A (wR G ad S) sz)) 0 0 (va_A (wR G ad S) sz) := by
  refine Met.ofW (cc := cX12_who) (maxL := 3) (ret := (some .int)) (by decide) rfl ?_
  intro p e s m args below meth c₀ s₁ B hml hv
  obtain ⟨rfl, hsz, hP, hK, hD0⟩ := hv
  have hx := B.exec
  have hb := B.bytes
  have hr := B.returns
  have hT : ∀ w ∈ TBL, w.before ([.ref (ad 0)] : List Value).toArray s = true := fun w h => atoms_spec (ws := Cond.code yX12_who cX12_who 3 (some .int) :: TBL) B.pre w (List.mem_cons_of_mem _ h)
  have hown : s.vm.findClass "LittleMoreModel" = some m.cls := findClass_of_methodNamed B.named
  have hlocks := B.notSynchronized
  subst hsz
  have hD := hD0.self (sz := s.heap.size)
  generalize hAe : va_A (wR G ad S) s.heap.size = A at hD ⊢
  have hA : ∀ q : Nat, s.heap.size ≤ q → A q := fun q h => by rw [← hAe]; exact Or.inr h
  have hS : va_S A s.heap s.heap [] := va_S.rf
  have hP : va_P G.1 vwCl (wR G ad S) s.heap := hP
  have hl := lv_entry ([.ref (ad 0)]) (n := 3) (Nat.le_of_ble_eq_true rfl)
  rw [lg_entry_eq]
  generalize (lg_sl ([.ref (ad 0)]) ++ List.replicate (3 - (lg_sl ([.ref (ad 0)])).length) Slot.unset).toArray = ls at hl ⊢
  have hl : lv_has ls 3 [(0, .ref (ad 0))] := hl
  refine W_abs (fun Q hQ => ?_)
  generalize ([.ref (ad 0)] : List Value).toArray = args at hT hQ ⊢
  refine lv_aload_n hx hb (fk_get fk_cX12_who_0 0 rfl) rfl (lv_at hl 0 rfl) ?_
  refine lv_iconst (v := 0) hx hb (fk_get fk_cX12_who_0 1 rfl) (by decide) ?_
  refine va_put (D := G.1) (ci := 14) (v := .int (0)) (ty := .int) (C := RX12) (T := TX12) (N := 49) hx hb hT inX12 tyX12 tyX12_ok nmX12 hown hK hP hD hS 0 (ix_at (by decide) (cR_0 G ad S)) rfl 8 (by decide) (hT _ m5_109) (fun _ h9 => h9) rfl (by decide +kernel) rfl rfl (Nat.le_of_ble_eq_true rfl) (fk_get fk_cX12_who_0 2 rfl) (fun H locs hP hD hS => ?_)
  rw [pR_thrown G ad S (0)] at hP hD
  refine lv_iconst (v := 0) hx hb (fk_get fk_cX12_who_0 3 rfl) (by decide) ?_
  refine lv_istore_n (lv' := [(1, .int (0)), (0, .ref (ad 0))]) hx hb (fk_get fk_cX12_who_0 4 rfl) rfl hl (by decide) rfl (fun ls hl => ?_)
  refine lv_aload_n hx hb (fk_get fk_cX12_who_0 5 rfl) rfl (lv_at hl 1 rfl) ?_
  have hFc := va_self hD hS hA
  refine va_callv (va_runV (As := []) (rest := []) ⟨hx, hb, hml, hown, hT⟩ (c_open l G ad (setF S 0 8 (0)) H.size (9999) (hSV)) (tV 0 hT m6_218 m6_220 mp_49 m1_17 m6_221 rfl rfl (by decide +kernel) ⟨Nat.le_of_ble_eq_true rfl, Nat.le_of_ble_eq_true rfl⟩) ⟨PcW_blind, va_recv hK hP (ci := 14) (q0 := 0) rfl (ix_at (by decide) (cR_0 G ad (setF S 0 8 (0)))), PcW_of hP hK hD _⟩ rfl rfl hl.1 rfl (lv_room (Nat.le_of_ble_eq_true rfl)) (fk_get fk_cX12_who_0 6 rfl) ⟨Nat.zero_le _, Nat.zero_le _⟩) hS (fun q _ h => hFc q h) hFc (fun S_3 t_ H locs ht_ hvm_ hw_2 hB_ hz_ hk_ hS => ?_)
  obtain ⟨hP, -, hD1_⟩ := hB_
  rw [ht_] at hP
  have hD : va_D A (wR G ad S_3) := hD1_.weaken (fun k q _ h => hFc q.1 h)
  try dsimp only at hw_2
  have hI0 := hw_2
  refine lv_iconst (v := 0) hx hb (fk_get fk_cX12_who_0 7 rfl) (by decide) ?_
  refine lv_istore_n (lv' := [(2, .int (0)), (1, .int (0)), (0, .ref (ad 0))]) hx hb (fk_get fk_cX12_who_0 8 rfl) rfl hl (by decide) rfl (fun ls hl => ?_)
  have lp_4 : ∀ (fu : Nat) (k : Nat) (v1 : Int32) (SL : FS) (H_6 : Heap) (locs_7 : List Loc) (ls : Array Slot),  (k ≤ n) → (n < k + fu) → (MI (setF S 0 8 0) SL (9999 + 4 * k)) → va_P G.1 vwCl (wR G ad SL) H_6 → va_D A (wR G ad SL) → va_S A s.heap H_6 locs_7 → lv_has ls 3 [(2, .int ((nI k))), (1, .int (v1)), (0, .ref (ad 0))] → W p l e ({ frames := 9, cells := 0, slots := 0, locals := 257 } : Room) s m args below meth c₀ H_6 locs_7 0 0 Q (F0 m 13 ls []) := by
    intro fu
    induction fu with
    | zero =>
      intro k v1 SL H_6 locs_7 ls hk hf hI hP hD hS hl
      exact absurd hf (by omega)
    | succ fu ih =>
      intro k v1 SL H_6 locs_7 ls hk hf hI hP hD hS hl
      refine lv_iload_n hx hb (fk_get fk_cX12_who_0 9 rfl) rfl (lv_at hl 0 rfl) ?_
      refine lv_aload_n hx hb (fk_get fk_cX12_who_0 10 rfl) rfl (lv_at hl 2 rfl) ?_
      refine va_get (D := G.1) (ci := 14) (v := .int ((fF SL 0 1))) (C := RX12) (T := TX12) (N := 49) hx hb hT inX12 hown hK hP 0 (ix_at (by decide) (cR_0 G ad SL)) rfl 1 (by decide) (hT _ m5_102) (fun _ h9 => h9) rfl (fk_get fk_cX12_who_0 11 rfl) ?_
      refine lv_icmp_ge (tgt := 45) hx hb (fk_get fk_cX12_who_0 12 rfl) (by decide) (fun c_8 => ?_) (fun c_8 => ?_)
      · refine lv_aload_n hx hb (fk_get fk_cX12_who_0 27 rfl) rfl (lv_at hl 2 rfl) ?_
        have hFc := va_self hD hS hA
        refine va_callv (va_runV (As := []) (rest := []) ⟨hx, hb, hml, hown, hT⟩ (c_close l G ad SL H_6.size ((setF S 0 8 0)) (9999 + 4 * k) (hI)) (tV 0 hT m6_226 m6_228 mp_51 m1_17 m6_229 rfl rfl (by decide +kernel) ⟨Nat.le_of_ble_eq_true rfl, Nat.le_of_ble_eq_true rfl⟩) ⟨PcW_blind, va_recv hK hP (ci := 14) (q0 := 0) rfl (ix_at (by decide) (cR_0 G ad SL)), PcW_of hP hK hD _⟩ rfl rfl hl.1 rfl (lv_room (Nat.le_of_ble_eq_true rfl)) (fk_get fk_cX12_who_0 28 rfl) ⟨Nat.zero_le _, Nat.zero_le _⟩) hS (fun q _ h => hFc q h) hFc (fun S_11 t_ H locs ht_ hvm_ hw_10 hB_ hz_ hk_ hS => ?_)
        obtain ⟨hP, -, hD1_⟩ := hB_
        rw [ht_] at hP
        have hD : va_D A (wR G ad S_11) := hD1_.weaken (fun k q _ h => hFc q.1 h)
        try dsimp only at hw_10
        have hZq := hw_10
        refine lv_iload_n hx hb (fk_get fk_cX12_who_0 29 rfl) rfl (lv_at hl 1 rfl) ?_
        subst hQ
        have hpost : QP (setF S 0 8 0) S_11 := by
          first | exact QP.rf h15 | exact hZq
        exact W.iret (v := v1) hx hb hr (fun t_ ht_ hW_ => ⟨⟨v1, S_11, rfl, hpost, by rw [ht_]; exact hP, va_K.moved hW_.alike hK, hD⟩, hS.F ht_⟩) hS.2.2 (fk_get fk_cX12_who_0 30 rfl)
      have hlt : k < n := Nat.lt_of_not_le (fun wk => c_8 (by rw [show fF SL 0 1 = nI n from hI.f (by decide) hn]; exact (nI_leI (a := n) (b := k) (by omega) (by omega)).mpr wk))
      refine lv_iload_n hx hb (fk_get fk_cX12_who_0 13 rfl) rfl (lv_at hl 1 rfl) ?_
      refine lv_aload_n hx hb (fk_get fk_cX12_who_0 14 rfl) rfl (lv_at hl 2 rfl) ?_
      refine lv_iload_n hx hb (fk_get fk_cX12_who_0 15 rfl) rfl (lv_at hl 0 rfl) ?_
      have hFc := va_self hD hS hA
      refine va_calli (va_runV (As := [.int ((nI k))]) (rest := [.int (v1)]) ⟨hx, hb, hml, hown, hT⟩ (c_areSeen l G ad SL H_6.size ((nI k)) (k) (9999 + 4 * k) (z) (hI.HOK hHOK) (hI.SV) (by omega) (rfl) (by omega) (hI.f (by decide) hz) (hz4)) (tV 1 hT m7_40 m7_42 mp_54 m1_17 m7_43 rfl rfl (by decide +kernel) ⟨Nat.le_of_ble_eq_true rfl, Nat.le_of_ble_eq_true rfl⟩) ⟨PcW_blind, va_recv hK hP (ci := 14) (q0 := 0) rfl (ix_at (by decide) (cR_0 G ad SL)), PcW_of hP hK hD _⟩ rfl rfl hl.1 rfl (lv_room (Nat.le_of_ble_eq_true rfl)) (fk_get fk_cX12_who_0 16 rfl) ⟨Nat.zero_le _, Nat.zero_le _⟩) hS (fun q _ h => hFc q h) hFc (fun r_12 S_14 t_ H locs ht_ hvm_ hw_13 hB_ hz_ hk_ hS => ?_)
      obtain ⟨hP, -, hD1_⟩ := hB_
      rw [ht_] at hP
      have hD : va_D A (wR G ad S_14) := hD1_.weaken (fun k q _ h => hFc q.1 h)
      try dsimp only at hw_13
      obtain ⟨hM2, hS2, hr01⟩ := hw_13
      have hI1 := (hI.M hM2 hS2).mono (C := 9999 + 4 * (k + 1)) (by omega)
      refine lv_if_eq (tgt := 36) hx hb (fk_get fk_cX12_who_0 17 rfl) (by decide) (fun c_15 => ?_) (fun c_15 => ?_)
      · refine lv_iconst (v := 0) hx hb (fk_get fk_cX12_who_0 22 rfl) (by decide) ?_
        refine lv_ior hx hb (fk_get fk_cX12_who_0 23 rfl) ?_
        refine lv_istore_n (lv' := [(1, .int ((v1 ||| 0))), (2, .int ((nI k))), (0, .ref (ad 0))]) hx hb (fk_get fk_cX12_who_0 24 rfl) rfl hl (by decide) rfl (fun ls hl => ?_)
        refine lv_iinc (v := (nI (k + 1))) (lv' := [(2, .int ((nI (k + 1)))), (1, .int ((v1 ||| 0))), (0, .ref (ad 0))]) hx hb (fk_get fk_cX12_who_0 25 rfl) hl (k := 1) rfl ((nI_1 k)) (by decide) rfl (fun ls hl => ?_)
        refine lv_goto (tgt := 13) hx hb (fk_get fk_cX12_who_0 26 rfl) (by decide) ?_
        exact ih (k + 1) ((v1 ||| 0)) (S_14) _ _ ls (by omega) (by omega) (hI1) hP hD hS (lv_sub hl [0, 1, 2] rfl)
      refine lv_iconst (v := 1) hx hb (fk_get fk_cX12_who_0 18 rfl) (by decide) ?_
      refine lv_iload_n hx hb (fk_get fk_cX12_who_0 19 rfl) rfl (lv_at hl 0 rfl) ?_
      refine lv_ishl hx hb (fk_get fk_cX12_who_0 20 rfl) ?_
      refine lv_goto (tgt := 37) hx hb (fk_get fk_cX12_who_0 21 rfl) (by decide) ?_
      refine lv_ior hx hb (fk_get fk_cX12_who_0 23 rfl) ?_
      refine lv_istore_n (lv' := [(1, .int ((v1 ||| (1 <<< ((nI k) &&& 31))))), (2, .int ((nI k))), (0, .ref (ad 0))]) hx hb (fk_get fk_cX12_who_0 24 rfl) rfl hl (by decide) rfl (fun ls hl => ?_)
      refine lv_iinc (v := (nI (k + 1))) (lv' := [(2, .int ((nI (k + 1)))), (1, .int ((v1 ||| (1 <<< ((nI k) &&& 31))))), (0, .ref (ad 0))]) hx hb (fk_get fk_cX12_who_0 25 rfl) hl (k := 1) rfl ((nI_1 k)) (by decide) rfl (fun ls hl => ?_)
      refine lv_goto (tgt := 13) hx hb (fk_get fk_cX12_who_0 26 rfl) (by decide) ?_
      exact ih (k + 1) ((v1 ||| (1 <<< ((nI k) &&& 31)))) (S_14) _ _ ls (by omega) (by omega) (hI1) hP hD hS (lv_sub hl [0, 1, 2] rfl)
  exact lp_4 (n + 1) (0) (0) (S_3) _ _ ls (by omega) (by omega) (hI0) hP hD hS (lv_sub hl [0, 1, 2] rfl)
set_option maxHeartbeats 800000 in
set_option maxRecDepth 100000 in
theorem c_offs (l : Launch) (G : GG) (ad : Nat → Nat) (S : FS) (sz : Nat) (n z : Nat) (c n_ : Int32) (hn : fF S 0 1 = nI n) (hn6 : n ≤ 6) (hHOK : HOK S) (hSV : SV 9999 S) (h15 : fF S 0 15 = 0) (hz : fF S 0 5 = nI z) (hz4 : z ≤ 4) : Met l yX12_offs (Cond.code yX12_offs cX12_offs 6 (some .int) :: TBL) ({ frames := 9, cells := 0, slots := 0, locals := 257 } : Room) (PcW G (wR G ad S) sz [.ref (ad 0), .int (c), .int (n_)]) (va_Qi (fun (r : Int32) (S' : FS) => QP (setF S 0 8 0) S') (fun S' t => BW G (va_A (wR G ad S) sz) (wR G ad S') t) (va_A (wR G ad S) sz)) 0 0 (va_A (wR G ad S) sz) := by
  refine Met.ofW (cc := cX12_offs) (maxL := 6) (ret := (some .int)) (by decide) rfl ?_
  intro p e s m args below meth c₀ s₁ B hml hv
  obtain ⟨rfl, hsz, hP, hK, hD0⟩ := hv
  have hx := B.exec
  have hb := B.bytes
  have hr := B.returns
  have hT : ∀ w ∈ TBL, w.before ([.ref (ad 0), .int (c), .int (n_)] : List Value).toArray s = true := fun w h => atoms_spec (ws := Cond.code yX12_offs cX12_offs 6 (some .int) :: TBL) B.pre w (List.mem_cons_of_mem _ h)
  have hown : s.vm.findClass "LittleMoreModel" = some m.cls := findClass_of_methodNamed B.named
  have hlocks := B.notSynchronized
  subst hsz
  have hD := hD0.self (sz := s.heap.size)
  generalize hAe : va_A (wR G ad S) s.heap.size = A at hD ⊢
  have hA : ∀ q : Nat, s.heap.size ≤ q → A q := fun q h => by rw [← hAe]; exact Or.inr h
  have hS : va_S A s.heap s.heap [] := va_S.rf
  have hP : va_P G.1 vwCl (wR G ad S) s.heap := hP
  have hl := lv_entry ([.ref (ad 0), .int (c), .int (n_)]) (n := 6) (Nat.le_of_ble_eq_true rfl)
  rw [lg_entry_eq]
  generalize (lg_sl ([.ref (ad 0), .int (c), .int (n_)]) ++ List.replicate (6 - (lg_sl ([.ref (ad 0), .int (c), .int (n_)])).length) Slot.unset).toArray = ls at hl ⊢
  have hl : lv_has ls 6 [(0, .ref (ad 0)), (1, .int (c)), (2, .int (n_))] := hl
  refine W_abs (fun Q hQ => ?_)
  generalize ([.ref (ad 0), .int (c), .int (n_)] : List Value).toArray = args at hT hQ ⊢
  refine lv_aload_n hx hb (fk_get fk_cX12_offs_0 0 rfl) rfl (lv_at hl 0 rfl) ?_
  refine lv_iconst (v := 0) hx hb (fk_get fk_cX12_offs_0 1 rfl) (by decide) ?_
  refine va_put (D := G.1) (ci := 14) (v := .int (0)) (ty := .int) (C := RX12) (T := TX12) (N := 49) hx hb hT inX12 tyX12 tyX12_ok nmX12 hown hK hP hD hS 0 (ix_at (by decide) (cR_0 G ad S)) rfl 8 (by decide) (hT _ m5_109) (fun _ h9 => h9) rfl (by decide +kernel) rfl rfl (Nat.le_of_ble_eq_true rfl) (fk_get fk_cX12_offs_0 2 rfl) (fun H locs hP hD hS => ?_)
  rw [pR_thrown G ad S (0)] at hP hD
  refine lv_aload_n hx hb (fk_get fk_cX12_offs_0 3 rfl) rfl (lv_at hl 0 rfl) ?_
  refine lv_iload_n hx hb (fk_get fk_cX12_offs_0 4 rfl) rfl (lv_at hl 1 rfl) ?_
  refine vp_callSi (W.runV (As := [.int (c)]) (rest := []) ⟨hx, hb, hml, hown, hT⟩ (c_isCustomer l G ad (setF S 0 8 (0)) H.size (c) ) (tV 1 hT m6_110 m6_112 mp_32 m1_17 m6_113 rfl rfl (by decide +kernel) ⟨Nat.le_of_ble_eq_true rfl, Nat.le_of_ble_eq_true rfl⟩) ⟨PcW_blind, va_recv hK hP (ci := 14) (q0 := 0) rfl (ix_at (by decide) (cR_0 G ad (setF S 0 8 (0)))), PcW_of hP hK hD _⟩ rfl rfl hl.1 rfl (lv_room (Nat.le_of_ble_eq_true rfl)) (fk_get fk_cX12_offs_0 5 rfl) ⟨Nat.zero_le _, Nat.zero_le _⟩) (fun r_1 hw_2 => ?_)
  try dsimp only at hw_2
  have hw_2 : r_1 = if 0 ≤ c ∧ c ≤ fF S 0 1 - 1 then 1 else 0 := hw_2
  refine lv_if_eq (tgt := 23) hx hb (fk_get fk_cX12_offs_0 6 rfl) (by decide) (fun c_3 => ?_) (fun c_3 => ?_)
  · have p_c_3 := if1_f hw_2 c_3
    refine lv_iconst (v := (-1)) hx hb (fk_get fk_cX12_offs_0 13 rfl) (by decide) ?_
    subst hQ
    have hpost : QP (setF S 0 8 0) (setF S 0 8 (0)) := by
      first | exact QP.rf h15 | exact hZq
    exact W.iret (v := (-1)) hx hb hr (fun t_ ht_ hW_ => ⟨⟨(-1), (setF S 0 8 (0)), rfl, hpost, by rw [ht_]; exact hP, va_K.moved hW_.alike hK, hD⟩, hS.F ht_⟩) hS.2.2 (fk_get fk_cX12_offs_0 14 rfl)
  have p_c_3 := if1_t hw_2 c_3
  obtain ⟨hj, ej⟩ := isC_n p_c_3 hn hn6
  refine lv_iload_n hx hb (fk_get fk_cX12_offs_0 7 rfl) rfl (lv_at hl 2 rfl) ?_
  refine lv_i2l hx hb (fk_get fk_cX12_offs_0 8 rfl) rfl ?_
  refine lv_lconst (v := 0) hx hb (fk_get fk_cX12_offs_0 9 rfl) (by decide) ?_
  refine lv_lconst (v := 1) hx hb (fk_get fk_cX12_offs_0 10 rfl) (by decide) ?_
  refine vp_callSi (W.runS (As := [.long ((n_).toInt64), .long (0), .long (1)]) (rest := []) ⟨hx, hb, hml, hown, hT⟩ (c_in l ((n_).toInt64) (0) (1) ) (tS 3 hT m6_31 m6_32 m1_17 m6_33 rfl rfl (by decide +kernel) ⟨Nat.le_of_ble_eq_true rfl, Nat.le_of_ble_eq_true rfl⟩) ⟨PcN_blind, PcN_of _ _ _⟩ rfl rfl hl.1 rfl (lv_room (Nat.le_of_ble_eq_true rfl)) (fk_get fk_cX12_offs_0 11 rfl) ⟨Nat.zero_le _, Nat.zero_le _⟩) (fun r_4 hw_5 => ?_)
  try dsimp only at hw_5
  have hw_5 := in_eq hw_5 (n_) 0 1 (rfl) (by decide) (by decide)
  refine lv_if_ne (tgt := 25) hx hb (fk_get fk_cX12_offs_0 12 rfl) (by decide) (fun c_6 => ?_) (fun c_6 => ?_)
  · have p_c_6 := if1_t hw_5 c_6
    refine lv_iconst (v := 0) hx hb (fk_get fk_cX12_offs_0 15 rfl) (by decide) ?_
    refine lv_istore_n (lv' := [(3, .int (0)), (0, .ref (ad 0)), (1, .int (c)), (2, .int (n_))]) hx hb (fk_get fk_cX12_offs_0 16 rfl) rfl hl (by decide) rfl (fun ls hl => ?_)
    refine lv_bipush (v := (-5)) hx hb (fk_get fk_cX12_offs_0 17 rfl) (by decide) ?_
    refine lv_istore (lv' := [(4, .int ((-5))), (3, .int (0)), (0, .ref (ad 0)), (1, .int (c)), (2, .int (n_))]) hx hb (fk_get fk_cX12_offs_0 18 rfl) hl (by decide) rfl (fun ls hl => ?_)
    refine lv_aload_n hx hb (fk_get fk_cX12_offs_0 19 rfl) rfl (lv_at hl 2 rfl) ?_
    have hFc := va_self hD hS hA
    refine va_callv (va_runV (As := []) (rest := []) ⟨hx, hb, hml, hown, hT⟩ (c_open l G ad (setF S 0 8 (0)) H.size (9999) (hSV)) (tV 0 hT m6_218 m6_220 mp_49 m1_17 m6_221 rfl rfl (by decide +kernel) ⟨Nat.le_of_ble_eq_true rfl, Nat.le_of_ble_eq_true rfl⟩) ⟨PcW_blind, va_recv hK hP (ci := 14) (q0 := 0) rfl (ix_at (by decide) (cR_0 G ad (setF S 0 8 (0)))), PcW_of hP hK hD _⟩ rfl rfl hl.1 rfl (lv_room (Nat.le_of_ble_eq_true rfl)) (fk_get fk_cX12_offs_0 20 rfl) ⟨Nat.zero_le _, Nat.zero_le _⟩) hS (fun q _ h => hFc q h) hFc (fun S_9 t_ H locs ht_ hvm_ hw_8 hB_ hz_ hk_ hS => ?_)
    obtain ⟨hP, -, hD1_⟩ := hB_
    rw [ht_] at hP
    have hD : va_D A (wR G ad S_9) := hD1_.weaken (fun k q _ h => hFc q.1 h)
    try dsimp only at hw_8
    have hI0 := hw_8
    refine lv_bipush (v := 30) hx hb (fk_get fk_cX12_offs_0 21 rfl) (by decide) ?_
    refine lv_istore (lv' := [(5, .int (30)), (4, .int ((-5))), (3, .int (0)), (0, .ref (ad 0)), (1, .int (c)), (2, .int (n_))]) hx hb (fk_get fk_cX12_offs_0 22 rfl) hl (by decide) rfl (fun ls hl => ?_)
    have lp_10 : ∀ (fu : Nat) (k : Nat) (v3 v4 : Int32) (SL : FS) (H_12 : Heap) (locs_13 : List Loc) (ls : Array Slot),  (k ≤ 31) → (k < fu) → (MI (setF S 0 8 0) SL 11000) → va_P G.1 vwCl (wR G ad SL) H_12 → va_D A (wR G ad SL) → va_S A s.heap H_12 locs_13 → lv_has ls 6 [(5, .int ((nI k - 1))), (4, .int (v4)), (3, .int (v3)), (0, .ref (ad 0)), (1, .int (c)), (2, .int (n_))] → W p l e ({ frames := 9, cells := 0, slots := 0, locals := 257 } : Room) s m args below meth c₀ H_12 locs_13 0 0 Q (F0 m 39 ls []) := by
      intro fu
      induction fu with
      | zero =>
        intro k v3 v4 SL H_12 locs_13 ls hk hf hI hP hD hS hl
        exact absurd hf (by omega)
      | succ fu ih =>
        intro k v3 v4 SL H_12 locs_13 ls hk hf hI hP hD hS hl
        refine lv_iload hx hb (fk_get fk_cX12_offs_0 23 rfl) (lv_at hl 0 rfl) ?_
        refine lv_if_lt (tgt := 75) hx hb (fk_get fk_cX12_offs_0 24 rfl) (by decide) (fun c_14 => ?_) (fun c_14 => ?_)
        · refine lv_aload_n hx hb (fk_get fk_cX12_offs_1 7 rfl) rfl (lv_at hl 3 rfl) ?_
          have hFc := va_self hD hS hA
          refine va_callv (va_runV (As := []) (rest := []) ⟨hx, hb, hml, hown, hT⟩ (c_close l G ad SL H_12.size ((setF S 0 8 0)) (11000) (hI)) (tV 0 hT m6_226 m6_228 mp_51 m1_17 m6_229 rfl rfl (by decide +kernel) ⟨Nat.le_of_ble_eq_true rfl, Nat.le_of_ble_eq_true rfl⟩) ⟨PcW_blind, va_recv hK hP (ci := 14) (q0 := 0) rfl (ix_at (by decide) (cR_0 G ad SL)), PcW_of hP hK hD _⟩ rfl rfl hl.1 rfl (lv_room (Nat.le_of_ble_eq_true rfl)) (fk_get fk_cX12_offs_1 8 rfl) ⟨Nat.zero_le _, Nat.zero_le _⟩) hS (fun q _ h => hFc q h) hFc (fun S_17 t_ H locs ht_ hvm_ hw_16 hB_ hz_ hk_ hS => ?_)
          obtain ⟨hP, -, hD1_⟩ := hB_
          rw [ht_] at hP
          have hD : va_D A (wR G ad S_17) := hD1_.weaken (fun k q _ h => hFc q.1 h)
          try dsimp only at hw_16
          have hZq := hw_16
          refine lv_iload_n hx hb (fk_get fk_cX12_offs_1 9 rfl) rfl (lv_at hl 5 rfl) ?_
          refine lv_if_ne (tgt := 87) hx hb (fk_get fk_cX12_offs_1 10 rfl) (by decide) (fun c_18 => ?_) (fun c_18 => ?_)
          · refine lv_iload hx hb (fk_get fk_cX12_offs_1 13 rfl) (lv_at hl 1 rfl) ?_
            subst hQ
            have hpost : QP (setF S 0 8 0) S_17 := by
              first | exact QP.rf h15 | exact hZq
            exact W.iret (v := v4) hx hb hr (fun t_ ht_ hW_ => ⟨⟨v4, S_17, rfl, hpost, by rw [ht_]; exact hP, va_K.moved hW_.alike hK, hD⟩, hS.F ht_⟩) hS.2.2 (fk_get fk_cX12_offs_1 14 rfl)
          refine lv_iload_n hx hb (fk_get fk_cX12_offs_1 11 rfl) rfl (lv_at hl 2 rfl) ?_
          refine lv_goto (tgt := 89) hx hb (fk_get fk_cX12_offs_1 12 rfl) (by decide) ?_
          subst hQ
          have hpost : QP (setF S 0 8 0) S_17 := by
            first | exact QP.rf h15 | exact hZq
          exact W.iret (v := v3) hx hb hr (fun t_ ht_ hW_ => ⟨⟨v3, S_17, rfl, hpost, by rw [ht_]; exact hP, va_K.moved hW_.alike hK, hD⟩, hS.F ht_⟩) hS.2.2 (fk_get fk_cX12_offs_1 14 rfl)
        have hk1 : 1 ≤ k := Nat.pos_of_ne_zero (fun q => c_14 (by rw [q]; decide))
        refine lv_aload_n hx hb (fk_get fk_cX12_offs_0 25 rfl) rfl (lv_at hl 3 rfl) ?_
        have hFc := va_self hD hS hA
        refine va_callv (va_runV (As := []) (rest := []) ⟨hx, hb, hml, hown, hT⟩ (c_again l G ad SL H_12.size ((setF S 0 8 0)) (11000) (9999) (hI) (hSV)) (tV 0 hT m7_1 m7_3 mp_52 m1_17 m7_4 rfl rfl (by decide +kernel) ⟨Nat.le_of_ble_eq_true rfl, Nat.le_of_ble_eq_true rfl⟩) ⟨PcW_blind, va_recv hK hP (ci := 14) (q0 := 0) rfl (ix_at (by decide) (cR_0 G ad SL)), PcW_of hP hK hD _⟩ rfl rfl hl.1 rfl (lv_room (Nat.le_of_ble_eq_true rfl)) (fk_get fk_cX12_offs_0 26 rfl) ⟨Nat.zero_le _, Nat.zero_le _⟩) hS (fun q _ h => hFc q h) hFc (fun S_21 t_ H locs ht_ hvm_ hw_20 hB_ hz_ hk_ hS => ?_)
        obtain ⟨hP, -, hD1_⟩ := hB_
        rw [ht_] at hP
        have hD : va_D A (wR G ad S_21) := hD1_.weaken (fun k q _ h => hFc q.1 h)
        try dsimp only at hw_20
        have hI1 := hw_20
        refine lv_aload_n hx hb (fk_get fk_cX12_offs_0 27 rfl) rfl (lv_at hl 3 rfl) ?_
        refine lv_iload hx hb (fk_get fk_cX12_offs_0 28 rfl) (lv_at hl 0 rfl) ?_
        refine va_put (D := G.1) (ci := 14) (v := .int ((nI k - 1))) (ty := .int) (C := RX12) (T := TX12) (N := 49) hx hb hT inX12 tyX12 tyX12_ok nmX12 hown hK hP hD hS 0 (ix_at (by decide) (cR_0 G ad S_21)) rfl 2 (by decide) (hT _ m5_103) (fun _ h9 => h9) rfl (by decide +kernel) rfl rfl (Nat.le_of_ble_eq_true rfl) (fk_get fk_cX12_offs_0 29 rfl) (fun H locs hP hD hS => ?_)
        rw [pR_off G ad S_21 ((nI k - 1))] at hP hD
        have hI2 := hI1.off (nI k - 1)
        refine lv_aload_n hx hb (fk_get fk_cX12_offs_0 30 rfl) rfl (lv_at hl 3 rfl) ?_
        refine lv_iload_n hx hb (fk_get fk_cX12_offs_0 31 rfl) rfl (lv_at hl 4 rfl) ?_
        have hFc := va_self hD hS hA
        refine va_calli (va_runV (As := [.int (c)]) (rest := []) ⟨hx, hb, hml, hown, hT⟩ (c_areSeen l G ad (setF S_21 0 2 ((nI k - 1))) H.size (c) (c.toNatClampNeg) (9999) (z) (hI2.HOK hHOK) (hI2.SV) (by omega) (ej) (by omega) (hI2.f (by decide) hz) (hz4)) (tV 1 hT m7_40 m7_42 mp_54 m1_17 m7_43 rfl rfl (by decide +kernel) ⟨Nat.le_of_ble_eq_true rfl, Nat.le_of_ble_eq_true rfl⟩) ⟨PcW_blind, va_recv hK hP (ci := 14) (q0 := 0) rfl (ix_at (by decide) (cR_0 G ad (setF S_21 0 2 ((nI k - 1))))), PcW_of hP hK hD _⟩ rfl rfl hl.1 rfl (lv_room (Nat.le_of_ble_eq_true rfl)) (fk_get fk_cX12_offs_1 0 rfl) ⟨Nat.zero_le _, Nat.zero_le _⟩) hS (fun q _ h => hFc q h) hFc (fun r_22 S_24 t_ H locs ht_ hvm_ hw_23 hB_ hz_ hk_ hS => ?_)
        obtain ⟨hP, -, hD1_⟩ := hB_
        rw [ht_] at hP
        have hD : va_D A (wR G ad S_24) := hD1_.weaken (fun k q _ h => hFc q.1 h)
        try dsimp only at hw_23
        obtain ⟨hM2, hS2, hr01⟩ := hw_23
        have hI3 := (hI2.M hM2 hS2).mono (C := 11000) (by omega)
        refine lv_if_eq (tgt := 69) hx hb (fk_get fk_cX12_offs_1 1 rfl) (by decide) (fun c_25 => ?_) (fun c_25 => ?_)
        · refine lv_iinc (v := (nI (k - 1) - 1)) (lv' := [(5, .int ((nI (k - 1) - 1))), (4, .int (v4)), (3, .int (v3)), (0, .ref (ad 0)), (1, .int (c)), (2, .int (n_))]) hx hb (fk_get fk_cX12_offs_1 5 rfl) hl (k := 0) rfl ((nI_dn hk1)) (by decide) rfl (fun ls hl => ?_)
          refine lv_goto (tgt := 39) hx hb (fk_get fk_cX12_offs_1 6 rfl) (by decide) ?_
          exact ih (k - 1) (v3) (v4) (S_24) _ _ ls (by omega) (by omega) (hI3) hP hD hS (lv_sub hl [0, 1, 2, 3, 4, 5] rfl)
        refine lv_iinc (v := v3 + 1) (lv' := [(3, .int (v3 + 1)), (5, .int ((nI k - 1))), (4, .int (v4)), (0, .ref (ad 0)), (1, .int (c)), (2, .int (n_))]) hx hb (fk_get fk_cX12_offs_1 2 rfl) hl (k := 2) rfl (rfl) (by decide) rfl (fun ls hl => ?_)
        refine lv_iload hx hb (fk_get fk_cX12_offs_1 3 rfl) (lv_at hl 1 rfl) ?_
        refine lv_istore (lv' := [(4, .int ((nI k - 1))), (3, .int (v3 + 1)), (5, .int ((nI k - 1))), (0, .ref (ad 0)), (1, .int (c)), (2, .int (n_))]) hx hb (fk_get fk_cX12_offs_1 4 rfl) hl (by decide) rfl (fun ls hl => ?_)
        refine lv_iinc (v := (nI (k - 1) - 1)) (lv' := [(5, .int ((nI (k - 1) - 1))), (4, .int ((nI k - 1))), (3, .int (v3 + 1)), (0, .ref (ad 0)), (1, .int (c)), (2, .int (n_))]) hx hb (fk_get fk_cX12_offs_1 5 rfl) hl (k := 2) rfl ((nI_dn hk1)) (by decide) rfl (fun ls hl => ?_)
        refine lv_goto (tgt := 39) hx hb (fk_get fk_cX12_offs_1 6 rfl) (by decide) ?_
        exact ih (k - 1) (v3 + 1) ((nI k - 1)) (S_24) _ _ ls (by omega) (by omega) (hI3) hP hD hS (lv_sub hl [0, 1, 2, 3, 4, 5] rfl)
    exact lp_10 (32) (31) (0) ((-5)) (S_9) _ _ ls (by omega) (by omega) (hI0.mono (by omega)) hP hD hS (lv_sub hl [0, 1, 2, 3, 4, 5] rfl)
  have p_c_6 := if1_f hw_5 c_6
  refine lv_iconst (v := (-1)) hx hb (fk_get fk_cX12_offs_0 13 rfl) (by decide) ?_
  subst hQ
  have hpost : QP (setF S 0 8 0) (setF S 0 8 (0)) := by
    first | exact QP.rf h15 | exact hZq
  exact W.iret (v := (-1)) hx hb hr (fun t_ ht_ hW_ => ⟨⟨(-1), (setF S 0 8 (0)), rfl, hpost, by rw [ht_]; exact hP, va_K.moved hW_.alike hK, hD⟩, hS.F ht_⟩) hS.2.2 (fk_get fk_cX12_offs_0 14 rfl)
set_option maxHeartbeats 800000 in
set_option maxRecDepth 100000 in
theorem c_looked (l : Launch) (G : GG) (ad : Nat → Nat) (S : FS) (sz : Nat) (n u : Nat) (hn : fF S 0 1 = nI n) (hn6 : n ≤ 6) (hHOK : HOK S) (hSV : SV 9999 S) (h15 : fF S 0 15 = 0) (hu : fF S 0 7 = nI u) (hu8 : u ≤ 8) (hce : ∀ i, i < u → ∃ j, j < 6 ∧ fA S 3 i = nI j) : Met l yX12_looked (Cond.code yX12_looked cX12_looked 4 (some .int) :: TBL) ({ frames := 8, cells := 0, slots := 0, locals := 230 } : Room) (PcW G (wR G ad S) sz [.ref (ad 0)]) (va_Qi (fun (r : Int32) (S' : FS) => QP (setF S 0 8 0) S') (fun S' t => BW G (va_A (wR G ad S) sz) (wR G ad S') t) (va_A (wR G ad S) sz)) 0 0 (va_A (wR G ad S) sz) := by
  refine Met.ofW (cc := cX12_looked) (maxL := 4) (ret := (some .int)) (by decide) rfl ?_
  intro p e s m args below meth c₀ s₁ B hml hv
  obtain ⟨rfl, hsz, hP, hK, hD0⟩ := hv
  have hx := B.exec
  have hb := B.bytes
  have hr := B.returns
  have hT : ∀ w ∈ TBL, w.before ([.ref (ad 0)] : List Value).toArray s = true := fun w h => atoms_spec (ws := Cond.code yX12_looked cX12_looked 4 (some .int) :: TBL) B.pre w (List.mem_cons_of_mem _ h)
  have hown : s.vm.findClass "LittleMoreModel" = some m.cls := findClass_of_methodNamed B.named
  have hlocks := B.notSynchronized
  subst hsz
  have hD := hD0.self (sz := s.heap.size)
  generalize hAe : va_A (wR G ad S) s.heap.size = A at hD ⊢
  have hA : ∀ q : Nat, s.heap.size ≤ q → A q := fun q h => by rw [← hAe]; exact Or.inr h
  have hS : va_S A s.heap s.heap [] := va_S.rf
  have hP : va_P G.1 vwCl (wR G ad S) s.heap := hP
  have hl := lv_entry ([.ref (ad 0)]) (n := 4) (Nat.le_of_ble_eq_true rfl)
  rw [lg_entry_eq]
  generalize (lg_sl ([.ref (ad 0)]) ++ List.replicate (4 - (lg_sl ([.ref (ad 0)])).length) Slot.unset).toArray = ls at hl ⊢
  have hl : lv_has ls 4 [(0, .ref (ad 0))] := hl
  refine W_abs (fun Q hQ => ?_)
  generalize ([.ref (ad 0)] : List Value).toArray = args at hT hQ ⊢
  refine lv_aload_n hx hb (fk_get fk_cX12_looked_0 0 rfl) rfl (lv_at hl 0 rfl) ?_
  refine lv_iconst (v := 0) hx hb (fk_get fk_cX12_looked_0 1 rfl) (by decide) ?_
  refine va_put (D := G.1) (ci := 14) (v := .int (0)) (ty := .int) (C := RX12) (T := TX12) (N := 49) hx hb hT inX12 tyX12 tyX12_ok nmX12 hown hK hP hD hS 0 (ix_at (by decide) (cR_0 G ad S)) rfl 8 (by decide) (hT _ m5_109) (fun _ h9 => h9) rfl (by decide +kernel) rfl rfl (Nat.le_of_ble_eq_true rfl) (fk_get fk_cX12_looked_0 2 rfl) (fun H locs hP hD hS => ?_)
  rw [pR_thrown G ad S (0)] at hP hD
  refine lv_bipush (v := (-5)) hx hb (fk_get fk_cX12_looked_0 3 rfl) (by decide) ?_
  refine lv_istore_n (lv' := [(1, .int ((-5))), (0, .ref (ad 0))]) hx hb (fk_get fk_cX12_looked_0 4 rfl) rfl hl (by decide) rfl (fun ls hl => ?_)
  refine lv_aload_n hx hb (fk_get fk_cX12_looked_0 5 rfl) rfl (lv_at hl 1 rfl) ?_
  have hFc := va_self hD hS hA
  refine va_callv (va_runV (As := []) (rest := []) ⟨hx, hb, hml, hown, hT⟩ (c_open l G ad (setF S 0 8 (0)) H.size (9999) (hSV)) (tV 0 hT m6_218 m6_220 mp_49 m1_17 m6_221 rfl rfl (by decide +kernel) ⟨Nat.le_of_ble_eq_true rfl, Nat.le_of_ble_eq_true rfl⟩) ⟨PcW_blind, va_recv hK hP (ci := 14) (q0 := 0) rfl (ix_at (by decide) (cR_0 G ad (setF S 0 8 (0)))), PcW_of hP hK hD _⟩ rfl rfl hl.1 rfl (lv_room (Nat.le_of_ble_eq_true rfl)) (fk_get fk_cX12_looked_0 6 rfl) ⟨Nat.zero_le _, Nat.zero_le _⟩) hS (fun q _ h => hFc q h) hFc (fun S_3 t_ H locs ht_ hvm_ hw_2 hB_ hz_ hk_ hS => ?_)
  obtain ⟨hP, -, hD1_⟩ := hB_
  rw [ht_] at hP
  have hD : va_D A (wR G ad S_3) := hD1_.weaken (fun k q _ h => hFc q.1 h)
  try dsimp only at hw_2
  have hI0 := hw_2
  refine lv_iconst (v := 0) hx hb (fk_get fk_cX12_looked_0 7 rfl) (by decide) ?_
  refine lv_istore_n (lv' := [(2, .int (0)), (1, .int ((-5))), (0, .ref (ad 0))]) hx hb (fk_get fk_cX12_looked_0 8 rfl) rfl hl (by decide) rfl (fun ls hl => ?_)
  have lp_4 : ∀ (fu : Nat) (k : Nat) (v1 : Int32) (SL : FS) (H_6 : Heap) (locs_7 : List Loc) (ls : Array Slot),  (k ≤ u) → (u < k + fu) → (MI (setF S 0 8 0) SL (9999 + k)) → va_P G.1 vwCl (wR G ad SL) H_6 → va_D A (wR G ad SL) → va_S A s.heap H_6 locs_7 → lv_has ls 4 [(2, .int ((nI k))), (1, .int (v1)), (0, .ref (ad 0))] → W p l e ({ frames := 8, cells := 0, slots := 0, locals := 230 } : Room) s m args below meth c₀ H_6 locs_7 0 0 Q (F0 m 14 ls []) := by
    intro fu
    induction fu with
    | zero =>
      intro k v1 SL H_6 locs_7 ls hk hf hI hP hD hS hl
      exact absurd hf (by omega)
    | succ fu ih =>
      intro k v1 SL H_6 locs_7 ls hk hf hI hP hD hS hl
      refine lv_iload_n hx hb (fk_get fk_cX12_looked_0 9 rfl) rfl (lv_at hl 0 rfl) ?_
      refine lv_aload_n hx hb (fk_get fk_cX12_looked_0 10 rfl) rfl (lv_at hl 2 rfl) ?_
      refine va_get (D := G.1) (ci := 14) (v := .int ((fF SL 0 7))) (C := RX12) (T := TX12) (N := 49) hx hb hT inX12 hown hK hP 0 (ix_at (by decide) (cR_0 G ad SL)) rfl 7 (by decide) (hT _ m5_108) (fun _ h9 => h9) rfl (fk_get fk_cX12_looked_0 11 rfl) ?_
      refine lv_icmp_ge (tgt := 67) hx hb (fk_get fk_cX12_looked_0 12 rfl) (by decide) (fun c_8 => ?_) (fun c_8 => ?_)
      · refine lv_aload_n hx hb (fk_get fk_cX12_looked_1 5 rfl) rfl (lv_at hl 2 rfl) ?_
        have hFc := va_self hD hS hA
        refine va_callv (va_runV (As := []) (rest := []) ⟨hx, hb, hml, hown, hT⟩ (c_close l G ad SL H_6.size ((setF S 0 8 0)) (9999 + k) (hI)) (tV 0 hT m6_226 m6_228 mp_51 m1_17 m6_229 rfl rfl (by decide +kernel) ⟨Nat.le_of_ble_eq_true rfl, Nat.le_of_ble_eq_true rfl⟩) ⟨PcW_blind, va_recv hK hP (ci := 14) (q0 := 0) rfl (ix_at (by decide) (cR_0 G ad SL)), PcW_of hP hK hD _⟩ rfl rfl hl.1 rfl (lv_room (Nat.le_of_ble_eq_true rfl)) (fk_get fk_cX12_looked_1 6 rfl) ⟨Nat.zero_le _, Nat.zero_le _⟩) hS (fun q _ h => hFc q h) hFc (fun S_11 t_ H locs ht_ hvm_ hw_10 hB_ hz_ hk_ hS => ?_)
        obtain ⟨hP, -, hD1_⟩ := hB_
        rw [ht_] at hP
        have hD : va_D A (wR G ad S_11) := hD1_.weaken (fun k q _ h => hFc q.1 h)
        try dsimp only at hw_10
        have hZq := hw_10
        refine lv_iload_n hx hb (fk_get fk_cX12_looked_1 7 rfl) rfl (lv_at hl 1 rfl) ?_
        subst hQ
        have hpost : QP (setF S 0 8 0) S_11 := by
          first | exact QP.rf h15 | exact hZq
        exact W.iret (v := v1) hx hb hr (fun t_ ht_ hW_ => ⟨⟨v1, S_11, rfl, hpost, by rw [ht_]; exact hP, va_K.moved hW_.alike hK, hD⟩, hS.F ht_⟩) hS.2.2 (fk_get fk_cX12_looked_1 8 rfl)
      have hlt : k < u := Nat.lt_of_not_le (fun wk => c_8 (by rw [show fF SL 0 7 = nI u from hI.f (by decide) hu]; exact (nI_leI (a := u) (b := k) (by omega) (by omega)).mpr wk))
      obtain ⟨j, hj, ej⟩ := hce k hlt
      refine lv_iload_n hx hb (fk_get fk_cX12_looked_0 13 rfl) rfl (lv_at hl 1 rfl) ?_
      refine lv_if_ge (tgt := 67) hx hb (fk_get fk_cX12_looked_0 14 rfl) (by decide) (fun c_12 => ?_) (fun c_12 => ?_)
      · refine lv_aload_n hx hb (fk_get fk_cX12_looked_1 5 rfl) rfl (lv_at hl 2 rfl) ?_
        have hFc := va_self hD hS hA
        refine va_callv (va_runV (As := []) (rest := []) ⟨hx, hb, hml, hown, hT⟩ (c_close l G ad SL H_6.size ((setF S 0 8 0)) (9999 + k) (hI)) (tV 0 hT m6_226 m6_228 mp_51 m1_17 m6_229 rfl rfl (by decide +kernel) ⟨Nat.le_of_ble_eq_true rfl, Nat.le_of_ble_eq_true rfl⟩) ⟨PcW_blind, va_recv hK hP (ci := 14) (q0 := 0) rfl (ix_at (by decide) (cR_0 G ad SL)), PcW_of hP hK hD _⟩ rfl rfl hl.1 rfl (lv_room (Nat.le_of_ble_eq_true rfl)) (fk_get fk_cX12_looked_1 6 rfl) ⟨Nat.zero_le _, Nat.zero_le _⟩) hS (fun q _ h => hFc q h) hFc (fun S_15 t_ H locs ht_ hvm_ hw_14 hB_ hz_ hk_ hS => ?_)
        obtain ⟨hP, -, hD1_⟩ := hB_
        rw [ht_] at hP
        have hD : va_D A (wR G ad S_15) := hD1_.weaken (fun k q _ h => hFc q.1 h)
        try dsimp only at hw_14
        have hZq := hw_14
        refine lv_iload_n hx hb (fk_get fk_cX12_looked_1 7 rfl) rfl (lv_at hl 1 rfl) ?_
        subst hQ
        have hpost : QP (setF S 0 8 0) S_15 := by
          first | exact QP.rf h15 | exact hZq
        exact W.iret (v := v1) hx hb hr (fun t_ ht_ hW_ => ⟨⟨v1, S_15, rfl, hpost, by rw [ht_]; exact hP, va_K.moved hW_.alike hK, hD⟩, hS.F ht_⟩) hS.2.2 (fk_get fk_cX12_looked_1 8 rfl)
      refine lv_aload_n hx hb (fk_get fk_cX12_looked_0 15 rfl) rfl (lv_at hl 2 rfl) ?_
      refine va_get (D := G.1) (ci := 14) (v := .ref (ad 3)) (C := RX12) (T := TX12) (N := 49) hx hb hT inX12 hown hK hP 0 (ix_at (by decide) (cR_0 G ad SL)) rfl 6 (by decide) (hT _ m5_107) (fun _ h9 => h9) rfl (fk_get fk_cX12_looked_0 16 rfl) ?_
      refine lv_iload_n hx hb (fk_get fk_cX12_looked_0 17 rfl) rfl (lv_at hl 0 rfl) ?_
      refine r_iald (f := fA SL 3) hx hb hK hP 3 0 (ix_at (by decide) (cR_come G ad SL)) rfl (k) (rfl) (by omega) (by decide) (fk_get fk_cX12_looked_0 18 rfl) ?_
      rw [show (fA SL 3 (k)) = (nI j) from ((hI.2.2.2.2.2.2.1 k (by omega)).trans ej)]
      refine lv_istore_n (lv' := [(3, .int ((nI j))), (2, .int ((nI k))), (1, .int (v1)), (0, .ref (ad 0))]) hx hb (fk_get fk_cX12_looked_0 19 rfl) rfl hl (by decide) rfl (fun ls hl => ?_)
      refine lv_aload_n hx hb (fk_get fk_cX12_looked_0 20 rfl) rfl (lv_at hl 3 rfl) ?_
      refine lv_iload_n hx hb (fk_get fk_cX12_looked_0 21 rfl) rfl (lv_at hl 0 rfl) ?_
      refine vp_callSi (W.runV (As := [.int ((nI j))]) (rest := []) ⟨hx, hb, hml, hown, hT⟩ (c_isGone l G ad SL H_6.size ((nI j)) (j) (rfl) (hj)) (tV 1 hT m6_192 m6_194 mp_45 m1_17 m6_195 rfl rfl (by decide +kernel) ⟨Nat.le_of_ble_eq_true rfl, Nat.le_of_ble_eq_true rfl⟩) ⟨PcW_blind, va_recv hK hP (ci := 14) (q0 := 0) rfl (ix_at (by decide) (cR_0 G ad SL)), PcW_of hP hK hD _⟩ rfl rfl hl.1 rfl (lv_room (Nat.le_of_ble_eq_true rfl)) (fk_get fk_cX12_looked_0 22 rfl) ⟨Nat.zero_le _, Nat.zero_le _⟩) (fun r_16 hw_17 => ?_)
      try dsimp only at hw_17
      refine lv_if_ne (tgt := 61) hx hb (fk_get fk_cX12_looked_0 23 rfl) (by decide) (fun c_18 => ?_) (fun c_18 => ?_)
      · have p_c_18 := if1_t hw_17 c_18
        refine lv_iinc (v := (nI (k + 1))) (lv' := [(2, .int ((nI (k + 1)))), (3, .int ((nI j))), (1, .int (v1)), (0, .ref (ad 0))]) hx hb (fk_get fk_cX12_looked_1 3 rfl) hl (k := 1) rfl ((nI_1 k)) (by decide) rfl (fun ls hl => ?_)
        refine lv_goto (tgt := 14) hx hb (fk_get fk_cX12_looked_1 4 rfl) (by decide) ?_
        exact ih (k + 1) (v1) (SL) _ _ ls (by omega) (by omega) ((by first | exact hI2 | exact hI.mono (by omega))) hP hD hS (lv_sub hl [0, 2, 3] rfl)
      have p_c_18 := if1_f hw_17 c_18
      refine lv_aload_n hx hb (fk_get fk_cX12_looked_0 24 rfl) rfl (lv_at hl 3 rfl) ?_
      refine lv_iload_n hx hb (fk_get fk_cX12_looked_0 25 rfl) rfl (lv_at hl 0 rfl) ?_
      have hFc := va_self hD hS hA
      refine va_calli (va_runV (As := [.int ((nI j))]) (rest := []) ⟨hx, hb, hml, hown, hT⟩ (c_saysNo l G ad SL H_6.size ((nI j)) (j) (hI.HOK hHOK) (rfl) (hj)) (tV 1 hT m6_154 m6_156 mp_42 m1_17 m6_157 rfl rfl (by decide +kernel) ⟨Nat.le_of_ble_eq_true rfl, Nat.le_of_ble_eq_true rfl⟩) ⟨PcW_blind, va_recv hK hP (ci := 14) (q0 := 0) rfl (ix_at (by decide) (cR_0 G ad SL)), PcW_of hP hK hD _⟩ rfl rfl hl.1 rfl (lv_room (Nat.le_of_ble_eq_true rfl)) (fk_get fk_cX12_looked_0 26 rfl) ⟨Nat.zero_le _, Nat.zero_le _⟩) hS (fun q _ h => hFc q h) hFc (fun r_19 S_21 t_ H locs ht_ hvm_ hw_20 hB_ hz_ hk_ hS => ?_)
      obtain ⟨hP, -, hD1_⟩ := hB_
      rw [ht_] at hP
      have hD : va_D A (wR G ad S_21) := hD1_.weaken (fun k q _ h => hFc q.1 h)
      try dsimp only at hw_20
      obtain ⟨hH1, hr01⟩ := hw_20
      have hI1 := hI.M hH1.M (hI.SV.H hH1)
      refine lv_if_eq (tgt := 53) hx hb (fk_get fk_cX12_looked_0 27 rfl) (by decide) (fun c_22 => ?_) (fun c_22 => ?_)
      · refine lv_bipush (v := (-5)) hx hb (fk_get fk_cX12_looked_0 30 rfl) (by decide) ?_
        refine lv_istore_n (lv' := [(1, .int ((-5))), (3, .int ((nI j))), (2, .int ((nI k))), (0, .ref (ad 0))]) hx hb (fk_get fk_cX12_looked_0 31 rfl) rfl hl (by decide) rfl (fun ls hl => ?_)
        obtain ⟨x, hxb, hx6⟩ := hI1.SV j hj
        refine lv_aload_n hx hb (fk_get fk_cX12_looked_1 0 rfl) rfl (lv_at hl 3 rfl) ?_
        refine lv_iload_n hx hb (fk_get fk_cX12_looked_1 1 rfl) rfl (lv_at hl 1 rfl) ?_
        have hFc := va_self hD hS hA
        refine va_callv (va_runV (As := [.int ((nI j))]) (rest := []) ⟨hx, hb, hml, hown, hT⟩ (c_visitOne l G ad S_21 H.size ((nI j)) (j) (x) (hI1.HOK hHOK) (rfl) (hj) (hx6) (by omega)) (tV 1 hT m6_196 m6_198 mp_46 m1_17 m6_199 rfl rfl (by decide +kernel) ⟨Nat.le_of_ble_eq_true rfl, Nat.le_of_ble_eq_true rfl⟩) ⟨PcW_blind, va_recv hK hP (ci := 14) (q0 := 0) rfl (ix_at (by decide) (cR_0 G ad S_21)), PcW_of hP hK hD _⟩ rfl rfl hl.1 rfl (lv_room (Nat.le_of_ble_eq_true rfl)) (fk_get fk_cX12_looked_1 2 rfl) ⟨Nat.zero_le _, Nat.zero_le _⟩) hS (fun q _ h => hFc q h) hFc (fun S_25 t_ H locs ht_ hvm_ hw_24 hB_ hz_ hk_ hS => ?_)
        obtain ⟨hP, -, hD1_⟩ := hB_
        rw [ht_] at hP
        have hD : va_D A (wR G ad S_25) := hD1_.weaken (fun k q _ h => hFc q.1 h)
        try dsimp only at hw_24
        obtain ⟨y, hV, hy, hy2⟩ := hw_24
        have hI2 := hI1.M hV.M (hI1.SV.V hV (by omega) hj)
        refine lv_iinc (v := (nI (k + 1))) (lv' := [(2, .int ((nI (k + 1)))), (1, .int ((-5))), (3, .int ((nI j))), (0, .ref (ad 0))]) hx hb (fk_get fk_cX12_looked_1 3 rfl) hl (k := 2) rfl ((nI_1 k)) (by decide) rfl (fun ls hl => ?_)
        refine lv_goto (tgt := 14) hx hb (fk_get fk_cX12_looked_1 4 rfl) (by decide) ?_
        exact ih (k + 1) ((-5)) (S_25) _ _ ls (by omega) (by omega) ((by first | exact hI2 | exact hI.mono (by omega))) hP hD hS (lv_sub hl [0, 1, 3] rfl)
      refine lv_iload_n hx hb (fk_get fk_cX12_looked_0 28 rfl) rfl (lv_at hl 1 rfl) ?_
      refine lv_goto (tgt := 55) hx hb (fk_get fk_cX12_looked_0 29 rfl) (by decide) ?_
      refine lv_istore_n (lv' := [(1, .int ((nI k))), (3, .int ((nI j))), (2, .int ((nI k))), (0, .ref (ad 0))]) hx hb (fk_get fk_cX12_looked_0 31 rfl) rfl hl (by decide) rfl (fun ls hl => ?_)
      obtain ⟨x, hxb, hx6⟩ := hI1.SV j hj
      refine lv_aload_n hx hb (fk_get fk_cX12_looked_1 0 rfl) rfl (lv_at hl 3 rfl) ?_
      refine lv_iload_n hx hb (fk_get fk_cX12_looked_1 1 rfl) rfl (lv_at hl 1 rfl) ?_
      have hFc := va_self hD hS hA
      refine va_callv (va_runV (As := [.int ((nI j))]) (rest := []) ⟨hx, hb, hml, hown, hT⟩ (c_visitOne l G ad S_21 H.size ((nI j)) (j) (x) (hI1.HOK hHOK) (rfl) (hj) (hx6) (by omega)) (tV 1 hT m6_196 m6_198 mp_46 m1_17 m6_199 rfl rfl (by decide +kernel) ⟨Nat.le_of_ble_eq_true rfl, Nat.le_of_ble_eq_true rfl⟩) ⟨PcW_blind, va_recv hK hP (ci := 14) (q0 := 0) rfl (ix_at (by decide) (cR_0 G ad S_21)), PcW_of hP hK hD _⟩ rfl rfl hl.1 rfl (lv_room (Nat.le_of_ble_eq_true rfl)) (fk_get fk_cX12_looked_1 2 rfl) ⟨Nat.zero_le _, Nat.zero_le _⟩) hS (fun q _ h => hFc q h) hFc (fun S_28 t_ H locs ht_ hvm_ hw_27 hB_ hz_ hk_ hS => ?_)
      obtain ⟨hP, -, hD1_⟩ := hB_
      rw [ht_] at hP
      have hD : va_D A (wR G ad S_28) := hD1_.weaken (fun k q _ h => hFc q.1 h)
      try dsimp only at hw_27
      obtain ⟨y, hV, hy, hy2⟩ := hw_27
      have hI2 := hI1.M hV.M (hI1.SV.V hV (by omega) hj)
      refine lv_iinc (v := (nI (k + 1))) (lv' := [(2, .int ((nI (k + 1)))), (1, .int ((nI k))), (3, .int ((nI j))), (0, .ref (ad 0))]) hx hb (fk_get fk_cX12_looked_1 3 rfl) hl (k := 2) rfl ((nI_1 k)) (by decide) rfl (fun ls hl => ?_)
      refine lv_goto (tgt := 14) hx hb (fk_get fk_cX12_looked_1 4 rfl) (by decide) ?_
      exact ih (k + 1) ((nI k)) (S_28) _ _ ls (by omega) (by omega) ((by first | exact hI2 | exact hI.mono (by omega))) hP hD hS (lv_sub hl [0, 1, 3] rfl)
  exact lp_4 (u + 1) (0) ((-5)) (S_3) _ _ ls (by omega) (by omega) (hI0) hP hD hS (lv_sub hl [0, 1, 2] rfl)
