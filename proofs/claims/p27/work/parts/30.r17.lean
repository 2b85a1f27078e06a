theorem nI_dn {k : Nat} (h : 1 ≤ k) : nI k - 1 + -1 = nI (k - 1) - 1 := by
  obtain ⟨j, rfl⟩ : ∃ j, k = j + 1 := ⟨k - 1, by omega⟩
  rw [← nI_1 j, Int32.sub_eq_add_neg, Int32.sub_eq_add_neg, Int32.add_assoc (nI j) 1 (-1), show (1 : Int32) + -1 = 0 from by decide, Int32.add_zero, Nat.add_sub_cancel]
set_option maxHeartbeats 800000 in
set_option maxRecDepth 100000 in
theorem c_looked (l : Launch) (G : GG) (ad : Nat → Nat) (S : FS) (sz : Nat) (n u : Nat) (hn : fF S 0 1 = nI n) (hn6 : n ≤ 6) (hHOK : HOK S) (hSV : SV 9999 S) (h15 : fF S 0 15 = 0) (hu : fF S 0 7 = nI u) (hu8 : u ≤ 8) (hce : ∀ i, i < u → ∃ j, j < 6 ∧ fA S 3 i = nI j) : Met l yX12_looked (Cond.code yX12_looked cX12_looked 4 (some .int) :: TBL) ({ frames := 8, cells := 0, slots := 0, locals := 230 } : Room) (PcW G (wR G ad S) sz [.ref (ad 0)]) (va_Qi (fun (r : Int32) (S' : FS) => QP (setF S 0 8 0) S') (fun S' t => BW G (va_A (wR G ad S) sz) (wR G ad S') t) (va_A (wR G ad S) sz)) 0 0 (va_A (wR G ad S) sz) := by
  refine Met.ofW (cc := cX12_looked) (maxL := 4) (ret := (some .int)) (by decide) rfl ?_
  intro p e s m args below meth c₀ s₁ B hml hv
  obtain ⟨rfl, hsz, hP, hK, hD0⟩ := hv
  have hx := B.exec
  have hb := B.bytes
  have hr := B.returns
  have hT : ∀ w ∈ TBL, w.before ([.ref (ad 0)] : List Value).toArray s = true := fun w h => atoms_spec (ws := Cond.code yX12_looked cX12_looked 4 (some .int) :: TBL) B.pre w (List.mem_cons_of_mem _ h)
  have hown : s.vm.findClass "LittleMoreModel" = some m.cls := findClass_of_methodNamed B.named
  have hlocks := B.notSynchronized
  subst hsz
  have hD := hD0.self (sz := s.heap.size)
  generalize hAe : va_A (wR G ad S) s.heap.size = A at hD ⊢
  have hA : ∀ q : Nat, s.heap.size ≤ q → A q := fun q h => by rw [← hAe]; exact Or.inr h
  have hS : va_S A s.heap s.heap [] := va_S.rf
  have hP : va_P G.1 vwCl (wR G ad S) s.heap := hP
  have hl := lv_entry ([.ref (ad 0)]) (n := 4) (Nat.le_of_ble_eq_true rfl)
  rw [lg_entry_eq]
  generalize (lg_sl ([.ref (ad 0)]) ++ List.replicate (4 - (lg_sl ([.ref (ad 0)])).length) Slot.unset).toArray = ls at hl ⊢
  have hl : lv_has ls 4 [(0, .ref (ad 0))] := hl
  refine W_abs (fun Q hQ => ?_)
  generalize ([.ref (ad 0)] : List Value).toArray = args at hT hQ ⊢
  refine lv_aload_n hx hb (fk_get fk_cX12_looked_0 0 rfl) rfl (lv_at hl 0 rfl) ?_
  refine lv_iconst (v := 0) hx hb (fk_get fk_cX12_looked_0 1 rfl) (by decide) ?_
  refine va_put (D := G.1) (ci := 14) (v := .int (0)) (ty := .int) (C := RX12) (T := TX12) (N := 49) hx hb hT inX12 tyX12 tyX12_ok nmX12 hown hK hP hD hS 0 (ix_at (by decide) (cR_0 G ad S)) rfl 8 (by decide) (hT _ m5_109) (fun _ h9 => h9) rfl (by decide +kernel) rfl rfl (Nat.le_of_ble_eq_true rfl) (fk_get fk_cX12_looked_0 2 rfl) (fun H locs hP hD hS => ?_)
  rw [pR_thrown G ad S (0)] at hP hD
  refine lv_bipush (v := (-5)) hx hb (fk_get fk_cX12_looked_0 3 rfl) (by decide) ?_
  refine lv_istore_n (lv' := [(1, .int ((-5))), (0, .ref (ad 0))]) hx hb (fk_get fk_cX12_looked_0 4 rfl) rfl hl (by decide) rfl (fun ls hl => ?_)
  refine lv_aload_n hx hb (fk_get fk_cX12_looked_0 5 rfl) rfl (lv_at hl 1 rfl) ?_
  have hFc := va_self hD hS hA
  refine va_callv (va_runV (As := []) (rest := []) ⟨hx, hb, hml, hown, hT⟩ (c_open l G ad (setF S 0 8 (0)) H.size (9999) (hSV)) (tV 0 hT m6_218 m6_220 mp_49 m1_17 m6_221 rfl rfl (by decide +kernel) ⟨Nat.le_of_ble_eq_true rfl, Nat.le_of_ble_eq_true rfl⟩) ⟨PcW_blind, va_recv hK hP (ci := 14) (q0 := 0) rfl (ix_at (by decide) (cR_0 G ad (setF S 0 8 (0)))), PcW_of hP hK hD _⟩ rfl rfl hl.1 rfl (lv_room (Nat.le_of_ble_eq_true rfl)) (fk_get fk_cX12_looked_0 6 rfl) ⟨Nat.zero_le _, Nat.zero_le _⟩) hS (fun q _ h => hFc q h) hFc (fun S_3 t_ H locs ht_ hvm_ hw_2 hB_ hz_ hk_ hS => ?_)
  obtain ⟨hP, -, hD1_⟩ := hB_
  rw [ht_] at hP
  have hD : va_D A (wR G ad S_3) := hD1_.weaken (fun k q _ h => hFc q.1 h)
  try dsimp only at hw_2
  have hI0 := hw_2
  refine lv_iconst (v := 0) hx hb (fk_get fk_cX12_looked_0 7 rfl) (by decide) ?_
  refine lv_istore_n (lv' := [(2, .int (0)), (1, .int ((-5))), (0, .ref (ad 0))]) hx hb (fk_get fk_cX12_looked_0 8 rfl) rfl hl (by decide) rfl (fun ls hl => ?_)
  have lp_4 : ∀ (fu : Nat) (k : Nat) (v1 : Int32) (SL : FS) (H_6 : Heap) (locs_7 : List Loc) (ls : Array Slot),  (k ≤ u) → (u < k + fu) → (MI (setF S 0 8 0) SL (9999 + k)) → va_P G.1 vwCl (wR G ad SL) H_6 → va_D A (wR G ad SL) → va_S A s.heap H_6 locs_7 → lv_has ls 4 [(2, .int ((nI k))), (1, .int (v1)), (0, .ref (ad 0))] → W p l e ({ frames := 8, cells := 0, slots := 0, locals := 230 } : Room) s m args below meth c₀ H_6 locs_7 0 0 Q (F0 m 14 ls []) := by
    intro fu
    induction fu with
    | zero =>
      intro k v1 SL H_6 locs_7 ls hk hf hI hP hD hS hl
      exact absurd hf (by omega)
    | succ fu ih =>
      intro k v1 SL H_6 locs_7 ls hk hf hI hP hD hS hl
      refine lv_iload_n hx hb (fk_get fk_cX12_looked_0 9 rfl) rfl (lv_at hl 0 rfl) ?_
      refine lv_aload_n hx hb (fk_get fk_cX12_looked_0 10 rfl) rfl (lv_at hl 2 rfl) ?_
      refine va_get (D := G.1) (ci := 14) (v := .int ((fF SL 0 7))) (C := RX12) (T := TX12) (N := 49) hx hb hT inX12 hown hK hP 0 (ix_at (by decide) (cR_0 G ad SL)) rfl 7 (by decide) (hT _ m5_108) (fun _ h9 => h9) rfl (fk_get fk_cX12_looked_0 11 rfl) ?_
      refine lv_icmp_ge (tgt := 67) hx hb (fk_get fk_cX12_looked_0 12 rfl) (by decide) (fun c_8 => ?_) (fun c_8 => ?_)
      · refine lv_aload_n hx hb (fk_get fk_cX12_looked_1 5 rfl) rfl (lv_at hl 2 rfl) ?_
        have hFc := va_self hD hS hA
        refine va_callv (va_runV (As := []) (rest := []) ⟨hx, hb, hml, hown, hT⟩ (c_close l G ad SL H_6.size ((setF S 0 8 0)) (9999 + k) (hI)) (tV 0 hT m6_226 m6_228 mp_51 m1_17 m6_229 rfl rfl (by decide +kernel) ⟨Nat.le_of_ble_eq_true rfl, Nat.le_of_ble_eq_true rfl⟩) ⟨PcW_blind, va_recv hK hP (ci := 14) (q0 := 0) rfl (ix_at (by decide) (cR_0 G ad SL)), PcW_of hP hK hD _⟩ rfl rfl hl.1 rfl (lv_room (Nat.le_of_ble_eq_true rfl)) (fk_get fk_cX12_looked_1 6 rfl) ⟨Nat.zero_le _, Nat.zero_le _⟩) hS (fun q _ h => hFc q h) hFc (fun S_11 t_ H locs ht_ hvm_ hw_10 hB_ hz_ hk_ hS => ?_)
        obtain ⟨hP, -, hD1_⟩ := hB_
        rw [ht_] at hP
        have hD : va_D A (wR G ad S_11) := hD1_.weaken (fun k q _ h => hFc q.1 h)
        try dsimp only at hw_10
        have hZq := hw_10
        refine lv_iload_n hx hb (fk_get fk_cX12_looked_1 7 rfl) rfl (lv_at hl 1 rfl) ?_
        subst hQ
        have hpost : QP (setF S 0 8 0) S_11 := by
          first | exact QP.rf h15 | exact hZq
        exact W.iret (v := v1) hx hb hr (fun t_ ht_ hW_ => ⟨⟨v1, S_11, rfl, hpost, by rw [ht_]; exact hP, va_K.moved hW_.alike hK, hD⟩, hS.F ht_⟩) hS.2.2 (fk_get fk_cX12_looked_1 8 rfl)
      have hlt : k < u := Nat.lt_of_not_le (fun wk => c_8 (by rw [show fF SL 0 7 = nI u from hI.f (by decide) hu]; exact (nI_leI (a := u) (b := k) (by omega) (by omega)).mpr wk))
      obtain ⟨j, hj, ej⟩ := hce k hlt
      refine lv_iload_n hx hb (fk_get fk_cX12_looked_0 13 rfl) rfl (lv_at hl 1 rfl) ?_
      refine lv_if_ge (tgt := 67) hx hb (fk_get fk_cX12_looked_0 14 rfl) (by decide) (fun c_12 => ?_) (fun c_12 => ?_)
      · refine lv_aload_n hx hb (fk_get fk_cX12_looked_1 5 rfl) rfl (lv_at hl 2 rfl) ?_
        have hFc := va_self hD hS hA
        refine va_callv (va_runV (As := []) (rest := []) ⟨hx, hb, hml, hown, hT⟩ (c_close l G ad SL H_6.size ((setF S 0 8 0)) (9999 + k) (hI)) (tV 0 hT m6_226 m6_228 mp_51 m1_17 m6_229 rfl rfl (by decide +kernel) ⟨Nat.le_of_ble_eq_true rfl, Nat.le_of_ble_eq_true rfl⟩) ⟨PcW_blind, va_recv hK hP (ci := 14) (q0 := 0) rfl (ix_at (by decide) (cR_0 G ad SL)), PcW_of hP hK hD _⟩ rfl rfl hl.1 rfl (lv_room (Nat.le_of_ble_eq_true rfl)) (fk_get fk_cX12_looked_1 6 rfl) ⟨Nat.zero_le _, Nat.zero_le _⟩) hS (fun q _ h => hFc q h) hFc (fun S_15 t_ H locs ht_ hvm_ hw_14 hB_ hz_ hk_ hS => ?_)
        obtain ⟨hP, -, hD1_⟩ := hB_
        rw [ht_] at hP
        have hD : va_D A (wR G ad S_15) := hD1_.weaken (fun k q _ h => hFc q.1 h)
        try dsimp only at hw_14
        have hZq := hw_14
        refine lv_iload_n hx hb (fk_get fk_cX12_looked_1 7 rfl) rfl (lv_at hl 1 rfl) ?_
        subst hQ
        have hpost : QP (setF S 0 8 0) S_15 := by
          first | exact QP.rf h15 | exact hZq
        exact W.iret (v := v1) hx hb hr (fun t_ ht_ hW_ => ⟨⟨v1, S_15, rfl, hpost, by rw [ht_]; exact hP, va_K.moved hW_.alike hK, hD⟩, hS.F ht_⟩) hS.2.2 (fk_get fk_cX12_looked_1 8 rfl)
      refine lv_aload_n hx hb (fk_get fk_cX12_looked_0 15 rfl) rfl (lv_at hl 2 rfl) ?_
      refine va_get (D := G.1) (ci := 14) (v := .ref (ad 3)) (C := RX12) (T := TX12) (N := 49) hx hb hT inX12 hown hK hP 0 (ix_at (by decide) (cR_0 G ad SL)) rfl 6 (by decide) (hT _ m5_107) (fun _ h9 => h9) rfl (fk_get fk_cX12_looked_0 16 rfl) ?_
      refine lv_iload_n hx hb (fk_get fk_cX12_looked_0 17 rfl) rfl (lv_at hl 0 rfl) ?_
      refine r_iald (f := fA SL 3) hx hb hK hP 3 0 (ix_at (by decide) (cR_come G ad SL)) rfl (k) (rfl) (by omega) (by decide) (fk_get fk_cX12_looked_0 18 rfl) ?_
      rw [show (fA SL 3 (k)) = (nI j) from ((hI.2.2.2.2.2.2.1 k (by omega)).trans ej)]
      refine lv_istore_n (lv' := [(3, .int ((nI j))), (2, .int ((nI k))), (1, .int (v1)), (0, .ref (ad 0))]) hx hb (fk_get fk_cX12_looked_0 19 rfl) rfl hl (by decide) rfl (fun ls hl => ?_)
      refine lv_aload_n hx hb (fk_get fk_cX12_looked_0 20 rfl) rfl (lv_at hl 3 rfl) ?_
      refine lv_iload_n hx hb (fk_get fk_cX12_looked_0 21 rfl) rfl (lv_at hl 0 rfl) ?_
      refine vp_callSi (W.runV (As := [.int ((nI j))]) (rest := []) ⟨hx, hb, hml, hown, hT⟩ (c_isGone l G ad SL H_6.size ((nI j)) (j) (rfl) (hj)) (tV 1 hT m6_192 m6_194 mp_45 m1_17 m6_195 rfl rfl (by decide +kernel) ⟨Nat.le_of_ble_eq_true rfl, Nat.le_of_ble_eq_true rfl⟩) ⟨PcW_blind, va_recv hK hP (ci := 14) (q0 := 0) rfl (ix_at (by decide) (cR_0 G ad SL)), PcW_of hP hK hD _⟩ rfl rfl hl.1 rfl (lv_room (Nat.le_of_ble_eq_true rfl)) (fk_get fk_cX12_looked_0 22 rfl) ⟨Nat.zero_le _, Nat.zero_le _⟩) (fun r_16 hw_17 => ?_)
      try dsimp only at hw_17
      refine lv_if_ne (tgt := 61) hx hb (fk_get fk_cX12_looked_0 23 rfl) (by decide) (fun c_18 => ?_) (fun c_18 => ?_)
      · have p_c_18 := if1_t hw_17 c_18
        refine lv_iinc (v := (nI (k + 1))) (lv' := [(2, .int ((nI (k + 1)))), (3, .int ((nI j))), (1, .int (v1)), (0, .ref (ad 0))]) hx hb (fk_get fk_cX12_looked_1 3 rfl) hl (k := 1) rfl ((nI_1 k)) (by decide) rfl (fun ls hl => ?_)
        refine lv_goto (tgt := 14) hx hb (fk_get fk_cX12_looked_1 4 rfl) (by decide) ?_
        exact ih (k + 1) (v1) (SL) _ _ ls (by omega) (by omega) ((by first | exact hI2 | exact hI.mono (by omega))) hP hD hS (lv_sub hl [0, 2, 3] rfl)
      have p_c_18 := if1_f hw_17 c_18
      refine lv_aload_n hx hb (fk_get fk_cX12_looked_0 24 rfl) rfl (lv_at hl 3 rfl) ?_
      refine lv_iload_n hx hb (fk_get fk_cX12_looked_0 25 rfl) rfl (lv_at hl 0 rfl) ?_
      have hFc := va_self hD hS hA
      refine va_calli (va_runV (As := [.int ((nI j))]) (rest := []) ⟨hx, hb, hml, hown, hT⟩ (c_saysNo l G ad SL H_6.size ((nI j)) (j) (hI.HOK hHOK) (rfl) (hj)) (tV 1 hT m6_154 m6_156 mp_42 m1_17 m6_157 rfl rfl (by decide +kernel) ⟨Nat.le_of_ble_eq_true rfl, Nat.le_of_ble_eq_true rfl⟩) ⟨PcW_blind, va_recv hK hP (ci := 14) (q0 := 0) rfl (ix_at (by decide) (cR_0 G ad SL)), PcW_of hP hK hD _⟩ rfl rfl hl.1 rfl (lv_room (Nat.le_of_ble_eq_true rfl)) (fk_get fk_cX12_looked_0 26 rfl) ⟨Nat.zero_le _, Nat.zero_le _⟩) hS (fun q _ h => hFc q h) hFc (fun r_19 S_21 t_ H locs ht_ hvm_ hw_20 hB_ hz_ hk_ hS => ?_)
      obtain ⟨hP, -, hD1_⟩ := hB_
      rw [ht_] at hP
      have hD : va_D A (wR G ad S_21) := hD1_.weaken (fun k q _ h => hFc q.1 h)
      try dsimp only at hw_20
      obtain ⟨hH1, hr01⟩ := hw_20
      have hI1 := hI.M hH1.M (hI.SV.H hH1)
      refine lv_if_eq (tgt := 53) hx hb (fk_get fk_cX12_looked_0 27 rfl) (by decide) (fun c_22 => ?_) (fun c_22 => ?_)
      · refine lv_bipush (v := (-5)) hx hb (fk_get fk_cX12_looked_0 30 rfl) (by decide) ?_
        refine lv_istore_n (lv' := [(1, .int ((-5))), (3, .int ((nI j))), (2, .int ((nI k))), (0, .ref (ad 0))]) hx hb (fk_get fk_cX12_looked_0 31 rfl) rfl hl (by decide) rfl (fun ls hl => ?_)
        obtain ⟨x, hxb, hx6⟩ := hI1.SV j hj
        refine lv_aload_n hx hb (fk_get fk_cX12_looked_1 0 rfl) rfl (lv_at hl 3 rfl) ?_
        refine lv_iload_n hx hb (fk_get fk_cX12_looked_1 1 rfl) rfl (lv_at hl 1 rfl) ?_
        have hFc := va_self hD hS hA
        refine va_callv (va_runV (As := [.int ((nI j))]) (rest := []) ⟨hx, hb, hml, hown, hT⟩ (c_visitOne l G ad S_21 H.size ((nI j)) (j) (x) (hI1.HOK hHOK) (rfl) (hj) (hx6) (by omega)) (tV 1 hT m6_196 m6_198 mp_46 m1_17 m6_199 rfl rfl (by decide +kernel) ⟨Nat.le_of_ble_eq_true rfl, Nat.le_of_ble_eq_true rfl⟩) ⟨PcW_blind, va_recv hK hP (ci := 14) (q0 := 0) rfl (ix_at (by decide) (cR_0 G ad S_21)), PcW_of hP hK hD _⟩ rfl rfl hl.1 rfl (lv_room (Nat.le_of_ble_eq_true rfl)) (fk_get fk_cX12_looked_1 2 rfl) ⟨Nat.zero_le _, Nat.zero_le _⟩) hS (fun q _ h => hFc q h) hFc (fun S_25 t_ H locs ht_ hvm_ hw_24 hB_ hz_ hk_ hS => ?_)
        obtain ⟨hP, -, hD1_⟩ := hB_
        rw [ht_] at hP
        have hD : va_D A (wR G ad S_25) := hD1_.weaken (fun k q _ h => hFc q.1 h)
        try dsimp only at hw_24
        obtain ⟨y, hV, hy, hy2⟩ := hw_24
        have hI2 := hI1.M hV.M (hI1.SV.V hV (by omega) hj)
        refine lv_iinc (v := (nI (k + 1))) (lv' := [(2, .int ((nI (k + 1)))), (1, .int ((-5))), (3, .int ((nI j))), (0, .ref (ad 0))]) hx hb (fk_get fk_cX12_looked_1 3 rfl) hl (k := 2) rfl ((nI_1 k)) (by decide) rfl (fun ls hl => ?_)
        refine lv_goto (tgt := 14) hx hb (fk_get fk_cX12_looked_1 4 rfl) (by decide) ?_
        exact ih (k + 1) ((-5)) (S_25) _ _ ls (by omega) (by omega) ((by first | exact hI2 | exact hI.mono (by omega))) hP hD hS (lv_sub hl [0, 1, 3] rfl)
      refine lv_iload_n hx hb (fk_get fk_cX12_looked_0 28 rfl) rfl (lv_at hl 1 rfl) ?_
      refine lv_goto (tgt := 55) hx hb (fk_get fk_cX12_looked_0 29 rfl) (by decide) ?_
      refine lv_istore_n (lv' := [(1, .int ((nI k))), (3, .int ((nI j))), (2, .int ((nI k))), (0, .ref (ad 0))]) hx hb (fk_get fk_cX12_looked_0 31 rfl) rfl hl (by decide) rfl (fun ls hl => ?_)
      obtain ⟨x, hxb, hx6⟩ := hI1.SV j hj
      refine lv_aload_n hx hb (fk_get fk_cX12_looked_1 0 rfl) rfl (lv_at hl 3 rfl) ?_
      refine lv_iload_n hx hb (fk_get fk_cX12_looked_1 1 rfl) rfl (lv_at hl 1 rfl) ?_
      have hFc := va_self hD hS hA
      refine va_callv (va_runV (As := [.int ((nI j))]) (rest := []) ⟨hx, hb, hml, hown, hT⟩ (c_visitOne l G ad S_21 H.size ((nI j)) (j) (x) (hI1.HOK hHOK) (rfl) (hj) (hx6) (by omega)) (tV 1 hT m6_196 m6_198 mp_46 m1_17 m6_199 rfl rfl (by decide +kernel) ⟨Nat.le_of_ble_eq_true rfl, Nat.le_of_ble_eq_true rfl⟩) ⟨PcW_blind, va_recv hK hP (ci := 14) (q0 := 0) rfl (ix_at (by decide) (cR_0 G ad S_21)), PcW_of hP hK hD _⟩ rfl rfl hl.1 rfl (lv_room (Nat.le_of_ble_eq_true rfl)) (fk_get fk_cX12_looked_1 2 rfl) ⟨Nat.zero_le _, Nat.zero_le _⟩) hS (fun q _ h => hFc q h) hFc (fun S_28 t_ H locs ht_ hvm_ hw_27 hB_ hz_ hk_ hS => ?_)
      obtain ⟨hP, -, hD1_⟩ := hB_
      rw [ht_] at hP
      have hD : va_D A (wR G ad S_28) := hD1_.weaken (fun k q _ h => hFc q.1 h)
      try dsimp only at hw_27
      obtain ⟨y, hV, hy, hy2⟩ := hw_27
      have hI2 := hI1.M hV.M (hI1.SV.V hV (by omega) hj)
      refine lv_iinc (v := (nI (k + 1))) (lv' := [(2, .int ((nI (k + 1)))), (1, .int ((nI k))), (3, .int ((nI j))), (0, .ref (ad 0))]) hx hb (fk_get fk_cX12_looked_1 3 rfl) hl (k := 2) rfl ((nI_1 k)) (by decide) rfl (fun ls hl => ?_)
      refine lv_goto (tgt := 14) hx hb (fk_get fk_cX12_looked_1 4 rfl) (by decide) ?_
      exact ih (k + 1) ((nI k)) (S_28) _ _ ls (by omega) (by omega) ((by first | exact hI2 | exact hI.mono (by omega))) hP hD hS (lv_sub hl [0, 1, 3] rfl)
  exact lp_4 (u + 1) (0) ((-5)) (S_3) _ _ ls (by omega) (by omega) (hI0) hP hD hS (lv_sub hl [0, 1, 2] rfl)
