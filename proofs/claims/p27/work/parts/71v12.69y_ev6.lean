set_option maxHeartbeats 800000 in
set_option maxRecDepth 100000 in
theorem c_buysInX (l : Launch) (G : GG) (ad : Nat → Nat) (S : FS) (sz : Nat) (z : Nat) (τ : Nat → Int32) (C : ClU) (c : Int32) (j bb wk : Nat) (hHOK : HOK S) (hHX : HOX S z τ C) (hSV : SV bb S) (hB : bb < 900000) (ej : c = nI j) (hj : j < 6) (hw40 : wk ≤ 40) : Met l yX12_buysIn (Cond.code yX12_buysIn cX12_buysIn 5 (some .int) :: TBL) ({ frames := 8, cells := 0, slots := 0, locals := 230 } : Room) (PcW G (wR G ad S) sz [.ref (ad 0), .int (c), .int ((nI wk))]) (va_Qi (fun (r : Int32) (S' : FS) => MO S S' ∧ SV (bb + wk) S' ∧ (r, gR S' j) = alN (fF S 0 15) (fF S 0 2) (lstW 3 1 C) τ C c (wk) (gR S j) ∧ ∀ d, ¬ d = j → gR S' d = gR S d) (fun S' t => BW G (va_A (wR G ad S) sz) (wR G ad S') t) (va_A (wR G ad S) sz)) 0 0 (va_A (wR G ad S) sz) := by
  refine Met.ofW (cc := cX12_buysIn) (maxL := 5) (ret := (some .int)) (by decide) rfl ?_
  intro p e s m args below meth c₀ s₁ B hml hv
  obtain ⟨rfl, hsz, hP, hK, hD0⟩ := hv
  have hx := B.exec
  have hb := B.bytes
  have hr := B.returns
  have hT : ∀ w ∈ TBL, w.before ([.ref (ad 0), .int (c), .int ((nI wk))] : List Value).toArray s = true := fun w h => atoms_spec (ws := Cond.code yX12_buysIn cX12_buysIn 5 (some .int) :: TBL) B.pre w (List.mem_cons_of_mem _ h)
  have hown : s.vm.findClass "LittleMoreModel" = some m.cls := findClass_of_methodNamed B.named
  have hlocks := B.notSynchronized
  subst hsz
  have hD := hD0.self (sz := s.heap.size)
  generalize hAe : va_A (wR G ad S) s.heap.size = A at hD ⊢
  have hA : ∀ q : Nat, s.heap.size ≤ q → A q := fun q h => by rw [← hAe]; exact Or.inr h
  have hS : va_S A s.heap s.heap [] := va_S.rf
  have hP : va_P G.1 vwCl (wR G ad S) s.heap := hP
  have hl := lv_entry ([.ref (ad 0), .int (c), .int ((nI wk))]) (n := 5) (Nat.le_of_ble_eq_true rfl)
  rw [lg_entry_eq]
  generalize (lg_sl ([.ref (ad 0), .int (c), .int ((nI wk))]) ++ List.replicate (5 - (lg_sl ([.ref (ad 0), .int (c), .int ((nI wk))])).length) Slot.unset).toArray = ls at hl ⊢
  have hl : lv_has ls 5 [(0, .ref (ad 0)), (1, .int (c)), (2, .int ((nI wk)))] := hl
  refine W_abs (fun Q hQ => ?_)
  generalize ([.ref (ad 0), .int (c), .int ((nI wk))] : List Value).toArray = args at hT hQ ⊢
  refine lv_iconst (v := 0) hx hb (fk_get fk_cX12_buysIn_0 0 rfl) (by decide) ?_
  refine lv_istore_n (lv' := [(3, .int (0)), (0, .ref (ad 0)), (1, .int (c)), (2, .int ((nI wk)))]) hx hb (fk_get fk_cX12_buysIn_0 1 rfl) rfl hl (by decide) rfl (fun ls hl => ?_)
  refine lv_iconst (v := 0) hx hb (fk_get fk_cX12_buysIn_0 2 rfl) (by decide) ?_
  refine lv_istore (lv' := [(4, .int (0)), (3, .int (0)), (0, .ref (ad 0)), (1, .int (c)), (2, .int ((nI wk)))]) hx hb (fk_get fk_cX12_buysIn_0 3 rfl) hl (by decide) rfl (fun ls hl => ?_)
  have lp_1 : ∀ (fu : Nat) (k : Nat) (v : Int32) (SL : FS) (H_3 : Heap) (locs_4 : List Loc) (ls : Array Slot),  (k ≤ wk) → (wk < k + fu) → (MO S SL) → (SV (bb + k) SL) → ((v + (alN (fF S 0 15) (fF S 0 2) (lstW 3 1 C) τ C c (wk - k) (gR SL j)).1, (alN (fF S 0 15) (fF S 0 2) (lstW 3 1 C) τ C c (wk - k) (gR SL j)).2) = alN (fF S 0 15) (fF S 0 2) (lstW 3 1 C) τ C c (wk) (gR S j)) → (∀ d, ¬ d = j → gR SL d = gR S d) → va_P G.1 vwCl (wR G ad SL) H_3 → va_D A (wR G ad SL) → va_S A s.heap H_3 locs_4 → lv_has ls 5 [(4, .int ((nI k))), (3, .int (v)), (0, .ref (ad 0)), (1, .int (c)), (2, .int ((nI wk)))] → W p l e ({ frames := 8, cells := 0, slots := 0, locals := 230 } : Room) s m args below meth c₀ H_3 locs_4 0 0 Q (F0 m 5 ls []) := by
    intro fu
    induction fu with
    | zero =>
      intro k v SL H_3 locs_4 ls hk hf hM hSk hI hoth hP hD hS hl
      exact absurd hf (by omega)
    | succ fu ih =>
      intro k v SL H_3 locs_4 ls hk hf hM hSk hI hoth hP hD hS hl
      refine lv_iload hx hb (fk_get fk_cX12_buysIn_0 4 rfl) (lv_at hl 0 rfl) ?_
      refine lv_iload_n hx hb (fk_get fk_cX12_buysIn_0 5 rfl) rfl (lv_at hl 4 rfl) ?_
      refine lv_icmp_ge (tgt := 37) hx hb (fk_get fk_cX12_buysIn_0 6 rfl) (by decide) (fun c_5 => ?_) (fun c_5 => ?_)
      · have hend_ : wk ≤ k ∨ gR SL j 7 = 1 := Or.inl ((nI_leI (a := wk) (b := k) (by omega) (by omega)).mp c_5)
        refine lv_iload_n hx hb (fk_get fk_cX12_buysIn_0 21 rfl) rfl (lv_at hl 1 rfl) ?_
        subst hQ
        have hpost : MO S SL ∧ SV (bb + wk) SL ∧ ((v : Int32), gR SL j) = alN (fF S 0 15) (fF S 0 2) (lstW 3 1 C) τ C c (wk) (gR S j) ∧ ∀ d, ¬ d = j → gR SL d = gR S d := by
          exact ⟨hM, hSk.mono (by omega), al_end hI hend_, hoth⟩
        exact W.iret (v := v) hx hb hr (fun t_ ht_ hW_ => ⟨⟨v, SL, rfl, hpost, by rw [ht_]; exact hP, va_K.moved hW_.alike hK, hD⟩, hS.F ht_⟩) hS.2.2 (fk_get fk_cX12_buysIn_0 22 rfl)
      have hlt : k < wk := Nat.lt_of_not_le (fun q => c_5 ((nI_leI (a := wk) (b := k) (by omega) (by omega)).mpr q))
      obtain ⟨x, hxB, hx6⟩ := hSk j hj
      refine lv_aload_n hx hb (fk_get fk_cX12_buysIn_0 7 rfl) rfl (lv_at hl 2 rfl) ?_
      refine lv_iload_n hx hb (fk_get fk_cX12_buysIn_0 8 rfl) rfl (lv_at hl 3 rfl) ?_
      refine vp_callSi (W.runV (As := [.int (c)]) (rest := []) ⟨hx, hb, hml, hown, hT⟩ (c_isGone l G ad SL H_3.size (c) (j) (ej) (by omega)) (tV 1 hT m6_192 m6_194 mp_45 m1_17 m6_195 rfl rfl (by decide +kernel) ⟨Nat.le_of_ble_eq_true rfl, Nat.le_of_ble_eq_true rfl⟩) ⟨PcW_blind, va_recv hK hP (ci := 14) (q0 := 0) rfl (ix_at (by decide) (cR_0 G ad SL)), PcW_of hP hK hD _⟩ rfl rfl hl.1 rfl (lv_room (Nat.le_of_ble_eq_true rfl)) (fk_get fk_cX12_buysIn_0 9 rfl) ⟨Nat.zero_le _, Nat.zero_le _⟩) (fun r_6 hw_7 => ?_)
      try dsimp only at hw_7
      refine lv_if_ne (tgt := 37) hx hb (fk_get fk_cX12_buysIn_0 10 rfl) (by decide) (fun c_8 => ?_) (fun c_8 => ?_)
      · have p_c_8 := if1_t hw_7 c_8
        have hend_ : wk ≤ k ∨ gR SL j 7 = 1 := Or.inr (isg_1 p_c_8)
        refine lv_iload_n hx hb (fk_get fk_cX12_buysIn_0 21 rfl) rfl (lv_at hl 1 rfl) ?_
        subst hQ
        have hpost : MO S SL ∧ SV (bb + wk) SL ∧ ((v : Int32), gR SL j) = alN (fF S 0 15) (fF S 0 2) (lstW 3 1 C) τ C c (wk) (gR S j) ∧ ∀ d, ¬ d = j → gR SL d = gR S d := by
          exact ⟨hM, hSk.mono (by omega), al_end hI hend_, hoth⟩
        exact W.iret (v := v) hx hb hr (fun t_ ht_ hW_ => ⟨⟨v, SL, rfl, hpost, by rw [ht_]; exact hP, va_K.moved hW_.alike hK, hD⟩, hS.F ht_⟩) hS.2.2 (fk_get fk_cX12_buysIn_0 22 rfl)
      have p_c_8 := if1_f hw_7 c_8
      have hgo_ := isg_0 p_c_8
      refine lv_aload_n hx hb (fk_get fk_cX12_buysIn_0 11 rfl) rfl (lv_at hl 2 rfl) ?_
      refine lv_iload_n hx hb (fk_get fk_cX12_buysIn_0 12 rfl) rfl (lv_at hl 3 rfl) ?_
      have hFc := va_self hD hS hA
      refine va_callv (va_runV (As := [.int (c)]) (rest := []) ⟨hx, hb, hml, hown, hT⟩ (c_visitOneE l G ad SL H_3.size (z) (τ) (C) (c) (j) (x) (hHOK.M hM) (hHX.M hM) (ej) (hj) (hx6) (by omega)) (tV 1 hT m6_196 m6_198 mp_46 m1_17 m6_199 rfl rfl (by decide +kernel) ⟨Nat.le_of_ble_eq_true rfl, Nat.le_of_ble_eq_true rfl⟩) ⟨PcW_blind, va_recv hK hP (ci := 14) (q0 := 0) rfl (ix_at (by decide) (cR_0 G ad SL)), PcW_of hP hK hD _⟩ rfl rfl hl.1 rfl (lv_room (Nat.le_of_ble_eq_true rfl)) (fk_get fk_cX12_buysIn_0 13 rfl) ⟨Nat.zero_le _, Nat.zero_le _⟩) hS (fun q _ h => hFc q h) hFc (fun S_11 t_ H locs ht_ hvm_ hw_10 hB_ hz_ hk_ hS => ?_)
      obtain ⟨hP, -, hD1_⟩ := hB_
      rw [ht_] at hP
      have hD : va_D A (wR G ad S_11) := hD1_.weaken (fun k q _ h => hFc q.1 h)
      try dsimp only at hw_10
      obtain ⟨⟨y, hV, hy, hy2⟩, hvs_, hb33_, hb34_, hb35_⟩ := hw_10
      rw [show fF SL 0 15 = fF S 0 15 from hM.f (by decide) rfl, show fF SL 0 2 = fF S 0 2 from hM.f (by decide) rfl] at hvs_
      rw [show fF SL 0 2 = fF S 0 2 from hM.f (by decide) rfl] at hb33_
      have hgv_ := gr_vis hvs_
      refine lv_iload_n hx hb (fk_get fk_cX12_buysIn_0 14 rfl) rfl (lv_at hl 1 rfl) ?_
      refine lv_aload_n hx hb (fk_get fk_cX12_buysIn_0 15 rfl) rfl (lv_at hl 2 rfl) ?_
      refine va_get (D := G.1) (ci := 14) (v := .int ((fF S_11 0 33))) (C := RX12) (T := TX12) (N := 49) hx hb hT inX12 hown hK hP 0 (ix_at (by decide) (cR_0 G ad S_11)) rfl 33 (by decide) (hT _ m5_134) (fun _ h9 => h9) rfl (fk_get fk_cX12_buysIn_0 16 rfl) ?_
      refine lv_iadd hx hb (fk_get fk_cX12_buysIn_0 17 rfl) ?_
      refine lv_istore_n (lv' := [(3, .int ((v + (fF S_11 0 33)))), (4, .int ((nI k))), (0, .ref (ad 0)), (1, .int (c)), (2, .int ((nI wk)))]) hx hb (fk_get fk_cX12_buysIn_0 18 rfl) rfl hl (by decide) rfl (fun ls hl => ?_)
      refine lv_iinc (v := (nI (k + 1))) (lv' := [(4, .int ((nI (k + 1)))), (3, .int ((v + (fF S_11 0 33)))), (0, .ref (ad 0)), (1, .int (c)), (2, .int ((nI wk)))]) hx hb (fk_get fk_cX12_buysIn_0 19 rfl) hl (k := 1) rfl ((nI_1 k)) (by decide) rfl (fun ls hl => ?_)
      refine lv_goto (tgt := 5) hx hb (fk_get fk_cX12_buysIn_0 20 rfl) (by decide) ?_
      exact ih (k + 1) ((v + (fF S_11 0 33))) (S_11) _ _ ls (by omega) (by omega) (hM.trans hV.M) (hSk.V hV (by omega) hj) ((by rw [hb33_]; exact al_step (by omega) hgo_ hI hgv_)) (fun d hd => (gr_ne hV hd).trans (hoth d hd)) hP hD hS (lv_sub hl [0, 1, 2, 3, 4] rfl)
  exact lp_1 (wk + 1) (0) (0) (S) _ _ ls (by omega) (by omega) (MO.rf S) (hSV) ((by rw [Nat.sub_zero, Int32.zero_add])) (fun _ _ => rfl) hP hD hS (lv_sub hl [0, 1, 2, 3, 4] rfl)
set_option maxHeartbeats 800000 in
set_option maxRecDepth 100000 in
theorem c_saturdayOnX (l : Launch) (G : GG) (ad : Nat → Nat) (S : FS) (sz : Nat) (z : Nat) (τ : Nat → Int32) (C : ClU) (n bb : Nat) (hn : fF S 0 1 = nI n) (hn6 : n ≤ 6) (hHOK : HOK S) (hHX : HOX S z τ C) (hSV : SV bb S) (hB : bb < 900000) : Met l yX12_saturdayOn (Cond.code yX12_saturdayOn cX12_saturdayOn 2 none :: TBL) ({ frames := 8, cells := 0, slots := 0, locals := 230 } : Room) (PcW G (wR G ad S) sz [.ref (ad 0)]) (va_Qv (fun (S' : FS) => MO S S' ∧ SV (bb + 1) S' ∧ (fF S 0 15 = 0 → bb ≤ 9999 → SV 9999 S') ∧ (∀ d, d < n → gR S' d = saG (fF S 0 15) (fF S 0 2) (lstW 3 1 C) τ C (n) (gR S) d) ∧ SUM (fF S 0 2) τ C (gR S) n S S') (fun S' t => BW G (va_A (wR G ad S) sz) (wR G ad S') t) (va_A (wR G ad S) sz)) 0 0 (va_A (wR G ad S) sz) := by
  refine Met.ofW (cc := cX12_saturdayOn) (maxL := 2) (ret := none) (by decide) rfl ?_
  intro p e s m args below meth c₀ s₁ B hml hv
  obtain ⟨rfl, hsz, hP, hK, hD0⟩ := hv
  have hx := B.exec
  have hb := B.bytes
  have hr := B.returns
  have hT : ∀ w ∈ TBL, w.before ([.ref (ad 0)] : List Value).toArray s = true := fun w h => atoms_spec (ws := Cond.code yX12_saturdayOn cX12_saturdayOn 2 none :: TBL) B.pre w (List.mem_cons_of_mem _ h)
  have hown : s.vm.findClass "LittleMoreModel" = some m.cls := findClass_of_methodNamed B.named
  have hlocks := B.notSynchronized
  subst hsz
  have hD := hD0.self (sz := s.heap.size)
  generalize hAe : va_A (wR G ad S) s.heap.size = A at hD ⊢
  have hA : ∀ q : Nat, s.heap.size ≤ q → A q := fun q h => by rw [← hAe]; exact Or.inr h
  have hS : va_S A s.heap s.heap [] := va_S.rf
  have hP : va_P G.1 vwCl (wR G ad S) s.heap := hP
  have hl := lv_entry ([.ref (ad 0)]) (n := 2) (Nat.le_of_ble_eq_true rfl)
  rw [lg_entry_eq]
  generalize (lg_sl ([.ref (ad 0)]) ++ List.replicate (2 - (lg_sl ([.ref (ad 0)])).length) Slot.unset).toArray = ls at hl ⊢
  have hl : lv_has ls 2 [(0, .ref (ad 0))] := hl
  refine W_abs (fun Q hQ => ?_)
  generalize ([.ref (ad 0)] : List Value).toArray = args at hT hQ ⊢
  refine lv_iconst (v := 0) hx hb (fk_get fk_cX12_saturdayOn_0 0 rfl) (by decide) ?_
  refine lv_istore_n (lv' := [(1, .int (0)), (0, .ref (ad 0))]) hx hb (fk_get fk_cX12_saturdayOn_0 1 rfl) rfl hl (by decide) rfl (fun ls hl => ?_)
  have lp_1 : ∀ (fu : Nat) (k : Nat) (SL : FS) (H_3 : Heap) (locs_4 : List Loc) (ls : Array Slot),  (k ≤ n) → (n < k + fu) → (MO S SL) → (SVk bb k S SL) → (∀ d, d < n → gR SL d = saG (fF S 0 15) (fF S 0 2) (lstW 3 1 C) τ C (k) (gR S) d) → (SUM (fF S 0 2) τ C (gR S) k S SL) → va_P G.1 vwCl (wR G ad SL) H_3 → va_D A (wR G ad SL) → va_S A s.heap H_3 locs_4 → lv_has ls 2 [(1, .int ((nI k))), (0, .ref (ad 0))] → W p l e ({ frames := 8, cells := 0, slots := 0, locals := 230 } : Room) s m args below meth c₀ H_3 locs_4 0 0 Q (F0 m 2 ls []) := by
    intro fu
    induction fu with
    | zero =>
      intro k SL H_3 locs_4 ls hk hf hM hSk hG hSum hP hD hS hl
      exact absurd hf (by omega)
    | succ fu ih =>
      intro k SL H_3 locs_4 ls hk hf hM hSk hG hSum hP hD hS hl
      refine lv_iload_n hx hb (fk_get fk_cX12_saturdayOn_0 2 rfl) rfl (lv_at hl 0 rfl) ?_
      refine lv_aload_n hx hb (fk_get fk_cX12_saturdayOn_0 3 rfl) rfl (lv_at hl 1 rfl) ?_
      refine va_get (D := G.1) (ci := 14) (v := .int ((fF SL 0 1))) (C := RX12) (T := TX12) (N := 49) hx hb hT inX12 hown hK hP 0 (ix_at (by decide) (cR_0 G ad SL)) rfl 1 (by decide) (hT _ m5_102) (fun _ h9 => h9) rfl (fk_get fk_cX12_saturdayOn_0 4 rfl) ?_
      refine lv_icmp_ge (tgt := 65) hx hb (fk_get fk_cX12_saturdayOn_0 5 rfl) (by decide) (fun c_5 => ?_) (fun c_5 => ?_)
      · have hend_ : k = n := by have z_ := (nI_leI (a := n) (b := k) (by omega) (by omega)).mp (by rw [← show fF SL 0 1 = nI n from hM.f (by decide) hn]; exact c_5); omega
        subst hQ
        have hpost : MO S SL ∧ SV (bb + 1) SL ∧ (fF S 0 15 = 0 → bb ≤ 9999 → SV 9999 SL) ∧ (∀ d, d < n → gR SL d = saG (fF S 0 15) (fF S 0 2) (lstW 3 1 C) τ C (n) (gR S) d) ∧ SUM (fF S 0 2) τ C (gR S) n S SL := by
          obtain ⟨e1_, e2_⟩ := hSk.end_
          subst hend_
          exact ⟨hM, e1_, e2_, hG, hSum⟩
        exact W.vret hx hb hr (fun t_ ht_ hW_ => ⟨⟨SL, rfl, hpost, by rw [ht_]; exact hP, va_K.moved hW_.alike hK, hD⟩, hS.F ht_⟩) hS.2.2 (fk_get fk_cX12_saturdayOn_1 3 rfl)
      have hlt : k < n := Nat.lt_of_not_le (fun wk => c_5 (by rw [show fF SL 0 1 = nI n from hM.f (by decide) hn]; exact (nI_leI (a := n) (b := k) (by omega) (by omega)).mpr wk))
      obtain ⟨x, hx6, hxb, hxB0, -⟩ := hSk k (by omega)
      have hxB : x ≤ bb := hxB0 (Nat.le_refl k)
      refine lv_aload_n hx hb (fk_get fk_cX12_saturdayOn_0 6 rfl) rfl (lv_at hl 1 rfl) ?_
      refine lv_iload_n hx hb (fk_get fk_cX12_saturdayOn_0 7 rfl) rfl (lv_at hl 0 rfl) ?_
      refine vp_callSi (W.runV (As := [.int ((nI k))]) (rest := []) ⟨hx, hb, hml, hown, hT⟩ (c_isGone l G ad SL H_3.size ((nI k)) (k) (rfl) (by omega)) (tV 1 hT m6_192 m6_194 mp_45 m1_17 m6_195 rfl rfl (by decide +kernel) ⟨Nat.le_of_ble_eq_true rfl, Nat.le_of_ble_eq_true rfl⟩) ⟨PcW_blind, va_recv hK hP (ci := 14) (q0 := 0) rfl (ix_at (by decide) (cR_0 G ad SL)), PcW_of hP hK hD _⟩ rfl rfl hl.1 rfl (lv_room (Nat.le_of_ble_eq_true rfl)) (fk_get fk_cX12_saturdayOn_0 8 rfl) ⟨Nat.zero_le _, Nat.zero_le _⟩) (fun r_6 hw_7 => ?_)
      try dsimp only at hw_7
      refine lv_if_ne (tgt := 59) hx hb (fk_get fk_cX12_saturdayOn_0 9 rfl) (by decide) (fun c_8 => ?_) (fun c_8 => ?_)
      · have p_c_8 := if1_t hw_7 c_8
        have hgo_ : gR SL k 7 = 1 := isg_1 p_c_8
        refine lv_iinc (v := (nI (k + 1))) (lv' := [(1, .int ((nI (k + 1)))), (0, .ref (ad 0))]) hx hb (fk_get fk_cX12_saturdayOn_1 1 rfl) hl (k := 0) rfl ((nI_1 k)) (by decide) rfl (fun ls hl => ?_)
        refine lv_goto (tgt := 2) hx hb (fk_get fk_cX12_saturdayOn_1 2 rfl) (by decide) ?_
        exact ih (k + 1) (SL) _ _ ls (by omega) (by omega) ((by first | exact hM | exact (((hM.trans hV.M).setF (by decide) _).setF (by decide) _).setF (by decide) _)) ((by first | exact hSk.V (by omega) hx6 hxB hV hy hy2 (hM.f (by decide) rfl) rfl | exact hSk.skip)) ((by first | exact hG2 | exact sa_skip (H := gR SL) (G := gR S) hG hlt hgo_)) ((by first | exact sum_y hSum hgo_ hat_ hm_ hb33_ hb34_ rfl rfl rfl | exact sum_n hSum (by rw [← sa_at (H := gR SL) (G := gR S) (c := k) hG hlt]; exact hgo_))) hP hD hS (lv_sub hl [0, 1] rfl)
      have p_c_8 := if1_f hw_7 c_8
      have hgo_ : ¬ gR SL k 7 = 1 := isg_0 p_c_8
      refine lv_aload_n hx hb (fk_get fk_cX12_saturdayOn_0 10 rfl) rfl (lv_at hl 1 rfl) ?_
      refine lv_iload_n hx hb (fk_get fk_cX12_saturdayOn_0 11 rfl) rfl (lv_at hl 0 rfl) ?_
      have hFc := va_self hD hS hA
      refine va_callv (va_runV (As := [.int ((nI k))]) (rest := []) ⟨hx, hb, hml, hown, hT⟩ (c_visitOneE l G ad SL H_3.size (z) (τ) (C) ((nI k)) (k) (x) (hHOK.M hM) (hHX.M hM) (rfl) (by omega) (hx6) (by omega)) (tV 1 hT m6_196 m6_198 mp_46 m1_17 m6_199 rfl rfl (by decide +kernel) ⟨Nat.le_of_ble_eq_true rfl, Nat.le_of_ble_eq_true rfl⟩) ⟨PcW_blind, va_recv hK hP (ci := 14) (q0 := 0) rfl (ix_at (by decide) (cR_0 G ad SL)), PcW_of hP hK hD _⟩ rfl rfl hl.1 rfl (lv_room (Nat.le_of_ble_eq_true rfl)) (fk_get fk_cX12_saturdayOn_0 12 rfl) ⟨Nat.zero_le _, Nat.zero_le _⟩) hS (fun q _ h => hFc q h) hFc (fun S_11 t_ H locs ht_ hvm_ hw_10 hB_ hz_ hk_ hS => ?_)
      obtain ⟨hP, -, hD1_⟩ := hB_
      rw [ht_] at hP
      have hD : va_D A (wR G ad S_11) := hD1_.weaken (fun k q _ h => hFc q.1 h)
      try dsimp only at hw_10
      obtain ⟨⟨y, hV, hy, hy2⟩, hvs_, hb33_, hb34_, hb35_⟩ := hw_10
      rw [show fF SL 0 15 = fF S 0 15 from hM.f (by decide) rfl, show fF SL 0 2 = fF S 0 2 from hM.f (by decide) rfl] at hvs_
      rw [show fF SL 0 2 = fF S 0 2 from hM.f (by decide) rfl] at hb33_
      have hgv_ := gr_vis hvs_
      have hat_ := sa_at (H := gR SL) (G := gR S) (c := k) hG hlt
      have hm_ : fF S_11 0 36 = fF SL 0 36 ∧ fF S_11 0 37 = fF SL 0 37 ∧ fF S_11 0 38 = fF SL 0 38 := ⟨hV.2.2.1 36 (by decide) (by decide) (by decide), hV.2.2.1 37 (by decide) (by decide) (by decide), hV.2.2.1 38 (by decide) (by decide) (by decide)⟩
      have hG2 := sa_step (H := gR SL) (G := gR S) (H' := gR S_11) (c := k) hG hlt hgo_ (fun d hd_ hne_ => gr_ne hV hne_) hgv_
      refine lv_aload_n hx hb (fk_get fk_cX12_saturdayOn_0 13 rfl) rfl (lv_at hl 1 rfl) ?_
      refine lv_dup hx hb (fk_get fk_cX12_saturdayOn_0 14 rfl) rfl ?_
      refine va_get (D := G.1) (ci := 14) (v := .int ((fF S_11 0 36))) (C := RX12) (T := TX12) (N := 49) hx hb hT inX12 hown hK hP 0 (ix_at (by decide) (cR_0 G ad S_11)) rfl 36 (by decide) (hT _ m5_137) (fun _ h9 => h9) rfl (fk_get fk_cX12_saturdayOn_0 15 rfl) ?_
      refine lv_aload_n hx hb (fk_get fk_cX12_saturdayOn_0 16 rfl) rfl (lv_at hl 1 rfl) ?_
      refine va_get (D := G.1) (ci := 14) (v := .int ((fF S_11 0 33))) (C := RX12) (T := TX12) (N := 49) hx hb hT inX12 hown hK hP 0 (ix_at (by decide) (cR_0 G ad S_11)) rfl 33 (by decide) (hT _ m5_134) (fun _ h9 => h9) rfl (fk_get fk_cX12_saturdayOn_0 17 rfl) ?_
      refine lv_iadd hx hb (fk_get fk_cX12_saturdayOn_0 18 rfl) ?_
      refine va_put (D := G.1) (ci := 14) (v := .int (((fF S_11 0 36) + (fF S_11 0 33)))) (ty := .int) (C := RX12) (T := TX12) (N := 49) hx hb hT inX12 tyX12 tyX12_ok nmX12 hown hK hP hD hS 0 (ix_at (by decide) (cR_0 G ad S_11)) rfl 36 (by decide) (hT _ m5_137) (fun _ h9 => h9) rfl (by decide +kernel) rfl rfl (Nat.le_of_ble_eq_true rfl) (fk_get fk_cX12_saturdayOn_0 19 rfl) (fun H locs hP hD hS => ?_)
      rw [pR_boughtSum G ad S_11 (((fF S_11 0 36) + (fF S_11 0 33)))] at hP hD
      refine lv_aload_n hx hb (fk_get fk_cX12_saturdayOn_0 20 rfl) rfl (lv_at hl 1 rfl) ?_
      refine lv_dup hx hb (fk_get fk_cX12_saturdayOn_0 21 rfl) rfl ?_
      refine va_get (D := G.1) (ci := 14) (v := .int ((fF S_11 0 37))) (C := RX12) (T := TX12) (N := 49) hx hb hT inX12 hown hK hP 0 (ix_at (by decide) (cR_0 G ad (setF S_11 0 36 (((fF S_11 0 36) + (fF S_11 0 33)))))) rfl 37 (by decide) (hT _ m5_138) (fun _ h9 => h9) rfl (fk_get fk_cX12_saturdayOn_0 22 rfl) ?_
      refine lv_aload_n hx hb (fk_get fk_cX12_saturdayOn_0 23 rfl) rfl (lv_at hl 1 rfl) ?_
      refine va_get (D := G.1) (ci := 14) (v := .int ((fF S_11 0 34))) (C := RX12) (T := TX12) (N := 49) hx hb hT inX12 hown hK hP 0 (ix_at (by decide) (cR_0 G ad (setF S_11 0 36 (((fF S_11 0 36) + (fF S_11 0 33)))))) rfl 34 (by decide) (hT _ m5_135) (fun _ h9 => h9) rfl (fk_get fk_cX12_saturdayOn_0 24 rfl) ?_
      refine lv_iadd hx hb (fk_get fk_cX12_saturdayOn_0 25 rfl) ?_
      refine va_put (D := G.1) (ci := 14) (v := .int (((fF S_11 0 37) + (fF S_11 0 34)))) (ty := .int) (C := RX12) (T := TX12) (N := 49) hx hb hT inX12 tyX12 tyX12_ok nmX12 hown hK hP hD hS 0 (ix_at (by decide) (cR_0 G ad (setF S_11 0 36 (((fF S_11 0 36) + (fF S_11 0 33)))))) rfl 37 (by decide) (hT _ m5_138) (fun _ h9 => h9) rfl (by decide +kernel) rfl rfl (Nat.le_of_ble_eq_true rfl) (fk_get fk_cX12_saturdayOn_0 26 rfl) (fun H locs hP hD hS => ?_)
      rw [pR_askedSum G ad (setF S_11 0 36 (((fF S_11 0 36) + (fF S_11 0 33)))) (((fF S_11 0 37) + (fF S_11 0 34)))] at hP hD
      refine lv_aload_n hx hb (fk_get fk_cX12_saturdayOn_0 27 rfl) rfl (lv_at hl 1 rfl) ?_
      refine lv_dup hx hb (fk_get fk_cX12_saturdayOn_0 28 rfl) rfl ?_
      refine va_get (D := G.1) (ci := 14) (v := .int ((fF S_11 0 38))) (C := RX12) (T := TX12) (N := 49) hx hb hT inX12 hown hK hP 0 (ix_at (by decide) (cR_0 G ad (setF (setF S_11 0 36 (((fF S_11 0 36) + (fF S_11 0 33)))) 0 37 (((fF S_11 0 37) + (fF S_11 0 34)))))) rfl 38 (by decide) (hT _ m5_139) (fun _ h9 => h9) rfl (fk_get fk_cX12_saturdayOn_0 29 rfl) ?_
      refine lv_iconst (v := 1) hx hb (fk_get fk_cX12_saturdayOn_0 30 rfl) (by decide) ?_
      refine lv_iadd hx hb (fk_get fk_cX12_saturdayOn_0 31 rfl) ?_
      refine va_put (D := G.1) (ci := 14) (v := .int (((fF S_11 0 38) + 1))) (ty := .int) (C := RX12) (T := TX12) (N := 49) hx hb hT inX12 tyX12 tyX12_ok nmX12 hown hK hP hD hS 0 (ix_at (by decide) (cR_0 G ad (setF (setF S_11 0 36 (((fF S_11 0 36) + (fF S_11 0 33)))) 0 37 (((fF S_11 0 37) + (fF S_11 0 34)))))) rfl 38 (by decide) (hT _ m5_139) (fun _ h9 => h9) rfl (by decide +kernel) rfl rfl (Nat.le_of_ble_eq_true rfl) (fk_get fk_cX12_saturdayOn_1 0 rfl) (fun H locs hP hD hS => ?_)
      rw [pR_visitSum G ad (setF (setF S_11 0 36 (((fF S_11 0 36) + (fF S_11 0 33)))) 0 37 (((fF S_11 0 37) + (fF S_11 0 34)))) (((fF S_11 0 38) + 1))] at hP hD
      refine lv_iinc (v := (nI (k + 1))) (lv' := [(1, .int ((nI (k + 1)))), (0, .ref (ad 0))]) hx hb (fk_get fk_cX12_saturdayOn_1 1 rfl) hl (k := 0) rfl ((nI_1 k)) (by decide) rfl (fun ls hl => ?_)
      refine lv_goto (tgt := 2) hx hb (fk_get fk_cX12_saturdayOn_1 2 rfl) (by decide) ?_
      exact ih (k + 1) (setF (setF (setF S_11 0 36 (((fF S_11 0 36) + (fF S_11 0 33)))) 0 37 (((fF S_11 0 37) + (fF S_11 0 34)))) 0 38 (((fF S_11 0 38) + 1))) _ _ ls (by omega) (by omega) ((by first | exact hM | exact (((hM.trans hV.M).setF (by decide) _).setF (by decide) _).setF (by decide) _)) ((by first | exact hSk.V (by omega) hx6 hxB hV hy hy2 (hM.f (by decide) rfl) rfl | exact hSk.skip)) ((by first | exact hG2 | exact sa_skip (H := gR SL) (G := gR S) hG hlt hgo_)) ((by first | exact sum_y hSum hgo_ hat_ hm_ hb33_ hb34_ rfl rfl rfl | exact sum_n hSum (by rw [← sa_at (H := gR SL) (G := gR S) (c := k) hG hlt]; exact hgo_))) hP hD hS (lv_sub hl [0, 1] rfl)
  exact lp_1 (n + 1) (0) (S) _ _ ls (by omega) (by omega) (MO.rf S) (SVk.of hSV) (sa_0 _ (fun _ _ => rfl)) (sum_0) hP hD hS (lv_sub hl [0, 1] rfl)
set_option maxHeartbeats 800000 in
set_option maxRecDepth 100000 in
theorem c_saturdaysOnX (l : Launch) (G : GG) (ad : Nat → Nat) (S : FS) (sz : Nat) (z : Nat) (τ : Nat → Int32) (C : ClU) (n bb wk : Nat) (hn : fF S 0 1 = nI n) (hn6 : n ≤ 6) (hHOK : HOK S) (hHX : HOX S z τ C) (hSV : SV bb S) (hB : bb < 800000) (hw40 : wk ≤ 40) : Met l yX12_saturdaysOn (Cond.code yX12_saturdaysOn cX12_saturdaysOn 3 none :: TBL) ({ frames := 9, cells := 0, slots := 0, locals := 255 } : Room) (PcW G (wR G ad S) sz [.ref (ad 0), .int ((nI wk))]) (va_Qv (fun (S' : FS) => MO S S' ∧ SV (bb + wk) S' ∧ (fF S 0 15 = 0 → bb ≤ 9999 → wk ≤ 1 → SV 9999 S') ∧ cutF n (gR S') = stF (fF S 0 15) (fF S 0 2) (lstW 3 1 C) τ C n wk (cutF n (gR S)) ∧ fF S' 0 36 = bsF (fF S 0 15) (fF S 0 2) (lstW 3 1 C) τ C n wk (cutF n (gR S)) ∧ fF S' 0 37 = ksF (fF S 0 15) (fF S 0 2) (lstW 3 1 C) τ C n wk (cutF n (gR S)) ∧ fF S' 0 38 = nI (vsF (fF S 0 15) (fF S 0 2) (lstW 3 1 C) τ C n wk (cutF n (gR S)))) (fun S' t => BW G (va_A (wR G ad S) sz) (wR G ad S') t) (va_A (wR G ad S) sz)) 0 0 (va_A (wR G ad S) sz) := by
  refine Met.ofW (cc := cX12_saturdaysOn) (maxL := 3) (ret := none) (by decide) rfl ?_
  intro p e s m args below meth c₀ s₁ B hml hv
  obtain ⟨rfl, hsz, hP, hK, hD0⟩ := hv
  have hx := B.exec
  have hb := B.bytes
  have hr := B.returns
  have hT : ∀ w ∈ TBL, w.before ([.ref (ad 0), .int ((nI wk))] : List Value).toArray s = true := fun w h => atoms_spec (ws := Cond.code yX12_saturdaysOn cX12_saturdaysOn 3 none :: TBL) B.pre w (List.mem_cons_of_mem _ h)
  have hown : s.vm.findClass "LittleMoreModel" = some m.cls := findClass_of_methodNamed B.named
  have hlocks := B.notSynchronized
  subst hsz
  have hD := hD0.self (sz := s.heap.size)
  generalize hAe : va_A (wR G ad S) s.heap.size = A at hD ⊢
  have hA : ∀ q : Nat, s.heap.size ≤ q → A q := fun q h => by rw [← hAe]; exact Or.inr h
  have hS : va_S A s.heap s.heap [] := va_S.rf
  have hP : va_P G.1 vwCl (wR G ad S) s.heap := hP
  have hl := lv_entry ([.ref (ad 0), .int ((nI wk))]) (n := 3) (Nat.le_of_ble_eq_true rfl)
  rw [lg_entry_eq]
  generalize (lg_sl ([.ref (ad 0), .int ((nI wk))]) ++ List.replicate (3 - (lg_sl ([.ref (ad 0), .int ((nI wk))])).length) Slot.unset).toArray = ls at hl ⊢
  have hl : lv_has ls 3 [(0, .ref (ad 0)), (1, .int ((nI wk)))] := hl
  refine W_abs (fun Q hQ => ?_)
  generalize ([.ref (ad 0), .int ((nI wk))] : List Value).toArray = args at hT hQ ⊢
  refine lv_aload_n hx hb (fk_get fk_cX12_saturdaysOn_0 0 rfl) rfl (lv_at hl 0 rfl) ?_
  refine lv_iconst (v := 0) hx hb (fk_get fk_cX12_saturdaysOn_0 1 rfl) (by decide) ?_
  refine va_put (D := G.1) (ci := 14) (v := .int (0)) (ty := .int) (C := RX12) (T := TX12) (N := 49) hx hb hT inX12 tyX12 tyX12_ok nmX12 hown hK hP hD hS 0 (ix_at (by decide) (cR_0 G ad S)) rfl 36 (by decide) (hT _ m5_137) (fun _ h9 => h9) rfl (by decide +kernel) rfl rfl (Nat.le_of_ble_eq_true rfl) (fk_get fk_cX12_saturdaysOn_0 2 rfl) (fun H locs hP hD hS => ?_)
  rw [pR_boughtSum G ad S (0)] at hP hD
  refine lv_aload_n hx hb (fk_get fk_cX12_saturdaysOn_0 3 rfl) rfl (lv_at hl 0 rfl) ?_
  refine lv_iconst (v := 0) hx hb (fk_get fk_cX12_saturdaysOn_0 4 rfl) (by decide) ?_
  refine va_put (D := G.1) (ci := 14) (v := .int (0)) (ty := .int) (C := RX12) (T := TX12) (N := 49) hx hb hT inX12 tyX12 tyX12_ok nmX12 hown hK hP hD hS 0 (ix_at (by decide) (cR_0 G ad (setF S 0 36 (0)))) rfl 37 (by decide) (hT _ m5_138) (fun _ h9 => h9) rfl (by decide +kernel) rfl rfl (Nat.le_of_ble_eq_true rfl) (fk_get fk_cX12_saturdaysOn_0 5 rfl) (fun H locs hP hD hS => ?_)
  rw [pR_askedSum G ad (setF S 0 36 (0)) (0)] at hP hD
  refine lv_aload_n hx hb (fk_get fk_cX12_saturdaysOn_0 6 rfl) rfl (lv_at hl 0 rfl) ?_
  refine lv_iconst (v := 0) hx hb (fk_get fk_cX12_saturdaysOn_0 7 rfl) (by decide) ?_
  refine va_put (D := G.1) (ci := 14) (v := .int (0)) (ty := .int) (C := RX12) (T := TX12) (N := 49) hx hb hT inX12 tyX12 tyX12_ok nmX12 hown hK hP hD hS 0 (ix_at (by decide) (cR_0 G ad (setF (setF S 0 36 (0)) 0 37 (0)))) rfl 38 (by decide) (hT _ m5_139) (fun _ h9 => h9) rfl (by decide +kernel) rfl rfl (Nat.le_of_ble_eq_true rfl) (fk_get fk_cX12_saturdaysOn_0 8 rfl) (fun H locs hP hD hS => ?_)
  rw [pR_visitSum G ad (setF (setF S 0 36 (0)) 0 37 (0)) (0)] at hP hD
  refine lv_iconst (v := 0) hx hb (fk_get fk_cX12_saturdaysOn_0 9 rfl) (by decide) ?_
  refine lv_istore_n (lv' := [(2, .int (0)), (0, .ref (ad 0)), (1, .int ((nI wk)))]) hx hb (fk_get fk_cX12_saturdaysOn_0 10 rfl) rfl hl (by decide) rfl (fun ls hl => ?_)
  have lp_1 : ∀ (fu : Nat) (k : Nat) (SL : FS) (H_3 : Heap) (locs_4 : List Loc) (ls : Array Slot),  (k ≤ wk) → (wk < k + fu) → (MO S SL) → (SV (bb + k) SL) → (fF S 0 15 = 0 → bb ≤ 9999 → k ≤ 1 → SV 9999 SL) → (STK (fF S 0 15) (fF S 0 2) (lstW 3 1 C) τ C n wk (k) (cutF n (gR S)) (cutF n (gR SL)) SL) → va_P G.1 vwCl (wR G ad SL) H_3 → va_D A (wR G ad SL) → va_S A s.heap H_3 locs_4 → lv_has ls 3 [(2, .int ((nI k))), (0, .ref (ad 0)), (1, .int ((nI wk)))] → W p l e ({ frames := 9, cells := 0, slots := 0, locals := 255 } : Room) s m args below meth c₀ H_3 locs_4 0 0 Q (F0 m 17 ls []) := by
    intro fu
    induction fu with
    | zero =>
      intro k SL H_3 locs_4 ls hk hf hM hSk hSr hST hP hD hS hl
      exact absurd hf (by omega)
    | succ fu ih =>
      intro k SL H_3 locs_4 ls hk hf hM hSk hSr hST hP hD hS hl
      refine lv_iload_n hx hb (fk_get fk_cX12_saturdaysOn_0 11 rfl) rfl (lv_at hl 0 rfl) ?_
      refine lv_iload_n hx hb (fk_get fk_cX12_saturdaysOn_0 12 rfl) rfl (lv_at hl 2 rfl) ?_
      refine lv_icmp_ge (tgt := 32) hx hb (fk_get fk_cX12_saturdaysOn_0 13 rfl) (by decide) (fun c_5 => ?_) (fun c_5 => ?_)
      · have hge : wk ≤ k := (nI_leI (a := wk) (b := k) (by omega) (by omega)).mp c_5
        have e_ : k = wk := by omega
        rw [e_] at hSk hSr
        subst hQ
        have hpost : MO S SL ∧ SV (bb + wk) SL ∧ (fF S 0 15 = 0 → bb ≤ 9999 → wk ≤ 1 → SV 9999 SL) ∧ cutF n (gR SL) = stF (fF S 0 15) (fF S 0 2) (lstW 3 1 C) τ C n wk (cutF n (gR S)) ∧ fF SL 0 36 = bsF (fF S 0 15) (fF S 0 2) (lstW 3 1 C) τ C n wk (cutF n (gR S)) ∧ fF SL 0 37 = ksF (fF S 0 15) (fF S 0 2) (lstW 3 1 C) τ C n wk (cutF n (gR S)) ∧ fF SL 0 38 = nI (vsF (fF S 0 15) (fF S 0 2) (lstW 3 1 C) τ C n wk (cutF n (gR S))) := by
          obtain ⟨e1_, e2_, e3_, e4_⟩ := stk_e hST hge
          exact ⟨hM, hSk, hSr, e1_, e2_, e3_, e4_⟩
        exact W.vret hx hb hr (fun t_ ht_ hW_ => ⟨⟨SL, rfl, hpost, by rw [ht_]; exact hP, va_K.moved hW_.alike hK, hD⟩, hS.F ht_⟩) hS.2.2 (fk_get fk_cX12_saturdaysOn_0 18 rfl)
      have hlt : k < wk := Nat.lt_of_not_le (fun q => c_5 ((nI_leI (a := wk) (b := k) (by omega) (by omega)).mpr q))
      refine lv_aload_n hx hb (fk_get fk_cX12_saturdaysOn_0 14 rfl) rfl (lv_at hl 1 rfl) ?_
      have hFc := va_self hD hS hA
      refine va_callv (va_runV (As := []) (rest := []) ⟨hx, hb, hml, hown, hT⟩ (c_saturdayOnX l G ad SL H_3.size (z) (τ) (C) (n) (bb + k) (hM.f (by decide) hn) (hn6) (hHOK.M hM) (hHX.M hM) (hSk) (by omega)) (tV 0 hT m6_208 m6_210 mp_48 m1_17 m6_211 rfl rfl (by decide +kernel) ⟨Nat.le_of_ble_eq_true rfl, Nat.le_of_ble_eq_true rfl⟩) ⟨PcW_blind, va_recv hK hP (ci := 14) (q0 := 0) rfl (ix_at (by decide) (cR_0 G ad SL)), PcW_of hP hK hD _⟩ rfl rfl hl.1 rfl (lv_room (Nat.le_of_ble_eq_true rfl)) (fk_get fk_cX12_saturdaysOn_0 15 rfl) ⟨Nat.zero_le _, Nat.zero_le _⟩) hS (fun q _ h => hFc q h) hFc (fun S_8 t_ H locs ht_ hvm_ hw_7 hB_ hz_ hk_ hS => ?_)
      obtain ⟨hP, -, hD1_⟩ := hB_
      rw [ht_] at hP
      have hD : va_D A (wR G ad S_8) := hD1_.weaken (fun k q _ h => hFc q.1 h)
      try dsimp only at hw_7
      obtain ⟨hM2, hS2, hS3, hG2, hSm2⟩ := hw_7
      rw [show fF SL 0 15 = fF S 0 15 from hM.f (by decide) rfl, show fF SL 0 2 = fF S 0 2 from hM.f (by decide) rfl] at hG2
      rw [show fF SL 0 2 = fF S 0 2 from hM.f (by decide) rfl] at hSm2
      refine lv_iinc (v := (nI (k + 1))) (lv' := [(2, .int ((nI (k + 1)))), (0, .ref (ad 0)), (1, .int ((nI wk)))]) hx hb (fk_get fk_cX12_saturdaysOn_0 16 rfl) hl (k := 0) rfl ((nI_1 k)) (by decide) rfl (fun ls hl => ?_)
      refine lv_goto (tgt := 17) hx hb (fk_get fk_cX12_saturdaysOn_0 17 rfl) (by decide) ?_
      exact ih (k + 1) (S_8) _ _ ls (by omega) (by omega) (hM.trans hM2) (hS2) (fun a b q => hS3 ((hM.f (by decide) rfl).trans a) (by omega)) (stk_s hST (by omega) hG2 hSm2) hP hD hS (lv_sub hl [0, 1, 2] rfl)
  exact lp_1 (wk + 1) (0) (setF (setF (setF S 0 36 (0)) 0 37 (0)) 0 38 (0)) _ _ ls (by omega) (by omega) ((((MO.rf S).setF (by decide) _).setF (by decide) _).setF (by decide) _) (hSV) (fun _ q _ => hSV.mono q) (stk_0 rfl rfl rfl rfl) hP hD hS (lv_sub hl [0, 1, 2] rfl)
set_option maxHeartbeats 800000 in
set_option maxRecDepth 100000 in
theorem c_areSeenX (l : Launch) (G : GG) (ad : Nat → Nat) (S : FS) (sz : Nat) (zt : Nat) (τ : Nat → Int32) (C : ClU) (c : Int32) (j bb z : Nat) (hHOK : HOK S) (hHX : HOX S zt τ C) (hSV : SV bb S) (hB : bb < 900000) (ej : c = nI j) (hj : j < 6) (hz : fF S 0 5 = nI z) (hz4 : z ≤ 4) (hm1 : fF S 0 15 = 1) : Met l yX12_areSeen (Cond.code yX12_areSeen cX12_areSeen 4 (some .boolean) :: TBL) ({ frames := 8, cells := 0, slots := 0, locals := 230 } : Room) (PcW G (wR G ad S) sz [.ref (ad 0), .int (c)]) (va_Qi (fun (r : Int32) (S' : FS) => MO S S' ∧ SV (bb + 4) S' ∧ r = i01 (csN (fF S 0 2) (lstW 3 1 C) τ C c (fA S 2) (z) (0) (gR S j)) ∧ ∀ d, ¬ d = j → gR S' d = gR S d) (fun S' t => BW G (va_A (wR G ad S) sz) (wR G ad S') t) (va_A (wR G ad S) sz)) 0 0 (va_A (wR G ad S) sz) := by
  refine Met.ofW (cc := cX12_areSeen) (maxL := 4) (ret := (some .boolean)) (by decide) rfl ?_
  intro p e s m args below meth c₀ s₁ B hml hv
  obtain ⟨rfl, hsz, hP, hK, hD0⟩ := hv
  have hx := B.exec
  have hb := B.bytes
  have hr := B.returns
  have hT : ∀ w ∈ TBL, w.before ([.ref (ad 0), .int (c)] : List Value).toArray s = true := fun w h => atoms_spec (ws := Cond.code yX12_areSeen cX12_areSeen 4 (some .boolean) :: TBL) B.pre w (List.mem_cons_of_mem _ h)
  have hown : s.vm.findClass "LittleMoreModel" = some m.cls := findClass_of_methodNamed B.named
  have hlocks := B.notSynchronized
  subst hsz
  have hD := hD0.self (sz := s.heap.size)
  generalize hAe : va_A (wR G ad S) s.heap.size = A at hD ⊢
  have hA : ∀ q : Nat, s.heap.size ≤ q → A q := fun q h => by rw [← hAe]; exact Or.inr h
  have hS : va_S A s.heap s.heap [] := va_S.rf
  have hP : va_P G.1 vwCl (wR G ad S) s.heap := hP
  have hl := lv_entry ([.ref (ad 0), .int (c)]) (n := 4) (Nat.le_of_ble_eq_true rfl)
  rw [lg_entry_eq]
  generalize (lg_sl ([.ref (ad 0), .int (c)]) ++ List.replicate (4 - (lg_sl ([.ref (ad 0), .int (c)])).length) Slot.unset).toArray = ls at hl ⊢
  have hl : lv_has ls 4 [(0, .ref (ad 0)), (1, .int (c))] := hl
  refine W_abs (fun Q hQ => ?_)
  generalize ([.ref (ad 0), .int (c)] : List Value).toArray = args at hT hQ ⊢
  refine lv_iconst (v := 1) hx hb (fk_get fk_cX12_areSeen_0 0 rfl) (by decide) ?_
  refine lv_istore_n (lv' := [(2, .int (1)), (0, .ref (ad 0)), (1, .int (c))]) hx hb (fk_get fk_cX12_areSeen_0 1 rfl) rfl hl (by decide) rfl (fun ls hl => ?_)
  refine lv_iconst (v := 0) hx hb (fk_get fk_cX12_areSeen_0 2 rfl) (by decide) ?_
  refine lv_istore_n (lv' := [(3, .int (0)), (2, .int (1)), (0, .ref (ad 0)), (1, .int (c))]) hx hb (fk_get fk_cX12_areSeen_0 3 rfl) rfl hl (by decide) rfl (fun ls hl => ?_)
  have lp_1 : ∀ (fu : Nat) (k : Nat) (v : Int32) (SL : FS) (H_3 : Heap) (locs_4 : List Loc) (ls : Array Slot),  (k ≤ z) → (z < k + fu) → (MO S SL) → (SV (bb + k) SL) → (v = 0 ∨ v = 1) → (ASI (fF S 0 2) (lstW 3 1 C) τ C c (fA S 2) z k (gR SL j) (csN (fF S 0 2) (lstW 3 1 C) τ C c (fA S 2) (z) (0) (gR S j)) v) → (∀ d, ¬ d = j → gR SL d = gR S d) → va_P G.1 vwCl (wR G ad SL) H_3 → va_D A (wR G ad SL) → va_S A s.heap H_3 locs_4 → lv_has ls 4 [(3, .int ((nI k))), (2, .int (v)), (0, .ref (ad 0)), (1, .int (c))] → W p l e ({ frames := 8, cells := 0, slots := 0, locals := 230 } : Room) s m args below meth c₀ H_3 locs_4 0 0 Q (F0 m 4 ls []) := by
    intro fu
    induction fu with
    | zero =>
      intro k v SL H_3 locs_4 ls hk hf hM hSk hv01 hI hoth hP hD hS hl
      exact absurd hf (by omega)
    | succ fu ih =>
      intro k v SL H_3 locs_4 ls hk hf hM hSk hv01 hI hoth hP hD hS hl
      refine lv_iload_n hx hb (fk_get fk_cX12_areSeen_0 4 rfl) rfl (lv_at hl 0 rfl) ?_
      refine lv_aload_n hx hb (fk_get fk_cX12_areSeen_0 5 rfl) rfl (lv_at hl 2 rfl) ?_
      refine va_get (D := G.1) (ci := 14) (v := .int ((fF SL 0 5))) (C := RX12) (T := TX12) (N := 49) hx hb hT inX12 hown hK hP 0 (ix_at (by decide) (cR_0 G ad SL)) rfl 5 (by decide) (hT _ m5_106) (fun _ h9 => h9) rfl (fk_get fk_cX12_areSeen_0 6 rfl) ?_
      refine lv_icmp_ge (tgt := 64) hx hb (fk_get fk_cX12_areSeen_0 7 rfl) (by decide) (fun c_5 => ?_) (fun c_5 => ?_)
      · have hend_ : z ≤ k ∨ v = 0 := Or.inl ((nI_leI (a := z) (b := k) (by omega) (by omega)).mp (by rw [← show fF SL 0 5 = nI z from hM.f (by decide) hz]; exact c_5))
        refine lv_iload_n hx hb (fk_get fk_cX12_areSeen_1 4 rfl) rfl (lv_at hl 1 rfl) ?_
        subst hQ
        have hpost : MO S SL ∧ SV (bb + 4) SL ∧ (v : Int32) = i01 (csN (fF S 0 2) (lstW 3 1 C) τ C c (fA S 2) (z) (0) (gR S j)) ∧ ∀ d, ¬ d = j → gR SL d = gR S d := by
          exact ⟨hM, hSk.mono (by omega), asi_e hI hend_, hoth⟩
        exact W.zret (v := v) hx hb hr (nar_b (hv01)) (fun t_ ht_ hW_ => ⟨⟨v, SL, rfl, hpost, by rw [ht_]; exact hP, va_K.moved hW_.alike hK, hD⟩, hS.F ht_⟩) hS.2.2 (fk_get fk_cX12_areSeen_1 5 rfl)
      have hlt : k < z := Nat.lt_of_not_le (fun q => c_5 (by rw [show fF SL 0 5 = nI z from hM.f (by decide) hz]; exact (nI_leI (a := z) (b := k) (by omega) (by omega)).mpr q))
      obtain ⟨x, hxB, hx6⟩ := hSk j hj
      refine lv_iload_n hx hb (fk_get fk_cX12_areSeen_0 8 rfl) rfl (lv_at hl 1 rfl) ?_
      refine lv_if_eq (tgt := 64) hx hb (fk_get fk_cX12_areSeen_0 9 rfl) (by decide) (fun c_6 => ?_) (fun c_6 => ?_)
      · have hend_ : z ≤ k ∨ v = 0 := Or.inr c_6
        refine lv_iload_n hx hb (fk_get fk_cX12_areSeen_1 4 rfl) rfl (lv_at hl 1 rfl) ?_
        subst hQ
        have hpost : MO S SL ∧ SV (bb + 4) SL ∧ (v : Int32) = i01 (csN (fF S 0 2) (lstW 3 1 C) τ C c (fA S 2) (z) (0) (gR S j)) ∧ ∀ d, ¬ d = j → gR SL d = gR S d := by
          exact ⟨hM, hSk.mono (by omega), asi_e hI hend_, hoth⟩
        exact W.zret (v := v) hx hb hr (nar_b (hv01)) (fun t_ ht_ hW_ => ⟨⟨v, SL, rfl, hpost, by rw [ht_]; exact hP, va_K.moved hW_.alike hK, hD⟩, hS.F ht_⟩) hS.2.2 (fk_get fk_cX12_areSeen_1 5 rfl)
      have hvn_ : ¬ v = 0 := c_6
      refine lv_aload_n hx hb (fk_get fk_cX12_areSeen_0 10 rfl) rfl (lv_at hl 2 rfl) ?_
      refine lv_iload_n hx hb (fk_get fk_cX12_areSeen_0 11 rfl) rfl (lv_at hl 3 rfl) ?_
      refine vp_callSi (W.runV (As := [.int (c)]) (rest := []) ⟨hx, hb, hml, hown, hT⟩ (c_isGone l G ad SL H_3.size (c) (j) (ej) (by omega)) (tV 1 hT m6_192 m6_194 mp_45 m1_17 m6_195 rfl rfl (by decide +kernel) ⟨Nat.le_of_ble_eq_true rfl, Nat.le_of_ble_eq_true rfl⟩) ⟨PcW_blind, va_recv hK hP (ci := 14) (q0 := 0) rfl (ix_at (by decide) (cR_0 G ad SL)), PcW_of hP hK hD _⟩ rfl rfl hl.1 rfl (lv_room (Nat.le_of_ble_eq_true rfl)) (fk_get fk_cX12_areSeen_0 12 rfl) ⟨Nat.zero_le _, Nat.zero_le _⟩) (fun r_7 hw_8 => ?_)
      try dsimp only at hw_8
      refine lv_if_ne (tgt := 28) hx hb (fk_get fk_cX12_areSeen_0 13 rfl) (by decide) (fun c_9 => ?_) (fun c_9 => ?_)
      · have p_c_9 := if1_t hw_8 c_9
        have hgo_ : gR SL j 7 = 1 := isg_1 p_c_9
        refine lv_iconst (v := 0) hx hb (fk_get fk_cX12_areSeen_0 16 rfl) (by decide) ?_
        refine lv_istore_n (lv' := [(2, .int (0)), (3, .int ((nI k))), (0, .ref (ad 0)), (1, .int (c))]) hx hb (fk_get fk_cX12_areSeen_0 17 rfl) rfl hl (by decide) rfl (fun ls hl => ?_)
        refine lv_iload_n hx hb (fk_get fk_cX12_areSeen_0 18 rfl) rfl (lv_at hl 0 rfl) ?_
        refine lv_if_eq (tgt := 58) hx hb (fk_get fk_cX12_areSeen_0 19 rfl) (by decide) (fun _ => ?_) (fun c_10 => absurd ((by decide)) c_10)
        refine lv_iinc (v := (nI (k + 1))) (lv' := [(3, .int ((nI (k + 1)))), (2, .int (0)), (0, .ref (ad 0)), (1, .int (c))]) hx hb (fk_get fk_cX12_areSeen_1 2 rfl) hl (k := 1) rfl ((nI_1 k)) (by decide) rfl (fun ls hl => ?_)
        refine lv_goto (tgt := 4) hx hb (fk_get fk_cX12_areSeen_1 3 rfl) (by decide) ?_
        exact ih (k + 1) (0) (SL) _ _ ls (by omega) (by omega) ((by first | exact hM | exact hM.trans hV.M)) ((by first | exact hSk.V hV (by omega) hj | exact hSk.mono (by omega))) ((by first | exact Or.inl rfl | exact Or.inr rfl)) ((by first | exact asi_s hI hlt hvn_ hgo_ (by rw [← hb35_, ← ha2_]; assumption) hgv_ | exact asi_m hI hlt hvn_ (by rw [← hb35_, ← ha2_]; assumption) | exact asi_g hI hlt hvn_ hgo_)) ((by first | exact hoth | exact fun d hd => (gr_ne hV hd).trans (hoth d hd))) hP hD hS (lv_sub hl [0, 1, 2, 3] rfl)
      have p_c_9 := if1_f hw_8 c_9
      have hgo_ : ¬ gR SL j 7 = 1 := isg_0 p_c_9
      refine lv_iconst (v := 1) hx hb (fk_get fk_cX12_areSeen_0 14 rfl) (by decide) ?_
      refine lv_goto (tgt := 29) hx hb (fk_get fk_cX12_areSeen_0 15 rfl) (by decide) ?_
      refine lv_istore_n (lv' := [(2, .int (1)), (3, .int ((nI k))), (0, .ref (ad 0)), (1, .int (c))]) hx hb (fk_get fk_cX12_areSeen_0 17 rfl) rfl hl (by decide) rfl (fun ls hl => ?_)
      refine lv_iload_n hx hb (fk_get fk_cX12_areSeen_0 18 rfl) rfl (lv_at hl 0 rfl) ?_
      refine lv_if_eq (tgt := 58) hx hb (fk_get fk_cX12_areSeen_0 19 rfl) (by decide) (fun c_11 => absurd c_11 ((by decide))) (fun _ => ?_)
      refine lv_aload_n hx hb (fk_get fk_cX12_areSeen_0 20 rfl) rfl (lv_at hl 2 rfl) ?_
      refine lv_iload_n hx hb (fk_get fk_cX12_areSeen_0 21 rfl) rfl (lv_at hl 3 rfl) ?_
      have hFc := va_self hD hS hA
      refine va_callv (va_runV (As := [.int (c)]) (rest := []) ⟨hx, hb, hml, hown, hT⟩ (c_visitOneE l G ad SL H_3.size (zt) (τ) (C) (c) (j) (x) (hHOK.M hM) (hHX.M hM) (ej) (hj) (hx6) (by omega)) (tV 1 hT m6_196 m6_198 mp_46 m1_17 m6_199 rfl rfl (by decide +kernel) ⟨Nat.le_of_ble_eq_true rfl, Nat.le_of_ble_eq_true rfl⟩) ⟨PcW_blind, va_recv hK hP (ci := 14) (q0 := 0) rfl (ix_at (by decide) (cR_0 G ad SL)), PcW_of hP hK hD _⟩ rfl rfl hl.1 rfl (lv_room (Nat.le_of_ble_eq_true rfl)) (fk_get fk_cX12_areSeen_0 22 rfl) ⟨Nat.zero_le _, Nat.zero_le _⟩) hS (fun q _ h => hFc q h) hFc (fun S_14 t_ H locs ht_ hvm_ hw_13 hB_ hz_ hk_ hS => ?_)
      obtain ⟨hP, -, hD1_⟩ := hB_
      rw [ht_] at hP
      have hD : va_D A (wR G ad S_14) := hD1_.weaken (fun k q _ h => hFc q.1 h)
      try dsimp only at hw_13
      obtain ⟨⟨y, hV, hy, hy2⟩, hvs_, hb33_, hb34_, hb35_⟩ := hw_13
      rw [show fF SL 0 15 = fF S 0 15 from hM.f (by decide) rfl, show fF SL 0 2 = fF S 0 2 from hM.f (by decide) rfl, hm1] at hvs_
      rw [show fF SL 0 2 = fF S 0 2 from hM.f (by decide) rfl] at hb35_
      have hgv_ := gr_vis hvs_
      have ha2_ : fA S_14 2 = fA S 2 := (hV.2.2.2.1 2 (by decide) (by decide) (by decide) (by decide)).trans (hM.2.2.2.1 2 (by decide) (by decide) (by decide) (by decide))
      refine lv_aload_n hx hb (fk_get fk_cX12_areSeen_0 23 rfl) rfl (lv_at hl 2 rfl) ?_
      refine va_get (D := G.1) (ci := 14) (v := .int ((fF S_14 0 35))) (C := RX12) (T := TX12) (N := 49) hx hb hT inX12 hown hK hP 0 (ix_at (by decide) (cR_0 G ad S_14)) rfl 35 (by decide) (hT _ m5_136) (fun _ h9 => h9) rfl (fk_get fk_cX12_areSeen_0 24 rfl) ?_
      refine lv_aload_n hx hb (fk_get fk_cX12_areSeen_0 25 rfl) rfl (lv_at hl 2 rfl) ?_
      refine va_get (D := G.1) (ci := 14) (v := .ref (ad 2)) (C := RX12) (T := TX12) (N := 49) hx hb hT inX12 hown hK hP 0 (ix_at (by decide) (cR_0 G ad S_14)) rfl 4 (by decide) (hT _ m5_105) (fun _ h9 => h9) rfl (fk_get fk_cX12_areSeen_0 26 rfl) ?_
      refine lv_iload_n hx hb (fk_get fk_cX12_areSeen_0 27 rfl) rfl (lv_at hl 1 rfl) ?_
      refine r_iald (f := fA S_14 2) hx hb hK hP 2 0 (ix_at (by decide) (cR_seen G ad S_14)) rfl (k) (rfl) (by omega) (by decide) (fk_get fk_cX12_areSeen_0 28 rfl) ?_
      refine lv_icmp_ne (tgt := 56) hx hb (fk_get fk_cX12_areSeen_0 29 rfl) (by decide) (fun c_15 => ?_) (fun c_15 => ?_)
      · refine lv_iconst (v := 0) hx hb (fk_get fk_cX12_areSeen_1 0 rfl) (by decide) ?_
        refine lv_istore_n (lv' := [(2, .int (0)), (3, .int ((nI k))), (0, .ref (ad 0)), (1, .int (c))]) hx hb (fk_get fk_cX12_areSeen_1 1 rfl) rfl hl (by decide) rfl (fun ls hl => ?_)
        refine lv_iinc (v := (nI (k + 1))) (lv' := [(3, .int ((nI (k + 1)))), (2, .int (0)), (0, .ref (ad 0)), (1, .int (c))]) hx hb (fk_get fk_cX12_areSeen_1 2 rfl) hl (k := 1) rfl ((nI_1 k)) (by decide) rfl (fun ls hl => ?_)
        refine lv_goto (tgt := 4) hx hb (fk_get fk_cX12_areSeen_1 3 rfl) (by decide) ?_
        exact ih (k + 1) (0) (S_14) _ _ ls (by omega) (by omega) ((by first | exact hM | exact hM.trans hV.M)) ((by first | exact hSk.V hV (by omega) hj | exact hSk.mono (by omega))) ((by first | exact Or.inl rfl | exact Or.inr rfl)) ((by first | exact asi_s hI hlt hvn_ hgo_ (by rw [← hb35_, ← ha2_]; assumption) hgv_ | exact asi_m hI hlt hvn_ (by rw [← hb35_, ← ha2_]; assumption) | exact asi_g hI hlt hvn_ hgo_)) ((by first | exact hoth | exact fun d hd => (gr_ne hV hd).trans (hoth d hd))) hP hD hS (lv_sub hl [0, 1, 2, 3] rfl)
      refine lv_iconst (v := 1) hx hb (fk_get fk_cX12_areSeen_0 30 rfl) (by decide) ?_
      refine lv_goto (tgt := 57) hx hb (fk_get fk_cX12_areSeen_0 31 rfl) (by decide) ?_
      refine lv_istore_n (lv' := [(2, .int (1)), (3, .int ((nI k))), (0, .ref (ad 0)), (1, .int (c))]) hx hb (fk_get fk_cX12_areSeen_1 1 rfl) rfl hl (by decide) rfl (fun ls hl => ?_)
      refine lv_iinc (v := (nI (k + 1))) (lv' := [(3, .int ((nI (k + 1)))), (2, .int (1)), (0, .ref (ad 0)), (1, .int (c))]) hx hb (fk_get fk_cX12_areSeen_1 2 rfl) hl (k := 1) rfl ((nI_1 k)) (by decide) rfl (fun ls hl => ?_)
      refine lv_goto (tgt := 4) hx hb (fk_get fk_cX12_areSeen_1 3 rfl) (by decide) ?_
      exact ih (k + 1) (1) (S_14) _ _ ls (by omega) (by omega) ((by first | exact hM | exact hM.trans hV.M)) ((by first | exact hSk.V hV (by omega) hj | exact hSk.mono (by omega))) ((by first | exact Or.inl rfl | exact Or.inr rfl)) ((by first | exact asi_s hI hlt hvn_ hgo_ (by rw [← hb35_, ← ha2_]; assumption) hgv_ | exact asi_m hI hlt hvn_ (by rw [← hb35_, ← ha2_]; assumption) | exact asi_g hI hlt hvn_ hgo_)) ((by first | exact hoth | exact fun d hd => (gr_ne hV hd).trans (hoth d hd))) hP hD hS (lv_sub hl [0, 1, 2, 3] rfl)
  exact lp_1 (z + 1) (0) (1) (S) _ _ ls (by omega) (by omega) (MO.rf S) (hSV) (Or.inr rfl) (Or.inl ⟨rfl, rfl⟩) (fun _ _ => rfl) hP hD hS (lv_sub hl [0, 1, 2, 3] rfl)
set_option maxHeartbeats 800000 in
set_option maxRecDepth 100000 in
theorem c_nobodySaysNoX (l : Launch) (G : GG) (ad : Nat → Nat) (S : FS) (sz : Nat) (z : Nat) (τ : Nat → Int32) (C : ClU) (n : Nat) (hn : fF S 0 1 = nI n) (hn6 : n ≤ 6) (hHOK : HOK S) (hHX : HOX S z τ C) : Met l yX12_nobodySaysNo (Cond.code yX12_nobodySaysNo cX12_nobodySaysNo 3 (some .boolean) :: TBL) ({ frames := 7, cells := 0, slots := 0, locals := 201 } : Room) (PcW G (wR G ad S) sz [.ref (ad 0)]) (va_Qi (fun (r : Int32) (S' : FS) => HFr S S' ∧ r = if rfN (fF S 0 2) τ C (gR S) n = 0 then 1 else 0) (fun S' t => BW G (va_A (wR G ad S) sz) (wR G ad S') t) (va_A (wR G ad S) sz)) 0 0 (va_A (wR G ad S) sz) := by
  refine Met.ofW (cc := cX12_nobodySaysNo) (maxL := 3) (ret := (some .boolean)) (by decide) rfl ?_
  intro p e s m args below meth c₀ s₁ B hml hv
  obtain ⟨rfl, hsz, hP, hK, hD0⟩ := hv
  have hx := B.exec
  have hb := B.bytes
  have hr := B.returns
  have hT : ∀ w ∈ TBL, w.before ([.ref (ad 0)] : List Value).toArray s = true := fun w h => atoms_spec (ws := Cond.code yX12_nobodySaysNo cX12_nobodySaysNo 3 (some .boolean) :: TBL) B.pre w (List.mem_cons_of_mem _ h)
  have hown : s.vm.findClass "LittleMoreModel" = some m.cls := findClass_of_methodNamed B.named
  have hlocks := B.notSynchronized
  subst hsz
  have hD := hD0.self (sz := s.heap.size)
  generalize hAe : va_A (wR G ad S) s.heap.size = A at hD ⊢
  have hA : ∀ q : Nat, s.heap.size ≤ q → A q := fun q h => by rw [← hAe]; exact Or.inr h
  have hS : va_S A s.heap s.heap [] := va_S.rf
  have hP : va_P G.1 vwCl (wR G ad S) s.heap := hP
  have hl := lv_entry ([.ref (ad 0)]) (n := 3) (Nat.le_of_ble_eq_true rfl)
  rw [lg_entry_eq]
  generalize (lg_sl ([.ref (ad 0)]) ++ List.replicate (3 - (lg_sl ([.ref (ad 0)])).length) Slot.unset).toArray = ls at hl ⊢
  have hl : lv_has ls 3 [(0, .ref (ad 0))] := hl
  refine W_abs (fun Q hQ => ?_)
  generalize ([.ref (ad 0)] : List Value).toArray = args at hT hQ ⊢
  refine lv_iconst (v := 1) hx hb (fk_get fk_cX12_nobodySaysNo_0 0 rfl) (by decide) ?_
  refine lv_istore_n (lv' := [(1, .int (1)), (0, .ref (ad 0))]) hx hb (fk_get fk_cX12_nobodySaysNo_0 1 rfl) rfl hl (by decide) rfl (fun ls hl => ?_)
  refine lv_iconst (v := 0) hx hb (fk_get fk_cX12_nobodySaysNo_0 2 rfl) (by decide) ?_
  refine lv_istore_n (lv' := [(2, .int (0)), (1, .int (1)), (0, .ref (ad 0))]) hx hb (fk_get fk_cX12_nobodySaysNo_0 3 rfl) rfl hl (by decide) rfl (fun ls hl => ?_)
  have lp_1 : ∀ (fu : Nat) (k : Nat) (v : Int32) (SL : FS) (H_3 : Heap) (locs_4 : List Loc) (ls : Array Slot),  (k ≤ n) → (n < k + fu) → (HFr S SL) → (v = if rfN (fF S 0 2) τ C (gR S) k = 0 then 1 else 0) → va_P G.1 vwCl (wR G ad SL) H_3 → va_D A (wR G ad SL) → va_S A s.heap H_3 locs_4 → lv_has ls 3 [(2, .int ((nI k))), (1, .int (v)), (0, .ref (ad 0))] → W p l e ({ frames := 7, cells := 0, slots := 0, locals := 201 } : Room) s m args below meth c₀ H_3 locs_4 0 0 Q (F0 m 4 ls []) := by
    intro fu
    induction fu with
    | zero =>
      intro k v SL H_3 locs_4 ls hk hf hH hvL hP hD hS hl
      exact absurd hf (by omega)
    | succ fu ih =>
      intro k v SL H_3 locs_4 ls hk hf hH hvL hP hD hS hl
      refine lv_iload_n hx hb (fk_get fk_cX12_nobodySaysNo_0 4 rfl) rfl (lv_at hl 0 rfl) ?_
      refine lv_aload_n hx hb (fk_get fk_cX12_nobodySaysNo_0 5 rfl) rfl (lv_at hl 2 rfl) ?_
      refine va_get (D := G.1) (ci := 14) (v := .int ((fF SL 0 1))) (C := RX12) (T := TX12) (N := 49) hx hb hT inX12 hown hK hP 0 (ix_at (by decide) (cR_0 G ad SL)) rfl 1 (by decide) (hT _ m5_102) (fun _ h9 => h9) rfl (fk_get fk_cX12_nobodySaysNo_0 6 rfl) ?_
      refine lv_icmp_ge (tgt := 44) hx hb (fk_get fk_cX12_nobodySaysNo_0 7 rfl) (by decide) (fun c_5 => ?_) (fun c_5 => ?_)
      · have hend_ : k = n := by have z_ := (nI_leI (a := n) (b := k) (by omega) (by omega)).mp (by rw [← show fF SL 0 1 = nI n from (hH.2.2.1 1).trans hn]; exact c_5); omega
        refine lv_iload_n hx hb (fk_get fk_cX12_nobodySaysNo_0 24 rfl) rfl (lv_at hl 1 rfl) ?_
        subst hQ
        have hpost : HFr S SL ∧ (v : Int32) = if rfN (fF S 0 2) τ C (gR S) n = 0 then 1 else 0 := by
          subst hend_
          exact ⟨hH, hvL⟩
        exact W.zret (v := v) hx hb hr (nar_b ((by rw [hvL]; split; exact Or.inr rfl; exact Or.inl rfl))) (fun t_ ht_ hW_ => ⟨⟨v, SL, rfl, hpost, by rw [ht_]; exact hP, va_K.moved hW_.alike hK, hD⟩, hS.F ht_⟩) hS.2.2 (fk_get fk_cX12_nobodySaysNo_0 25 rfl)
      have hlt : k < n := Nat.lt_of_not_le (fun wk => c_5 (by rw [show fF SL 0 1 = nI n from (hH.2.2.1 1).trans hn]; exact (nI_leI (a := n) (b := k) (by omega) (by omega)).mpr wk))
      refine lv_iload_n hx hb (fk_get fk_cX12_nobodySaysNo_0 8 rfl) rfl (lv_at hl 1 rfl) ?_
      refine lv_if_eq (tgt := 36) hx hb (fk_get fk_cX12_nobodySaysNo_0 9 rfl) (by decide) (fun c_6 => ?_) (fun c_6 => ?_)
      · have hv0_ : v = 0 := c_6
        refine lv_iconst (v := 0) hx hb (fk_get fk_cX12_nobodySaysNo_0 20 rfl) (by decide) ?_
        refine lv_istore_n (lv' := [(1, .int (0)), (2, .int ((nI k))), (0, .ref (ad 0))]) hx hb (fk_get fk_cX12_nobodySaysNo_0 21 rfl) rfl hl (by decide) rfl (fun ls hl => ?_)
        refine lv_iinc (v := (nI (k + 1))) (lv' := [(2, .int ((nI (k + 1)))), (1, .int (0)), (0, .ref (ad 0))]) hx hb (fk_get fk_cX12_nobodySaysNo_0 22 rfl) hl (k := 1) rfl ((nI_1 k)) (by decide) rfl (fun ls hl => ?_)
        refine lv_goto (tgt := 4) hx hb (fk_get fk_cX12_nobodySaysNo_0 23 rfl) (by decide) ?_
        exact ih (k + 1) (0) (SL) _ _ ls (by omega) (by omega) ((by first | exact hH2 | exact hH)) ((by first | exact nb_y hvL (Or.inl hgo_) hvn_ | exact nb_y hvL (Or.inr hN) hvn_ | exact nb_n hvL (Or.inl ⟨hgo_, hY⟩) | exact nb_n hvL (Or.inr hv0_))) hP hD hS (lv_sub hl [0, 1, 2] rfl)
      have hvn_ : ¬ v = 0 := c_6
      refine lv_aload_n hx hb (fk_get fk_cX12_nobodySaysNo_0 10 rfl) rfl (lv_at hl 2 rfl) ?_
      refine lv_iload_n hx hb (fk_get fk_cX12_nobodySaysNo_0 11 rfl) rfl (lv_at hl 0 rfl) ?_
      refine vp_callSi (W.runV (As := [.int ((nI k))]) (rest := []) ⟨hx, hb, hml, hown, hT⟩ (c_isGone l G ad SL H_3.size ((nI k)) (k) (rfl) (by omega)) (tV 1 hT m6_192 m6_194 mp_45 m1_17 m6_195 rfl rfl (by decide +kernel) ⟨Nat.le_of_ble_eq_true rfl, Nat.le_of_ble_eq_true rfl⟩) ⟨PcW_blind, va_recv hK hP (ci := 14) (q0 := 0) rfl (ix_at (by decide) (cR_0 G ad SL)), PcW_of hP hK hD _⟩ rfl rfl hl.1 rfl (lv_room (Nat.le_of_ble_eq_true rfl)) (fk_get fk_cX12_nobodySaysNo_0 12 rfl) ⟨Nat.zero_le _, Nat.zero_le _⟩) (fun r_7 hw_8 => ?_)
      try dsimp only at hw_8
      refine lv_if_ne (tgt := 32) hx hb (fk_get fk_cX12_nobodySaysNo_0 13 rfl) (by decide) (fun c_9 => ?_) (fun c_9 => ?_)
      · have p_c_9 := if1_t hw_8 c_9
        have hgo_ : gR S k 7 = 1 := by rw [← gR_H hH]; exact isg_1 p_c_9
        refine lv_iconst (v := 1) hx hb (fk_get fk_cX12_nobodySaysNo_0 18 rfl) (by decide) ?_
        refine lv_goto (tgt := 37) hx hb (fk_get fk_cX12_nobodySaysNo_0 19 rfl) (by decide) ?_
        refine lv_istore_n (lv' := [(1, .int (1)), (2, .int ((nI k))), (0, .ref (ad 0))]) hx hb (fk_get fk_cX12_nobodySaysNo_0 21 rfl) rfl hl (by decide) rfl (fun ls hl => ?_)
        refine lv_iinc (v := (nI (k + 1))) (lv' := [(2, .int ((nI (k + 1)))), (1, .int (1)), (0, .ref (ad 0))]) hx hb (fk_get fk_cX12_nobodySaysNo_0 22 rfl) hl (k := 1) rfl ((nI_1 k)) (by decide) rfl (fun ls hl => ?_)
        refine lv_goto (tgt := 4) hx hb (fk_get fk_cX12_nobodySaysNo_0 23 rfl) (by decide) ?_
        exact ih (k + 1) (1) (SL) _ _ ls (by omega) (by omega) ((by first | exact hH2 | exact hH)) ((by first | exact nb_y hvL (Or.inl hgo_) hvn_ | exact nb_y hvL (Or.inr hN) hvn_ | exact nb_n hvL (Or.inl ⟨hgo_, hY⟩) | exact nb_n hvL (Or.inr hv0_))) hP hD hS (lv_sub hl [0, 1, 2] rfl)
      have p_c_9 := if1_f hw_8 c_9
      have hgo_ : ¬ gR S k 7 = 1 := by rw [← gR_H hH]; exact isg_0 p_c_9
      refine lv_aload_n hx hb (fk_get fk_cX12_nobodySaysNo_0 14 rfl) rfl (lv_at hl 2 rfl) ?_
      refine lv_iload_n hx hb (fk_get fk_cX12_nobodySaysNo_0 15 rfl) rfl (lv_at hl 0 rfl) ?_
      have hFc := va_self hD hS hA
      refine va_calli (va_runV (As := [.int ((nI k))]) (rest := []) ⟨hx, hb, hml, hown, hT⟩ (c_saysNoE l G ad SL H_3.size (z) (τ) (C) ((nI k)) (k) (hHOK.H hH) (hHX.H hH) (rfl) (by omega)) (tV 1 hT m6_154 m6_156 mp_42 m1_17 m6_157 rfl rfl (by decide +kernel) ⟨Nat.le_of_ble_eq_true rfl, Nat.le_of_ble_eq_true rfl⟩) ⟨PcW_blind, va_recv hK hP (ci := 14) (q0 := 0) rfl (ix_at (by decide) (cR_0 G ad SL)), PcW_of hP hK hD _⟩ rfl rfl hl.1 rfl (lv_room (Nat.le_of_ble_eq_true rfl)) (fk_get fk_cX12_nobodySaysNo_0 16 rfl) ⟨Nat.zero_le _, Nat.zero_le _⟩) hS (fun q _ h => hFc q h) hFc (fun r_10 S_12 t_ H locs ht_ hvm_ hw_11 hB_ hz_ hk_ hS => ?_)
      obtain ⟨hP, -, hD1_⟩ := hB_
      rw [ht_] at hP
      have hD : va_D A (wR G ad S_12) := hD1_.weaken (fun k q _ h => hFc q.1 h)
      try dsimp only at hw_11
      obtain ⟨hH1, hno⟩ := hw_11
      have hH2 := hH.trans hH1
      rw [gR_H hH, hH.2.2.1 2] at hno
      refine lv_if_ne (tgt := 36) hx hb (fk_get fk_cX12_nobodySaysNo_0 17 rfl) (by decide) (fun c_13 => ?_) (fun c_13 => ?_)
      · have hY := no_t hno c_13
        refine lv_iconst (v := 0) hx hb (fk_get fk_cX12_nobodySaysNo_0 20 rfl) (by decide) ?_
        refine lv_istore_n (lv' := [(1, .int (0)), (2, .int ((nI k))), (0, .ref (ad 0))]) hx hb (fk_get fk_cX12_nobodySaysNo_0 21 rfl) rfl hl (by decide) rfl (fun ls hl => ?_)
        refine lv_iinc (v := (nI (k + 1))) (lv' := [(2, .int ((nI (k + 1)))), (1, .int (0)), (0, .ref (ad 0))]) hx hb (fk_get fk_cX12_nobodySaysNo_0 22 rfl) hl (k := 1) rfl ((nI_1 k)) (by decide) rfl (fun ls hl => ?_)
        refine lv_goto (tgt := 4) hx hb (fk_get fk_cX12_nobodySaysNo_0 23 rfl) (by decide) ?_
        exact ih (k + 1) (0) (S_12) _ _ ls (by omega) (by omega) ((by first | exact hH2 | exact hH)) ((by first | exact nb_y hvL (Or.inl hgo_) hvn_ | exact nb_y hvL (Or.inr hN) hvn_ | exact nb_n hvL (Or.inl ⟨hgo_, hY⟩) | exact nb_n hvL (Or.inr hv0_))) hP hD hS (lv_sub hl [0, 1, 2] rfl)
      have hN := no_f hno (by first | exact c_13 | exact Decidable.not_not.mp c_13)
      refine lv_iconst (v := 1) hx hb (fk_get fk_cX12_nobodySaysNo_0 18 rfl) (by decide) ?_
      refine lv_goto (tgt := 37) hx hb (fk_get fk_cX12_nobodySaysNo_0 19 rfl) (by decide) ?_
      refine lv_istore_n (lv' := [(1, .int (1)), (2, .int ((nI k))), (0, .ref (ad 0))]) hx hb (fk_get fk_cX12_nobodySaysNo_0 21 rfl) rfl hl (by decide) rfl (fun ls hl => ?_)
      refine lv_iinc (v := (nI (k + 1))) (lv' := [(2, .int ((nI (k + 1)))), (1, .int (1)), (0, .ref (ad 0))]) hx hb (fk_get fk_cX12_nobodySaysNo_0 22 rfl) hl (k := 1) rfl ((nI_1 k)) (by decide) rfl (fun ls hl => ?_)
      refine lv_goto (tgt := 4) hx hb (fk_get fk_cX12_nobodySaysNo_0 23 rfl) (by decide) ?_
      exact ih (k + 1) (1) (S_12) _ _ ls (by omega) (by omega) ((by first | exact hH2 | exact hH)) ((by first | exact nb_y hvL (Or.inl hgo_) hvn_ | exact nb_y hvL (Or.inr hN) hvn_ | exact nb_n hvL (Or.inl ⟨hgo_, hY⟩) | exact nb_n hvL (Or.inr hv0_))) hP hD hS (lv_sub hl [0, 1, 2] rfl)
  exact lp_1 (n + 1) (0) (1) (S) _ _ ls (by omega) (by omega) (HFr.rf S) (rfl) hP hD hS (lv_sub hl [0, 1, 2] rfl)
set_option maxHeartbeats 800000 in
set_option maxRecDepth 100000 in
theorem c_goneBitsX (l : Launch) (G : GG) (ad : Nat → Nat) (S : FS) (sz : Nat) (n : Nat) (hn : fF S 0 1 = nI n) (hn6 : n ≤ 6) (hg01 : ∀ d, d < n → gR S d 7 = 0 ∨ gR S d 7 = 1) : Met l yX12_goneBits (Cond.code yX12_goneBits cX12_goneBits 3 (some .int) :: TBL) ({ frames := 3, cells := 0, slots := 0, locals := 90 } : Room) (PcW G (wR G ad S) sz [.ref (ad 0)]) (vp_Si (fun (r : Int32) => r = nI (goN (gR S) n))) 0 0 (fun _ => False) := by
  refine Met.ofW (cc := cX12_goneBits) (maxL := 3) (ret := (some .int)) (by decide) rfl ?_
  intro p e s m args below meth c₀ s₁ B hml hv
  obtain ⟨rfl, hsz, hP, hK, hD0⟩ := hv
  have hx := B.exec
  have hb := B.bytes
  have hr := B.returns
  have hT : ∀ w ∈ TBL, w.before ([.ref (ad 0)] : List Value).toArray s = true := fun w h => atoms_spec (ws := Cond.code yX12_goneBits cX12_goneBits 3 (some .int) :: TBL) B.pre w (List.mem_cons_of_mem _ h)
  have hown : s.vm.findClass "LittleMoreModel" = some m.cls := findClass_of_methodNamed B.named
  have hlocks := B.notSynchronized
  have hD := hD0
  have hP : va_P G.1 vwCl (wR G ad S) s.heap := hP
  have hl := lv_entry ([.ref (ad 0)]) (n := 3) (Nat.le_of_ble_eq_true rfl)
  rw [lg_entry_eq]
  generalize (lg_sl ([.ref (ad 0)]) ++ List.replicate (3 - (lg_sl ([.ref (ad 0)])).length) Slot.unset).toArray = ls at hl ⊢
  have hl : lv_has ls 3 [(0, .ref (ad 0))] := hl
  refine W_abs (fun Q hQ => ?_)
  generalize ([.ref (ad 0)] : List Value).toArray = args at hT hQ ⊢
  refine lv_iconst (v := 0) hx hb (fk_get fk_cX12_goneBits_0 0 rfl) (by decide) ?_
  refine lv_istore_n (lv' := [(1, .int (0)), (0, .ref (ad 0))]) hx hb (fk_get fk_cX12_goneBits_0 1 rfl) rfl hl (by decide) rfl (fun ls hl => ?_)
  refine lv_iconst (v := 0) hx hb (fk_get fk_cX12_goneBits_0 2 rfl) (by decide) ?_
  refine lv_istore_n (lv' := [(2, .int (0)), (1, .int (0)), (0, .ref (ad 0))]) hx hb (fk_get fk_cX12_goneBits_0 3 rfl) rfl hl (by decide) rfl (fun ls hl => ?_)
  have lp_1 : ∀ (fu : Nat) (k : Nat) (v : Int32) (ls : Array Slot),  (k ≤ n) → (n < k + fu) → (v = nI (goN (gR S) k)) → lv_has ls 3 [(2, .int ((nI k))), (1, .int (v)), (0, .ref (ad 0))] → W p l e ({ frames := 3, cells := 0, slots := 0, locals := 90 } : Room) s m args below meth c₀ s.heap [] 0 0 Q (F0 m 4 ls []) := by
    intro fu
    induction fu with
    | zero =>
      intro k v ls hk hf hvL hl
      exact absurd hf (by omega)
    | succ fu ih =>
      intro k v ls hk hf hvL hl
      refine lv_iload_n hx hb (fk_get fk_cX12_goneBits_0 4 rfl) rfl (lv_at hl 0 rfl) ?_
      refine lv_aload_n hx hb (fk_get fk_cX12_goneBits_0 5 rfl) rfl (lv_at hl 2 rfl) ?_
      refine va_get (D := G.1) (ci := 14) (v := .int ((fF S 0 1))) (C := RX12) (T := TX12) (N := 49) hx hb hT inX12 hown hK hP 0 (ix_at (by decide) (cR_0 G ad S)) rfl 1 (by decide) (hT _ m5_102) (fun _ h9 => h9) rfl (fk_get fk_cX12_goneBits_0 6 rfl) ?_
      refine lv_icmp_ge (tgt := 30) hx hb (fk_get fk_cX12_goneBits_0 7 rfl) (by decide) (fun c_2 => ?_) (fun c_2 => ?_)
      · have hend_ : k = n := by have z_ := (nI_leI (a := n) (b := k) (by omega) (by omega)).mp (by rw [← hn]; exact c_2); omega
        refine lv_iload_n hx hb (fk_get fk_cX12_goneBits_0 19 rfl) rfl (lv_at hl 1 rfl) ?_
        subst hQ
        have hpost : (v : Int32) = nI (goN (gR S) n) := by
          subst hend_
          exact hvL
        exact W.iret (v := v) hx hb hr (fun t_ ht_ hW_ => ⟨v, rfl, hpost, ht_⟩) (fun q h => by cases h) (fk_get fk_cX12_goneBits_0 20 rfl)
      have hlt : k < n := Nat.lt_of_not_le (fun wk => c_2 (by rw [hn]; exact (nI_leI (a := n) (b := k) (by omega) (by omega)).mpr wk))
      refine lv_iload_n hx hb (fk_get fk_cX12_goneBits_0 8 rfl) rfl (lv_at hl 1 rfl) ?_
      refine lv_aload_n hx hb (fk_get fk_cX12_goneBits_0 9 rfl) rfl (lv_at hl 2 rfl) ?_
      refine lv_iload_n hx hb (fk_get fk_cX12_goneBits_0 10 rfl) rfl (lv_at hl 0 rfl) ?_
      refine lv_bipush (v := 7) hx hb (fk_get fk_cX12_goneBits_0 11 rfl) (by decide) ?_
      refine vp_callSi (W.runV (As := [.int ((nI k)), .int (7)]) (rest := [.int (v)]) ⟨hx, hb, hml, hown, hT⟩ (c_of0 l G ad S s.heap.size ((nI k)) (7) (((12 * k) + 7)) (n_add (n_mul (rfl) (rfl)) (rfl)) (by omega)) (tV 2 hT m6_119 m6_121 mp_34 m1_17 m6_122 rfl rfl (by decide +kernel) ⟨Nat.le_of_ble_eq_true rfl, Nat.le_of_ble_eq_true rfl⟩) ⟨PcW_blind, va_recv hK hP (ci := 14) (q0 := 0) rfl (ix_at (by decide) (cR_0 G ad S)), PcW_of hP hK hD _⟩ rfl rfl hl.1 rfl (lv_room (Nat.le_of_ble_eq_true rfl)) (fk_get fk_cX12_goneBits_0 12 rfl) ⟨Nat.zero_le _, Nat.zero_le _⟩) (fun r_3 hw_4 => ?_)
      try dsimp only at hw_4
      rw [show fA S 1 (12 * k + 7) = gR S k 7 from rfl] at hw_4
      subst hw_4
      refine lv_iload_n hx hb (fk_get fk_cX12_goneBits_0 13 rfl) rfl (lv_at hl 0 rfl) ?_
      refine lv_ishl hx hb (fk_get fk_cX12_goneBits_0 14 rfl) ?_
      refine lv_ior hx hb (fk_get fk_cX12_goneBits_0 15 rfl) ?_
      refine lv_istore_n (lv' := [(1, .int ((v ||| ((gR S k 7) <<< ((nI k) &&& 31))))), (2, .int ((nI k))), (0, .ref (ad 0))]) hx hb (fk_get fk_cX12_goneBits_0 16 rfl) rfl hl (by decide) rfl (fun ls hl => ?_)
      refine lv_iinc (v := (nI (k + 1))) (lv' := [(2, .int ((nI (k + 1)))), (1, .int ((v ||| ((gR S k 7) <<< ((nI k) &&& 31))))), (0, .ref (ad 0))]) hx hb (fk_get fk_cX12_goneBits_0 17 rfl) hl (k := 1) rfl ((nI_1 k)) (by decide) rfl (fun ls hl => ?_)
      refine lv_goto (tgt := 4) hx hb (fk_get fk_cX12_goneBits_0 18 rfl) (by decide) ?_
      exact ih (k + 1) ((v ||| ((gR S k 7) <<< ((nI k) &&& 31)))) ls (by omega) (by omega) (gob_s hvL (by omega) (hg01 k (by omega))) (lv_sub hl [0, 1, 2] rfl)
  exact lp_1 (n + 1) (0) (0) ls (by omega) (by omega) (rfl) (lv_sub hl [0, 1, 2] rfl)
