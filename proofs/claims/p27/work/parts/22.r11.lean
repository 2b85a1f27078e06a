set_option maxHeartbeats 800000 in
set_option maxRecDepth 100000 in
theorem c_lastOf (l : Launch) (G : GG) (ad : Nat → Nat) (S : FS) (sz : Nat) (what without : Int32) (hHOK : HOK S) : Met l yX12_lastOf (Cond.code yX12_lastOf cX12_lastOf 5 (some .int) :: TBL) ({ frames := 2, cells := 0, slots := 0, locals := 64 } : Room) (PcW G (wR G ad S) sz [.ref (ad 0), .int (what), .int (without)]) (vp_Si (fun (r : Int32) => True)) 0 0 (fun _ => False) := by
  refine Met.ofW (cc := cX12_lastOf) (maxL := 5) (ret := (some .int)) (by decide) rfl ?_
  intro p e s m args below meth c₀ s₁ B hml hv
  obtain ⟨rfl, hsz, hP, hK, hD0⟩ := hv
  have hx := B.exec
  have hb := B.bytes
  have hr := B.returns
  have hT : ∀ w ∈ TBL, w.before ([.ref (ad 0), .int (what), .int (without)] : List Value).toArray s = true := fun w h => atoms_spec (ws := Cond.code yX12_lastOf cX12_lastOf 5 (some .int) :: TBL) B.pre w (List.mem_cons_of_mem _ h)
  have hown : s.vm.findClass "LittleMoreModel" = some m.cls := findClass_of_methodNamed B.named
  have hlocks := B.notSynchronized
  have hD := hD0
  have hP : va_P G.1 vwCl (wR G ad S) s.heap := hP
  have hl := lv_entry ([.ref (ad 0), .int (what), .int (without)]) (n := 5) (Nat.le_of_ble_eq_true rfl)
  rw [lg_entry_eq]
  generalize (lg_sl ([.ref (ad 0), .int (what), .int (without)]) ++ List.replicate (5 - (lg_sl ([.ref (ad 0), .int (what), .int (without)])).length) Slot.unset).toArray = ls at hl ⊢
  have hl : lv_has ls 5 [(0, .ref (ad 0)), (1, .int (what)), (2, .int (without))] := hl
  refine W_abs (fun Q hQ => ?_)
  generalize ([.ref (ad 0), .int (what), .int (without)] : List Value).toArray = args at hT hQ ⊢
  refine lv_iload_n hx hb (fk_get fk_cX12_lastOf_0 0 rfl) rfl (lv_at hl 2 rfl) ?_
  refine lv_istore_n (lv' := [(3, .int (without)), (0, .ref (ad 0)), (1, .int (what)), (2, .int (without))]) hx hb (fk_get fk_cX12_lastOf_0 1 rfl) rfl hl (by decide) rfl (fun ls hl => ?_)
  refine lv_iconst (v := 0) hx hb (fk_get fk_cX12_lastOf_0 2 rfl) (by decide) ?_
  refine lv_istore (lv' := [(4, .int (0)), (3, .int (without)), (0, .ref (ad 0)), (1, .int (what)), (2, .int (without))]) hx hb (fk_get fk_cX12_lastOf_0 3 rfl) hl (by decide) rfl (fun ls hl => ?_)
  have lp_1 : ∀ (fu : Nat) (k : Nat) (v : Int32) (ls : Array Slot),  (k ≤ 10) → (10 < k + fu) → lv_has ls 5 [(4, .int ((nI k))), (3, .int (v)), (0, .ref (ad 0)), (1, .int (what)), (2, .int (without))] → W p l e ({ frames := 2, cells := 0, slots := 0, locals := 64 } : Room) s m args below meth c₀ s.heap [] 0 0 Q (F0 m 5 ls []) := by
    intro fu
    induction fu with
    | zero =>
      intro k v ls hk hf hl
      exact absurd hf (by omega)
    | succ fu ih =>
      intro k v ls hk hf hl
      refine lv_aload_n hx hb (fk_get fk_cX12_lastOf_0 4 rfl) rfl (lv_at hl 2 rfl) ?_
      refine va_get (D := G.1) (ci := 14) (v := .int ((fF S 0 3))) (C := RX12) (T := TX12) (N := 49) hx hb hT inX12 hown hK hP 0 (ix_at (by decide) (cR_0 G ad S)) rfl 3 (by decide) (hT _ m5_104) (fun _ h9 => h9) rfl (fk_get fk_cX12_lastOf_0 5 rfl) ?_
      refine lv_if_lt (tgt := 71) hx hb (fk_get fk_cX12_lastOf_0 6 rfl) (by decide) (fun c_2 => ?_) (fun c_2 => ?_)
      · refine lv_iload_n hx hb (fk_get fk_cX12_lastOf_1 7 rfl) rfl (lv_at hl 1 rfl) ?_
        subst hQ
        have hpost : True := by
          trivial
        exact W.iret (v := v) hx hb hr (fun t_ ht_ hW_ => ⟨v, rfl, hpost, ht_⟩) (fun q h => by cases h) (fk_get fk_cX12_lastOf_1 8 rfl)
      obtain ⟨h, hh6, hh, z, kk, hz1, hkk, h8, h12, hcl⟩ := hHOK.pos (by first | exact c_2 | (rw [← hH.2.2.1 3]; exact c_2))
      refine lv_iload hx hb (fk_get fk_cX12_lastOf_0 7 rfl) (lv_at hl 0 rfl) ?_
      refine lv_aload_n hx hb (fk_get fk_cX12_lastOf_0 8 rfl) rfl (lv_at hl 2 rfl) ?_
      refine va_get (D := G.1) (ci := 14) (v := .ref (ad 12)) (C := RX12) (T := TX12) (N := 49) hx hb hT inX12 hown hK hP 0 (ix_at (by decide) (cR_0 G ad S)) rfl 24 (by decide) (hT _ m5_125) (fun _ h9 => h9) rfl (fk_get fk_cX12_lastOf_0 9 rfl) ?_
      refine lv_aload_n hx hb (fk_get fk_cX12_lastOf_0 10 rfl) rfl (lv_at hl 2 rfl) ?_
      refine va_get (D := G.1) (ci := 14) (v := .int ((fF S 0 3))) (C := RX12) (T := TX12) (N := 49) hx hb hT inX12 hown hK hP 0 (ix_at (by decide) (cR_0 G ad S)) rfl 3 (by decide) (hT _ m5_104) (fun _ h9 => h9) rfl (fk_get fk_cX12_lastOf_0 11 rfl) ?_
      refine r_iald (f := fA S 12) hx hb hK hP 12 0 (ix_at (by decide) (cR_clauses G ad S)) rfl (h) (hh) (by omega) (by decide) (fk_get fk_cX12_lastOf_0 12 rfl) ?_
      refine lv_icmp_ge (tgt := 71) hx hb (fk_get fk_cX12_lastOf_0 13 rfl) (by decide) (fun c_3 => ?_) (fun c_3 => ?_)
      · refine lv_iload_n hx hb (fk_get fk_cX12_lastOf_1 7 rfl) rfl (lv_at hl 1 rfl) ?_
        subst hQ
        have hpost : True := by
          trivial
        exact W.iret (v := v) hx hb hr (fun t_ ht_ hW_ => ⟨v, rfl, hpost, ht_⟩) (fun q h => by cases h) (fk_get fk_cX12_lastOf_1 8 rfl)
      have hlt : k < kk := Nat.lt_of_not_le (fun w => c_3 (by rw [h12]; exact (nI_leI (a := kk) (b := k) (by omega) (by omega)).mpr w))
      refine lv_aload_n hx hb (fk_get fk_cX12_lastOf_0 14 rfl) rfl (lv_at hl 2 rfl) ?_
      refine va_get (D := G.1) (ci := 14) (v := .ref (ad 9)) (C := RX12) (T := TX12) (N := 49) hx hb hT inX12 hown hK hP 0 (ix_at (by decide) (cR_0 G ad S)) rfl 21 (by decide) (hT _ m5_122) (fun _ h9 => h9) rfl (fk_get fk_cX12_lastOf_0 15 rfl) ?_
      refine lv_bipush (v := 10) hx hb (fk_get fk_cX12_lastOf_0 16 rfl) (by decide) ?_
      refine lv_aload_n hx hb (fk_get fk_cX12_lastOf_0 17 rfl) rfl (lv_at hl 2 rfl) ?_
      refine va_get (D := G.1) (ci := 14) (v := .int ((fF S 0 3))) (C := RX12) (T := TX12) (N := 49) hx hb hT inX12 hown hK hP 0 (ix_at (by decide) (cR_0 G ad S)) rfl 3 (by decide) (hT _ m5_104) (fun _ h9 => h9) rfl (fk_get fk_cX12_lastOf_0 18 rfl) ?_
      refine lv_imul hx hb (fk_get fk_cX12_lastOf_0 19 rfl) ?_
      refine lv_iload hx hb (fk_get fk_cX12_lastOf_0 20 rfl) (lv_at hl 0 rfl) ?_
      refine lv_iadd hx hb (fk_get fk_cX12_lastOf_0 21 rfl) ?_
      refine r_iald (f := fA S 9) hx hb hK hP 9 0 (ix_at (by decide) (cR_clauseWhat G ad S)) rfl (((10 * h) + k)) (n_add (n_mul (rfl) (hh)) (rfl)) (by omega) (by decide) (fk_get fk_cX12_lastOf_0 22 rfl) ?_
      refine lv_iload_n hx hb (fk_get fk_cX12_lastOf_0 23 rfl) rfl (lv_at hl 3 rfl) ?_
      refine lv_icmp_ne (tgt := 63) hx hb (fk_get fk_cX12_lastOf_0 24 rfl) (by decide) (fun c_4 => ?_) (fun c_4 => ?_)
      · refine lv_iload_n hx hb (fk_get fk_cX12_lastOf_1 3 rfl) rfl (lv_at hl 1 rfl) ?_
        refine lv_istore_n (lv' := [(3, .int (v)), (4, .int ((nI k))), (0, .ref (ad 0)), (1, .int (what)), (2, .int (without))]) hx hb (fk_get fk_cX12_lastOf_1 4 rfl) rfl hl (by decide) rfl (fun ls hl => ?_)
        refine lv_iinc (v := (nI (k + 1))) (lv' := [(4, .int ((nI (k + 1)))), (3, .int (v)), (0, .ref (ad 0)), (1, .int (what)), (2, .int (without))]) hx hb (fk_get fk_cX12_lastOf_1 5 rfl) hl (k := 1) rfl ((nI_1 k)) (by decide) rfl (fun ls hl => ?_)
        refine lv_goto (tgt := 5) hx hb (fk_get fk_cX12_lastOf_1 6 rfl) (by decide) ?_
        exact ih (k + 1) (v) ls (by omega) (by omega) (lv_sub hl [0, 1, 2, 3, 4] rfl)
      refine lv_aload_n hx hb (fk_get fk_cX12_lastOf_0 25 rfl) rfl (lv_at hl 2 rfl) ?_
      refine va_get (D := G.1) (ci := 14) (v := .ref (ad 10)) (C := RX12) (T := TX12) (N := 49) hx hb hT inX12 hown hK hP 0 (ix_at (by decide) (cR_0 G ad S)) rfl 22 (by decide) (hT _ m5_123) (fun _ h9 => h9) rfl (fk_get fk_cX12_lastOf_0 26 rfl) ?_
      refine lv_bipush (v := 10) hx hb (fk_get fk_cX12_lastOf_0 27 rfl) (by decide) ?_
      refine lv_aload_n hx hb (fk_get fk_cX12_lastOf_0 28 rfl) rfl (lv_at hl 2 rfl) ?_
      refine va_get (D := G.1) (ci := 14) (v := .int ((fF S 0 3))) (C := RX12) (T := TX12) (N := 49) hx hb hT inX12 hown hK hP 0 (ix_at (by decide) (cR_0 G ad S)) rfl 3 (by decide) (hT _ m5_104) (fun _ h9 => h9) rfl (fk_get fk_cX12_lastOf_0 29 rfl) ?_
      refine lv_imul hx hb (fk_get fk_cX12_lastOf_0 30 rfl) ?_
      refine lv_iload hx hb (fk_get fk_cX12_lastOf_0 31 rfl) (lv_at hl 0 rfl) ?_
      refine lv_iadd hx hb (fk_get fk_cX12_lastOf_1 0 rfl) ?_
      refine r_iald (f := fA S 10) hx hb hK hP 10 0 (ix_at (by decide) (cR_clauseN G ad S)) rfl (((10 * h) + k)) (n_add (n_mul (rfl) (hh)) (rfl)) (by omega) (by decide) (fk_get fk_cX12_lastOf_1 1 rfl) ?_
      refine lv_goto (tgt := 64) hx hb (fk_get fk_cX12_lastOf_1 2 rfl) (by decide) ?_
      refine lv_istore_n (lv' := [(3, .int ((fA S 10 (((10 * h) + k))))), (4, .int ((nI k))), (0, .ref (ad 0)), (1, .int (what)), (2, .int (without))]) hx hb (fk_get fk_cX12_lastOf_1 4 rfl) rfl hl (by decide) rfl (fun ls hl => ?_)
      refine lv_iinc (v := (nI (k + 1))) (lv' := [(4, .int ((nI (k + 1)))), (3, .int ((fA S 10 (((10 * h) + k))))), (0, .ref (ad 0)), (1, .int (what)), (2, .int (without))]) hx hb (fk_get fk_cX12_lastOf_1 5 rfl) hl (k := 1) rfl ((nI_1 k)) (by decide) rfl (fun ls hl => ?_)
      refine lv_goto (tgt := 5) hx hb (fk_get fk_cX12_lastOf_1 6 rfl) (by decide) ?_
      exact ih (k + 1) ((fA S 10 (((10 * h) + k)))) ls (by omega) (by omega) (lv_sub hl [0, 1, 2, 3, 4] rfl)
  exact lp_1 (11) (0) (without) ls (by omega) (by omega) (lv_sub hl [0, 1, 2, 3, 4] rfl)
set_option maxHeartbeats 800000 in
set_option maxRecDepth 100000 in
theorem c_moreOf (l : Launch) (G : GG) (ad : Nat → Nat) (S : FS) (sz : Nat) (c : Int32) (j : Nat) (hHOK : HOK S) (ej : c = nI j) (hj : j < 6) : Met l yX12_moreOf (Cond.code yX12_moreOf cX12_moreOf 5 (some .int) :: TBL) ({ frames := 5, cells := 0, slots := 0, locals := 148 } : Room) (PcW G (wR G ad S) sz [.ref (ad 0), .int (c)]) (va_Qi (fun (r : Int32) (S' : FS) => HFr S S') (fun S' t => BW G (va_A (wR G ad S) sz) (wR G ad S') t) (va_A (wR G ad S) sz)) 0 0 (va_A (wR G ad S) sz) := by
  refine Met.ofW (cc := cX12_moreOf) (maxL := 5) (ret := (some .int)) (by decide) rfl ?_
  intro p e s m args below meth c₀ s₁ B hml hv
  obtain ⟨rfl, hsz, hP, hK, hD0⟩ := hv
  have hx := B.exec
  have hb := B.bytes
  have hr := B.returns
  have hT : ∀ w ∈ TBL, w.before ([.ref (ad 0), .int (c)] : List Value).toArray s = true := fun w h => atoms_spec (ws := Cond.code yX12_moreOf cX12_moreOf 5 (some .int) :: TBL) B.pre w (List.mem_cons_of_mem _ h)
  have hown : s.vm.findClass "LittleMoreModel" = some m.cls := findClass_of_methodNamed B.named
  have hlocks := B.notSynchronized
  subst hsz
  have hD := hD0.self (sz := s.heap.size)
  generalize hAe : va_A (wR G ad S) s.heap.size = A at hD ⊢
  have hA : ∀ q : Nat, s.heap.size ≤ q → A q := fun q h => by rw [← hAe]; exact Or.inr h
  have hS : va_S A s.heap s.heap [] := va_S.rf
  have hP : va_P G.1 vwCl (wR G ad S) s.heap := hP
  have hl := lv_entry ([.ref (ad 0), .int (c)]) (n := 5) (Nat.le_of_ble_eq_true rfl)
  rw [lg_entry_eq]
  generalize (lg_sl ([.ref (ad 0), .int (c)]) ++ List.replicate (5 - (lg_sl ([.ref (ad 0), .int (c)])).length) Slot.unset).toArray = ls at hl ⊢
  have hl : lv_has ls 5 [(0, .ref (ad 0)), (1, .int (c))] := hl
  refine W_abs (fun Q hQ => ?_)
  generalize ([.ref (ad 0), .int (c)] : List Value).toArray = args at hT hQ ⊢
  refine lv_aload_n hx hb (fk_get fk_cX12_moreOf_0 0 rfl) rfl (lv_at hl 0 rfl) ?_
  refine va_get (D := G.1) (ci := 14) (v := .int ((fF S 0 2))) (C := RX12) (T := TX12) (N := 49) hx hb hT inX12 hown hK hP 0 (ix_at (by decide) (cR_0 G ad S)) rfl 2 (by decide) (hT _ m5_103) (fun _ h9 => h9) rfl (fk_get fk_cX12_moreOf_0 1 rfl) ?_
  refine lv_aload_n hx hb (fk_get fk_cX12_moreOf_0 2 rfl) rfl (lv_at hl 0 rfl) ?_
  refine lv_iload_n hx hb (fk_get fk_cX12_moreOf_0 3 rfl) rfl (lv_at hl 1 rfl) ?_
  refine lv_iconst (v := 3) hx hb (fk_get fk_cX12_moreOf_0 4 rfl) (by decide) ?_
  refine vp_callSi (W.runV (As := [.int (c), .int (3)]) (rest := [.int ((fF S 0 2))]) ⟨hx, hb, hml, hown, hT⟩ (c_of0 l G ad S s.heap.size (c) (3) (((12 * j) + 3)) (n_add (n_mul (rfl) (ej)) (rfl)) (by omega)) (tV 2 hT m6_119 m6_121 mp_34 m1_17 m6_122 rfl rfl (by decide +kernel) ⟨Nat.le_of_ble_eq_true rfl, Nat.le_of_ble_eq_true rfl⟩) ⟨PcW_blind, va_recv hK hP (ci := 14) (q0 := 0) rfl (ix_at (by decide) (cR_0 G ad S)), PcW_of hP hK hD _⟩ rfl rfl hl.1 rfl (lv_room (Nat.le_of_ble_eq_true rfl)) (fk_get fk_cX12_moreOf_0 5 rfl) ⟨Nat.zero_le _, Nat.zero_le _⟩) (fun r_1 hw_2 => ?_)
  try dsimp only at hw_2
  refine lv_iadd hx hb (fk_get fk_cX12_moreOf_0 6 rfl) ?_
  refine lv_istore_n (lv' := [(2, .int (((fF S 0 2) + r_1))), (0, .ref (ad 0)), (1, .int (c))]) hx hb (fk_get fk_cX12_moreOf_0 7 rfl) rfl hl (by decide) rfl (fun ls hl => ?_)
  refine lv_iconst (v := 0) hx hb (fk_get fk_cX12_moreOf_0 8 rfl) (by decide) ?_
  refine lv_istore_n (lv' := [(3, .int (0)), (2, .int (((fF S 0 2) + r_1))), (0, .ref (ad 0)), (1, .int (c))]) hx hb (fk_get fk_cX12_moreOf_0 9 rfl) rfl hl (by decide) rfl (fun ls hl => ?_)
  have lp_3 : ∀ (fu : Nat) (k : Nat) (v : Int32) (SL : FS) (H_5 : Heap) (locs_6 : List Loc) (ls : Array Slot),  (k ≤ 10) → (10 < k + fu) → (HFr S SL) → va_P G.1 vwCl (wR G ad SL) H_5 → va_D A (wR G ad SL) → va_S A s.heap H_5 locs_6 → lv_has ls 5 [(3, .int ((nI k))), (2, .int (v)), (0, .ref (ad 0)), (1, .int (c))] → W p l e ({ frames := 5, cells := 0, slots := 0, locals := 148 } : Room) s m args below meth c₀ H_5 locs_6 0 0 Q (F0 m 14 ls []) := by
    intro fu
    induction fu with
    | zero =>
      intro k v SL H_5 locs_6 ls hk hf hH hP hD hS hl
      exact absurd hf (by omega)
    | succ fu ih =>
      intro k v SL H_5 locs_6 ls hk hf hH hP hD hS hl
      refine lv_aload_n hx hb (fk_get fk_cX12_moreOf_0 10 rfl) rfl (lv_at hl 2 rfl) ?_
      refine va_get (D := G.1) (ci := 14) (v := .int ((fF SL 0 3))) (C := RX12) (T := TX12) (N := 49) hx hb hT inX12 hown hK hP 0 (ix_at (by decide) (cR_0 G ad SL)) rfl 3 (by decide) (hT _ m5_104) (fun _ h9 => h9) rfl (fk_get fk_cX12_moreOf_0 11 rfl) ?_
      refine lv_if_lt (tgt := 108) hx hb (fk_get fk_cX12_moreOf_0 12 rfl) (by decide) (fun c_7 => ?_) (fun c_7 => ?_)
      · refine lv_iload_n hx hb (fk_get fk_cX12_moreOf_1 29 rfl) rfl (lv_at hl 1 rfl) ?_
        refine lv_if_ge (tgt := 116) hx hb (fk_get fk_cX12_moreOf_1 30 rfl) (by decide) (fun c_8 => ?_) (fun c_8 => ?_)
        · refine lv_iload_n hx hb (fk_get fk_cX12_moreOf_2 1 rfl) rfl (lv_at hl 1 rfl) ?_
          subst hQ
          have hpost : HFr S SL := by
            exact hH
          exact W.iret (v := v) hx hb hr (fun t_ ht_ hW_ => ⟨⟨v, SL, rfl, hpost, by rw [ht_]; exact hP, va_K.moved hW_.alike hK, hD⟩, hS.F ht_⟩) hS.2.2 (fk_get fk_cX12_moreOf_2 2 rfl)
        refine lv_iconst (v := 0) hx hb (fk_get fk_cX12_moreOf_1 31 rfl) (by decide) ?_
        refine lv_goto (tgt := 117) hx hb (fk_get fk_cX12_moreOf_2 0 rfl) (by decide) ?_
        subst hQ
        have hpost : HFr S SL := by
          exact hH
        exact W.iret (v := 0) hx hb hr (fun t_ ht_ hW_ => ⟨⟨0, SL, rfl, hpost, by rw [ht_]; exact hP, va_K.moved hW_.alike hK, hD⟩, hS.F ht_⟩) hS.2.2 (fk_get fk_cX12_moreOf_2 2 rfl)
      obtain ⟨h, hh6, hh, z, kk, hz1, hkk, h8, h12, hcl⟩ := hHOK.pos (by first | exact c_7 | (rw [← hH.2.2.1 3]; exact c_7))
      refine lv_iload_n hx hb (fk_get fk_cX12_moreOf_0 13 rfl) rfl (lv_at hl 0 rfl) ?_
      refine lv_aload_n hx hb (fk_get fk_cX12_moreOf_0 14 rfl) rfl (lv_at hl 2 rfl) ?_
      refine va_get (D := G.1) (ci := 14) (v := .ref (ad 12)) (C := RX12) (T := TX12) (N := 49) hx hb hT inX12 hown hK hP 0 (ix_at (by decide) (cR_0 G ad SL)) rfl 24 (by decide) (hT _ m5_125) (fun _ h9 => h9) rfl (fk_get fk_cX12_moreOf_0 15 rfl) ?_
      refine lv_aload_n hx hb (fk_get fk_cX12_moreOf_0 16 rfl) rfl (lv_at hl 2 rfl) ?_
      refine va_get (D := G.1) (ci := 14) (v := .int ((fF SL 0 3))) (C := RX12) (T := TX12) (N := 49) hx hb hT inX12 hown hK hP 0 (ix_at (by decide) (cR_0 G ad SL)) rfl 3 (by decide) (hT _ m5_104) (fun _ h9 => h9) rfl (fk_get fk_cX12_moreOf_0 17 rfl) ?_
      refine r_iald (f := fA SL 12) hx hb hK hP 12 0 (ix_at (by decide) (cR_clauses G ad SL)) rfl (h) (((hH.2.2.1 3).trans hh)) (by omega) (by decide) (fk_get fk_cX12_moreOf_0 18 rfl) ?_
      refine lv_icmp_ge (tgt := 108) hx hb (fk_get fk_cX12_moreOf_0 19 rfl) (by decide) (fun c_9 => ?_) (fun c_9 => ?_)
      · refine lv_iload_n hx hb (fk_get fk_cX12_moreOf_1 29 rfl) rfl (lv_at hl 1 rfl) ?_
        refine lv_if_ge (tgt := 116) hx hb (fk_get fk_cX12_moreOf_1 30 rfl) (by decide) (fun c_10 => ?_) (fun c_10 => ?_)
        · refine lv_iload_n hx hb (fk_get fk_cX12_moreOf_2 1 rfl) rfl (lv_at hl 1 rfl) ?_
          subst hQ
          have hpost : HFr S SL := by
            exact hH
          exact W.iret (v := v) hx hb hr (fun t_ ht_ hW_ => ⟨⟨v, SL, rfl, hpost, by rw [ht_]; exact hP, va_K.moved hW_.alike hK, hD⟩, hS.F ht_⟩) hS.2.2 (fk_get fk_cX12_moreOf_2 2 rfl)
        refine lv_iconst (v := 0) hx hb (fk_get fk_cX12_moreOf_1 31 rfl) (by decide) ?_
        refine lv_goto (tgt := 117) hx hb (fk_get fk_cX12_moreOf_2 0 rfl) (by decide) ?_
        subst hQ
        have hpost : HFr S SL := by
          exact hH
        exact W.iret (v := 0) hx hb hr (fun t_ ht_ hW_ => ⟨⟨0, SL, rfl, hpost, by rw [ht_]; exact hP, va_K.moved hW_.alike hK, hD⟩, hS.F ht_⟩) hS.2.2 (fk_get fk_cX12_moreOf_2 2 rfl)
      have hlt : k < kk := Nat.lt_of_not_le (fun w => c_9 (by rw [show fA SL 12 h = nI kk from (congrFun (hH.a (i := 12) (by decide)) _).trans h12]; exact (nI_leI (a := kk) (b := k) (by omega) (by omega)).mpr w))
      refine lv_bipush (v := 10) hx hb (fk_get fk_cX12_moreOf_0 20 rfl) (by decide) ?_
      refine lv_aload_n hx hb (fk_get fk_cX12_moreOf_0 21 rfl) rfl (lv_at hl 2 rfl) ?_
      refine va_get (D := G.1) (ci := 14) (v := .int ((fF SL 0 3))) (C := RX12) (T := TX12) (N := 49) hx hb hT inX12 hown hK hP 0 (ix_at (by decide) (cR_0 G ad SL)) rfl 3 (by decide) (hT _ m5_104) (fun _ h9 => h9) rfl (fk_get fk_cX12_moreOf_0 22 rfl) ?_
      refine lv_imul hx hb (fk_get fk_cX12_moreOf_0 23 rfl) ?_
      refine lv_iload_n hx hb (fk_get fk_cX12_moreOf_0 24 rfl) rfl (lv_at hl 0 rfl) ?_
      refine lv_iadd hx hb (fk_get fk_cX12_moreOf_0 25 rfl) ?_
      rw [show ((10 * (fF SL 0 3)) + (nI k)) = (nI (10 * h + k)) from (n_add (n_mul rfl ((hH.2.2.1 3).trans hh)) rfl)]
      refine lv_istore (lv' := [(4, .int ((nI (10 * h + k)))), (3, .int ((nI k))), (2, .int (v)), (0, .ref (ad 0)), (1, .int (c))]) hx hb (fk_get fk_cX12_moreOf_0 26 rfl) hl (by decide) rfl (fun ls hl => ?_)
      refine lv_aload_n hx hb (fk_get fk_cX12_moreOf_0 27 rfl) rfl (lv_at hl 3 rfl) ?_
      refine va_get (D := G.1) (ci := 14) (v := .ref (ad 9)) (C := RX12) (T := TX12) (N := 49) hx hb hT inX12 hown hK hP 0 (ix_at (by decide) (cR_0 G ad SL)) rfl 21 (by decide) (hT _ m5_122) (fun _ h9 => h9) rfl (fk_get fk_cX12_moreOf_0 28 rfl) ?_
      refine lv_iload hx hb (fk_get fk_cX12_moreOf_0 29 rfl) (lv_at hl 0 rfl) ?_
      refine r_iald (f := fA SL 9) hx hb hK hP 9 0 (ix_at (by decide) (cR_clauseWhat G ad SL)) rfl ((10 * h + k)) (rfl) (by omega) (by decide) (fk_get fk_cX12_moreOf_0 30 rfl) ?_
      refine lv_iconst (v := 2) hx hb (fk_get fk_cX12_moreOf_0 31 rfl) (by decide) ?_
      refine lv_icmp_ge (tgt := 102) hx hb (fk_get fk_cX12_moreOf_1 0 rfl) (by decide) (fun c_11 => ?_) (fun c_11 => ?_)
      · refine lv_iinc (v := (nI (k + 1))) (lv' := [(3, .int ((nI (k + 1)))), (4, .int ((nI (10 * h + k)))), (2, .int (v)), (0, .ref (ad 0)), (1, .int (c))]) hx hb (fk_get fk_cX12_moreOf_1 27 rfl) hl (k := 1) rfl ((nI_1 k)) (by decide) rfl (fun ls hl => ?_)
        refine lv_goto (tgt := 14) hx hb (fk_get fk_cX12_moreOf_1 28 rfl) (by decide) ?_
        exact ih (k + 1) (v) (SL) _ _ ls (by omega) (by omega) ((by first | exact hH2 | exact hH)) hP hD hS (lv_sub hl [0, 2, 3, 4] rfl)
      obtain ⟨a, ha, h11, hOK⟩ := hcl k hlt (Int32.not_le.mp (fun w => c_11 (by rw [hH.a (i := 9) (by decide)]; exact w)))
      refine lv_aload_n hx hb (fk_get fk_cX12_moreOf_1 1 rfl) rfl (lv_at hl 3 rfl) ?_
      refine lv_iload_n hx hb (fk_get fk_cX12_moreOf_1 2 rfl) rfl (lv_at hl 4 rfl) ?_
      refine lv_aload_n hx hb (fk_get fk_cX12_moreOf_1 3 rfl) rfl (lv_at hl 3 rfl) ?_
      refine va_get (D := G.1) (ci := 14) (v := .ref (ad 11)) (C := RX12) (T := TX12) (N := 49) hx hb hT inX12 hown hK hP 0 (ix_at (by decide) (cR_0 G ad SL)) rfl 23 (by decide) (hT _ m5_124) (fun _ h9 => h9) rfl (fk_get fk_cX12_moreOf_1 4 rfl) ?_
      refine lv_iload hx hb (fk_get fk_cX12_moreOf_1 5 rfl) (lv_at hl 0 rfl) ?_
      refine r_iald (f := fA SL 11) hx hb hK hP 11 0 (ix_at (by decide) (cR_clauseAt G ad SL)) rfl ((10 * h + k)) (rfl) (by omega) (by decide) (fk_get fk_cX12_moreOf_1 6 rfl) ?_
      rw [show (fA SL 11 ((10 * h + k))) = (nI a) from ((congrFun (hH.a (i := 11) (by decide)) _).trans h11)]
      have hFc := va_self hD hS hA
      refine va_calli (va_runV (As := [.int (c), .int ((nI a))]) (rest := []) ⟨hx, hb, hml, hown, hT⟩ (c_holds l G ad SL H_5.size (h) (z) (a) (j) (c) ((hH.2.2.1 3).trans hh) (hh6) ((congrFun (hH.a (i := 8) (by decide)) _).trans h8) (hz1) (by rw [hH.a (i := 7) (by decide)]; exact hOK) (by omega) (ej) (hj)) (tV 2 hT m6_123 m6_125 mp_35 m1_17 m6_126 rfl rfl (by decide +kernel) ⟨Nat.le_of_ble_eq_true rfl, Nat.le_of_ble_eq_true rfl⟩) ⟨PcW_blind, va_recv hK hP (ci := 14) (q0 := 0) rfl (ix_at (by decide) (cR_0 G ad SL)), PcW_of hP hK hD _⟩ rfl rfl hl.1 rfl (lv_room (Nat.le_of_ble_eq_true rfl)) (fk_get fk_cX12_moreOf_1 7 rfl) ⟨Nat.zero_le _, Nat.zero_le _⟩) hS (fun q _ h => hFc q h) hFc (fun r_12 S_14 t_ H locs ht_ hvm_ hw_13 hB_ hz_ hk_ hS => ?_)
      obtain ⟨hP, -, hD1_⟩ := hB_
      rw [ht_] at hP
      have hD : va_D A (wR G ad S_14) := hD1_.weaken (fun k q _ h => hFc q.1 h)
      try dsimp only at hw_13
      obtain ⟨hH1, hr01⟩ := hw_13
      have hH2 := hH.trans hH1
      refine lv_if_eq (tgt := 102) hx hb (fk_get fk_cX12_moreOf_1 8 rfl) (by decide) (fun c_15 => ?_) (fun c_15 => ?_)
      · refine lv_iinc (v := (nI (k + 1))) (lv' := [(3, .int ((nI (k + 1)))), (4, .int ((nI (10 * h + k)))), (2, .int (v)), (0, .ref (ad 0)), (1, .int (c))]) hx hb (fk_get fk_cX12_moreOf_1 27 rfl) hl (k := 1) rfl ((nI_1 k)) (by decide) rfl (fun ls hl => ?_)
        refine lv_goto (tgt := 14) hx hb (fk_get fk_cX12_moreOf_1 28 rfl) (by decide) ?_
        exact ih (k + 1) (v) (S_14) _ _ ls (by omega) (by omega) ((by first | exact hH2 | exact hH)) hP hD hS (lv_sub hl [0, 2, 3, 4] rfl)
      refine lv_iload_n hx hb (fk_get fk_cX12_moreOf_1 9 rfl) rfl (lv_at hl 2 rfl) ?_
      refine lv_aload_n hx hb (fk_get fk_cX12_moreOf_1 10 rfl) rfl (lv_at hl 3 rfl) ?_
      refine va_get (D := G.1) (ci := 14) (v := .ref (ad 9)) (C := RX12) (T := TX12) (N := 49) hx hb hT inX12 hown hK hP 0 (ix_at (by decide) (cR_0 G ad S_14)) rfl 21 (by decide) (hT _ m5_122) (fun _ h9 => h9) rfl (fk_get fk_cX12_moreOf_1 11 rfl) ?_
      refine lv_iload hx hb (fk_get fk_cX12_moreOf_1 12 rfl) (lv_at hl 0 rfl) ?_
      refine r_iald (f := fA S_14 9) hx hb hK hP 9 0 (ix_at (by decide) (cR_clauseWhat G ad S_14)) rfl ((10 * h + k)) (rfl) (by omega) (by decide) (fk_get fk_cX12_moreOf_1 13 rfl) ?_
      refine lv_if_ne (tgt := 92) hx hb (fk_get fk_cX12_moreOf_1 14 rfl) (by decide) (fun c_16 => ?_) (fun c_16 => ?_)
      · refine lv_aload_n hx hb (fk_get fk_cX12_moreOf_1 20 rfl) rfl (lv_at hl 3 rfl) ?_
        refine va_get (D := G.1) (ci := 14) (v := .ref (ad 10)) (C := RX12) (T := TX12) (N := 49) hx hb hT inX12 hown hK hP 0 (ix_at (by decide) (cR_0 G ad S_14)) rfl 22 (by decide) (hT _ m5_123) (fun _ h9 => h9) rfl (fk_get fk_cX12_moreOf_1 21 rfl) ?_
        refine lv_iload hx hb (fk_get fk_cX12_moreOf_1 22 rfl) (lv_at hl 0 rfl) ?_
        refine r_iald (f := fA S_14 10) hx hb hK hP 10 0 (ix_at (by decide) (cR_clauseN G ad S_14)) rfl ((10 * h + k)) (rfl) (by omega) (by decide) (fk_get fk_cX12_moreOf_1 23 rfl) ?_
        refine lv_ineg hx hb (fk_get fk_cX12_moreOf_1 24 rfl) ?_
        refine lv_iadd hx hb (fk_get fk_cX12_moreOf_1 25 rfl) ?_
        refine lv_istore_n (lv' := [(2, .int ((v + (-(fA S_14 10 ((10 * h + k))))))), (4, .int ((nI (10 * h + k)))), (3, .int ((nI k))), (0, .ref (ad 0)), (1, .int (c))]) hx hb (fk_get fk_cX12_moreOf_1 26 rfl) rfl hl (by decide) rfl (fun ls hl => ?_)
        refine lv_iinc (v := (nI (k + 1))) (lv' := [(3, .int ((nI (k + 1)))), (2, .int ((v + (-(fA S_14 10 ((10 * h + k))))))), (4, .int ((nI (10 * h + k)))), (0, .ref (ad 0)), (1, .int (c))]) hx hb (fk_get fk_cX12_moreOf_1 27 rfl) hl (k := 2) rfl ((nI_1 k)) (by decide) rfl (fun ls hl => ?_)
        refine lv_goto (tgt := 14) hx hb (fk_get fk_cX12_moreOf_1 28 rfl) (by decide) ?_
        exact ih (k + 1) ((v + (-(fA S_14 10 ((10 * h + k)))))) (S_14) _ _ ls (by omega) (by omega) ((by first | exact hH2 | exact hH)) hP hD hS (lv_sub hl [0, 1, 3, 4] rfl)
      refine lv_aload_n hx hb (fk_get fk_cX12_moreOf_1 15 rfl) rfl (lv_at hl 3 rfl) ?_
      refine va_get (D := G.1) (ci := 14) (v := .ref (ad 10)) (C := RX12) (T := TX12) (N := 49) hx hb hT inX12 hown hK hP 0 (ix_at (by decide) (cR_0 G ad S_14)) rfl 22 (by decide) (hT _ m5_123) (fun _ h9 => h9) rfl (fk_get fk_cX12_moreOf_1 16 rfl) ?_
      refine lv_iload hx hb (fk_get fk_cX12_moreOf_1 17 rfl) (lv_at hl 0 rfl) ?_
      refine r_iald (f := fA S_14 10) hx hb hK hP 10 0 (ix_at (by decide) (cR_clauseN G ad S_14)) rfl ((10 * h + k)) (rfl) (by omega) (by decide) (fk_get fk_cX12_moreOf_1 18 rfl) ?_
      refine lv_goto (tgt := 100) hx hb (fk_get fk_cX12_moreOf_1 19 rfl) (by decide) ?_
      refine lv_iadd hx hb (fk_get fk_cX12_moreOf_1 25 rfl) ?_
      refine lv_istore_n (lv' := [(2, .int ((v + (fA S_14 10 ((10 * h + k)))))), (4, .int ((nI (10 * h + k)))), (3, .int ((nI k))), (0, .ref (ad 0)), (1, .int (c))]) hx hb (fk_get fk_cX12_moreOf_1 26 rfl) rfl hl (by decide) rfl (fun ls hl => ?_)
      refine lv_iinc (v := (nI (k + 1))) (lv' := [(3, .int ((nI (k + 1)))), (2, .int ((v + (fA S_14 10 ((10 * h + k)))))), (4, .int ((nI (10 * h + k)))), (0, .ref (ad 0)), (1, .int (c))]) hx hb (fk_get fk_cX12_moreOf_1 27 rfl) hl (k := 2) rfl ((nI_1 k)) (by decide) rfl (fun ls hl => ?_)
      refine lv_goto (tgt := 14) hx hb (fk_get fk_cX12_moreOf_1 28 rfl) (by decide) ?_
      exact ih (k + 1) ((v + (fA S_14 10 ((10 * h + k))))) (S_14) _ _ ls (by omega) (by omega) ((by first | exact hH2 | exact hH)) hP hD hS (lv_sub hl [0, 1, 3, 4] rfl)
  exact lp_3 (11) (0) ((((fF S 0 2) + r_1))) (S) _ _ ls (by omega) (by omega) (HFr.rf S) hP hD hS (lv_sub hl [0, 1, 2, 3] rfl)
set_option maxHeartbeats 800000 in
set_option maxRecDepth 100000 in
theorem c_asksOf (l : Launch) (G : GG) (ad : Nat → Nat) (S : FS) (sz : Nat) (c : Int32) (j x : Nat) (ej : c = nI j) (hj : j < 6) (hx6 : fA S 1 (12 * j + 6) = nI x) (hx30 : x < 1000000) : Met l yX12_asksOf (Cond.code yX12_asksOf cX12_asksOf 4 (some .int) :: TBL) ({ frames := 3, cells := 0, slots := 0, locals := 90 } : Room) (PcW G (wR G ad S) sz [.ref (ad 0), .int (c)]) (vp_Si (fun (r : Int32) => True)) 0 0 (fun _ => False) := by
  refine Met.ofW (cc := cX12_asksOf) (maxL := 4) (ret := (some .int)) (by decide) rfl ?_
  intro p e s m args below meth c₀ s₁ B hml hv
  obtain ⟨rfl, hsz, hP, hK, hD0⟩ := hv
  have hx := B.exec
  have hb := B.bytes
  have hr := B.returns
  have hT : ∀ w ∈ TBL, w.before ([.ref (ad 0), .int (c)] : List Value).toArray s = true := fun w h => atoms_spec (ws := Cond.code yX12_asksOf cX12_asksOf 4 (some .int) :: TBL) B.pre w (List.mem_cons_of_mem _ h)
  have hown : s.vm.findClass "LittleMoreModel" = some m.cls := findClass_of_methodNamed B.named
  have hlocks := B.notSynchronized
  have hD := hD0
  have hP : va_P G.1 vwCl (wR G ad S) s.heap := hP
  have hl := lv_entry ([.ref (ad 0), .int (c)]) (n := 4) (Nat.le_of_ble_eq_true rfl)
  rw [lg_entry_eq]
  generalize (lg_sl ([.ref (ad 0), .int (c)]) ++ List.replicate (4 - (lg_sl ([.ref (ad 0), .int (c)])).length) Slot.unset).toArray = ls at hl ⊢
  have hl : lv_has ls 4 [(0, .ref (ad 0)), (1, .int (c))] := hl
  refine W_abs (fun Q hQ => ?_)
  generalize ([.ref (ad 0), .int (c)] : List Value).toArray = args at hT hQ ⊢
  refine lv_aload_n hx hb (fk_get fk_cX12_asksOf_0 0 rfl) rfl (lv_at hl 0 rfl) ?_
  refine lv_iload_n hx hb (fk_get fk_cX12_asksOf_0 1 rfl) rfl (lv_at hl 1 rfl) ?_
  refine lv_iconst (v := 2) hx hb (fk_get fk_cX12_asksOf_0 2 rfl) (by decide) ?_
  refine vp_callSi (W.runV (As := [.int (c), .int (2)]) (rest := []) ⟨hx, hb, hml, hown, hT⟩ (c_of0 l G ad S s.heap.size (c) (2) (((12 * j) + 2)) (n_add (n_mul (rfl) (ej)) (rfl)) (by omega)) (tV 2 hT m6_119 m6_121 mp_34 m1_17 m6_122 rfl rfl (by decide +kernel) ⟨Nat.le_of_ble_eq_true rfl, Nat.le_of_ble_eq_true rfl⟩) ⟨PcW_blind, va_recv hK hP (ci := 14) (q0 := 0) rfl (ix_at (by decide) (cR_0 G ad S)), PcW_of hP hK hD _⟩ rfl rfl hl.1 rfl (lv_room (Nat.le_of_ble_eq_true rfl)) (fk_get fk_cX12_asksOf_0 3 rfl) ⟨Nat.zero_le _, Nat.zero_le _⟩) (fun r_1 hw_2 => ?_)
  try dsimp only at hw_2
  refine lv_istore_n (lv' := [(2, .int (r_1)), (0, .ref (ad 0)), (1, .int (c))]) hx hb (fk_get fk_cX12_asksOf_0 4 rfl) rfl hl (by decide) rfl (fun ls hl => ?_)
  refine lv_iload_n hx hb (fk_get fk_cX12_asksOf_0 5 rfl) rfl (lv_at hl 0 rfl) ?_
  refine lv_aload_n hx hb (fk_get fk_cX12_asksOf_0 6 rfl) rfl (lv_at hl 1 rfl) ?_
  refine lv_iload_n hx hb (fk_get fk_cX12_asksOf_0 7 rfl) rfl (lv_at hl 2 rfl) ?_
  refine lv_iconst (v := 4) hx hb (fk_get fk_cX12_asksOf_0 8 rfl) (by decide) ?_
  refine vp_callSi (W.runV (As := [.int (c), .int (4)]) (rest := [.int (r_1)]) ⟨hx, hb, hml, hown, hT⟩ (c_of0 l G ad S s.heap.size (c) (4) (((12 * j) + 4)) (n_add (n_mul (rfl) (ej)) (rfl)) (by omega)) (tV 2 hT m6_119 m6_121 mp_34 m1_17 m6_122 rfl rfl (by decide +kernel) ⟨Nat.le_of_ble_eq_true rfl, Nat.le_of_ble_eq_true rfl⟩) ⟨PcW_blind, va_recv hK hP (ci := 14) (q0 := 0) rfl (ix_at (by decide) (cR_0 G ad S)), PcW_of hP hK hD _⟩ rfl rfl hl.1 rfl (lv_room (Nat.le_of_ble_eq_true rfl)) (fk_get fk_cX12_asksOf_0 9 rfl) ⟨Nat.zero_le _, Nat.zero_le _⟩) (fun r_3 hw_4 => ?_)
  try dsimp only at hw_4
  refine lv_isub hx hb (fk_get fk_cX12_asksOf_0 10 rfl) ?_
  refine lv_iconst (v := 1) hx hb (fk_get fk_cX12_asksOf_0 11 rfl) (by decide) ?_
  refine vp_callSi (W.runS (As := [.int ((r_1 - r_3)), .int (1)]) (rest := []) ⟨hx, hb, hml, hown, hT⟩ (c_atLeast l ((r_1 - r_3)) (1) ) (tS 2 hT m6_147 m6_148 m1_17 m6_149 rfl rfl (by decide +kernel) ⟨Nat.le_of_ble_eq_true rfl, Nat.le_of_ble_eq_true rfl⟩) ⟨PcN_blind, PcN_of _ _ _⟩ rfl rfl hl.1 rfl (lv_room (Nat.le_of_ble_eq_true rfl)) (fk_get fk_cX12_asksOf_0 12 rfl) ⟨Nat.zero_le _, Nat.zero_le _⟩) (fun r_5 hw_6 => ?_)
  try dsimp only at hw_6
  refine lv_istore_n (lv' := [(3, .int (r_5)), (2, .int (r_1)), (0, .ref (ad 0)), (1, .int (c))]) hx hb (fk_get fk_cX12_asksOf_0 13 rfl) rfl hl (by decide) rfl (fun ls hl => ?_)
  refine lv_aload_n hx hb (fk_get fk_cX12_asksOf_0 14 rfl) rfl (lv_at hl 2 rfl) ?_
  refine lv_iload_n hx hb (fk_get fk_cX12_asksOf_0 15 rfl) rfl (lv_at hl 3 rfl) ?_
  refine lv_iconst (v := 0) hx hb (fk_get fk_cX12_asksOf_0 16 rfl) (by decide) ?_
  refine vp_callSi (W.runV (As := [.int (c), .int (0)]) (rest := []) ⟨hx, hb, hml, hown, hT⟩ (c_of0 l G ad S s.heap.size (c) (0) (((12 * j) + 0)) (n_add (n_mul (rfl) (ej)) (rfl)) (by omega)) (tV 2 hT m6_119 m6_121 mp_34 m1_17 m6_122 rfl rfl (by decide +kernel) ⟨Nat.le_of_ble_eq_true rfl, Nat.le_of_ble_eq_true rfl⟩) ⟨PcW_blind, va_recv hK hP (ci := 14) (q0 := 0) rfl (ix_at (by decide) (cR_0 G ad S)), PcW_of hP hK hD _⟩ rfl rfl hl.1 rfl (lv_room (Nat.le_of_ble_eq_true rfl)) (fk_get fk_cX12_asksOf_0 17 rfl) ⟨Nat.zero_le _, Nat.zero_le _⟩) (fun r_7 hw_8 => ?_)
  try dsimp only at hw_8
  have e0_ := hw_8
  by_cases c_9 : r_7 = (1 : Int32)
  · refine lv_tableIn (off := 38) (tgt := 64) hx hb (dk_get dk_cX12_asksOf_0 0 rfl) (by rw [c_9]; decide) (by rw [c_9]; decide) (by rw [c_9]; rfl) (by decide) ?_
    refine lv_iload_n hx hb (fk_get fk_cX12_asksOf_0 18 rfl) rfl (lv_at hl 0 rfl) ?_
    subst hQ
    have hpost : True := by
      trivial
    exact W.iret (v := r_5) hx hb hr (fun t_ ht_ hW_ => ⟨r_5, rfl, hpost, ht_⟩) (fun q h => by cases h) (fk_get fk_cX12_asksOf_0 19 rfl)
  by_cases c_10 : r_7 = (2 : Int32)
  · refine lv_tableIn (off := 79) (tgt := 105) hx hb (dk_get dk_cX12_asksOf_0 0 rfl) (by rw [c_10]; decide) (by rw [c_10]; decide) (by rw [c_10]; rfl) (by decide) ?_
    refine lv_iload_n hx hb (fk_get fk_cX12_asksOf_1 18 rfl) rfl (lv_at hl 1 rfl) ?_
    subst hQ
    have hpost : True := by
      trivial
    exact W.iret (v := r_1) hx hb hr (fun t_ ht_ hW_ => ⟨r_1, rfl, hpost, ht_⟩) (fun q h => by cases h) (fk_get fk_cX12_asksOf_1 19 rfl)
  by_cases c_11 : r_7 = (3 : Int32)
  · refine lv_tableIn (off := 40) (tgt := 66) hx hb (dk_get dk_cX12_asksOf_0 0 rfl) (by rw [c_11]; decide) (by rw [c_11]; decide) (by rw [c_11]; rfl) (by decide) ?_
    refine lv_iload_n hx hb (fk_get fk_cX12_asksOf_0 20 rfl) rfl (lv_at hl 1 rfl) ?_
    refine lv_iconst (v := 2) hx hb (fk_get fk_cX12_asksOf_0 21 rfl) (by decide) ?_
    refine lv_idiv hx hb (fk_get fk_cX12_asksOf_0 22 rfl) (by decide) ?_
    subst hQ
    have hpost : True := by
      trivial
    exact W.iret (v := (r_1 / 2)) hx hb hr (fun t_ ht_ hW_ => ⟨(r_1 / 2), rfl, hpost, ht_⟩) (fun q h => by cases h) (fk_get fk_cX12_asksOf_0 23 rfl)
  by_cases c_12 : r_7 = (4 : Int32)
  · refine lv_tableIn (off := 44) (tgt := 70) hx hb (dk_get dk_cX12_asksOf_0 0 rfl) (by rw [c_12]; decide) (by rw [c_12]; decide) (by rw [c_12]; rfl) (by decide) ?_
    refine lv_iload_n hx hb (fk_get fk_cX12_asksOf_0 24 rfl) rfl (lv_at hl 0 rfl) ?_
    refine lv_iconst (v := 2) hx hb (fk_get fk_cX12_asksOf_0 25 rfl) (by decide) ?_
    refine lv_isub hx hb (fk_get fk_cX12_asksOf_0 26 rfl) ?_
    refine lv_iconst (v := 1) hx hb (fk_get fk_cX12_asksOf_0 27 rfl) (by decide) ?_
    refine vp_callSi (W.runS (As := [.int ((r_5 - 2)), .int (1)]) (rest := []) ⟨hx, hb, hml, hown, hT⟩ (c_atLeast l ((r_5 - 2)) (1) ) (tS 2 hT m6_147 m6_148 m1_17 m6_149 rfl rfl (by decide +kernel) ⟨Nat.le_of_ble_eq_true rfl, Nat.le_of_ble_eq_true rfl⟩) ⟨PcN_blind, PcN_of _ _ _⟩ rfl rfl hl.1 rfl (lv_room (Nat.le_of_ble_eq_true rfl)) (fk_get fk_cX12_asksOf_0 28 rfl) ⟨Nat.zero_le _, Nat.zero_le _⟩) (fun r_13 hw_14 => ?_)
    try dsimp only at hw_14
    subst hQ
    have hpost : True := by
      trivial
    exact W.iret (v := r_13) hx hb hr (fun t_ ht_ hW_ => ⟨r_13, rfl, hpost, ht_⟩) (fun q h => by cases h) (fk_get fk_cX12_asksOf_0 29 rfl)
  by_cases c_15 : r_7 = (5 : Int32)
  · refine lv_tableIn (off := 79) (tgt := 105) hx hb (dk_get dk_cX12_asksOf_0 0 rfl) (by rw [c_15]; decide) (by rw [c_15]; decide) (by rw [c_15]; rfl) (by decide) ?_
    refine lv_iload_n hx hb (fk_get fk_cX12_asksOf_1 18 rfl) rfl (lv_at hl 1 rfl) ?_
    subst hQ
    have hpost : True := by
      trivial
    exact W.iret (v := r_1) hx hb hr (fun t_ ht_ hW_ => ⟨r_1, rfl, hpost, ht_⟩) (fun q h => by cases h) (fk_get fk_cX12_asksOf_1 19 rfl)
  by_cases c_16 : r_7 = (6 : Int32)
  · refine lv_tableIn (off := 52) (tgt := 78) hx hb (dk_get dk_cX12_asksOf_0 0 rfl) (by rw [c_16]; decide) (by rw [c_16]; decide) (by rw [c_16]; rfl) (by decide) ?_
    refine lv_iload_n hx hb (fk_get fk_cX12_asksOf_0 30 rfl) rfl (lv_at hl 1 rfl) ?_
    refine lv_iconst (v := 2) hx hb (fk_get fk_cX12_asksOf_0 31 rfl) (by decide) ?_
    refine lv_idiv hx hb (fk_get fk_cX12_asksOf_1 0 rfl) (by decide) ?_
    refine lv_aload_n hx hb (fk_get fk_cX12_asksOf_1 1 rfl) rfl (lv_at hl 2 rfl) ?_
    refine va_get (D := G.1) (ci := 14) (v := .ref (ad 1)) (C := RX12) (T := TX12) (N := 49) hx hb hT inX12 hown hK hP 0 (ix_at (by decide) (cR_0 G ad S)) rfl 0 (by decide) (hT _ m5_101) (fun _ h9 => h9) rfl (fk_get fk_cX12_asksOf_1 2 rfl) ?_
    refine lv_bipush (v := 12) hx hb (fk_get fk_cX12_asksOf_1 3 rfl) (by decide) ?_
    refine lv_iload_n hx hb (fk_get fk_cX12_asksOf_1 4 rfl) rfl (lv_at hl 3 rfl) ?_
    refine lv_imul hx hb (fk_get fk_cX12_asksOf_1 5 rfl) ?_
    refine lv_bipush (v := 8) hx hb (fk_get fk_cX12_asksOf_1 6 rfl) (by decide) ?_
    refine lv_iadd hx hb (fk_get fk_cX12_asksOf_1 7 rfl) ?_
    refine lv_aload_n hx hb (fk_get fk_cX12_asksOf_1 8 rfl) rfl (lv_at hl 2 rfl) ?_
    refine lv_iload_n hx hb (fk_get fk_cX12_asksOf_1 9 rfl) rfl (lv_at hl 3 rfl) ?_
    refine lv_bipush (v := 6) hx hb (fk_get fk_cX12_asksOf_1 10 rfl) (by decide) ?_
    refine vp_callSi (W.runV (As := [.int (c), .int (6)]) (rest := [.int (((12 * c) + 8)), .ref (ad 1), .int ((r_1 / 2))]) ⟨hx, hb, hml, hown, hT⟩ (c_of0 l G ad S s.heap.size (c) (6) (((12 * j) + 6)) (n_add (n_mul (rfl) (ej)) (rfl)) (by omega)) (tV 2 hT m6_119 m6_121 mp_34 m1_17 m6_122 rfl rfl (by decide +kernel) ⟨Nat.le_of_ble_eq_true rfl, Nat.le_of_ble_eq_true rfl⟩) ⟨PcW_blind, va_recv hK hP (ci := 14) (q0 := 0) rfl (ix_at (by decide) (cR_0 G ad S)), PcW_of hP hK hD _⟩ rfl rfl hl.1 rfl (lv_room (Nat.le_of_ble_eq_true rfl)) (fk_get fk_cX12_asksOf_1 11 rfl) ⟨Nat.zero_le _, Nat.zero_le _⟩) (fun r_17 hw_18 => ?_)
    try dsimp only at hw_18
    rw [hx6] at hw_18
    subst hw_18
    refine lv_iconst (v := 4) hx hb (fk_get fk_cX12_asksOf_1 12 rfl) (by decide) ?_
    refine lv_irem hx hb (fk_get fk_cX12_asksOf_1 13 rfl) (by decide) ?_
    rw [show ((nI x) - (nI x) / 4 * 4) = (nI (x % 4)) from (pk_rem (a := x) (d := 4) (by omega) (by omega) (by omega))]
    refine lv_iadd hx hb (fk_get fk_cX12_asksOf_1 14 rfl) ?_
    refine r_iald (f := fA S 1) hx hb hK hP 1 0 (ix_at (by decide) (cR_s G ad S)) rfl ((((12 * j) + 8) + (x % 4))) (n_add (n_add (n_mul (rfl) (ej)) (rfl)) (rfl)) (by omega) (by decide) (fk_get fk_cX12_asksOf_1 15 rfl) ?_
    refine lv_iadd hx hb (fk_get fk_cX12_asksOf_1 16 rfl) ?_
    subst hQ
    have hpost : True := by
      trivial
    exact W.iret (v := ((r_1 / 2) + (fA S 1 ((((12 * j) + 8) + (x % 4)))))) hx hb hr (fun t_ ht_ hW_ => ⟨((r_1 / 2) + (fA S 1 ((((12 * j) + 8) + (x % 4))))), rfl, hpost, ht_⟩) (fun q h => by cases h) (fk_get fk_cX12_asksOf_1 17 rfl)
  have o_19 : (r_7).toInt < 1 ∨ 6 < (r_7).toInt := by
    have qc_9 : ¬ (r_7).toInt = 1 := lv_neT c_9 (by decide)
    have qc_10 : ¬ (r_7).toInt = 2 := lv_neT c_10 (by decide)
    have qc_11 : ¬ (r_7).toInt = 3 := lv_neT c_11 (by decide)
    have qc_12 : ¬ (r_7).toInt = 4 := lv_neT c_12 (by decide)
    have qc_15 : ¬ (r_7).toInt = 5 := lv_neT c_15 (by decide)
    have qc_16 : ¬ (r_7).toInt = 6 := lv_neT c_16 (by decide)
    omega
  refine lv_tableOut (tgt := 105) hx hb (dk_get dk_cX12_asksOf_0 0 rfl) o_19 (by decide) ?_
  refine lv_iload_n hx hb (fk_get fk_cX12_asksOf_1 18 rfl) rfl (lv_at hl 1 rfl) ?_
  subst hQ
  have hpost : True := by
    trivial
  exact W.iret (v := r_1) hx hb hr (fun t_ ht_ hW_ => ⟨r_1, rfl, hpost, ht_⟩) (fun q h => by cases h) (fk_get fk_cX12_asksOf_1 19 rfl)
set_option maxHeartbeats 800000 in
set_option maxRecDepth 100000 in
theorem c_letsOf (l : Launch) (G : GG) (ad : Nat → Nat) (S : FS) (sz : Nat) (c : Int32) (j : Nat) (ej : c = nI j) (hj : j < 6) : Met l yX12_letsOf (Cond.code yX12_letsOf cX12_letsOf 3 (some .int) :: TBL) ({ frames := 3, cells := 0, slots := 0, locals := 90 } : Room) (PcW G (wR G ad S) sz [.ref (ad 0), .int (c)]) (vp_Si (fun (r : Int32) => True)) 0 0 (fun _ => False) := by
  refine Met.ofW (cc := cX12_letsOf) (maxL := 3) (ret := (some .int)) (by decide) rfl ?_
  intro p e s m args below meth c₀ s₁ B hml hv
  obtain ⟨rfl, hsz, hP, hK, hD0⟩ := hv
  have hx := B.exec
  have hb := B.bytes
  have hr := B.returns
  have hT : ∀ w ∈ TBL, w.before ([.ref (ad 0), .int (c)] : List Value).toArray s = true := fun w h => atoms_spec (ws := Cond.code yX12_letsOf cX12_letsOf 3 (some .int) :: TBL) B.pre w (List.mem_cons_of_mem _ h)
  have hown : s.vm.findClass "LittleMoreModel" = some m.cls := findClass_of_methodNamed B.named
  have hlocks := B.notSynchronized
  have hD := hD0
  have hP : va_P G.1 vwCl (wR G ad S) s.heap := hP
  have hl := lv_entry ([.ref (ad 0), .int (c)]) (n := 3) (Nat.le_of_ble_eq_true rfl)
  rw [lg_entry_eq]
  generalize (lg_sl ([.ref (ad 0), .int (c)]) ++ List.replicate (3 - (lg_sl ([.ref (ad 0), .int (c)])).length) Slot.unset).toArray = ls at hl ⊢
  have hl : lv_has ls 3 [(0, .ref (ad 0)), (1, .int (c))] := hl
  refine W_abs (fun Q hQ => ?_)
  generalize ([.ref (ad 0), .int (c)] : List Value).toArray = args at hT hQ ⊢
  refine lv_aload_n hx hb (fk_get fk_cX12_letsOf_0 0 rfl) rfl (lv_at hl 0 rfl) ?_
  refine lv_iload_n hx hb (fk_get fk_cX12_letsOf_0 1 rfl) rfl (lv_at hl 1 rfl) ?_
  refine lv_iconst (v := 1) hx hb (fk_get fk_cX12_letsOf_0 2 rfl) (by decide) ?_
  refine vp_callSi (W.runV (As := [.int (c), .int (1)]) (rest := []) ⟨hx, hb, hml, hown, hT⟩ (c_of0 l G ad S s.heap.size (c) (1) (((12 * j) + 1)) (n_add (n_mul (rfl) (ej)) (rfl)) (by omega)) (tV 2 hT m6_119 m6_121 mp_34 m1_17 m6_122 rfl rfl (by decide +kernel) ⟨Nat.le_of_ble_eq_true rfl, Nat.le_of_ble_eq_true rfl⟩) ⟨PcW_blind, va_recv hK hP (ci := 14) (q0 := 0) rfl (ix_at (by decide) (cR_0 G ad S)), PcW_of hP hK hD _⟩ rfl rfl hl.1 rfl (lv_room (Nat.le_of_ble_eq_true rfl)) (fk_get fk_cX12_letsOf_0 3 rfl) ⟨Nat.zero_le _, Nat.zero_le _⟩) (fun r_1 hw_2 => ?_)
  try dsimp only at hw_2
  refine lv_istore_n (lv' := [(2, .int (r_1)), (0, .ref (ad 0)), (1, .int (c))]) hx hb (fk_get fk_cX12_letsOf_0 4 rfl) rfl hl (by decide) rfl (fun ls hl => ?_)
  refine lv_aload_n hx hb (fk_get fk_cX12_letsOf_0 5 rfl) rfl (lv_at hl 1 rfl) ?_
  refine lv_iload_n hx hb (fk_get fk_cX12_letsOf_0 6 rfl) rfl (lv_at hl 2 rfl) ?_
  refine lv_iconst (v := 0) hx hb (fk_get fk_cX12_letsOf_0 7 rfl) (by decide) ?_
  refine vp_callSi (W.runV (As := [.int (c), .int (0)]) (rest := []) ⟨hx, hb, hml, hown, hT⟩ (c_of0 l G ad S s.heap.size (c) (0) (((12 * j) + 0)) (n_add (n_mul (rfl) (ej)) (rfl)) (by omega)) (tV 2 hT m6_119 m6_121 mp_34 m1_17 m6_122 rfl rfl (by decide +kernel) ⟨Nat.le_of_ble_eq_true rfl, Nat.le_of_ble_eq_true rfl⟩) ⟨PcW_blind, va_recv hK hP (ci := 14) (q0 := 0) rfl (ix_at (by decide) (cR_0 G ad S)), PcW_of hP hK hD _⟩ rfl rfl hl.1 rfl (lv_room (Nat.le_of_ble_eq_true rfl)) (fk_get fk_cX12_letsOf_0 8 rfl) ⟨Nat.zero_le _, Nat.zero_le _⟩) (fun r_3 hw_4 => ?_)
  try dsimp only at hw_4
  by_cases c_5 : r_3 = (0 : Int32)
  · refine lv_tableIn (off := 39) (tgt := 52) hx hb (dk_get dk_cX12_letsOf_0 0 rfl) (by rw [c_5]; decide) (by rw [c_5]; decide) (by rw [c_5]; rfl) (by decide) ?_
    refine lv_iload_n hx hb (fk_get fk_cX12_letsOf_0 9 rfl) rfl (lv_at hl 0 rfl) ?_
    subst hQ
    have hpost : True := by
      trivial
    exact W.iret (v := r_1) hx hb hr (fun t_ ht_ hW_ => ⟨r_1, rfl, hpost, ht_⟩) (fun q h => by cases h) (fk_get fk_cX12_letsOf_0 10 rfl)
  by_cases c_6 : r_3 = (1 : Int32)
  · refine lv_tableIn (off := 41) (tgt := 54) hx hb (dk_get dk_cX12_letsOf_0 0 rfl) (by rw [c_6]; decide) (by rw [c_6]; decide) (by rw [c_6]; rfl) (by decide) ?_
    refine lv_iload_n hx hb (fk_get fk_cX12_letsOf_0 11 rfl) rfl (lv_at hl 0 rfl) ?_
    refine lv_iconst (v := 2) hx hb (fk_get fk_cX12_letsOf_0 12 rfl) (by decide) ?_
    refine lv_idiv hx hb (fk_get fk_cX12_letsOf_0 13 rfl) (by decide) ?_
    subst hQ
    have hpost : True := by
      trivial
    exact W.iret (v := (r_1 / 2)) hx hb hr (fun t_ ht_ hW_ => ⟨(r_1 / 2), rfl, hpost, ht_⟩) (fun q h => by cases h) (fk_get fk_cX12_letsOf_0 14 rfl)
  by_cases c_7 : r_3 = (2 : Int32)
  · refine lv_tableIn (off := 60) (tgt := 73) hx hb (dk_get dk_cX12_letsOf_0 0 rfl) (by rw [c_7]; decide) (by rw [c_7]; decide) (by rw [c_7]; rfl) (by decide) ?_
    refine lv_iconst (v := 2) hx hb (fk_get fk_cX12_letsOf_0 26 rfl) (by decide) ?_
    refine lv_iload_n hx hb (fk_get fk_cX12_letsOf_0 27 rfl) rfl (lv_at hl 0 rfl) ?_
    refine lv_imul hx hb (fk_get fk_cX12_letsOf_0 28 rfl) ?_
    subst hQ
    have hpost : True := by
      trivial
    exact W.iret (v := (2 * r_1)) hx hb hr (fun t_ ht_ hW_ => ⟨(2 * r_1), rfl, hpost, ht_⟩) (fun q h => by cases h) (fk_get fk_cX12_letsOf_0 29 rfl)
  by_cases c_8 : r_3 = (3 : Int32)
  · refine lv_tableIn (off := 64) (tgt := 77) hx hb (dk_get dk_cX12_letsOf_0 0 rfl) (by rw [c_8]; decide) (by rw [c_8]; decide) (by rw [c_8]; rfl) (by decide) ?_
    refine lv_bipush (v := 99) hx hb (fk_get fk_cX12_letsOf_0 30 rfl) (by decide) ?_
    subst hQ
    have hpost : True := by
      trivial
    exact W.iret (v := 99) hx hb hr (fun t_ ht_ hW_ => ⟨99, rfl, hpost, ht_⟩) (fun q h => by cases h) (fk_get fk_cX12_letsOf_0 31 rfl)
  by_cases c_9 : r_3 = (4 : Int32)
  · refine lv_tableIn (off := 45) (tgt := 58) hx hb (dk_get dk_cX12_letsOf_0 0 rfl) (by rw [c_9]; decide) (by rw [c_9]; decide) (by rw [c_9]; rfl) (by decide) ?_
    refine lv_iload_n hx hb (fk_get fk_cX12_letsOf_0 15 rfl) rfl (lv_at hl 0 rfl) ?_
    refine lv_iconst (v := 2) hx hb (fk_get fk_cX12_letsOf_0 16 rfl) (by decide) ?_
    refine lv_idiv hx hb (fk_get fk_cX12_letsOf_0 17 rfl) (by decide) ?_
    refine lv_aload_n hx hb (fk_get fk_cX12_letsOf_0 18 rfl) rfl (lv_at hl 1 rfl) ?_
    refine lv_iload_n hx hb (fk_get fk_cX12_letsOf_0 19 rfl) rfl (lv_at hl 2 rfl) ?_
    refine lv_iconst (v := 4) hx hb (fk_get fk_cX12_letsOf_0 20 rfl) (by decide) ?_
    refine vp_callSi (W.runV (As := [.int (c), .int (4)]) (rest := [.int ((r_1 / 2))]) ⟨hx, hb, hml, hown, hT⟩ (c_of0 l G ad S s.heap.size (c) (4) (((12 * j) + 4)) (n_add (n_mul (rfl) (ej)) (rfl)) (by omega)) (tV 2 hT m6_119 m6_121 mp_34 m1_17 m6_122 rfl rfl (by decide +kernel) ⟨Nat.le_of_ble_eq_true rfl, Nat.le_of_ble_eq_true rfl⟩) ⟨PcW_blind, va_recv hK hP (ci := 14) (q0 := 0) rfl (ix_at (by decide) (cR_0 G ad S)), PcW_of hP hK hD _⟩ rfl rfl hl.1 rfl (lv_room (Nat.le_of_ble_eq_true rfl)) (fk_get fk_cX12_letsOf_0 21 rfl) ⟨Nat.zero_le _, Nat.zero_le _⟩) (fun r_10 hw_11 => ?_)
    try dsimp only at hw_11
    refine lv_isub hx hb (fk_get fk_cX12_letsOf_0 22 rfl) ?_
    refine lv_iconst (v := 0) hx hb (fk_get fk_cX12_letsOf_0 23 rfl) (by decide) ?_
    refine vp_callSi (W.runS (As := [.int (((r_1 / 2) - r_10)), .int (0)]) (rest := []) ⟨hx, hb, hml, hown, hT⟩ (c_atLeast l (((r_1 / 2) - r_10)) (0) ) (tS 2 hT m6_147 m6_148 m1_17 m6_149 rfl rfl (by decide +kernel) ⟨Nat.le_of_ble_eq_true rfl, Nat.le_of_ble_eq_true rfl⟩) ⟨PcN_blind, PcN_of _ _ _⟩ rfl rfl hl.1 rfl (lv_room (Nat.le_of_ble_eq_true rfl)) (fk_get fk_cX12_letsOf_0 24 rfl) ⟨Nat.zero_le _, Nat.zero_le _⟩) (fun r_12 hw_13 => ?_)
    try dsimp only at hw_13
    subst hQ
    have hpost : True := by
      trivial
    exact W.iret (v := r_12) hx hb hr (fun t_ ht_ hW_ => ⟨r_12, rfl, hpost, ht_⟩) (fun q h => by cases h) (fk_get fk_cX12_letsOf_0 25 rfl)
  by_cases c_14 : r_3 = (5 : Int32)
  · refine lv_tableIn (off := 60) (tgt := 73) hx hb (dk_get dk_cX12_letsOf_0 0 rfl) (by rw [c_14]; decide) (by rw [c_14]; decide) (by rw [c_14]; rfl) (by decide) ?_
    refine lv_iconst (v := 2) hx hb (fk_get fk_cX12_letsOf_0 26 rfl) (by decide) ?_
    refine lv_iload_n hx hb (fk_get fk_cX12_letsOf_0 27 rfl) rfl (lv_at hl 0 rfl) ?_
    refine lv_imul hx hb (fk_get fk_cX12_letsOf_0 28 rfl) ?_
    subst hQ
    have hpost : True := by
      trivial
    exact W.iret (v := (2 * r_1)) hx hb hr (fun t_ ht_ hW_ => ⟨(2 * r_1), rfl, hpost, ht_⟩) (fun q h => by cases h) (fk_get fk_cX12_letsOf_0 29 rfl)
  have o_15 : (r_3).toInt < 0 ∨ 5 < (r_3).toInt := by
    have qc_5 : ¬ (r_3).toInt = 0 := lv_neT c_5 (by decide)
    have qc_6 : ¬ (r_3).toInt = 1 := lv_neT c_6 (by decide)
    have qc_7 : ¬ (r_3).toInt = 2 := lv_neT c_7 (by decide)
    have qc_8 : ¬ (r_3).toInt = 3 := lv_neT c_8 (by decide)
    have qc_9 : ¬ (r_3).toInt = 4 := lv_neT c_9 (by decide)
    have qc_14 : ¬ (r_3).toInt = 5 := lv_neT c_14 (by decide)
    omega
  refine lv_tableOut (tgt := 77) hx hb (dk_get dk_cX12_letsOf_0 0 rfl) o_15 (by decide) ?_
  refine lv_bipush (v := 99) hx hb (fk_get fk_cX12_letsOf_0 30 rfl) (by decide) ?_
  subst hQ
  have hpost : True := by
    trivial
  exact W.iret (v := 99) hx hb hr (fun t_ ht_ hW_ => ⟨99, rfl, hpost, ht_⟩) (fun q h => by cases h) (fk_get fk_cX12_letsOf_0 31 rfl)
set_option maxHeartbeats 800000 in
set_option maxRecDepth 100000 in
theorem c_saysNo (l : Launch) (G : GG) (ad : Nat → Nat) (S : FS) (sz : Nat) (c : Int32) (j : Nat) (hHOK : HOK S) (ej : c = nI j) (hj : j < 6) : Met l yX12_saysNo (Cond.code yX12_saysNo cX12_saysNo 2 (some .boolean) :: TBL) ({ frames := 6, cells := 0, slots := 0, locals := 176 } : Room) (PcW G (wR G ad S) sz [.ref (ad 0), .int (c)]) (va_Qi (fun (r : Int32) (S' : FS) => HFr S S' ∧ (r = 0 ∨ r = 1)) (fun S' t => BW G (va_A (wR G ad S) sz) (wR G ad S') t) (va_A (wR G ad S) sz)) 0 0 (va_A (wR G ad S) sz) := by
  refine Met.ofW (cc := cX12_saysNo) (maxL := 2) (ret := (some .boolean)) (by decide) rfl ?_
  intro p e s m args below meth c₀ s₁ B hml hv
  obtain ⟨rfl, hsz, hP, hK, hD0⟩ := hv
  have hx := B.exec
  have hb := B.bytes
  have hr := B.returns
  have hT : ∀ w ∈ TBL, w.before ([.ref (ad 0), .int (c)] : List Value).toArray s = true := fun w h => atoms_spec (ws := Cond.code yX12_saysNo cX12_saysNo 2 (some .boolean) :: TBL) B.pre w (List.mem_cons_of_mem _ h)
  have hown : s.vm.findClass "LittleMoreModel" = some m.cls := findClass_of_methodNamed B.named
  have hlocks := B.notSynchronized
  subst hsz
  have hD := hD0.self (sz := s.heap.size)
  generalize hAe : va_A (wR G ad S) s.heap.size = A at hD ⊢
  have hA : ∀ q : Nat, s.heap.size ≤ q → A q := fun q h => by rw [← hAe]; exact Or.inr h
  have hS : va_S A s.heap s.heap [] := va_S.rf
  have hP : va_P G.1 vwCl (wR G ad S) s.heap := hP
  have hl := lv_entry ([.ref (ad 0), .int (c)]) (n := 2) (Nat.le_of_ble_eq_true rfl)
  rw [lg_entry_eq]
  generalize (lg_sl ([.ref (ad 0), .int (c)]) ++ List.replicate (2 - (lg_sl ([.ref (ad 0), .int (c)])).length) Slot.unset).toArray = ls at hl ⊢
  have hl : lv_has ls 2 [(0, .ref (ad 0)), (1, .int (c))] := hl
  refine W_abs (fun Q hQ => ?_)
  generalize ([.ref (ad 0), .int (c)] : List Value).toArray = args at hT hQ ⊢
  refine lv_aload_n hx hb (fk_get fk_cX12_saysNo_0 0 rfl) rfl (lv_at hl 0 rfl) ?_
  refine lv_iload_n hx hb (fk_get fk_cX12_saysNo_0 1 rfl) rfl (lv_at hl 1 rfl) ?_
  have hFc := va_self hD hS hA
  refine va_calli (va_runV (As := [.int (c)]) (rest := []) ⟨hx, hb, hml, hown, hT⟩ (c_moreOf l G ad S s.heap.size (c) (j) (hHOK) (ej) (hj)) (tV 1 hT m6_115 m6_117 mp_33 m1_17 m6_118 rfl rfl (by decide +kernel) ⟨Nat.le_of_ble_eq_true rfl, Nat.le_of_ble_eq_true rfl⟩) ⟨PcW_blind, va_recv hK hP (ci := 14) (q0 := 0) rfl (ix_at (by decide) (cR_0 G ad S)), PcW_of hP hK hD _⟩ rfl rfl hl.1 rfl (lv_room (Nat.le_of_ble_eq_true rfl)) (fk_get fk_cX12_saysNo_0 2 rfl) ⟨Nat.zero_le _, Nat.zero_le _⟩) hS (fun q _ h => hFc q h) hFc (fun r_1 S_3 t_ H locs ht_ hvm_ hw_2 hB_ hz_ hk_ hS => ?_)
  obtain ⟨hP, -, hD1_⟩ := hB_
  rw [ht_] at hP
  have hD : va_D A (wR G ad S_3) := hD1_.weaken (fun k q _ h => hFc q.1 h)
  try dsimp only at hw_2
  have hH := hw_2
  refine lv_aload_n hx hb (fk_get fk_cX12_saysNo_0 3 rfl) rfl (lv_at hl 0 rfl) ?_
  refine lv_iload_n hx hb (fk_get fk_cX12_saysNo_0 4 rfl) rfl (lv_at hl 1 rfl) ?_
  refine vp_callSi (W.runV (As := [.int (c)]) (rest := [.int (r_1)]) ⟨hx, hb, hml, hown, hT⟩ (c_letsOf l G ad S_3 H.size (c) (j) (ej) (hj)) (tV 1 hT m6_150 m6_152 mp_41 m1_17 m6_153 rfl rfl (by decide +kernel) ⟨Nat.le_of_ble_eq_true rfl, Nat.le_of_ble_eq_true rfl⟩) ⟨PcW_blind, va_recv hK hP (ci := 14) (q0 := 0) rfl (ix_at (by decide) (cR_0 G ad S_3)), PcW_of hP hK hD _⟩ rfl rfl hl.1 rfl (lv_room (Nat.le_of_ble_eq_true rfl)) (fk_get fk_cX12_saysNo_0 5 rfl) ⟨Nat.zero_le _, Nat.zero_le _⟩) (fun r_4 hw_5 => ?_)
  try dsimp only at hw_5
  refine lv_icmp_le (tgt := 17) hx hb (fk_get fk_cX12_saysNo_0 6 rfl) (by decide) (fun c_6 => ?_) (fun c_6 => ?_)
  · refine lv_iconst (v := 0) hx hb (fk_get fk_cX12_saysNo_0 9 rfl) (by decide) ?_
    subst hQ
    have hpost : HFr S S_3 ∧ ((0 : Int32) = 0 ∨ (0 : Int32) = 1) := by
      exact ⟨hH, by first | exact Or.inl rfl | exact Or.inr rfl⟩
    exact W.zret (v := 0) hx hb hr rfl (fun t_ ht_ hW_ => ⟨⟨0, S_3, rfl, hpost, by rw [ht_]; exact hP, va_K.moved hW_.alike hK, hD⟩, hS.F ht_⟩) hS.2.2 (fk_get fk_cX12_saysNo_0 10 rfl)
  refine lv_iconst (v := 1) hx hb (fk_get fk_cX12_saysNo_0 7 rfl) (by decide) ?_
  refine lv_goto (tgt := 18) hx hb (fk_get fk_cX12_saysNo_0 8 rfl) (by decide) ?_
  subst hQ
  have hpost : HFr S S_3 ∧ ((1 : Int32) = 0 ∨ (1 : Int32) = 1) := by
    exact ⟨hH, by first | exact Or.inl rfl | exact Or.inr rfl⟩
  exact W.zret (v := 1) hx hb hr rfl (fun t_ ht_ hW_ => ⟨⟨1, S_3, rfl, hpost, by rw [ht_]; exact hP, va_K.moved hW_.alike hK, hD⟩, hS.F ht_⟩) hS.2.2 (fk_get fk_cX12_saysNo_0 10 rfl)
