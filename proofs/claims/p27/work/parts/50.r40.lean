set_option maxHeartbeats 800000 in
set_option maxRecDepth 100000 in
theorem c_jsize (l : Launch) (G : GG) (ad : Nat → Nat) (S : FS) (sz : Nat)  (hX : XI S) : Met l yJx4a65c_size_8abf5 (Cond.code yJx4a65c_size_8abf5 cJx4a65c_size_8abf5 1 (some .int) :: TBL) ({ frames := 2, cells := 0, slots := 0, locals := 64 } : Room) (PcW G (wX G ad S) sz [.ref (ad 61)]) (vp_Si (fun (r : Int32) => r = fF S 61 2)) 0 0 (fun _ => False) := by
  refine va_MetF (cc := cJx4a65c_size_8abf5) (maxL := 1) (ret := (some .int)) (by decide +kernel) rfl ?_
  intro p e s m args below meth c₀ s₁ B hml hv
  obtain ⟨rfl, hsz, hP, hK, hD0⟩ := hv
  have hx := B.exec
  have hb := B.bytes
  have hr := B.returns
  have hT : ∀ w ∈ TBL, w.before ([.ref (ad 61)] : List Value).toArray s = true := fun w h => atoms_spec (ws := Cond.code yJx4a65c_size_8abf5 cJx4a65c_size_8abf5 1 (some .int) :: TBL) B.pre w (List.mem_cons_of_mem _ h)
  have hown : s.vm.findClass "java/util/ArrayList" = some m.cls := findClass_of_methodNamed B.named
  have hlocks := B.notSynchronized
  have hD := hD0
  have hP : va_P G.1 vwCl (wX G ad S) s.heap := hP
  have hl := lv_entry ([.ref (ad 61)]) (n := 1) (Nat.le_of_ble_eq_true rfl)
  rw [lg_entry_eq]
  generalize (lg_sl ([.ref (ad 61)]) ++ List.replicate (1 - (lg_sl ([.ref (ad 61)])).length) Slot.unset).toArray = ls at hl ⊢
  have hl : lv_has ls 1 [(0, .ref (ad 61))] := hl
  refine W_abs (fun Q hQ => ?_)
  generalize ([.ref (ad 61)] : List Value).toArray = args at hT hQ ⊢
  refine lv_aload_n hx hb (fk_get fk_cJx4a65c_size_8abf5_0 0 rfl) rfl (lv_at hl 0 rfl) ?_
  refine va_get (D := G.1) (ci := 1) (v := .int (fF S 61 2)) (C := RJx4a65c) (T := TJx4a65c) (N := 3) hx hb hT inJx4a65c hown hK hP 61 (ix_at (lt71 (by omega)) (cX_lst G ad S)) rfl 2 (by decide) (hT _ m2_53) (fun _ h9 => h9) rfl (fk_get fk_cJx4a65c_size_8abf5_0 1 rfl) ?_
  subst hQ
  have hpost : ((fF S 61 2) : Int32) = fF S 61 2 := by
    rfl
  exact W.iret (v := (fF S 61 2)) hx hb hr (fun t_ ht_ hW_ => ⟨(fF S 61 2), rfl, hpost, ht_⟩) (fun q h => by cases h) (fk_get fk_cJx4a65c_size_8abf5_0 2 rfl)
set_option maxHeartbeats 800000 in
set_option maxRecDepth 100000 in
theorem c_x11_shopToTry (l : Launch) (G : GG) (ad : Nat → Nat) (S : FS) (sz : Nat) (n : Nat) (hn : fF S (9 + 0) 3 = nI n) (hn6 : n ≤ 6) (hX : XI S) : Met l yX11_shopToTry (Cond.code yX11_shopToTry cX11_shopToTry 1 (some (.object "LittleMore$Shop")) :: TBL) ({ frames := 4, cells := 0, slots := 0, locals := 115 } : Room) (PcW G (wX G ad S) sz [.ref (ad 0)]) (va_Qr (fun (S' : FS) => XI S' ∧ Fr (fun j k => (j = 11 ∧ 3 ≤ k ∧ k ≤ 7) ∨ (33 ≤ j ∧ j < 39 ∧ 2 ≤ k ∧ k ≤ 9) ∨ (51 ≤ j ∧ j < 57 ∧ k = 99) ∨ ((j = 17 ∨ j = 20) ∧ k = 99)) S S' ∧ BE S 2 0 n S') (fun S' a t => a = ad (9 + 2) ∧ BW G (va_A (wX G ad S) sz) (wX G ad S') t) (va_A (wX G ad S) sz)) 0 0 (va_A (wX G ad S) sz) := by
  refine Met.ofW (cc := cX11_shopToTry) (maxL := 1) (ret := (some (.object "LittleMore$Shop"))) (by decide) rfl ?_
  intro p e s m args below meth c₀ s₁ B hml hv
  obtain ⟨rfl, hsz, hP, hK, hD0⟩ := hv
  have hx := B.exec
  have hb := B.bytes
  have hr := B.returns
  have hT : ∀ w ∈ TBL, w.before ([.ref (ad 0)] : List Value).toArray s = true := fun w h => atoms_spec (ws := Cond.code yX11_shopToTry cX11_shopToTry 1 (some (.object "LittleMore$Shop")) :: TBL) B.pre w (List.mem_cons_of_mem _ h)
  have hown : s.vm.findClass "LittleMore" = some m.cls := findClass_of_methodNamed B.named
  have hlocks := B.notSynchronized
  subst hsz
  have hD := hD0.self (sz := s.heap.size)
  generalize hAe : va_A (wX G ad S) s.heap.size = A at hD ⊢
  have hA : ∀ q : Nat, s.heap.size ≤ q → A q := fun q h => by rw [← hAe]; exact Or.inr h
  have hS : va_S A s.heap s.heap [] := va_S.rf
  have hP : va_P G.1 vwCl (wX G ad S) s.heap := hP
  have hl := lv_entry ([.ref (ad 0)]) (n := 1) (Nat.le_of_ble_eq_true rfl)
  rw [lg_entry_eq]
  generalize (lg_sl ([.ref (ad 0)]) ++ List.replicate (1 - (lg_sl ([.ref (ad 0)])).length) Slot.unset).toArray = ls at hl ⊢
  have hl : lv_has ls 1 [(0, .ref (ad 0))] := hl
  refine W_abs (fun Q hQ => ?_)
  generalize ([.ref (ad 0)] : List Value).toArray = args at hT hQ ⊢
  refine lv_aload_n hx hb (fk_get fk_cX11_shopToTry_0 0 rfl) rfl (lv_at hl 0 rfl) ?_
  refine va_get (D := G.1) (ci := 13) (v := .ref (ad (9 + 2))) (C := RX11) (T := TX11) (N := 11) hx hb hT inX11 hown hK hP 0 (ix_at (lt71 (by omega)) (cX_0 G ad S)) rfl 3 (by decide) (hT _ m2_72) (fun _ h9 => h9) rfl (fk_get fk_cX11_shopToTry_0 1 rfl) ?_
  refine lv_aload_n hx hb (fk_get fk_cX11_shopToTry_0 2 rfl) rfl (lv_at hl 0 rfl) ?_
  refine va_get (D := G.1) (ci := 13) (v := .ref (ad (9 + 0))) (C := RX11) (T := TX11) (N := 11) hx hb hT inX11 hown hK hP 0 (ix_at (lt71 (by omega)) (cX_0 G ad S)) rfl 1 (by decide) (hT _ m2_70) (fun _ h9 => h9) rfl (fk_get fk_cX11_shopToTry_0 3 rfl) ?_
  have hFc := va_self hD hS hA
  refine va_callv (va_runV (As := [.ref (ad (9 + 0))]) (rest := []) ⟨hx, hb, hml, hown, hT⟩ (c_x7_become l G ad S s.heap.size (2) (0) (n) ((by decide : 2 < 3)) ((by decide : 0 < 3)) (by first | assumption | omega) (hn) (hn6) (hX)) (tV 1 hT m3_215 m3_216 m3_217 m1_9 m3_218 rfl rfl (by decide +kernel) ⟨Nat.le_of_ble_eq_true rfl, Nat.le_of_ble_eq_true rfl⟩) ⟨PcW_blind, va_recv hK hP (ci := 9) (q0 := (9 + 2)) rfl (ix_at (lt71 (by omega)) (cX_shop (pk_shop (by decide : 2 < 3)))), PcW_of hP hK hD _⟩ rfl rfl hl.1 rfl (lv_room (Nat.le_of_ble_eq_true rfl)) (fk_get fk_cX11_shopToTry_0 4 rfl) ⟨Nat.zero_le _, Nat.zero_le _⟩) hS (fun q _ h => hFc q h) hFc (fun S_3 t_ H locs ht_ hvm_ hw_2 hB_ hz_ hk_ hS => ?_)
  obtain ⟨hP, -, hD1_⟩ := hB_
  rw [ht_] at hP
  have hD : va_D A (wX G ad S_3) := hD1_.weaken (fun k q _ h => hFc q.1 h)
  try dsimp only at hw_2
  obtain ⟨hX_4, hF_5_, hw_2⟩ := hw_2
  have hF_5 : Fr (fun j k => (j = 11 ∧ 3 ≤ k ∧ k ≤ 7) ∨ (33 ≤ j ∧ j < 39 ∧ 2 ≤ k ∧ k ≤ 9) ∨ (51 ≤ j ∧ j < 57 ∧ k = 99) ∨ ((j = 17 ∨ j = 20) ∧ k = 99)) S S_3 := Fr.trans (Fr.rf : Fr (fun j k => (j = 11 ∧ 3 ≤ k ∧ k ≤ 7) ∨ (33 ≤ j ∧ j < 39 ∧ 2 ≤ k ∧ k ≤ 9) ∨ (51 ≤ j ∧ j < 57 ∧ k = 99) ∨ ((j = 17 ∨ j = 20) ∧ k = 99)) S S) (Fr.mono hF_5_ (fun j k h => by omega))
  have hbe_ := hw_2
  refine lv_aload_n hx hb (fk_get fk_cX11_shopToTry_0 5 rfl) rfl (lv_at hl 0 rfl) ?_
  refine va_get (D := G.1) (ci := 13) (v := .ref (ad (9 + 2))) (C := RX11) (T := TX11) (N := 11) hx hb hT inX11 hown hK hP 0 (ix_at (lt71 (by omega)) (cX_0 G ad S_3)) rfl 3 (by decide) (hT _ m2_72) (fun _ h9 => h9) rfl (fk_get fk_cX11_shopToTry_0 6 rfl) ?_
  subst hQ
  exact W.aret hx hb hr (Or.inl ⟨_, rfl⟩) (Or.inr ⟨_, rfl⟩) (fun t_ ht_ hW_ => ⟨⟨S_3, _, rfl, by exact ⟨hX_4, hF_5, hbe_⟩, rfl, by rw [ht_]; exact hP, va_K.moved hW_.alike hK, hD⟩, hS.F ht_⟩) hS.2.2 (fk_get fk_cX11_shopToTry_0 7 rfl)
set_option maxHeartbeats 800000 in
set_option maxRecDepth 100000 in
theorem c_x11_looked (l : Launch) (G : GG) (ad : Nat → Nat) (S : FS) (sz : Nat) (n : Nat) (hn : fF S (9 + 0) 3 = nI n) (hn6 : n ≤ 6) (hX : XI S) : Met l yX11_looked (Cond.code yX11_looked cX11_looked 4 (some .int) :: TBL) ({ frames := 6, cells := 0, slots := 0, locals := 174 } : Room) (PcW G (wX G ad S) sz [.ref (ad 0)]) (va_Qi (fun (r : Int32) (S' : FS) => XI S' ∧ Fr (fun j k => (j = 11 ∧ 3 ≤ k ∧ k ≤ 7) ∨ (33 ≤ j ∧ j < 39 ∧ 2 ≤ k ∧ k ≤ 9) ∨ (51 ≤ j ∧ j < 57 ∧ k = 99) ∨ ((j = 17 ∨ j = 20) ∧ k = 99)) S S' ∧ True) (fun S' t => BW G (va_A (wX G ad S) sz) (wX G ad S') t) (va_A (wX G ad S) sz)) 0 0 (va_A (wX G ad S) sz) := by
  refine Met.ofW (cc := cX11_looked) (maxL := 4) (ret := (some .int)) (by decide) rfl ?_
  intro p e s m args below meth c₀ s₁ B hml hv
  obtain ⟨rfl, hsz, hP, hK, hD0⟩ := hv
  have hx := B.exec
  have hb := B.bytes
  have hr := B.returns
  have hT : ∀ w ∈ TBL, w.before ([.ref (ad 0)] : List Value).toArray s = true := fun w h => atoms_spec (ws := Cond.code yX11_looked cX11_looked 4 (some .int) :: TBL) B.pre w (List.mem_cons_of_mem _ h)
  have hown : s.vm.findClass "LittleMore" = some m.cls := findClass_of_methodNamed B.named
  have hlocks := B.notSynchronized
  subst hsz
  have hD := hD0.self (sz := s.heap.size)
  generalize hAe : va_A (wX G ad S) s.heap.size = A at hD ⊢
  have hA : ∀ q : Nat, s.heap.size ≤ q → A q := fun q h => by rw [← hAe]; exact Or.inr h
  have hS : va_S A s.heap s.heap [] := va_S.rf
  have hP : va_P G.1 vwCl (wX G ad S) s.heap := hP
  have hl := lv_entry ([.ref (ad 0)]) (n := 4) (Nat.le_of_ble_eq_true rfl)
  rw [lg_entry_eq]
  generalize (lg_sl ([.ref (ad 0)]) ++ List.replicate (4 - (lg_sl ([.ref (ad 0)])).length) Slot.unset).toArray = ls at hl ⊢
  have hl : lv_has ls 4 [(0, .ref (ad 0))] := hl
  refine W_abs (fun Q hQ => ?_)
  generalize ([.ref (ad 0)] : List Value).toArray = args at hT hQ ⊢
  refine lv_aload_n hx hb (fk_get fk_cX11_looked_0 0 rfl) rfl (lv_at hl 0 rfl) ?_
  have hFc := va_self hD hS hA
  refine va_callr (va_runV (As := []) (rest := []) ⟨hx, hb, hml, hown, hT⟩ (c_x11_shopToTry l G ad S s.heap.size (n) (hn) (hn6) (hX)) (tV 0 hT m3_211 m3_213 mp_11 m1_1 m3_214 rfl rfl (by decide +kernel) ⟨Nat.le_of_ble_eq_true rfl, Nat.le_of_ble_eq_true rfl⟩) ⟨PcW_blind, va_recv hK hP (ci := 13) (q0 := 0) rfl (ix_at (lt71 (by omega)) (cX_0 G ad S)), PcW_of hP hK hD _⟩ rfl rfl hl.1 rfl (lv_room (Nat.le_of_ble_eq_true rfl)) (fk_get fk_cX11_looked_0 1 rfl) ⟨Nat.zero_le _, Nat.zero_le _⟩) hS (fun q _ h => hFc q h) hFc (fun S_3 r_1 t_ H locs ht_ hvm_ hw_2 hB_ hz_ hk_ hS => ?_)
  obtain ⟨hra_, hB_⟩ := hB_
  subst hra_
  obtain ⟨hP, -, hD1_⟩ := hB_
  rw [ht_] at hP
  have hD : va_D A (wX G ad S_3) := hD1_.weaken (fun k q _ h => hFc q.1 h)
  try dsimp only at hw_2
  obtain ⟨hX_4, hF_5_, hw_2⟩ := hw_2
  have hF_5 : Fr (fun j k => (j = 11 ∧ 3 ≤ k ∧ k ≤ 7) ∨ (33 ≤ j ∧ j < 39 ∧ 2 ≤ k ∧ k ≤ 9) ∨ (51 ≤ j ∧ j < 57 ∧ k = 99) ∨ ((j = 17 ∨ j = 20) ∧ k = 99)) S S_3 := Fr.trans (Fr.rf : Fr (fun j k => (j = 11 ∧ 3 ≤ k ∧ k ≤ 7) ∨ (33 ≤ j ∧ j < 39 ∧ 2 ≤ k ∧ k ≤ 9) ∨ (51 ≤ j ∧ j < 57 ∧ k = 99) ∨ ((j = 17 ∨ j = 20) ∧ k = 99)) S S) (Fr.mono hF_5_ (fun j k h => by omega))
  refine lv_astore_n (lv' := [(1, .ref (ad (9 + 2))), (0, .ref (ad 0))]) hx hb (fk_get fk_cX11_looked_0 2 rfl) rfl hl (by decide) rfl (fun ls hl => ?_)
  refine lv_iconst (v := 0) hx hb (fk_get fk_cX11_looked_0 3 rfl) (by decide) ?_
  refine lv_istore_n (lv' := [(2, .int (0)), (1, .ref (ad (9 + 2))), (0, .ref (ad 0))]) hx hb (fk_get fk_cX11_looked_0 4 rfl) rfl hl (by decide) rfl (fun ls hl => ?_)
  have lp_6 : ∀ (fu : Nat) (c : Nat) (SL7 : FS) (H_8 : Heap) (locs_9 : List Loc) (ls : Array Slot),  (XI SL7) → (Fr (fun j k => (j = 11 ∧ 3 ≤ k ∧ k ≤ 7) ∨ (33 ≤ j ∧ j < 39 ∧ 2 ≤ k ∧ k ≤ 9) ∨ (51 ≤ j ∧ j < 57 ∧ k = 99) ∨ ((j = 17 ∨ j = 20) ∧ k = 99)) S SL7) → (c ≤ 8) → (8 < c + fu) → va_P G.1 vwCl (wX G ad SL7) H_8 → va_D A (wX G ad SL7) → va_S A s.heap H_8 locs_9 → lv_has ls 4 [(2, .int ((nI c))), (1, .ref (ad (9 + 2))), (0, .ref (ad 0))] → W p l e ({ frames := 6, cells := 0, slots := 0, locals := 174 } : Room) s m args below meth c₀ H_8 locs_9 0 0 Q (F0 m 7 ls []) := by
    intro fu
    induction fu with
    | zero =>
      intro c SL7 H_8 locs_9 ls hXl7 hFl7 hk hf hP hD hS hl
      exact absurd hf (by omega)
    | succ fu ih =>
      intro c SL7 H_8 locs_9 ls hXl7 hFl7 hk hf hP hD hS hl
      refine lv_iload_n hx hb (fk_get fk_cX11_looked_0 5 rfl) rfl (lv_at hl 0 rfl) ?_
      refine lv_aload_n hx hb (fk_get fk_cX11_looked_0 6 rfl) rfl (lv_at hl 1 rfl) ?_
      refine va_get (D := G.1) (ci := 9) (v := .int (fF SL7 (9 + 2) 5)) (C := RX7) (T := TX7) (N := 8) hx hb hT inX7 hown hK hP (9 + 2) (ix_at (lt71 (by omega)) (cX_shop (pk_shop (by decide : 2 < 3)))) rfl 5 (by decide) (hT _ m1_213) (fun _ h9 => h9) rfl (fk_get fk_cX11_looked_0 7 rfl) ?_
      obtain ⟨n_10, en_10, bn_10⟩ := XI.book hXl7 (by decide : 2 < 3)
      rw [en_10]
      refine lv_icmp_ge (tgt := 62) hx hb (fk_get fk_cX11_looked_0 8 rfl) (by decide) (fun c_11 => ?_) (fun c_11 => ?_)
      · have q_c_11 : n_10 ≤ c := ci_le (a := n_10) (b := c) (by omega) (by omega) c_11
        refine lv_bipush (v := (-5)) hx hb (fk_get fk_cX11_looked_1 2 rfl) (by decide) ?_
        subst hQ
        have hpost : XI SL7 ∧ Fr (fun j k => (j = 11 ∧ 3 ≤ k ∧ k ≤ 7) ∨ (33 ≤ j ∧ j < 39 ∧ 2 ≤ k ∧ k ≤ 9) ∨ (51 ≤ j ∧ j < 57 ∧ k = 99) ∨ ((j = 17 ∨ j = 20) ∧ k = 99)) S SL7 ∧ True := by
          exact ⟨hXl7, hFl7, trivial⟩
        exact W.iret (v := (-5)) hx hb hr (fun t_ ht_ hW_ => ⟨⟨(-5), SL7, rfl, hpost, by rw [ht_]; exact hP, va_K.moved hW_.alike hK, hD⟩, hS.F ht_⟩) hS.2.2 (fk_get fk_cX11_looked_1 3 rfl)
      have q_c_11 : c < n_10 := ci_nle (a := n_10) (b := c) (by omega) (by omega) c_11
      refine lv_aload_n hx hb (fk_get fk_cX11_looked_0 9 rfl) rfl (lv_at hl 1 rfl) ?_
      refine lv_aload_n hx hb (fk_get fk_cX11_looked_0 10 rfl) rfl (lv_at hl 1 rfl) ?_
      refine va_get (D := G.1) (ci := 9) (v := .ref (ad (9 + 2 + 9))) (C := RX7) (T := TX7) (N := 8) hx hb hT inX7 hown hK hP (9 + 2) (ix_at (lt71 (by omega)) (cX_shop (pk_shop (by decide : 2 < 3)))) rfl 2 (by decide) (hT _ m1_207) (fun _ h9 => h9) rfl (fk_get fk_cX11_looked_0 11 rfl) ?_
      refine lv_iload_n hx hb (fk_get fk_cX11_looked_0 12 rfl) rfl (lv_at hl 0 rfl) ?_
      refine r_iald (f := fA SL7 (9 + 2 + 9)) hx hb hK hP (9 + 2 + 9) 0 (ix_at (lt71 (by omega)) (cX_arr (Or.inr (Or.inl ⟨rfl, rfl, pk_bk (by decide : 2 < 3)⟩)))) rfl (j := c) (rfl) (by omega) (by decide) (fk_get fk_cX11_looked_0 13 rfl) ?_
      obtain ⟨n_12, en_12, bn_12⟩ := XI.size hXl7 (by decide : 2 < 3)
      refine va_csq (W.runV (As := [.int ((fA SL7 (9 + 2 + 9) c))]) (rest := []) ⟨hx, hb, hml, hown, hT⟩ (c_x7_at l G ad SL7 H_8.size (2) (n_12) ((fA SL7 (9 + 2 + 9) c)) ((by decide : 2 < 3)) (en_12) (bn_12) (hXl7)) (tV 1 hT m2_120 m2_121 m2_122 m1_9 m2_123 rfl rfl (by decide +kernel) ⟨Nat.le_of_ble_eq_true rfl, Nat.le_of_ble_eq_true rfl⟩) ⟨PcW_blind, va_recv hK hP (ci := 9) (q0 := (9 + 2)) rfl (ix_at (lt71 (by omega)) (cX_shop (pk_shop (by decide : 2 < 3)))), PcW_of hP hK hD _⟩ rfl rfl hl.1 rfl (lv_room (Nat.le_of_ble_eq_true rfl)) (fk_get fk_cX11_looked_0 14 rfl) ⟨Nat.zero_le _, Nat.zero_le _⟩) (fun r_13 hw_14 => ?_)
      try dsimp only at hw_14
      rcases hw_14 with ⟨j_22, hj_22, ej_22, rfl⟩ | ⟨rfl, hn_22⟩
      · rw [show va_rf (some (ad (21 + 6 * 2 + j_22))) = .ref (ad (21 + 6 * 2 + j_22)) from rfl]
        generalize hg_i_22 : 21 + 6 * 2 + j_22 = i_22
        have hp_i_22 : pk i_22 = 7 := by rw [← hg_i_22]; exact pk_c (by decide : 2 < 3) (show j_22 < 6 by omega)
        have hb_i_22 := pk7 hp_i_22
        refine lv_astore_n (lv' := [(3, .ref (ad i_22)), (2, .int ((nI c))), (1, .ref (ad (9 + 2))), (0, .ref (ad 0))]) hx hb (fk_get fk_cX11_looked_0 15 rfl) rfl hl (by decide) rfl (fun ls hl => ?_)
        refine lv_aload_n hx hb (fk_get fk_cX11_looked_0 16 rfl) rfl (lv_at hl 0 rfl) ?_
        refine lv_ifnull hx hb (fk_get fk_cX11_looked_0 17 rfl) ?_
        refine lv_aload_n hx hb (fk_get fk_cX11_looked_0 18 rfl) rfl (lv_at hl 0 rfl) ?_
        refine va_get (D := G.1) (ci := 5) (v := .int (fF SL7 i_22 9)) (C := RX3) (T := TX3) (N := 10) hx hb hT inX3 hown hK hP i_22 (ix_at (lt71 (by omega)) (cX_cust hp_i_22)) rfl 9 (by decide) (hT _ m1_179) (fun _ h9 => h9) rfl (fk_get fk_cX11_looked_0 19 rfl) ?_
        refine lv_if_ne (tgt := 56) hx hb (fk_get fk_cX11_looked_0 20 rfl) (by decide) (fun c_15 => ?_) (fun c_15 => ?_)
        · refine lv_iinc (v := (nI (c + 1))) (lv' := [(2, .int ((nI (c + 1)))), (3, .ref (ad i_22)), (1, .ref (ad (9 + 2))), (0, .ref (ad 0))]) hx hb (fk_get fk_cX11_looked_1 0 rfl) hl (k := 1) rfl ((nI_1 c)) (by decide) rfl (fun ls hl => ?_)
          refine lv_goto (tgt := 7) hx hb (fk_get fk_cX11_looked_1 1 rfl) (by decide) ?_
          exact ih (c + 1) (SL7) _ _ ls (hXl7) (hFl7) (by omega) (by omega) hP hD hS (lv_sub hl [0, 2, 3] rfl)
        refine lv_aload_n hx hb (fk_get fk_cX11_looked_0 21 rfl) rfl (lv_at hl 2 rfl) ?_
        refine lv_aload_n hx hb (fk_get fk_cX11_looked_0 22 rfl) rfl (lv_at hl 0 rfl) ?_
        refine vp_callSi (W.runV (As := [.ref (ad i_22)]) (rest := []) ⟨hx, hb, hml, hown, hT⟩ (c_x7_refuses l G ad SL7 H_8.size (2) (i_22) ((by decide : 2 < 3)) (hp_i_22) (hXl7)) (tV 1 hT m2_187 m2_188 m2_189 m1_9 m2_190 rfl rfl (by decide +kernel) ⟨Nat.le_of_ble_eq_true rfl, Nat.le_of_ble_eq_true rfl⟩) ⟨PcW_blind, va_recv hK hP (ci := 9) (q0 := (9 + 2)) rfl (ix_at (lt71 (by omega)) (cX_shop (pk_shop (by decide : 2 < 3)))), PcW_of hP hK hD _⟩ rfl rfl hl.1 rfl (lv_room (Nat.le_of_ble_eq_true rfl)) (fk_get fk_cX11_looked_0 23 rfl) ⟨Nat.zero_le _, Nat.zero_le _⟩) (fun r_16 hw_17 => ?_)
        try dsimp only at hw_17
        refine lv_if_eq (tgt := 50) hx hb (fk_get fk_cX11_looked_0 24 rfl) (by decide) (fun c_18 => ?_) (fun c_18 => ?_)
        · refine lv_aload_n hx hb (fk_get fk_cX11_looked_0 28 rfl) rfl (lv_at hl 2 rfl) ?_
          refine lv_aload_n hx hb (fk_get fk_cX11_looked_0 29 rfl) rfl (lv_at hl 0 rfl) ?_
          have hFc := va_self hD hS hA
          refine va_calli (va_runV (As := [.ref (ad i_22)]) (rest := []) ⟨hx, hb, hml, hown, hT⟩ (c_x7_makeVisit l G ad SL7 H_8.size (2) (i_22) ((by decide : 2 < 3)) (hp_i_22) (hXl7)) (tV 1 hT m3_169 m3_170 m3_171 m1_9 m3_172 rfl rfl (by decide +kernel) ⟨Nat.le_of_ble_eq_true rfl, Nat.le_of_ble_eq_true rfl⟩) ⟨PcW_blind, va_recv hK hP (ci := 9) (q0 := (9 + 2)) rfl (ix_at (lt71 (by omega)) (cX_shop (pk_shop (by decide : 2 < 3)))), PcW_of hP hK hD _⟩ rfl rfl hl.1 rfl (lv_room (Nat.le_of_ble_eq_true rfl)) (fk_get fk_cX11_looked_0 30 rfl) ⟨Nat.zero_le _, Nat.zero_le _⟩) hS (fun q _ h => hFc q h) hFc (fun r_19 S_21 t_ H locs ht_ hvm_ hw_20 hB_ hz_ hk_ hS => ?_)
          obtain ⟨hP, -, hD1_⟩ := hB_
          rw [ht_] at hP
          have hD : va_D A (wX G ad S_21) := hD1_.weaken (fun k q _ h => hFc q.1 h)
          try dsimp only at hw_20
          obtain ⟨hX_22, hF_23_, hw_20⟩ := hw_20
          have hF_23 : Fr (fun j k => (j = 11 ∧ 3 ≤ k ∧ k ≤ 7) ∨ (33 ≤ j ∧ j < 39 ∧ 2 ≤ k ∧ k ≤ 9) ∨ (51 ≤ j ∧ j < 57 ∧ k = 99) ∨ ((j = 17 ∨ j = 20) ∧ k = 99)) S S_21 := Fr.trans hFl7 (Fr.mono hF_23_ (fun j k h => by omega))
          refine lv_pop hx hb (fk_get fk_cX11_looked_0 31 rfl) rfl ?_
          refine lv_iinc (v := (nI (c + 1))) (lv' := [(2, .int ((nI (c + 1)))), (3, .ref (ad i_22)), (1, .ref (ad (9 + 2))), (0, .ref (ad 0))]) hx hb (fk_get fk_cX11_looked_1 0 rfl) hl (k := 1) rfl ((nI_1 c)) (by decide) rfl (fun ls hl => ?_)
          refine lv_goto (tgt := 7) hx hb (fk_get fk_cX11_looked_1 1 rfl) (by decide) ?_
          exact ih (c + 1) (S_21) _ _ ls (hX_22) (hF_23) (by omega) (by omega) hP hD hS (lv_sub hl [0, 2, 3] rfl)
        refine lv_aload_n hx hb (fk_get fk_cX11_looked_0 25 rfl) rfl (lv_at hl 0 rfl) ?_
        refine va_get (D := G.1) (ci := 5) (v := .int (fF SL7 i_22 0)) (C := RX3) (T := TX3) (N := 10) hx hb hT inX3 hown hK hP i_22 (ix_at (lt71 (by omega)) (cX_cust hp_i_22)) rfl 0 (by decide) (hT _ m1_139) (fun _ h9 => h9) rfl (fk_get fk_cX11_looked_0 26 rfl) ?_
        subst hQ
        have hpost : XI SL7 ∧ Fr (fun j k => (j = 11 ∧ 3 ≤ k ∧ k ≤ 7) ∨ (33 ≤ j ∧ j < 39 ∧ 2 ≤ k ∧ k ≤ 9) ∨ (51 ≤ j ∧ j < 57 ∧ k = 99) ∨ ((j = 17 ∨ j = 20) ∧ k = 99)) S SL7 ∧ True := by
          exact ⟨hXl7, hFl7, trivial⟩
        exact W.iret (v := (fF SL7 i_22 0)) hx hb hr (fun t_ ht_ hW_ => ⟨⟨(fF SL7 i_22 0), SL7, rfl, hpost, by rw [ht_]; exact hP, va_K.moved hW_.alike hK, hD⟩, hS.F ht_⟩) hS.2.2 (fk_get fk_cX11_looked_0 27 rfl)
      rw [show va_rf none = .null from rfl]
      refine lv_astore_nN (lv' := [(3, .null), (2, .int ((nI c))), (1, .ref (ad (9 + 2))), (0, .ref (ad 0))]) hx hb (fk_get fk_cX11_looked_0 15 rfl) rfl hl (by decide) rfl (fun ls hl => ?_)
      refine lv_aload_nN hx hb (fk_get fk_cX11_looked_0 16 rfl) rfl (lv_at hl 0 rfl) ?_
      refine lv_ifnullN (tgt := 56) hx hb (fk_get fk_cX11_looked_0 17 rfl) (by decide) ?_
      refine lv_iinc (v := (nI (c + 1))) (lv' := [(2, .int ((nI (c + 1)))), (3, .null), (1, .ref (ad (9 + 2))), (0, .ref (ad 0))]) hx hb (fk_get fk_cX11_looked_1 0 rfl) hl (k := 1) rfl ((nI_1 c)) (by decide) rfl (fun ls hl => ?_)
      refine lv_goto (tgt := 7) hx hb (fk_get fk_cX11_looked_1 1 rfl) (by decide) ?_
      exact ih (c + 1) (SL7) _ _ ls (hXl7) (hFl7) (by omega) (by omega) hP hD hS (lv_sub hl [0, 2, 3] rfl)
  exact lp_6 (8 + 1) (0) (S_3) _ _ ls (hX_4) (hF_5) (by omega) (by omega) hP hD hS (lv_sub hl [0, 1, 2] rfl)
