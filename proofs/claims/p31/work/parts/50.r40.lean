set_option maxHeartbeats 800000 in
set_option maxRecDepth 100000 in
theorem c_jsize (l : Launch) (G : GG) (ad : Nat → Nat) (S : FS) (sz : Nat)  (hX : XI S) : Met l yJx4a65c_size_8abf5 (Cond.code yJx4a65c_size_8abf5 cJx4a65c_size_8abf5 1 (some .int) :: TBL) ({ frames := 2, cells := 0, slots := 0, locals := 64 } : Room) (PcW G (wX G ad S) sz [.ref (ad 61)]) (vp_Si (fun (r : Int32) => r = fF S 61 2)) 0 0 (fun _ => False) := by
  refine va_MetF (cc := cJx4a65c_size_8abf5) (maxL := 1) (ret := (some .int)) (by decide +kernel) rfl ?_
  intro p e s m args below meth c₀ s₁ B hml hv
  obtain ⟨rfl, hsz, hP, hK, hD0⟩ := hv
  have hx := B.exec
  have hb := B.bytes
  have hr := B.returns
  have hT : ∀ w ∈ TBL, w.before ([.ref (ad 61)] : List Value).toArray s = true := fun w h => atoms_spec (ws := Cond.code yJx4a65c_size_8abf5 cJx4a65c_size_8abf5 1 (some .int) :: TBL) B.pre w (List.mem_cons_of_mem _ h)
  have hown : s.vm.findClass "java/util/ArrayList" = some m.cls := findClass_of_methodNamed B.named
  have hlocks := B.notSynchronized
  have hD := hD0
  have hP : va_P G.1 vwCl (wX G ad S) s.heap := hP
  have hl := lv_entry ([.ref (ad 61)]) (n := 1) (Nat.le_of_ble_eq_true rfl)
  rw [lg_entry_eq]
  generalize (lg_sl ([.ref (ad 61)]) ++ List.replicate (1 - (lg_sl ([.ref (ad 61)])).length) Slot.unset).toArray = ls at hl ⊢
  have hl : lv_has ls 1 [(0, .ref (ad 61))] := hl
  refine W_abs (fun Q hQ => ?_)
  generalize ([.ref (ad 61)] : List Value).toArray = args at hT hQ ⊢
  refine lv_aload_n hx hb (fk_get fk_cJx4a65c_size_8abf5_0 0 rfl) rfl (lv_at hl 0 rfl) ?_
  refine va_get (D := G.1) (ci := 1) (v := .int (fF S 61 2)) (C := RJx4a65c) (T := TJx4a65c) (N := 3) hx hb hT inJx4a65c hown hK hP 61 (ix_at (lt71 (by omega)) (cX_lst G ad S)) rfl 2 (by decide) (hT _ m2_53) (fun _ h9 => h9) rfl (fk_get fk_cJx4a65c_size_8abf5_0 1 rfl) ?_
  subst hQ
  have hpost : ((fF S 61 2) : Int32) = fF S 61 2 := by
    rfl
  exact W.iret (v := (fF S 61 2)) hx hb hr (fun t_ ht_ hW_ => ⟨(fF S 61 2), rfl, hpost, ht_⟩) (fun q h => by cases h) (fk_get fk_cJx4a65c_size_8abf5_0 2 rfl)
set_option maxHeartbeats 800000 in
set_option maxRecDepth 100000 in
theorem c_x11_count (l : Launch) (G : GG) (ad : Nat → Nat) (S : FS) (sz : Nat) (n : Nat) (x : Int32) (hn : fF S (9 + 0) 3 = nI n) (hn6 : n ≤ 6) (hX : XI S) : Met l yX11_count (Cond.code yX11_count cX11_count 2 (some .int) :: TBL) ({ frames := 3, cells := 0, slots := 0, locals := 88 } : Room) (PcW G (wX G ad S) sz [.ref (ad 0), .int (x)]) (vp_Si (fun (r : Int32) => True)) 0 0 (fun _ => False) := by
  refine Met.ofW (cc := cX11_count) (maxL := 2) (ret := (some .int)) (by decide) rfl ?_
  intro p e s m args below meth c₀ s₁ B hml hv
  obtain ⟨rfl, hsz, hP, hK, hD0⟩ := hv
  have hx := B.exec
  have hb := B.bytes
  have hr := B.returns
  have hT : ∀ w ∈ TBL, w.before ([.ref (ad 0), .int (x)] : List Value).toArray s = true := fun w h => atoms_spec (ws := Cond.code yX11_count cX11_count 2 (some .int) :: TBL) B.pre w (List.mem_cons_of_mem _ h)
  have hown : s.vm.findClass "LittleMore" = some m.cls := findClass_of_methodNamed B.named
  have hlocks := B.notSynchronized
  have hD := hD0
  have hP : va_P G.1 vwCl (wX G ad S) s.heap := hP
  have hl := lv_entry ([.ref (ad 0), .int (x)]) (n := 2) (Nat.le_of_ble_eq_true rfl)
  rw [lg_entry_eq]
  generalize (lg_sl ([.ref (ad 0), .int (x)]) ++ List.replicate (2 - (lg_sl ([.ref (ad 0), .int (x)])).length) Slot.unset).toArray = ls at hl ⊢
  have hl : lv_has ls 2 [(0, .ref (ad 0)), (1, .int (x))] := hl
  refine W_abs (fun Q hQ => ?_)
  generalize ([.ref (ad 0), .int (x)] : List Value).toArray = args at hT hQ ⊢
  refine lv_iload_n hx hb (fk_get fk_cX11_count_0 0 rfl) rfl (lv_at hl 1 rfl) ?_
  by_cases c_1 : x = (0 : Int32)
  · refine lv_tableIn (off := 39) (tgt := 40) hx hb (dk_get dk_cX11_count_0 0 rfl) (by rw [c_1]; decide) (by rw [c_1]; decide) (by rw [c_1]; rfl) (by decide) ?_
    refine lv_aload_n hx hb (fk_get fk_cX11_count_0 1 rfl) rfl (lv_at hl 0 rfl) ?_
    refine va_get (D := G.1) (ci := 13) (v := .ref (ad (9 + 0))) (C := RX11) (T := TX11) (N := 11) hx hb hT inX11 hown hK hP 0 (ix_at (lt71 (by omega)) (cX_0 G ad S)) rfl 1 (by decide) (hT _ m2_70) (fun _ h9 => h9) rfl (fk_get fk_cX11_count_0 2 rfl) ?_
    refine va_get (D := G.1) (ci := 9) (v := .int (fF S (9 + 0) 3)) (C := RX7) (T := TX7) (N := 8) hx hb hT inX7 hown hK hP (9 + 0) (ix_at (lt71 (by omega)) (cX_shop (pk_shop (by decide : 0 < 3)))) rfl 3 (by decide) (hT _ m1_209) (fun _ h9 => h9) rfl (fk_get fk_cX11_count_0 3 rfl) ?_
    rw [hn]
    subst hQ
    have hpost : True := by
      trivial
    exact W.iret (v := (nI n)) hx hb hr (fun t_ ht_ hW_ => ⟨(nI n), rfl, hpost, ht_⟩) (fun q h => by cases h) (fk_get fk_cX11_count_0 4 rfl)
  by_cases c_2 : x = (1 : Int32)
  · refine lv_tableIn (off := 47) (tgt := 48) hx hb (dk_get dk_cX11_count_0 0 rfl) (by rw [c_2]; decide) (by rw [c_2]; decide) (by rw [c_2]; rfl) (by decide) ?_
    refine lv_aload_n hx hb (fk_get fk_cX11_count_0 5 rfl) rfl (lv_at hl 0 rfl) ?_
    refine va_get (D := G.1) (ci := 13) (v := .int (fF S 0 9)) (C := RX11) (T := TX11) (N := 11) hx hb hT inX11 hown hK hP 0 (ix_at (lt71 (by omega)) (cX_0 G ad S)) rfl 9 (by decide) (hT _ m2_78) (fun _ h9 => h9) rfl (fk_get fk_cX11_count_0 6 rfl) ?_
    subst hQ
    have hpost : True := by
      trivial
    exact W.iret (v := (fF S 0 9)) hx hb hr (fun t_ ht_ hW_ => ⟨(fF S 0 9), rfl, hpost, ht_⟩) (fun q h => by cases h) (fk_get fk_cX11_count_0 7 rfl)
  by_cases c_3 : x = (2 : Int32)
  · refine lv_tableIn (off := 52) (tgt := 53) hx hb (dk_get dk_cX11_count_0 0 rfl) (by rw [c_3]; decide) (by rw [c_3]; decide) (by rw [c_3]; rfl) (by decide) ?_
    refine lv_aload_n hx hb (fk_get fk_cX11_count_0 8 rfl) rfl (lv_at hl 0 rfl) ?_
    refine va_get (D := G.1) (ci := 13) (v := .ref (ad (9 + 0))) (C := RX11) (T := TX11) (N := 11) hx hb hT inX11 hown hK hP 0 (ix_at (lt71 (by omega)) (cX_0 G ad S)) rfl 1 (by decide) (hT _ m2_70) (fun _ h9 => h9) rfl (fk_get fk_cX11_count_0 9 rfl) ?_
    refine va_get (D := G.1) (ci := 9) (v := .int (fF S (9 + 0) 4)) (C := RX7) (T := TX7) (N := 8) hx hb hT inX7 hown hK hP (9 + 0) (ix_at (lt71 (by omega)) (cX_shop (pk_shop (by decide : 0 < 3)))) rfl 4 (by decide) (hT _ m1_211) (fun _ h9 => h9) rfl (fk_get fk_cX11_count_0 10 rfl) ?_
    obtain ⟨n_4, en_4, bn_4⟩ := XI.seen hX (by decide : 0 < 3)
    rw [en_4]
    subst hQ
    have hpost : True := by
      trivial
    exact W.iret (v := (nI n_4)) hx hb hr (fun t_ ht_ hW_ => ⟨(nI n_4), rfl, hpost, ht_⟩) (fun q h => by cases h) (fk_get fk_cX11_count_0 11 rfl)
  by_cases c_5 : x = (3 : Int32)
  · refine lv_tableIn (off := 60) (tgt := 61) hx hb (dk_get dk_cX11_count_0 0 rfl) (by rw [c_5]; decide) (by rw [c_5]; decide) (by rw [c_5]; rfl) (by decide) ?_
    refine lv_aload_n hx hb (fk_get fk_cX11_count_0 12 rfl) rfl (lv_at hl 0 rfl) ?_
    refine va_get (D := G.1) (ci := 13) (v := .ref (ad (9 + 0))) (C := RX11) (T := TX11) (N := 11) hx hb hT inX11 hown hK hP 0 (ix_at (lt71 (by omega)) (cX_0 G ad S)) rfl 1 (by decide) (hT _ m2_70) (fun _ h9 => h9) rfl (fk_get fk_cX11_count_0 13 rfl) ?_
    refine va_get (D := G.1) (ci := 9) (v := .int (fF S (9 + 0) 5)) (C := RX7) (T := TX7) (N := 8) hx hb hT inX7 hown hK hP (9 + 0) (ix_at (lt71 (by omega)) (cX_shop (pk_shop (by decide : 0 < 3)))) rfl 5 (by decide) (hT _ m1_213) (fun _ h9 => h9) rfl (fk_get fk_cX11_count_0 14 rfl) ?_
    obtain ⟨n_6, en_6, bn_6⟩ := XI.book hX (by decide : 0 < 3)
    rw [en_6]
    subst hQ
    have hpost : True := by
      trivial
    exact W.iret (v := (nI n_6)) hx hb hr (fun t_ ht_ hW_ => ⟨(nI n_6), rfl, hpost, ht_⟩) (fun q h => by cases h) (fk_get fk_cX11_count_0 15 rfl)
  by_cases c_7 : x = (4 : Int32)
  · refine lv_tableIn (off := 68) (tgt := 69) hx hb (dk_get dk_cX11_count_0 0 rfl) (by rw [c_7]; decide) (by rw [c_7]; decide) (by rw [c_7]; rfl) (by decide) ?_
    refine lv_aload_n hx hb (fk_get fk_cX11_count_0 16 rfl) rfl (lv_at hl 0 rfl) ?_
    refine va_get (D := G.1) (ci := 13) (v := .ref (ad 57)) (C := RX11) (T := TX11) (N := 11) hx hb hT inX11 hown hK hP 0 (ix_at (lt71 (by omega)) (cX_0 G ad S)) rfl 4 (by decide) (hT _ m2_73) (fun _ h9 => h9) rfl (fk_get fk_cX11_count_0 17 rfl) ?_
    refine va_get (D := G.1) (ci := 11) (v := .int (fF S 57 1)) (C := RX9) (T := TX9) (N := 9) hx hb hT inX9 hown hK hP 57 (ix_at (lt71 (by omega)) (cX_text G ad S)) rfl 1 (by decide) (hT _ m2_4) (fun _ h9 => h9) rfl (fk_get fk_cX11_count_0 18 rfl) ?_
    obtain ⟨n_8, en_8, bn_8⟩ := XI.tlen hX
    rw [en_8]
    subst hQ
    have hpost : True := by
      trivial
    exact W.iret (v := (nI n_8)) hx hb hr (fun t_ ht_ hW_ => ⟨(nI n_8), rfl, hpost, ht_⟩) (fun q h => by cases h) (fk_get fk_cX11_count_0 19 rfl)
  by_cases c_9 : x = (5 : Int32)
  · refine lv_tableIn (off := 76) (tgt := 77) hx hb (dk_get dk_cX11_count_0 0 rfl) (by rw [c_9]; decide) (by rw [c_9]; decide) (by rw [c_9]; rfl) (by decide) ?_
    refine lv_aload_n hx hb (fk_get fk_cX11_count_0 20 rfl) rfl (lv_at hl 0 rfl) ?_
    refine va_get (D := G.1) (ci := 13) (v := .ref (ad 61)) (C := RX11) (T := TX11) (N := 11) hx hb hT inX11 hown hK hP 0 (ix_at (lt71 (by omega)) (cX_0 G ad S)) rfl 5 (by decide) (hT _ m2_74) (fun _ h9 => h9) rfl (fk_get fk_cX11_count_0 21 rfl) ?_
    refine vp_callSi (W.runV (As := []) (rest := []) ⟨hx, hb, hml, hown, hT⟩ (c_jsize l G ad S s.heap.size  (hX)) (tV 0 hT m5_40 m5_41 m5_42 m1_15 m5_43 rfl rfl (by decide +kernel) ⟨Nat.le_of_ble_eq_true rfl, Nat.le_of_ble_eq_true rfl⟩) ⟨PcW_blind, va_recv hK hP (ci := 1) (q0 := 61) rfl (ix_at (lt71 (by omega)) (cX_lst G ad S)), PcW_of hP hK hD _⟩ rfl rfl hl.1 rfl (lv_room (Nat.le_of_ble_eq_true rfl)) (fk_get fk_cX11_count_0 22 rfl) ⟨Nat.zero_le _, Nat.zero_le _⟩) (fun r_10 hw_11 => ?_)
    try dsimp only at hw_11
    subst hQ
    have hpost : True := by
      trivial
    exact W.iret (v := r_10) hx hb hr (fun t_ ht_ hW_ => ⟨r_10, rfl, hpost, ht_⟩) (fun q h => by cases h) (fk_get fk_cX11_count_0 23 rfl)
  have o_12 : (x).toInt < 0 ∨ 5 < (x).toInt := by
    have qc_1 : ¬ (x).toInt = 0 := lv_neT c_1 (by decide)
    have qc_2 : ¬ (x).toInt = 1 := lv_neT c_2 (by decide)
    have qc_3 : ¬ (x).toInt = 2 := lv_neT c_3 (by decide)
    have qc_5 : ¬ (x).toInt = 3 := lv_neT c_5 (by decide)
    have qc_7 : ¬ (x).toInt = 4 := lv_neT c_7 (by decide)
    have qc_9 : ¬ (x).toInt = 5 := lv_neT c_9 (by decide)
    omega
  refine lv_tableOut (tgt := 85) hx hb (dk_get dk_cX11_count_0 0 rfl) o_12 (by decide) ?_
  refine lv_bipush (v := (-2)) hx hb (fk_get fk_cX11_count_0 24 rfl) (by decide) ?_
  subst hQ
  have hpost : True := by
    trivial
  exact W.iret (v := (-2)) hx hb hr (fun t_ ht_ hW_ => ⟨(-2), rfl, hpost, ht_⟩) (fun q h => by cases h) (fk_get fk_cX11_count_0 25 rfl)
set_option maxHeartbeats 800000 in
set_option maxRecDepth 100000 in
theorem c_x11_shopToTry (l : Launch) (G : GG) (ad : Nat → Nat) (S : FS) (sz : Nat) (n : Nat) (hn : fF S (9 + 0) 3 = nI n) (hn6 : n ≤ 6) (hX : XI S) : Met l yX11_shopToTry (Cond.code yX11_shopToTry cX11_shopToTry 1 (some (.object "LittleMore$Shop")) :: TBL) ({ frames := 4, cells := 0, slots := 0, locals := 115 } : Room) (PcW G (wX G ad S) sz [.ref (ad 0)]) (va_Qr (fun (S' : FS) => XI S' ∧ Fr (fun j k => (j = 11 ∧ 3 ≤ k ∧ k ≤ 7) ∨ (33 ≤ j ∧ j < 39 ∧ 2 ≤ k ∧ k ≤ 9) ∨ (51 ≤ j ∧ j < 57 ∧ k = 99) ∨ ((j = 17 ∨ j = 20) ∧ k = 99)) S S' ∧ BE S 2 0 n S') (fun S' a t => a = ad (9 + 2) ∧ BW G (va_A (wX G ad S) sz) (wX G ad S') t) (va_A (wX G ad S) sz)) 0 0 (va_A (wX G ad S) sz) := by
  refine Met.ofW (cc := cX11_shopToTry) (maxL := 1) (ret := (some (.object "LittleMore$Shop"))) (by decide) rfl ?_
  intro p e s m args below meth c₀ s₁ B hml hv
  obtain ⟨rfl, hsz, hP, hK, hD0⟩ := hv
  have hx := B.exec
  have hb := B.bytes
  have hr := B.returns
  have hT : ∀ w ∈ TBL, w.before ([.ref (ad 0)] : List Value).toArray s = true := fun w h => atoms_spec (ws := Cond.code yX11_shopToTry cX11_shopToTry 1 (some (.object "LittleMore$Shop")) :: TBL) B.pre w (List.mem_cons_of_mem _ h)
  have hown : s.vm.findClass "LittleMore" = some m.cls := findClass_of_methodNamed B.named
  have hlocks := B.notSynchronized
  subst hsz
  have hD := hD0.self (sz := s.heap.size)
  generalize hAe : va_A (wX G ad S) s.heap.size = A at hD ⊢
  have hA : ∀ q : Nat, s.heap.size ≤ q → A q := fun q h => by rw [← hAe]; exact Or.inr h
  have hS : va_S A s.heap s.heap [] := va_S.rf
  have hP : va_P G.1 vwCl (wX G ad S) s.heap := hP
  have hl := lv_entry ([.ref (ad 0)]) (n := 1) (Nat.le_of_ble_eq_true rfl)
  rw [lg_entry_eq]
  generalize (lg_sl ([.ref (ad 0)]) ++ List.replicate (1 - (lg_sl ([.ref (ad 0)])).length) Slot.unset).toArray = ls at hl ⊢
  have hl : lv_has ls 1 [(0, .ref (ad 0))] := hl
  refine W_abs (fun Q hQ => ?_)
  generalize ([.ref (ad 0)] : List Value).toArray = args at hT hQ ⊢
  refine lv_aload_n hx hb (fk_get fk_cX11_shopToTry_0 0 rfl) rfl (lv_at hl 0 rfl) ?_
  refine va_get (D := G.1) (ci := 13) (v := .ref (ad (9 + 2))) (C := RX11) (T := TX11) (N := 11) hx hb hT inX11 hown hK hP 0 (ix_at (lt71 (by omega)) (cX_0 G ad S)) rfl 3 (by decide) (hT _ m2_72) (fun _ h9 => h9) rfl (fk_get fk_cX11_shopToTry_0 1 rfl) ?_
  refine lv_aload_n hx hb (fk_get fk_cX11_shopToTry_0 2 rfl) rfl (lv_at hl 0 rfl) ?_
  refine va_get (D := G.1) (ci := 13) (v := .ref (ad (9 + 0))) (C := RX11) (T := TX11) (N := 11) hx hb hT inX11 hown hK hP 0 (ix_at (lt71 (by omega)) (cX_0 G ad S)) rfl 1 (by decide) (hT _ m2_70) (fun _ h9 => h9) rfl (fk_get fk_cX11_shopToTry_0 3 rfl) ?_
  have hFc := va_self hD hS hA
  refine va_callv (va_runV (As := [.ref (ad (9 + 0))]) (rest := []) ⟨hx, hb, hml, hown, hT⟩ (c_x7_become l G ad S s.heap.size (2) (0) (n) ((by decide : 2 < 3)) ((by decide : 0 < 3)) (by first | assumption | omega) (hn) (hn6) (hX)) (tV 1 hT m3_215 m3_216 m3_217 m1_9 m3_218 rfl rfl (by decide +kernel) ⟨Nat.le_of_ble_eq_true rfl, Nat.le_of_ble_eq_true rfl⟩) ⟨PcW_blind, va_recv hK hP (ci := 9) (q0 := (9 + 2)) rfl (ix_at (lt71 (by omega)) (cX_shop (pk_shop (by decide : 2 < 3)))), PcW_of hP hK hD _⟩ rfl rfl hl.1 rfl (lv_room (Nat.le_of_ble_eq_true rfl)) (fk_get fk_cX11_shopToTry_0 4 rfl) ⟨Nat.zero_le _, Nat.zero_le _⟩) hS (fun q _ h => hFc q h) hFc (fun S_3 t_ H locs ht_ hvm_ hw_2 hB_ hz_ hk_ hS => ?_)
  obtain ⟨hP, -, hD1_⟩ := hB_
  rw [ht_] at hP
  have hD : va_D A (wX G ad S_3) := hD1_.weaken (fun k q _ h => hFc q.1 h)
  try dsimp only at hw_2
  obtain ⟨hX_4, hF_5_, hw_2⟩ := hw_2
  have hF_5 : Fr (fun j k => (j = 11 ∧ 3 ≤ k ∧ k ≤ 7) ∨ (33 ≤ j ∧ j < 39 ∧ 2 ≤ k ∧ k ≤ 9) ∨ (51 ≤ j ∧ j < 57 ∧ k = 99) ∨ ((j = 17 ∨ j = 20) ∧ k = 99)) S S_3 := Fr.trans (Fr.rf : Fr (fun j k => (j = 11 ∧ 3 ≤ k ∧ k ≤ 7) ∨ (33 ≤ j ∧ j < 39 ∧ 2 ≤ k ∧ k ≤ 9) ∨ (51 ≤ j ∧ j < 57 ∧ k = 99) ∨ ((j = 17 ∨ j = 20) ∧ k = 99)) S S) (Fr.mono hF_5_ (fun j k h => by omega))
  have hbe_ := hw_2
  refine lv_aload_n hx hb (fk_get fk_cX11_shopToTry_0 5 rfl) rfl (lv_at hl 0 rfl) ?_
  refine va_get (D := G.1) (ci := 13) (v := .ref (ad (9 + 2))) (C := RX11) (T := TX11) (N := 11) hx hb hT inX11 hown hK hP 0 (ix_at (lt71 (by omega)) (cX_0 G ad S_3)) rfl 3 (by decide) (hT _ m2_72) (fun _ h9 => h9) rfl (fk_get fk_cX11_shopToTry_0 6 rfl) ?_
  subst hQ
  exact W.aret hx hb hr (Or.inl ⟨_, rfl⟩) (Or.inr ⟨_, rfl⟩) (fun t_ ht_ hW_ => ⟨⟨S_3, _, rfl, by exact ⟨hX_4, hF_5, hbe_⟩, rfl, by rw [ht_]; exact hP, va_K.moved hW_.alike hK, hD⟩, hS.F ht_⟩) hS.2.2 (fk_get fk_cX11_shopToTry_0 7 rfl)
theorem c_x7_makeVisitsAloneE (l : Launch) (G : GG) (ad : Nat → Nat) (S : FS) (sz : Nat) (h i wz : Nat) (hh : h < 3) (hpk : pk i = 7) (hw40 : wz ≤ 40) (x_ : Int32) (hxw : x_ = nI wz) (hX : XI S) : Met l yX7_makeVisitsAlone (Cond.code yX7_makeVisitsAlone cX7_makeVisitsAlone 5 (some .int) :: TBL) ({ frames := 6, cells := 0, slots := 0, locals := 174 } : Room) (PcW G (wX G ad S) sz [.ref (ad (9 + h)), .ref (ad i), .int (x_)]) (va_Qi (fun (r : Int32) (S' : FS) => XI S' ∧ Fr (fun j k => j = i ∧ 5 ≤ k ∧ k ≤ 9) S S' ∧ True) (fun S' t => BW G (va_A (wX G ad S) sz) (wX G ad S') t) (va_A (wX G ad S) sz)) 0 0 (va_A (wX G ad S) sz) := by
  subst hxw
  exact c_x7_makeVisitsAlone l G ad S sz h i wz hh hpk hw40 hX
set_option maxHeartbeats 800000 in
set_option maxRecDepth 100000 in
theorem c_x11_shopBehind (l : Launch) (G : GG) (ad : Nat → Nat) (S : FS) (sz : Nat) (n wz : Nat) (hn : fF S (9 + 0) 3 = nI n) (hn6 : n ≤ 6) (hw40 : wz ≤ 40) (hX : XI S) : Met l yX11_shopBehind (Cond.code yX11_shopBehind cX11_shopBehind 4 (some (.object "LittleMore$Shop")) :: TBL) ({ frames := 7, cells := 0, slots := 0, locals := 200 } : Room) (PcW G (wX G ad S) sz [.ref (ad 0), .int ((nI wz))]) (va_Qr (fun (S' : FS) => XI S' ∧ Fr (fun j k => (j = 11 ∧ 3 ≤ k ∧ k ≤ 7) ∨ (33 ≤ j ∧ j < 39 ∧ 2 ≤ k ∧ k ≤ 9) ∨ (51 ≤ j ∧ j < 57 ∧ k = 99) ∨ ((j = 17 ∨ j = 20) ∧ k = 99)) S S' ∧ True) (fun S' a t => a = ad (9 + 2) ∧ BW G (va_A (wX G ad S) sz) (wX G ad S') t) (va_A (wX G ad S) sz)) 0 0 (va_A (wX G ad S) sz) := by
  refine Met.ofW (cc := cX11_shopBehind) (maxL := 4) (ret := (some (.object "LittleMore$Shop"))) (by decide) rfl ?_
  intro p e s m args below meth c₀ s₁ B hml hv
  obtain ⟨rfl, hsz, hP, hK, hD0⟩ := hv
  have hx := B.exec
  have hb := B.bytes
  have hr := B.returns
  have hT : ∀ w ∈ TBL, w.before ([.ref (ad 0), .int ((nI wz))] : List Value).toArray s = true := fun w h => atoms_spec (ws := Cond.code yX11_shopBehind cX11_shopBehind 4 (some (.object "LittleMore$Shop")) :: TBL) B.pre w (List.mem_cons_of_mem _ h)
  have hown : s.vm.findClass "LittleMore" = some m.cls := findClass_of_methodNamed B.named
  have hlocks := B.notSynchronized
  subst hsz
  have hD := hD0.self (sz := s.heap.size)
  generalize hAe : va_A (wX G ad S) s.heap.size = A at hD ⊢
  have hA : ∀ q : Nat, s.heap.size ≤ q → A q := fun q h => by rw [← hAe]; exact Or.inr h
  have hS : va_S A s.heap s.heap [] := va_S.rf
  have hP : va_P G.1 vwCl (wX G ad S) s.heap := hP
  have hl := lv_entry ([.ref (ad 0), .int ((nI wz))]) (n := 4) (Nat.le_of_ble_eq_true rfl)
  rw [lg_entry_eq]
  generalize (lg_sl ([.ref (ad 0), .int ((nI wz))]) ++ List.replicate (4 - (lg_sl ([.ref (ad 0), .int ((nI wz))])).length) Slot.unset).toArray = ls at hl ⊢
  have hl : lv_has ls 4 [(0, .ref (ad 0)), (1, .int ((nI wz)))] := hl
  refine W_abs (fun Q hQ => ?_)
  generalize ([.ref (ad 0), .int ((nI wz))] : List Value).toArray = args at hT hQ ⊢
  refine lv_aload_n hx hb (fk_get fk_cX11_shopBehind_0 0 rfl) rfl (lv_at hl 0 rfl) ?_
  have hFc := va_self hD hS hA
  refine va_callr (va_runV (As := []) (rest := []) ⟨hx, hb, hml, hown, hT⟩ (c_x11_shopToTry l G ad S s.heap.size (n) (hn) (hn6) (hX)) (tV 0 hT m3_211 m3_213 mp_11 m1_1 m3_214 rfl rfl (by decide +kernel) ⟨Nat.le_of_ble_eq_true rfl, Nat.le_of_ble_eq_true rfl⟩) ⟨PcW_blind, va_recv hK hP (ci := 13) (q0 := 0) rfl (ix_at (lt71 (by omega)) (cX_0 G ad S)), PcW_of hP hK hD _⟩ rfl rfl hl.1 rfl (lv_room (Nat.le_of_ble_eq_true rfl)) (fk_get fk_cX11_shopBehind_0 1 rfl) ⟨Nat.zero_le _, Nat.zero_le _⟩) hS (fun q _ h => hFc q h) hFc (fun S_3 r_1 t_ H locs ht_ hvm_ hw_2 hB_ hz_ hk_ hS => ?_)
  obtain ⟨hra_, hB_⟩ := hB_
  subst hra_
  obtain ⟨hP, -, hD1_⟩ := hB_
  rw [ht_] at hP
  have hD : va_D A (wX G ad S_3) := hD1_.weaken (fun k q _ h => hFc q.1 h)
  try dsimp only at hw_2
  obtain ⟨hX_4, hF_5_, hw_2⟩ := hw_2
  have hF_5 : Fr (fun j k => (j = 11 ∧ 3 ≤ k ∧ k ≤ 7) ∨ (33 ≤ j ∧ j < 39 ∧ 2 ≤ k ∧ k ≤ 9) ∨ (51 ≤ j ∧ j < 57 ∧ k = 99) ∨ ((j = 17 ∨ j = 20) ∧ k = 99)) S S_3 := Fr.trans (Fr.rf : Fr (fun j k => (j = 11 ∧ 3 ≤ k ∧ k ≤ 7) ∨ (33 ≤ j ∧ j < 39 ∧ 2 ≤ k ∧ k ≤ 9) ∨ (51 ≤ j ∧ j < 57 ∧ k = 99) ∨ ((j = 17 ∨ j = 20) ∧ k = 99)) S S) (Fr.mono hF_5_ (fun j k h => by omega))
  refine lv_astore_n (lv' := [(2, .ref (ad (9 + 2))), (0, .ref (ad 0)), (1, .int ((nI wz)))]) hx hb (fk_get fk_cX11_shopBehind_0 2 rfl) rfl hl (by decide) rfl (fun ls hl => ?_)
  refine lv_iconst (v := 0) hx hb (fk_get fk_cX11_shopBehind_0 3 rfl) (by decide) ?_
  refine lv_istore_n (lv' := [(3, .int (0)), (2, .ref (ad (9 + 2))), (0, .ref (ad 0)), (1, .int ((nI wz)))]) hx hb (fk_get fk_cX11_shopBehind_0 4 rfl) rfl hl (by decide) rfl (fun ls hl => ?_)
  have lp_6 : ∀ (fu : Nat) (c : Nat) (SL7 : FS) (H_8 : Heap) (locs_9 : List Loc) (ls : Array Slot),  (XI SL7) → (Fr (fun j k => (j = 11 ∧ 3 ≤ k ∧ k ≤ 7) ∨ (33 ≤ j ∧ j < 39 ∧ 2 ≤ k ∧ k ≤ 9) ∨ (51 ≤ j ∧ j < 57 ∧ k = 99) ∨ ((j = 17 ∨ j = 20) ∧ k = 99)) S SL7) → (c ≤ wz) → (wz < c + fu) → va_P G.1 vwCl (wX G ad SL7) H_8 → va_D A (wX G ad SL7) → va_S A s.heap H_8 locs_9 → lv_has ls 4 [(3, .int ((nI c))), (2, .ref (ad (9 + 2))), (0, .ref (ad 0)), (1, .int ((nI wz)))] → W p l e ({ frames := 7, cells := 0, slots := 0, locals := 200 } : Room) s m args below meth c₀ H_8 locs_9 0 0 Q (F0 m 7 ls []) := by
    intro fu
    induction fu with
    | zero =>
      intro c SL7 H_8 locs_9 ls hXl7 hFl7 hk hf hP hD hS hl
      exact absurd hf (by omega)
    | succ fu ih =>
      intro c SL7 H_8 locs_9 ls hXl7 hFl7 hk hf hP hD hS hl
      refine lv_iload_n hx hb (fk_get fk_cX11_shopBehind_0 5 rfl) rfl (lv_at hl 0 rfl) ?_
      refine lv_iload_n hx hb (fk_get fk_cX11_shopBehind_0 6 rfl) rfl (lv_at hl 3 rfl) ?_
      refine lv_icmp_ge (tgt := 23) hx hb (fk_get fk_cX11_shopBehind_0 7 rfl) (by decide) (fun c_10 => ?_) (fun c_10 => ?_)
      · have q_c_10 : wz ≤ c := ci_le (a := wz) (b := c) (by omega) (by omega) c_10
        refine lv_aload_n hx hb (fk_get fk_cX11_shopBehind_0 13 rfl) rfl (lv_at hl 1 rfl) ?_
        subst hQ
        exact W.aret hx hb hr (Or.inl ⟨_, rfl⟩) (Or.inr ⟨_, rfl⟩) (fun t_ ht_ hW_ => ⟨⟨SL7, _, rfl, by exact ⟨hXl7, hFl7, trivial⟩, rfl, by rw [ht_]; exact hP, va_K.moved hW_.alike hK, hD⟩, hS.F ht_⟩) hS.2.2 (fk_get fk_cX11_shopBehind_0 14 rfl)
      have q_c_10 : c < wz := ci_nle (a := wz) (b := c) (by omega) (by omega) c_10
      refine lv_aload_n hx hb (fk_get fk_cX11_shopBehind_0 8 rfl) rfl (lv_at hl 1 rfl) ?_
      have hFc := va_self hD hS hA
      refine va_calli (va_runV (As := []) (rest := []) ⟨hx, hb, hml, hown, hT⟩ (c_x7_makeSaturday l G ad SL7 H_8.size (2) ((by decide : 2 < 3)) (hXl7)) (tV 0 hT m3_202 m3_203 m3_204 m1_9 m3_205 rfl rfl (by decide +kernel) ⟨Nat.le_of_ble_eq_true rfl, Nat.le_of_ble_eq_true rfl⟩) ⟨PcW_blind, va_recv hK hP (ci := 9) (q0 := (9 + 2)) rfl (ix_at (lt71 (by omega)) (cX_shop (pk_shop (by decide : 2 < 3)))), PcW_of hP hK hD _⟩ rfl rfl hl.1 rfl (lv_room (Nat.le_of_ble_eq_true rfl)) (fk_get fk_cX11_shopBehind_0 9 rfl) ⟨Nat.zero_le _, Nat.zero_le _⟩) hS (fun q _ h => hFc q h) hFc (fun r_11 S_13 t_ H locs ht_ hvm_ hw_12 hB_ hz_ hk_ hS => ?_)
      obtain ⟨hP, -, hD1_⟩ := hB_
      rw [ht_] at hP
      have hD : va_D A (wX G ad S_13) := hD1_.weaken (fun k q _ h => hFc q.1 h)
      try dsimp only at hw_12
      obtain ⟨hX_14, hF_15_, hw_12⟩ := hw_12
      have hF_15 : Fr (fun j k => (j = 11 ∧ 3 ≤ k ∧ k ≤ 7) ∨ (33 ≤ j ∧ j < 39 ∧ 2 ≤ k ∧ k ≤ 9) ∨ (51 ≤ j ∧ j < 57 ∧ k = 99) ∨ ((j = 17 ∨ j = 20) ∧ k = 99)) S S_13 := Fr.trans hFl7 (Fr.mono hF_15_ (fun j k h => by omega))
      refine lv_pop hx hb (fk_get fk_cX11_shopBehind_0 10 rfl) rfl ?_
      refine lv_iinc (v := (nI (c + 1))) (lv' := [(3, .int ((nI (c + 1)))), (2, .ref (ad (9 + 2))), (0, .ref (ad 0)), (1, .int ((nI wz)))]) hx hb (fk_get fk_cX11_shopBehind_0 11 rfl) hl (k := 0) rfl ((nI_1 c)) (by decide) rfl (fun ls hl => ?_)
      refine lv_goto (tgt := 7) hx hb (fk_get fk_cX11_shopBehind_0 12 rfl) (by decide) ?_
      exact ih (c + 1) (S_13) _ _ ls (hX_14) (hF_15) (by omega) (by omega) hP hD hS (lv_sub hl [0, 1, 2, 3] rfl)
  exact lp_6 (wz + 1) (0) (S_3) _ _ ls (hX_4) (hF_5) (by omega) (by omega) hP hD hS (lv_sub hl [0, 1, 2, 3] rfl)
set_option maxHeartbeats 800000 in
set_option maxRecDepth 100000 in
theorem c_x11_paidWith (l : Launch) (G : GG) (ad : Nat → Nat) (S : FS) (sz : Nat) (n wz : Nat) (o_ : Int32) (hn : fF S (9 + 0) 3 = nI n) (hn6 : n ≤ 6) (hw40 : wz ≤ 40) (hX : XI S) : Met l yX11_paidWith (Cond.code yX11_paidWith cX11_paidWith 6 (some .int) :: TBL) ({ frames := 7, cells := 0, slots := 0, locals := 200 } : Room) (PcW G (wX G ad S) sz [.ref (ad 0), .int (o_), .int ((nI wz))]) (va_Qi (fun (r : Int32) (S' : FS) => XI S' ∧ Fr (fun j k => (j = 11 ∧ 3 ≤ k ∧ k ≤ 7) ∨ (33 ≤ j ∧ j < 39 ∧ 2 ≤ k ∧ k ≤ 9) ∨ (51 ≤ j ∧ j < 57 ∧ k = 99) ∨ ((j = 17 ∨ j = 20) ∧ k = 99)) S S' ∧ True) (fun S' t => BW G (va_A (wX G ad S) sz) (wX G ad S') t) (va_A (wX G ad S) sz)) 0 0 (va_A (wX G ad S) sz) := by
  refine Met.ofW (cc := cX11_paidWith) (maxL := 6) (ret := (some .int)) (by decide) rfl ?_
  intro p e s m args below meth c₀ s₁ B hml hv
  obtain ⟨rfl, hsz, hP, hK, hD0⟩ := hv
  have hx := B.exec
  have hb := B.bytes
  have hr := B.returns
  have hT : ∀ w ∈ TBL, w.before ([.ref (ad 0), .int (o_), .int ((nI wz))] : List Value).toArray s = true := fun w h => atoms_spec (ws := Cond.code yX11_paidWith cX11_paidWith 6 (some .int) :: TBL) B.pre w (List.mem_cons_of_mem _ h)
  have hown : s.vm.findClass "LittleMore" = some m.cls := findClass_of_methodNamed B.named
  have hlocks := B.notSynchronized
  subst hsz
  have hD := hD0.self (sz := s.heap.size)
  generalize hAe : va_A (wX G ad S) s.heap.size = A at hD ⊢
  have hA : ∀ q : Nat, s.heap.size ≤ q → A q := fun q h => by rw [← hAe]; exact Or.inr h
  have hS : va_S A s.heap s.heap [] := va_S.rf
  have hP : va_P G.1 vwCl (wX G ad S) s.heap := hP
  have hl := lv_entry ([.ref (ad 0), .int (o_), .int ((nI wz))]) (n := 6) (Nat.le_of_ble_eq_true rfl)
  rw [lg_entry_eq]
  generalize (lg_sl ([.ref (ad 0), .int (o_), .int ((nI wz))]) ++ List.replicate (6 - (lg_sl ([.ref (ad 0), .int (o_), .int ((nI wz))])).length) Slot.unset).toArray = ls at hl ⊢
  have hl : lv_has ls 6 [(0, .ref (ad 0)), (1, .int (o_)), (2, .int ((nI wz)))] := hl
  refine W_abs (fun Q hQ => ?_)
  generalize ([.ref (ad 0), .int (o_), .int ((nI wz))] : List Value).toArray = args at hT hQ ⊢
  refine lv_aload_n hx hb (fk_get fk_cX11_paidWith_0 0 rfl) rfl (lv_at hl 0 rfl) ?_
  have hFc := va_self hD hS hA
  refine va_callr (va_runV (As := []) (rest := []) ⟨hx, hb, hml, hown, hT⟩ (c_x11_shopToTry l G ad S s.heap.size (n) (hn) (hn6) (hX)) (tV 0 hT m3_211 m3_213 mp_11 m1_1 m3_214 rfl rfl (by decide +kernel) ⟨Nat.le_of_ble_eq_true rfl, Nat.le_of_ble_eq_true rfl⟩) ⟨PcW_blind, va_recv hK hP (ci := 13) (q0 := 0) rfl (ix_at (lt71 (by omega)) (cX_0 G ad S)), PcW_of hP hK hD _⟩ rfl rfl hl.1 rfl (lv_room (Nat.le_of_ble_eq_true rfl)) (fk_get fk_cX11_paidWith_0 1 rfl) ⟨Nat.zero_le _, Nat.zero_le _⟩) hS (fun q _ h => hFc q h) hFc (fun S_3 r_1 t_ H locs ht_ hvm_ hw_2 hB_ hz_ hk_ hS => ?_)
  obtain ⟨hra_, hB_⟩ := hB_
  subst hra_
  obtain ⟨hP, -, hD1_⟩ := hB_
  rw [ht_] at hP
  have hD : va_D A (wX G ad S_3) := hD1_.weaken (fun k q _ h => hFc q.1 h)
  try dsimp only at hw_2
  obtain ⟨hX_4, hF_5_, hw_2⟩ := hw_2
  have hF_5 : Fr (fun j k => (j = 11 ∧ 3 ≤ k ∧ k ≤ 7) ∨ (33 ≤ j ∧ j < 39 ∧ 2 ≤ k ∧ k ≤ 9) ∨ (51 ≤ j ∧ j < 57 ∧ k = 99) ∨ ((j = 17 ∨ j = 20) ∧ k = 99)) S S_3 := Fr.trans (Fr.rf : Fr (fun j k => (j = 11 ∧ 3 ≤ k ∧ k ≤ 7) ∨ (33 ≤ j ∧ j < 39 ∧ 2 ≤ k ∧ k ≤ 9) ∨ (51 ≤ j ∧ j < 57 ∧ k = 99) ∨ ((j = 17 ∨ j = 20) ∧ k = 99)) S S) (Fr.mono hF_5_ (fun j k h => by omega))
  refine lv_astore_n (lv' := [(3, .ref (ad (9 + 2))), (0, .ref (ad 0)), (1, .int (o_)), (2, .int ((nI wz)))]) hx hb (fk_get fk_cX11_paidWith_0 2 rfl) rfl hl (by decide) rfl (fun ls hl => ?_)
  refine lv_aload_n hx hb (fk_get fk_cX11_paidWith_0 3 rfl) rfl (lv_at hl 0 rfl) ?_
  refine lv_iload_n hx hb (fk_get fk_cX11_paidWith_0 4 rfl) rfl (lv_at hl 2 rfl) ?_
  refine va_put (D := G.1) (ci := 9) (v := .int (o_)) (ty := .int) (C := RX7) (T := TX7) (N := 8) hx hb hT inX7 tyX7 tyX7_ok nmX7 hown hK hP hD hS (9 + 2) (ix_at (lt71 (by omega)) (cX_shop (pk_shop (by decide : 2 < 3)))) rfl 6 (by decide) (hT _ m1_215) (fun _ h9 => h9) rfl (by decide +kernel) rfl rfl (Nat.le_of_ble_eq_true rfl) (fk_get fk_cX11_paidWith_0 5 rfl) (fun H locs hP hD hS => ?_)
  rw [pX_shop_6 (S := S_3) (lt71 (by omega)) (pk_shop (by decide : 2 < 3)) (o_)] at hP hD
  have hX_6 : XI (setF S_3 (9 + 2) 6 (o_)) := XI.sF hX_4 _ ⟨by omega, by omega, by omega, by omega, by omega, by omega, by omega, by omega⟩
  have hF_7 : Fr (fun j k => (j = 11 ∧ 3 ≤ k ∧ k ≤ 7) ∨ (33 ≤ j ∧ j < 39 ∧ 2 ≤ k ∧ k ≤ 9) ∨ (51 ≤ j ∧ j < 57 ∧ k = 99) ∨ ((j = 17 ∨ j = 20) ∧ k = 99)) S (setF S_3 (9 + 2) 6 (o_)) := Fr.sF hF_5 (by omega)
  refine lv_iconst (v := 0) hx hb (fk_get fk_cX11_paidWith_0 6 rfl) (by decide) ?_
  refine lv_istore (lv' := [(4, .int (0)), (3, .ref (ad (9 + 2))), (0, .ref (ad 0)), (1, .int (o_)), (2, .int ((nI wz)))]) hx hb (fk_get fk_cX11_paidWith_0 7 rfl) hl (by decide) rfl (fun ls hl => ?_)
  refine lv_iconst (v := 0) hx hb (fk_get fk_cX11_paidWith_0 8 rfl) (by decide) ?_
  refine lv_istore (lv' := [(5, .int (0)), (4, .int (0)), (3, .ref (ad (9 + 2))), (0, .ref (ad 0)), (1, .int (o_)), (2, .int ((nI wz)))]) hx hb (fk_get fk_cX11_paidWith_0 9 rfl) hl (by decide) rfl (fun ls hl => ?_)
  have lp_8 : ∀ (fu : Nat) (c : Nat) (v4 : Int32) (SL16 : FS) (H_10 : Heap) (locs_11 : List Loc) (ls : Array Slot),  (XI SL16) → (Fr (fun j k => (j = 11 ∧ 3 ≤ k ∧ k ≤ 7) ∨ (33 ≤ j ∧ j < 39 ∧ 2 ≤ k ∧ k ≤ 9) ∨ (51 ≤ j ∧ j < 57 ∧ k = 99) ∨ ((j = 17 ∨ j = 20) ∧ k = 99)) S SL16) → (c ≤ wz) → (wz < c + fu) → va_P G.1 vwCl (wX G ad SL16) H_10 → va_D A (wX G ad SL16) → va_S A s.heap H_10 locs_11 → lv_has ls 6 [(5, .int ((nI c))), (4, .int (v4)), (3, .ref (ad (9 + 2))), (0, .ref (ad 0)), (1, .int (o_)), (2, .int ((nI wz)))] → W p l e ({ frames := 7, cells := 0, slots := 0, locals := 200 } : Room) s m args below meth c₀ H_10 locs_11 0 0 Q (F0 m 16 ls []) := by
    intro fu
    induction fu with
    | zero =>
      intro c v4 SL16 H_10 locs_11 ls hXl16 hFl16 hk hf hP hD hS hl
      exact absurd hf (by omega)
    | succ fu ih =>
      intro c v4 SL16 H_10 locs_11 ls hXl16 hFl16 hk hf hP hD hS hl
      refine lv_iload hx hb (fk_get fk_cX11_paidWith_0 10 rfl) (lv_at hl 0 rfl) ?_
      refine lv_iload_n hx hb (fk_get fk_cX11_paidWith_0 11 rfl) rfl (lv_at hl 5 rfl) ?_
      refine lv_icmp_ge (tgt := 37) hx hb (fk_get fk_cX11_paidWith_0 12 rfl) (by decide) (fun c_12 => ?_) (fun c_12 => ?_)
      · have q_c_12 : wz ≤ c := ci_le (a := wz) (b := c) (by omega) (by omega) c_12
        refine lv_iload hx hb (fk_get fk_cX11_paidWith_0 20 rfl) (lv_at hl 1 rfl) ?_
        refine lv_aload_n hx hb (fk_get fk_cX11_paidWith_0 21 rfl) rfl (lv_at hl 2 rfl) ?_
        obtain ⟨n_13, en_13, bn_13⟩ := XI.ctr hXl16 (by decide : 2 < 3)
        refine va_get (D := G.1) (ci := 9) (v := va_rf ((fR SL16 (9 + 2) 7).map ad)) (C := RX7) (T := TX7) (N := 8) hx hb hT inX7 hown hK hP (9 + 2) (ix_at (lt71 (by omega)) (cX_shop (pk_shop (by decide : 2 < 3)))) rfl 7 (by decide) (hT _ m1_217) (fun _ h9 => h9) rfl (fk_get fk_cX11_paidWith_0 22 rfl) ?_
        rw [show va_rf ((fR SL16 (9 + 2) 7).map ad) = .ref (ad n_13) from by rw [en_13]; rfl]
        refine va_get (D := G.1) (ci := 3) (v := .int (fF SL16 n_13 0)) (C := RX1) (T := TX1) (N := 4) hx hb hT inX1 hown hK hP n_13 (ix_at (bn_13).2.1 (cX_ctr (bn_13).1 (bn_13).2.2.1)) rfl 0 (by decide) (hT _ m1_114) (fun _ h9 => h9) rfl (fk_get fk_cX11_paidWith_0 23 rfl) ?_
        refine lv_imul hx hb (fk_get fk_cX11_paidWith_0 24 rfl) ?_
        subst hQ
        have hpost : XI SL16 ∧ Fr (fun j k => (j = 11 ∧ 3 ≤ k ∧ k ≤ 7) ∨ (33 ≤ j ∧ j < 39 ∧ 2 ≤ k ∧ k ≤ 9) ∨ (51 ≤ j ∧ j < 57 ∧ k = 99) ∨ ((j = 17 ∨ j = 20) ∧ k = 99)) S SL16 ∧ True := by
          exact ⟨hXl16, hFl16, trivial⟩
        exact W.iret (v := (v4 * (fF SL16 n_13 0))) hx hb hr (fun t_ ht_ hW_ => ⟨⟨(v4 * (fF SL16 n_13 0)), SL16, rfl, hpost, by rw [ht_]; exact hP, va_K.moved hW_.alike hK, hD⟩, hS.F ht_⟩) hS.2.2 (fk_get fk_cX11_paidWith_0 25 rfl)
      have q_c_12 : c < wz := ci_nle (a := wz) (b := c) (by omega) (by omega) c_12
      refine lv_iload hx hb (fk_get fk_cX11_paidWith_0 13 rfl) (lv_at hl 1 rfl) ?_
      refine lv_aload_n hx hb (fk_get fk_cX11_paidWith_0 14 rfl) rfl (lv_at hl 2 rfl) ?_
      have hFc := va_self hD hS hA
      refine va_calli (va_runV (As := []) (rest := [.int (v4)]) ⟨hx, hb, hml, hown, hT⟩ (c_x7_makeSaturday l G ad SL16 H_10.size (2) ((by decide : 2 < 3)) (hXl16)) (tV 0 hT m3_202 m3_203 m3_204 m1_9 m3_205 rfl rfl (by decide +kernel) ⟨Nat.le_of_ble_eq_true rfl, Nat.le_of_ble_eq_true rfl⟩) ⟨PcW_blind, va_recv hK hP (ci := 9) (q0 := (9 + 2)) rfl (ix_at (lt71 (by omega)) (cX_shop (pk_shop (by decide : 2 < 3)))), PcW_of hP hK hD _⟩ rfl rfl hl.1 rfl (lv_room (Nat.le_of_ble_eq_true rfl)) (fk_get fk_cX11_paidWith_0 15 rfl) ⟨Nat.zero_le _, Nat.zero_le _⟩) hS (fun q _ h => hFc q h) hFc (fun r_14 S_16 t_ H locs ht_ hvm_ hw_15 hB_ hz_ hk_ hS => ?_)
      obtain ⟨hP, -, hD1_⟩ := hB_
      rw [ht_] at hP
      have hD : va_D A (wX G ad S_16) := hD1_.weaken (fun k q _ h => hFc q.1 h)
      try dsimp only at hw_15
      obtain ⟨hX_17, hF_18_, hw_15⟩ := hw_15
      have hF_18 : Fr (fun j k => (j = 11 ∧ 3 ≤ k ∧ k ≤ 7) ∨ (33 ≤ j ∧ j < 39 ∧ 2 ≤ k ∧ k ≤ 9) ∨ (51 ≤ j ∧ j < 57 ∧ k = 99) ∨ ((j = 17 ∨ j = 20) ∧ k = 99)) S S_16 := Fr.trans hFl16 (Fr.mono hF_18_ (fun j k h => by omega))
      refine lv_iadd hx hb (fk_get fk_cX11_paidWith_0 16 rfl) ?_
      refine lv_istore (lv' := [(4, .int ((v4 + r_14))), (5, .int ((nI c))), (3, .ref (ad (9 + 2))), (0, .ref (ad 0)), (1, .int (o_)), (2, .int ((nI wz)))]) hx hb (fk_get fk_cX11_paidWith_0 17 rfl) hl (by decide) rfl (fun ls hl => ?_)
      refine lv_iinc (v := (nI (c + 1))) (lv' := [(5, .int ((nI (c + 1)))), (4, .int ((v4 + r_14))), (3, .ref (ad (9 + 2))), (0, .ref (ad 0)), (1, .int (o_)), (2, .int ((nI wz)))]) hx hb (fk_get fk_cX11_paidWith_0 18 rfl) hl (k := 1) rfl ((nI_1 c)) (by decide) rfl (fun ls hl => ?_)
      refine lv_goto (tgt := 16) hx hb (fk_get fk_cX11_paidWith_0 19 rfl) (by decide) ?_
      exact ih (c + 1) ((v4 + r_14)) (S_16) _ _ ls (hX_17) (hF_18) (by omega) (by omega) hP hD hS (lv_sub hl [0, 1, 2, 3, 4, 5] rfl)
  exact lp_8 (wz + 1) (0) (0) (setF S_3 (9 + 2) 6 (o_)) _ _ ls (hX_6) (hF_7) (by omega) (by omega) hP hD hS (lv_sub hl [0, 1, 2, 3, 4, 5] rfl)
set_option maxHeartbeats 800000 in
set_option maxRecDepth 100000 in
theorem c_x11_isSeenWith (l : Launch) (G : GG) (ad : Nat → Nat) (S : FS) (sz : Nat) (n : Nat) (o_ x : Int32) (hn : fF S (9 + 0) 3 = nI n) (hn6 : n ≤ 6) (hX : XI S) : Met l yX11_isSeenWith (Cond.code yX11_isSeenWith cX11_isSeenWith 5 (some .boolean) :: TBL) ({ frames := 7, cells := 0, slots := 0, locals := 200 } : Room) (PcW G (wX G ad S) sz [.ref (ad 0), .int (o_), .int (x)]) (va_Qi (fun (r : Int32) (S' : FS) => XI S' ∧ Fr (fun j k => (j = 11 ∧ 3 ≤ k ∧ k ≤ 7) ∨ (33 ≤ j ∧ j < 39 ∧ 2 ≤ k ∧ k ≤ 9) ∨ (51 ≤ j ∧ j < 57 ∧ k = 99) ∨ ((j = 17 ∨ j = 20) ∧ k = 99)) S S' ∧ (r = 0 ∨ r = 1)) (fun S' t => BW G (va_A (wX G ad S) sz) (wX G ad S') t) (va_A (wX G ad S) sz)) 0 0 (va_A (wX G ad S) sz) := by
  refine Met.ofW (cc := cX11_isSeenWith) (maxL := 5) (ret := (some .boolean)) (by decide) rfl ?_
  intro p e s m args below meth c₀ s₁ B hml hv
  obtain ⟨rfl, hsz, hP, hK, hD0⟩ := hv
  have hx := B.exec
  have hb := B.bytes
  have hr := B.returns
  have hT : ∀ w ∈ TBL, w.before ([.ref (ad 0), .int (o_), .int (x)] : List Value).toArray s = true := fun w h => atoms_spec (ws := Cond.code yX11_isSeenWith cX11_isSeenWith 5 (some .boolean) :: TBL) B.pre w (List.mem_cons_of_mem _ h)
  have hown : s.vm.findClass "LittleMore" = some m.cls := findClass_of_methodNamed B.named
  have hlocks := B.notSynchronized
  subst hsz
  have hD := hD0.self (sz := s.heap.size)
  generalize hAe : va_A (wX G ad S) s.heap.size = A at hD ⊢
  have hA : ∀ q : Nat, s.heap.size ≤ q → A q := fun q h => by rw [← hAe]; exact Or.inr h
  have hS : va_S A s.heap s.heap [] := va_S.rf
  have hP : va_P G.1 vwCl (wX G ad S) s.heap := hP
  have hl := lv_entry ([.ref (ad 0), .int (o_), .int (x)]) (n := 5) (Nat.le_of_ble_eq_true rfl)
  rw [lg_entry_eq]
  generalize (lg_sl ([.ref (ad 0), .int (o_), .int (x)]) ++ List.replicate (5 - (lg_sl ([.ref (ad 0), .int (o_), .int (x)])).length) Slot.unset).toArray = ls at hl ⊢
  have hl : lv_has ls 5 [(0, .ref (ad 0)), (1, .int (o_)), (2, .int (x))] := hl
  refine W_abs (fun Q hQ => ?_)
  generalize ([.ref (ad 0), .int (o_), .int (x)] : List Value).toArray = args at hT hQ ⊢
  refine lv_aload_n hx hb (fk_get fk_cX11_isSeenWith_0 0 rfl) rfl (lv_at hl 0 rfl) ?_
  have hFc := va_self hD hS hA
  refine va_callr (va_runV (As := []) (rest := []) ⟨hx, hb, hml, hown, hT⟩ (c_x11_shopToTry l G ad S s.heap.size (n) (hn) (hn6) (hX)) (tV 0 hT m3_211 m3_213 mp_11 m1_1 m3_214 rfl rfl (by decide +kernel) ⟨Nat.le_of_ble_eq_true rfl, Nat.le_of_ble_eq_true rfl⟩) ⟨PcW_blind, va_recv hK hP (ci := 13) (q0 := 0) rfl (ix_at (lt71 (by omega)) (cX_0 G ad S)), PcW_of hP hK hD _⟩ rfl rfl hl.1 rfl (lv_room (Nat.le_of_ble_eq_true rfl)) (fk_get fk_cX11_isSeenWith_0 1 rfl) ⟨Nat.zero_le _, Nat.zero_le _⟩) hS (fun q _ h => hFc q h) hFc (fun S_3 r_1 t_ H locs ht_ hvm_ hw_2 hB_ hz_ hk_ hS => ?_)
  obtain ⟨hra_, hB_⟩ := hB_
  subst hra_
  obtain ⟨hP, -, hD1_⟩ := hB_
  rw [ht_] at hP
  have hD : va_D A (wX G ad S_3) := hD1_.weaken (fun k q _ h => hFc q.1 h)
  try dsimp only at hw_2
  obtain ⟨hX_4, hF_5_, hw_2⟩ := hw_2
  have hF_5 : Fr (fun j k => (j = 11 ∧ 3 ≤ k ∧ k ≤ 7) ∨ (33 ≤ j ∧ j < 39 ∧ 2 ≤ k ∧ k ≤ 9) ∨ (51 ≤ j ∧ j < 57 ∧ k = 99) ∨ ((j = 17 ∨ j = 20) ∧ k = 99)) S S_3 := Fr.trans (Fr.rf : Fr (fun j k => (j = 11 ∧ 3 ≤ k ∧ k ≤ 7) ∨ (33 ≤ j ∧ j < 39 ∧ 2 ≤ k ∧ k ≤ 9) ∨ (51 ≤ j ∧ j < 57 ∧ k = 99) ∨ ((j = 17 ∨ j = 20) ∧ k = 99)) S S) (Fr.mono hF_5_ (fun j k h => by omega))
  refine lv_astore_n (lv' := [(3, .ref (ad (9 + 2))), (0, .ref (ad 0)), (1, .int (o_)), (2, .int (x))]) hx hb (fk_get fk_cX11_isSeenWith_0 2 rfl) rfl hl (by decide) rfl (fun ls hl => ?_)
  refine lv_aload_n hx hb (fk_get fk_cX11_isSeenWith_0 3 rfl) rfl (lv_at hl 0 rfl) ?_
  refine lv_iload_n hx hb (fk_get fk_cX11_isSeenWith_0 4 rfl) rfl (lv_at hl 2 rfl) ?_
  refine va_put (D := G.1) (ci := 9) (v := .int (o_)) (ty := .int) (C := RX7) (T := TX7) (N := 8) hx hb hT inX7 tyX7 tyX7_ok nmX7 hown hK hP hD hS (9 + 2) (ix_at (lt71 (by omega)) (cX_shop (pk_shop (by decide : 2 < 3)))) rfl 6 (by decide) (hT _ m1_215) (fun _ h9 => h9) rfl (by decide +kernel) rfl rfl (Nat.le_of_ble_eq_true rfl) (fk_get fk_cX11_isSeenWith_0 5 rfl) (fun H locs hP hD hS => ?_)
  rw [pX_shop_6 (S := S_3) (lt71 (by omega)) (pk_shop (by decide : 2 < 3)) (o_)] at hP hD
  have hX_6 : XI (setF S_3 (9 + 2) 6 (o_)) := XI.sF hX_4 _ ⟨by omega, by omega, by omega, by omega, by omega, by omega, by omega, by omega⟩
  have hF_7 : Fr (fun j k => (j = 11 ∧ 3 ≤ k ∧ k ≤ 7) ∨ (33 ≤ j ∧ j < 39 ∧ 2 ≤ k ∧ k ≤ 9) ∨ (51 ≤ j ∧ j < 57 ∧ k = 99) ∨ ((j = 17 ∨ j = 20) ∧ k = 99)) S (setF S_3 (9 + 2) 6 (o_)) := Fr.sF hF_5 (by omega)
  refine lv_aload_n hx hb (fk_get fk_cX11_isSeenWith_0 6 rfl) rfl (lv_at hl 0 rfl) ?_
  refine lv_iload_n hx hb (fk_get fk_cX11_isSeenWith_0 7 rfl) rfl (lv_at hl 3 rfl) ?_
  obtain ⟨n_8, en_8, bn_8⟩ := XI.size hX_6 (by decide : 2 < 3)
  refine va_csq (W.runV (As := [.int (x)]) (rest := []) ⟨hx, hb, hml, hown, hT⟩ (c_x7_at l G ad (setF S_3 (9 + 2) 6 (o_)) H.size (2) (n_8) (x) ((by decide : 2 < 3)) (en_8) (bn_8) (hX_6)) (tV 1 hT m2_120 m2_121 m2_122 m1_9 m2_123 rfl rfl (by decide +kernel) ⟨Nat.le_of_ble_eq_true rfl, Nat.le_of_ble_eq_true rfl⟩) ⟨PcW_blind, va_recv hK hP (ci := 9) (q0 := (9 + 2)) rfl (ix_at (lt71 (by omega)) (cX_shop (pk_shop (by decide : 2 < 3)))), PcW_of hP hK hD _⟩ rfl rfl hl.1 rfl (lv_room (Nat.le_of_ble_eq_true rfl)) (fk_get fk_cX11_isSeenWith_0 8 rfl) ⟨Nat.zero_le _, Nat.zero_le _⟩) (fun r_9 hw_10 => ?_)
  try dsimp only at hw_10
  rcases hw_10 with ⟨j_12, hj_12, ej_12, rfl⟩ | ⟨rfl, hn_12⟩
  · rw [show va_rf (some (ad (21 + 6 * 2 + j_12))) = .ref (ad (21 + 6 * 2 + j_12)) from rfl]
    generalize hg_i_12 : 21 + 6 * 2 + j_12 = i_12
    have hp_i_12 : pk i_12 = 7 := by rw [← hg_i_12]; exact pk_c (by decide : 2 < 3) (show j_12 < 6 by omega)
    have hb_i_12 := pk7 hp_i_12
    refine lv_astore (lv' := [(4, .ref (ad i_12)), (3, .ref (ad (9 + 2))), (0, .ref (ad 0)), (1, .int (o_)), (2, .int (x))]) hx hb (fk_get fk_cX11_isSeenWith_0 9 rfl) hl (by decide) rfl (fun ls hl => ?_)
    refine lv_aload hx hb (fk_get fk_cX11_isSeenWith_0 10 rfl) (lv_at hl 0 rfl) ?_
    refine lv_ifnull hx hb (fk_get fk_cX11_isSeenWith_0 11 rfl) ?_
    refine lv_aload_n hx hb (fk_get fk_cX11_isSeenWith_0 12 rfl) rfl (lv_at hl 1 rfl) ?_
    refine lv_aload hx hb (fk_get fk_cX11_isSeenWith_0 13 rfl) (lv_at hl 0 rfl) ?_
    have hFc := va_self hD hS hA
    refine va_calli (va_runV (As := [.ref (ad i_12)]) (rest := []) ⟨hx, hb, hml, hown, hT⟩ (c_x7_cutsAreSeen l G ad (setF S_3 (9 + 2) 6 (o_)) H.size (2) (i_12) ((by decide : 2 < 3)) (hp_i_12) (hX_6)) (tV 1 hT m4_48 m4_49 m4_50 m1_9 m4_51 rfl rfl (by decide +kernel) ⟨Nat.le_of_ble_eq_true rfl, Nat.le_of_ble_eq_true rfl⟩) ⟨PcW_blind, va_recv hK hP (ci := 9) (q0 := (9 + 2)) rfl (ix_at (lt71 (by omega)) (cX_shop (pk_shop (by decide : 2 < 3)))), PcW_of hP hK hD _⟩ rfl rfl hl.1 rfl (lv_room (Nat.le_of_ble_eq_true rfl)) (fk_get fk_cX11_isSeenWith_0 14 rfl) ⟨Nat.zero_le _, Nat.zero_le _⟩) hS (fun q _ h => hFc q h) hFc (fun r_11 S_13 t_ H locs ht_ hvm_ hw_12 hB_ hz_ hk_ hS => ?_)
    obtain ⟨hP, -, hD1_⟩ := hB_
    rw [ht_] at hP
    have hD : va_D A (wX G ad S_13) := hD1_.weaken (fun k q _ h => hFc q.1 h)
    try dsimp only at hw_12
    obtain ⟨hX_14, hF_15_, hw_12⟩ := hw_12
    have hF_15 : Fr (fun j k => (j = 11 ∧ 3 ≤ k ∧ k ≤ 7) ∨ (33 ≤ j ∧ j < 39 ∧ 2 ≤ k ∧ k ≤ 9) ∨ (51 ≤ j ∧ j < 57 ∧ k = 99) ∨ ((j = 17 ∨ j = 20) ∧ k = 99)) S S_13 := Fr.trans hF_7 (Fr.mono hF_15_ (fun j k h => by omega))
    refine lv_if_eq (tgt := 35) hx hb (fk_get fk_cX11_isSeenWith_0 15 rfl) (by decide) (fun c_16 => ?_) (fun c_16 => ?_)
    · refine lv_iconst (v := 0) hx hb (fk_get fk_cX11_isSeenWith_0 18 rfl) (by decide) ?_
      subst hQ
      have hpost : XI S_13 ∧ Fr (fun j k => (j = 11 ∧ 3 ≤ k ∧ k ≤ 7) ∨ (33 ≤ j ∧ j < 39 ∧ 2 ≤ k ∧ k ≤ 9) ∨ (51 ≤ j ∧ j < 57 ∧ k = 99) ∨ ((j = 17 ∨ j = 20) ∧ k = 99)) S S_13 ∧ ((0 : Int32) = 0 ∨ (0 : Int32) = 1) := by
        exact ⟨hX_14, hF_15, (by first | exact Or.inl rfl | exact Or.inr rfl)⟩
      exact W.zret (v := 0) hx hb hr rfl (fun t_ ht_ hW_ => ⟨⟨0, S_13, rfl, hpost, by rw [ht_]; exact hP, va_K.moved hW_.alike hK, hD⟩, hS.F ht_⟩) hS.2.2 (fk_get fk_cX11_isSeenWith_0 19 rfl)
    refine lv_iconst (v := 1) hx hb (fk_get fk_cX11_isSeenWith_0 16 rfl) (by decide) ?_
    refine lv_goto (tgt := 36) hx hb (fk_get fk_cX11_isSeenWith_0 17 rfl) (by decide) ?_
    subst hQ
    have hpost : XI S_13 ∧ Fr (fun j k => (j = 11 ∧ 3 ≤ k ∧ k ≤ 7) ∨ (33 ≤ j ∧ j < 39 ∧ 2 ≤ k ∧ k ≤ 9) ∨ (51 ≤ j ∧ j < 57 ∧ k = 99) ∨ ((j = 17 ∨ j = 20) ∧ k = 99)) S S_13 ∧ ((1 : Int32) = 0 ∨ (1 : Int32) = 1) := by
      exact ⟨hX_14, hF_15, (by first | exact Or.inl rfl | exact Or.inr rfl)⟩
    exact W.zret (v := 1) hx hb hr rfl (fun t_ ht_ hW_ => ⟨⟨1, S_13, rfl, hpost, by rw [ht_]; exact hP, va_K.moved hW_.alike hK, hD⟩, hS.F ht_⟩) hS.2.2 (fk_get fk_cX11_isSeenWith_0 19 rfl)
  rw [show va_rf none = .null from rfl]
  refine lv_astoreN (lv' := [(4, .null), (3, .ref (ad (9 + 2))), (0, .ref (ad 0)), (1, .int (o_)), (2, .int (x))]) hx hb (fk_get fk_cX11_isSeenWith_0 9 rfl) hl (by decide) rfl (fun ls hl => ?_)
  refine lv_aloadN hx hb (fk_get fk_cX11_isSeenWith_0 10 rfl) (lv_at hl 0 rfl) ?_
  refine lv_ifnullN (tgt := 35) hx hb (fk_get fk_cX11_isSeenWith_0 11 rfl) (by decide) ?_
  refine lv_iconst (v := 0) hx hb (fk_get fk_cX11_isSeenWith_0 18 rfl) (by decide) ?_
  subst hQ
  have hpost : XI (setF S_3 (9 + 2) 6 (o_)) ∧ Fr (fun j k => (j = 11 ∧ 3 ≤ k ∧ k ≤ 7) ∨ (33 ≤ j ∧ j < 39 ∧ 2 ≤ k ∧ k ≤ 9) ∨ (51 ≤ j ∧ j < 57 ∧ k = 99) ∨ ((j = 17 ∨ j = 20) ∧ k = 99)) S (setF S_3 (9 + 2) 6 (o_)) ∧ ((0 : Int32) = 0 ∨ (0 : Int32) = 1) := by
    exact ⟨hX_6, hF_7, (by first | exact Or.inl rfl | exact Or.inr rfl)⟩
  exact W.zret (v := 0) hx hb hr rfl (fun t_ ht_ hW_ => ⟨⟨0, (setF S_3 (9 + 2) 6 (o_)), rfl, hpost, by rw [ht_]; exact hP, va_K.moved hW_.alike hK, hD⟩, hS.F ht_⟩) hS.2.2 (fk_get fk_cX11_isSeenWith_0 19 rfl)
theorem c_x11_shopBehindE (l : Launch) (G : GG) (ad : Nat → Nat) (S : FS) (sz : Nat) (n wz : Nat) (hn : fF S (9 + 0) 3 = nI n) (hn6 : n ≤ 6) (hw40 : wz ≤ 40) (x_ : Int32) (hxw : x_ = nI wz) (hX : XI S) : Met l yX11_shopBehind (Cond.code yX11_shopBehind cX11_shopBehind 4 (some (.object "LittleMore$Shop")) :: TBL) ({ frames := 7, cells := 0, slots := 0, locals := 200 } : Room) (PcW G (wX G ad S) sz [.ref (ad 0), .int (x_)]) (va_Qr (fun (S' : FS) => XI S' ∧ Fr (fun j k => (j = 11 ∧ 3 ≤ k ∧ k ≤ 7) ∨ (33 ≤ j ∧ j < 39 ∧ 2 ≤ k ∧ k ≤ 9) ∨ (51 ≤ j ∧ j < 57 ∧ k = 99) ∨ ((j = 17 ∨ j = 20) ∧ k = 99)) S S' ∧ True) (fun S' a t => a = ad (9 + 2) ∧ BW G (va_A (wX G ad S) sz) (wX G ad S') t) (va_A (wX G ad S) sz)) 0 0 (va_A (wX G ad S) sz) := by
  subst hxw
  exact c_x11_shopBehind l G ad S sz n wz hn hn6 hw40 hX
theorem c_x11_paidWithE (l : Launch) (G : GG) (ad : Nat → Nat) (S : FS) (sz : Nat) (n wz : Nat) (o_ : Int32) (hn : fF S (9 + 0) 3 = nI n) (hn6 : n ≤ 6) (hw40 : wz ≤ 40) (x_ : Int32) (hxw : x_ = nI wz) (hX : XI S) : Met l yX11_paidWith (Cond.code yX11_paidWith cX11_paidWith 6 (some .int) :: TBL) ({ frames := 7, cells := 0, slots := 0, locals := 200 } : Room) (PcW G (wX G ad S) sz [.ref (ad 0), .int (o_), .int (x_)]) (va_Qi (fun (r : Int32) (S' : FS) => XI S' ∧ Fr (fun j k => (j = 11 ∧ 3 ≤ k ∧ k ≤ 7) ∨ (33 ≤ j ∧ j < 39 ∧ 2 ≤ k ∧ k ≤ 9) ∨ (51 ≤ j ∧ j < 57 ∧ k = 99) ∨ ((j = 17 ∨ j = 20) ∧ k = 99)) S S' ∧ True) (fun S' t => BW G (va_A (wX G ad S) sz) (wX G ad S') t) (va_A (wX G ad S) sz)) 0 0 (va_A (wX G ad S) sz) := by
  subst hxw
  exact c_x11_paidWith l G ad S sz n wz o_ hn hn6 hw40 hX
set_option maxHeartbeats 800000 in
set_option maxRecDepth 100000 in
theorem c_x11_on (l : Launch) (G : GG) (ad : Nat → Nat) (S : FS) (sz : Nat) (n : Nat) (x : Int32) (y_ : Int32) (w_ : Int32) (hn : fF S (9 + 0) 3 = nI n) (hn6 : n ≤ 6) (hX : XI S) : Met l yX11_on (Cond.code yX11_on cX11_on 8 (some .int) :: TBL) ({ frames := 7, cells := 0, slots := 0, locals := 202 } : Room) (PcW G (wX G ad S) sz [.ref (ad 0), .int (x), .int (y_), .int (w_)]) (va_Qi (fun (r : Int32) (S' : FS) => XI S' ∧ Fr (fun j k => (j = 11 ∧ 3 ≤ k ∧ k ≤ 7) ∨ (33 ≤ j ∧ j < 39 ∧ 2 ≤ k ∧ k ≤ 9) ∨ (51 ≤ j ∧ j < 57 ∧ k = 99) ∨ ((j = 17 ∨ j = 20) ∧ k = 99)) S S' ∧ True) (fun S' t => BW G (va_A (wX G ad S) sz) (wX G ad S') t) (va_A (wX G ad S) sz)) 0 0 (va_A (wX G ad S) sz) := by
  refine Met.ofW (cc := cX11_on) (maxL := 8) (ret := (some .int)) (by decide) rfl ?_
  intro p e s m args below meth c₀ s₁ B hml hv
  obtain ⟨rfl, hsz, hP, hK, hD0⟩ := hv
  have hx := B.exec
  have hb := B.bytes
  have hr := B.returns
  have hT : ∀ w ∈ TBL, w.before ([.ref (ad 0), .int (x), .int (y_), .int (w_)] : List Value).toArray s = true := fun w h => atoms_spec (ws := Cond.code yX11_on cX11_on 8 (some .int) :: TBL) B.pre w (List.mem_cons_of_mem _ h)
  have hown : s.vm.findClass "LittleMore" = some m.cls := findClass_of_methodNamed B.named
  have hlocks := B.notSynchronized
  subst hsz
  have hD := hD0.self (sz := s.heap.size)
  generalize hAe : va_A (wX G ad S) s.heap.size = A at hD ⊢
  have hA : ∀ q : Nat, s.heap.size ≤ q → A q := fun q h => by rw [← hAe]; exact Or.inr h
  have hS : va_S A s.heap s.heap [] := va_S.rf
  have hP : va_P G.1 vwCl (wX G ad S) s.heap := hP
  have hl := lv_entry ([.ref (ad 0), .int (x), .int (y_), .int (w_)]) (n := 8) (Nat.le_of_ble_eq_true rfl)
  rw [lg_entry_eq]
  generalize (lg_sl ([.ref (ad 0), .int (x), .int (y_), .int (w_)]) ++ List.replicate (8 - (lg_sl ([.ref (ad 0), .int (x), .int (y_), .int (w_)])).length) Slot.unset).toArray = ls at hl ⊢
  have hl : lv_has ls 8 [(0, .ref (ad 0)), (1, .int (x)), (2, .int (y_)), (3, .int (w_))] := hl
  refine W_abs (fun Q hQ => ?_)
  generalize ([.ref (ad 0), .int (x), .int (y_), .int (w_)] : List Value).toArray = args at hT hQ ⊢
  refine lv_aload_n hx hb (fk_get fk_cX11_on_0 0 rfl) rfl (lv_at hl 0 rfl) ?_
  have hFc := va_self hD hS hA
  refine va_callr (va_runV (As := []) (rest := []) ⟨hx, hb, hml, hown, hT⟩ (c_x11_shopToTry l G ad S s.heap.size (n) (hn) (hn6) (hX)) (tV 0 hT m3_211 m3_213 mp_11 m1_1 m3_214 rfl rfl (by decide +kernel) ⟨Nat.le_of_ble_eq_true rfl, Nat.le_of_ble_eq_true rfl⟩) ⟨PcW_blind, va_recv hK hP (ci := 13) (q0 := 0) rfl (ix_at (lt71 (by omega)) (cX_0 G ad S)), PcW_of hP hK hD _⟩ rfl rfl hl.1 rfl (lv_room (Nat.le_of_ble_eq_true rfl)) (fk_get fk_cX11_on_0 1 rfl) ⟨Nat.zero_le _, Nat.zero_le _⟩) hS (fun q _ h => hFc q h) hFc (fun S_3 r_1 t_ H locs ht_ hvm_ hw_2 hB_ hz_ hk_ hS => ?_)
  obtain ⟨hra_, hB_⟩ := hB_
  subst hra_
  obtain ⟨hP, -, hD1_⟩ := hB_
  rw [ht_] at hP
  have hD : va_D A (wX G ad S_3) := hD1_.weaken (fun k q _ h => hFc q.1 h)
  try dsimp only at hw_2
  obtain ⟨hX_4, hF_5_, hw_2⟩ := hw_2
  have hF_5 : Fr (fun j k => (j = 11 ∧ 3 ≤ k ∧ k ≤ 7) ∨ (33 ≤ j ∧ j < 39 ∧ 2 ≤ k ∧ k ≤ 9) ∨ (51 ≤ j ∧ j < 57 ∧ k = 99) ∨ ((j = 17 ∨ j = 20) ∧ k = 99)) S S_3 := Fr.trans (Fr.rf : Fr (fun j k => (j = 11 ∧ 3 ≤ k ∧ k ≤ 7) ∨ (33 ≤ j ∧ j < 39 ∧ 2 ≤ k ∧ k ≤ 9) ∨ (51 ≤ j ∧ j < 57 ∧ k = 99) ∨ ((j = 17 ∨ j = 20) ∧ k = 99)) S S) (Fr.mono hF_5_ (fun j k h => by omega))
  refine lv_astore (lv' := [(4, .ref (ad (9 + 2))), (0, .ref (ad 0)), (1, .int (x)), (2, .int (y_)), (3, .int (w_))]) hx hb (fk_get fk_cX11_on_0 2 rfl) hl (by decide) rfl (fun ls hl => ?_)
  refine lv_aload hx hb (fk_get fk_cX11_on_0 3 rfl) (lv_at hl 0 rfl) ?_
  refine lv_iload_n hx hb (fk_get fk_cX11_on_0 4 rfl) rfl (lv_at hl 2 rfl) ?_
  obtain ⟨n_6, en_6, bn_6⟩ := XI.size hX_4 (by decide : 2 < 3)
  refine va_csq (W.runV (As := [.int (x)]) (rest := []) ⟨hx, hb, hml, hown, hT⟩ (c_x7_at l G ad S_3 H.size (2) (n_6) (x) ((by decide : 2 < 3)) (en_6) (bn_6) (hX_4)) (tV 1 hT m2_120 m2_121 m2_122 m1_9 m2_123 rfl rfl (by decide +kernel) ⟨Nat.le_of_ble_eq_true rfl, Nat.le_of_ble_eq_true rfl⟩) ⟨PcW_blind, va_recv hK hP (ci := 9) (q0 := (9 + 2)) rfl (ix_at (lt71 (by omega)) (cX_shop (pk_shop (by decide : 2 < 3)))), PcW_of hP hK hD _⟩ rfl rfl hl.1 rfl (lv_room (Nat.le_of_ble_eq_true rfl)) (fk_get fk_cX11_on_0 5 rfl) ⟨Nat.zero_le _, Nat.zero_le _⟩) (fun r_7 hw_8 => ?_)
  try dsimp only at hw_8
  rcases hw_8 with ⟨j_9, hj_9, ej_9, rfl⟩ | ⟨rfl, hn_9⟩
  · rw [show va_rf (some (ad (21 + 6 * 2 + j_9))) = .ref (ad (21 + 6 * 2 + j_9)) from rfl]
    generalize hg_i_9 : 21 + 6 * 2 + j_9 = i_9
    have hp_i_9 : pk i_9 = 7 := by rw [← hg_i_9]; exact pk_c (by decide : 2 < 3) (show j_9 < 6 by omega)
    have hb_i_9 := pk7 hp_i_9
    refine lv_astore (lv' := [(5, .ref (ad i_9)), (4, .ref (ad (9 + 2))), (0, .ref (ad 0)), (1, .int (x)), (2, .int (y_)), (3, .int (w_))]) hx hb (fk_get fk_cX11_on_0 6 rfl) hl (by decide) rfl (fun ls hl => ?_)
    refine lv_aload hx hb (fk_get fk_cX11_on_0 7 rfl) (lv_at hl 0 rfl) ?_
    refine lv_ifnull hx hb (fk_get fk_cX11_on_0 8 rfl) ?_
    refine lv_iload_n hx hb (fk_get fk_cX11_on_0 9 rfl) rfl (lv_at hl 5 rfl) ?_
    refine lv_iconst (v := 0) hx hb (fk_get fk_cX11_on_0 10 rfl) (by decide) ?_
    refine lv_iconst (v := 4) hx hb (fk_get fk_cX11_on_0 11 rfl) (by decide) ?_
    refine vp_callSi (W.runS (As := [.int (w_), .int (0), .int (4)]) (rest := []) ⟨hx, hb, hml, hown, hT⟩ (c_xisOutside l (w_) (0) (4) ) (tS 3 hT m2_108 m2_109 m1_1 m2_110 rfl rfl (by decide +kernel) ⟨Nat.le_of_ble_eq_true rfl, Nat.le_of_ble_eq_true rfl⟩) ⟨PcN_blind, PcN_of _ _ _⟩ rfl rfl hl.1 rfl (lv_room (Nat.le_of_ble_eq_true rfl)) (fk_get fk_cX11_on_0 12 rfl) ⟨Nat.zero_le _, Nat.zero_le _⟩) (fun r_9 hw_10 => ?_)
    try dsimp only at hw_10
    refine lv_if_eq (tgt := 30) hx hb (fk_get fk_cX11_on_0 13 rfl) (by decide) (fun c_11 => ?_) (fun c_11 => ?_)
    · have p_c_11 := if1_f hw_10 c_11
      refine lv_iload_n hx hb (fk_get fk_cX11_on_0 16 rfl) rfl (lv_at hl 4 rfl) ?_
      refine lv_iconst (v := 0) hx hb (fk_get fk_cX11_on_0 17 rfl) (by decide) ?_
      refine lv_bipush (v := 40) hx hb (fk_get fk_cX11_on_0 18 rfl) (by decide) ?_
      refine vp_callSi (W.runS (As := [.int (y_), .int (0), .int (40)]) (rest := []) ⟨hx, hb, hml, hown, hT⟩ (c_xisOutside l (y_) (0) (40) ) (tS 3 hT m2_108 m2_109 m1_1 m2_110 rfl rfl (by decide +kernel) ⟨Nat.le_of_ble_eq_true rfl, Nat.le_of_ble_eq_true rfl⟩) ⟨PcN_blind, PcN_of _ _ _⟩ rfl rfl hl.1 rfl (lv_room (Nat.le_of_ble_eq_true rfl)) (fk_get fk_cX11_on_0 19 rfl) ⟨Nat.zero_le _, Nat.zero_le _⟩) (fun r_12 hw_13 => ?_)
      try dsimp only at hw_13
      refine lv_if_eq (tgt := 43) hx hb (fk_get fk_cX11_on_0 20 rfl) (by decide) (fun c_14 => ?_) (fun c_14 => ?_)
      · have p_c_14 := if1_f hw_13 c_14
        obtain ⟨wz, hw40, ew⟩ := out_n (b := 40) p_c_14 (by decide)
        refine lv_aload hx hb (fk_get fk_cX11_on_0 23 rfl) (lv_at hl 0 rfl) ?_
        refine va_get (D := G.1) (ci := 5) (v := .int (fF S_3 i_9 7)) (C := RX3) (T := TX3) (N := 10) hx hb hT inX3 hown hK hP i_9 (ix_at (lt71 (by omega)) (cX_cust hp_i_9)) rfl 7 (by decide) (hT _ m1_171) (fun _ h9 => h9) rfl (fk_get fk_cX11_on_0 24 rfl) ?_
        refine lv_istore (lv' := [(6, .int ((fF S_3 i_9 7))), (5, .ref (ad i_9)), (4, .ref (ad (9 + 2))), (0, .ref (ad 0)), (1, .int (x)), (2, .int (y_)), (3, .int (w_))]) hx hb (fk_get fk_cX11_on_0 25 rfl) hl (by decide) rfl (fun ls hl => ?_)
        refine lv_aload hx hb (fk_get fk_cX11_on_0 26 rfl) (lv_at hl 2 rfl) ?_
        refine lv_aload hx hb (fk_get fk_cX11_on_0 27 rfl) (lv_at hl 1 rfl) ?_
        refine lv_iload_n hx hb (fk_get fk_cX11_on_0 28 rfl) rfl (lv_at hl 5 rfl) ?_
        have hFc := va_self hD hS hA
        refine va_calli (va_runV (As := [.ref (ad i_9), .int (y_)]) (rest := []) ⟨hx, hb, hml, hown, hT⟩ (c_x7_makeVisitsAloneE l G ad S_3 H.size (2) (i_9) (wz) ((by decide : 2 < 3)) (hp_i_9) (by omega) (y_) (ew) (hX_4)) (tV 2 hT m3_225 m3_226 m3_227 m1_9 m3_228 rfl rfl (by decide +kernel) ⟨Nat.le_of_ble_eq_true rfl, Nat.le_of_ble_eq_true rfl⟩) ⟨PcW_blind, va_recv hK hP (ci := 9) (q0 := (9 + 2)) rfl (ix_at (lt71 (by omega)) (cX_shop (pk_shop (by decide : 2 < 3)))), PcW_of hP hK hD _⟩ rfl rfl hl.1 rfl (lv_room (Nat.le_of_ble_eq_true rfl)) (fk_get fk_cX11_on_0 29 rfl) ⟨Nat.zero_le _, Nat.zero_le _⟩) hS (fun q _ h => hFc q h) hFc (fun r_15 S_17 t_ H locs ht_ hvm_ hw_16 hB_ hz_ hk_ hS => ?_)
        obtain ⟨hP, -, hD1_⟩ := hB_
        rw [ht_] at hP
        have hD : va_D A (wX G ad S_17) := hD1_.weaken (fun k q _ h => hFc q.1 h)
        try dsimp only at hw_16
        obtain ⟨hX_18, hF_19_, hw_16⟩ := hw_16
        have hF_19 : Fr (fun j k => (j = 11 ∧ 3 ≤ k ∧ k ≤ 7) ∨ (33 ≤ j ∧ j < 39 ∧ 2 ≤ k ∧ k ≤ 9) ∨ (51 ≤ j ∧ j < 57 ∧ k = 99) ∨ ((j = 17 ∨ j = 20) ∧ k = 99)) S S_17 := Fr.trans hF_5 (Fr.mono hF_19_ (fun j k h => by omega))
        refine lv_istore (lv' := [(7, .int (r_15)), (6, .int ((fF S_3 i_9 7))), (5, .ref (ad i_9)), (4, .ref (ad (9 + 2))), (0, .ref (ad 0)), (1, .int (x)), (2, .int (y_)), (3, .int (w_))]) hx hb (fk_get fk_cX11_on_0 30 rfl) hl (by decide) rfl (fun ls hl => ?_)
        refine lv_iload_n hx hb (fk_get fk_cX11_on_0 31 rfl) rfl (lv_at hl 7 rfl) ?_
        by_cases c_20 : w_ = (0 : Int32)
        · refine lv_tableIn (off := 31) (tgt := 92) hx hb (dk_get dk_cX11_on_0 0 rfl) (by rw [c_20]; decide) (by rw [c_20]; decide) (by rw [c_20]; rfl) (by decide) ?_
          refine lv_iload hx hb (fk_get fk_cX11_on_1 0 rfl) (lv_at hl 0 rfl) ?_
          subst hQ
          have hpost : XI S_17 ∧ Fr (fun j k => (j = 11 ∧ 3 ≤ k ∧ k ≤ 7) ∨ (33 ≤ j ∧ j < 39 ∧ 2 ≤ k ∧ k ≤ 9) ∨ (51 ≤ j ∧ j < 57 ∧ k = 99) ∨ ((j = 17 ∨ j = 20) ∧ k = 99)) S S_17 ∧ True := by
            exact ⟨hX_18, hF_19, trivial⟩
          exact W.iret (v := r_15) hx hb hr (fun t_ ht_ hW_ => ⟨⟨r_15, S_17, rfl, hpost, by rw [ht_]; exact hP, va_K.moved hW_.alike hK, hD⟩, hS.F ht_⟩) hS.2.2 (fk_get fk_cX11_on_1 1 rfl)
        by_cases c_21 : w_ = (1 : Int32)
        · refine lv_tableIn (off := 34) (tgt := 95) hx hb (dk_get dk_cX11_on_0 0 rfl) (by rw [c_21]; decide) (by rw [c_21]; decide) (by rw [c_21]; rfl) (by decide) ?_
          refine lv_iload hx hb (fk_get fk_cX11_on_1 2 rfl) (lv_at hl 0 rfl) ?_
          refine lv_aload hx hb (fk_get fk_cX11_on_1 3 rfl) (lv_at hl 3 rfl) ?_
          obtain ⟨n_22, en_22, bn_22⟩ := XI.ctr hX_18 (by decide : 2 < 3)
          refine va_get (D := G.1) (ci := 9) (v := va_rf ((fR S_17 (9 + 2) 7).map ad)) (C := RX7) (T := TX7) (N := 8) hx hb hT inX7 hown hK hP (9 + 2) (ix_at (lt71 (by omega)) (cX_shop (pk_shop (by decide : 2 < 3)))) rfl 7 (by decide) (hT _ m1_217) (fun _ h9 => h9) rfl (fk_get fk_cX11_on_1 4 rfl) ?_
          rw [show va_rf ((fR S_17 (9 + 2) 7).map ad) = .ref (ad n_22) from by rw [en_22]; rfl]
          refine va_get (D := G.1) (ci := 3) (v := .int (fF S_17 n_22 0)) (C := RX1) (T := TX1) (N := 4) hx hb hT inX1 hown hK hP n_22 (ix_at (bn_22).2.1 (cX_ctr (bn_22).1 (bn_22).2.2.1)) rfl 0 (by decide) (hT _ m1_114) (fun _ h9 => h9) rfl (fk_get fk_cX11_on_1 5 rfl) ?_
          refine lv_imul hx hb (fk_get fk_cX11_on_1 6 rfl) ?_
          subst hQ
          have hpost : XI S_17 ∧ Fr (fun j k => (j = 11 ∧ 3 ≤ k ∧ k ≤ 7) ∨ (33 ≤ j ∧ j < 39 ∧ 2 ≤ k ∧ k ≤ 9) ∨ (51 ≤ j ∧ j < 57 ∧ k = 99) ∨ ((j = 17 ∨ j = 20) ∧ k = 99)) S S_17 ∧ True := by
            exact ⟨hX_18, hF_19, trivial⟩
          exact W.iret (v := (r_15 * (fF S_17 n_22 0))) hx hb hr (fun t_ ht_ hW_ => ⟨⟨(r_15 * (fF S_17 n_22 0)), S_17, rfl, hpost, by rw [ht_]; exact hP, va_K.moved hW_.alike hK, hD⟩, hS.F ht_⟩) hS.2.2 (fk_get fk_cX11_on_1 7 rfl)
        by_cases c_23 : w_ = (2 : Int32)
        · refine lv_tableIn (off := 46) (tgt := 107) hx hb (dk_get dk_cX11_on_0 0 rfl) (by rw [c_23]; decide) (by rw [c_23]; decide) (by rw [c_23]; rfl) (by decide) ?_
          refine lv_aload hx hb (fk_get fk_cX11_on_1 8 rfl) (lv_at hl 2 rfl) ?_
          refine va_get (D := G.1) (ci := 5) (v := .int (fF S_17 i_9 7)) (C := RX3) (T := TX3) (N := 10) hx hb hT inX3 hown hK hP i_9 (ix_at (lt71 (by omega)) (cX_cust hp_i_9)) rfl 7 (by decide) (hT _ m1_171) (fun _ h9 => h9) rfl (fk_get fk_cX11_on_1 9 rfl) ?_
          refine lv_iload hx hb (fk_get fk_cX11_on_1 10 rfl) (lv_at hl 1 rfl) ?_
          refine lv_isub hx hb (fk_get fk_cX11_on_1 11 rfl) ?_
          subst hQ
          have hpost : XI S_17 ∧ Fr (fun j k => (j = 11 ∧ 3 ≤ k ∧ k ≤ 7) ∨ (33 ≤ j ∧ j < 39 ∧ 2 ≤ k ∧ k ≤ 9) ∨ (51 ≤ j ∧ j < 57 ∧ k = 99) ∨ ((j = 17 ∨ j = 20) ∧ k = 99)) S S_17 ∧ True := by
            exact ⟨hX_18, hF_19, trivial⟩
          exact W.iret (v := ((fF S_17 i_9 7) - (fF S_3 i_9 7))) hx hb hr (fun t_ ht_ hW_ => ⟨⟨((fF S_17 i_9 7) - (fF S_3 i_9 7)), S_17, rfl, hpost, by rw [ht_]; exact hP, va_K.moved hW_.alike hK, hD⟩, hS.F ht_⟩) hS.2.2 (fk_get fk_cX11_on_1 12 rfl)
        by_cases c_24 : w_ = (3 : Int32)
        · refine lv_tableIn (off := 55) (tgt := 116) hx hb (dk_get dk_cX11_on_0 0 rfl) (by rw [c_24]; decide) (by rw [c_24]; decide) (by rw [c_24]; rfl) (by decide) ?_
          refine lv_aload hx hb (fk_get fk_cX11_on_1 13 rfl) (lv_at hl 2 rfl) ?_
          refine va_get (D := G.1) (ci := 5) (v := .int (fF S_17 i_9 5)) (C := RX3) (T := TX3) (N := 10) hx hb hT inX3 hown hK hP i_9 (ix_at (lt71 (by omega)) (cX_cust hp_i_9)) rfl 5 (by decide) (hT _ m1_160) (fun _ h9 => h9) rfl (fk_get fk_cX11_on_1 14 rfl) ?_
          subst hQ
          have hpost : XI S_17 ∧ Fr (fun j k => (j = 11 ∧ 3 ≤ k ∧ k ≤ 7) ∨ (33 ≤ j ∧ j < 39 ∧ 2 ≤ k ∧ k ≤ 9) ∨ (51 ≤ j ∧ j < 57 ∧ k = 99) ∨ ((j = 17 ∨ j = 20) ∧ k = 99)) S S_17 ∧ True := by
            exact ⟨hX_18, hF_19, trivial⟩
          exact W.iret (v := (fF S_17 i_9 5)) hx hb hr (fun t_ ht_ hW_ => ⟨⟨(fF S_17 i_9 5), S_17, rfl, hpost, by rw [ht_]; exact hP, va_K.moved hW_.alike hK, hD⟩, hS.F ht_⟩) hS.2.2 (fk_get fk_cX11_on_1 15 rfl)
        have o_25 : (w_).toInt < 0 ∨ 3 < (w_).toInt := by
          have qc_20 : ¬ (w_).toInt = 0 := lv_neT c_20 (by decide)
          have qc_21 : ¬ (w_).toInt = 1 := lv_neT c_21 (by decide)
          have qc_23 : ¬ (w_).toInt = 2 := lv_neT c_23 (by decide)
          have qc_24 : ¬ (w_).toInt = 3 := lv_neT c_24 (by decide)
          omega
        refine lv_tableOut (tgt := 122) hx hb (dk_get dk_cX11_on_0 0 rfl) o_25 (by decide) ?_
        refine lv_aload hx hb (fk_get fk_cX11_on_1 16 rfl) (lv_at hl 2 rfl) ?_
        refine va_get (D := G.1) (ci := 5) (v := .int (fF S_17 i_9 6)) (C := RX3) (T := TX3) (N := 10) hx hb hT inX3 hown hK hP i_9 (ix_at (lt71 (by omega)) (cX_cust hp_i_9)) rfl 6 (by decide) (hT _ m1_166) (fun _ h9 => h9) rfl (fk_get fk_cX11_on_1 17 rfl) ?_
        subst hQ
        have hpost : XI S_17 ∧ Fr (fun j k => (j = 11 ∧ 3 ≤ k ∧ k ≤ 7) ∨ (33 ≤ j ∧ j < 39 ∧ 2 ≤ k ∧ k ≤ 9) ∨ (51 ≤ j ∧ j < 57 ∧ k = 99) ∨ ((j = 17 ∨ j = 20) ∧ k = 99)) S S_17 ∧ True := by
          exact ⟨hX_18, hF_19, trivial⟩
        exact W.iret (v := (fF S_17 i_9 6)) hx hb hr (fun t_ ht_ hW_ => ⟨⟨(fF S_17 i_9 6), S_17, rfl, hpost, by rw [ht_]; exact hP, va_K.moved hW_.alike hK, hD⟩, hS.F ht_⟩) hS.2.2 (fk_get fk_cX11_on_1 18 rfl)
      have p_c_14 := if1_t hw_13 c_14
      refine lv_bipush (v := (-2)) hx hb (fk_get fk_cX11_on_0 21 rfl) (by decide) ?_
      subst hQ
      have hpost : XI S_3 ∧ Fr (fun j k => (j = 11 ∧ 3 ≤ k ∧ k ≤ 7) ∨ (33 ≤ j ∧ j < 39 ∧ 2 ≤ k ∧ k ≤ 9) ∨ (51 ≤ j ∧ j < 57 ∧ k = 99) ∨ ((j = 17 ∨ j = 20) ∧ k = 99)) S S_3 ∧ True := by
        exact ⟨hX_4, hF_5, trivial⟩
      exact W.iret (v := (-2)) hx hb hr (fun t_ ht_ hW_ => ⟨⟨(-2), S_3, rfl, hpost, by rw [ht_]; exact hP, va_K.moved hW_.alike hK, hD⟩, hS.F ht_⟩) hS.2.2 (fk_get fk_cX11_on_0 22 rfl)
    have p_c_11 := if1_t hw_10 c_11
    refine lv_iconst (v := (-1)) hx hb (fk_get fk_cX11_on_0 14 rfl) (by decide) ?_
    subst hQ
    have hpost : XI S_3 ∧ Fr (fun j k => (j = 11 ∧ 3 ≤ k ∧ k ≤ 7) ∨ (33 ≤ j ∧ j < 39 ∧ 2 ≤ k ∧ k ≤ 9) ∨ (51 ≤ j ∧ j < 57 ∧ k = 99) ∨ ((j = 17 ∨ j = 20) ∧ k = 99)) S S_3 ∧ True := by
      exact ⟨hX_4, hF_5, trivial⟩
    exact W.iret (v := (-1)) hx hb hr (fun t_ ht_ hW_ => ⟨⟨(-1), S_3, rfl, hpost, by rw [ht_]; exact hP, va_K.moved hW_.alike hK, hD⟩, hS.F ht_⟩) hS.2.2 (fk_get fk_cX11_on_0 15 rfl)
  rw [show va_rf none = .null from rfl]
  refine lv_astoreN (lv' := [(5, .null), (4, .ref (ad (9 + 2))), (0, .ref (ad 0)), (1, .int (x)), (2, .int (y_)), (3, .int (w_))]) hx hb (fk_get fk_cX11_on_0 6 rfl) hl (by decide) rfl (fun ls hl => ?_)
  refine lv_aloadN hx hb (fk_get fk_cX11_on_0 7 rfl) (lv_at hl 0 rfl) ?_
  refine lv_ifnullN (tgt := 28) hx hb (fk_get fk_cX11_on_0 8 rfl) (by decide) ?_
  refine lv_iconst (v := (-1)) hx hb (fk_get fk_cX11_on_0 14 rfl) (by decide) ?_
  subst hQ
  have hpost : XI S_3 ∧ Fr (fun j k => (j = 11 ∧ 3 ≤ k ∧ k ≤ 7) ∨ (33 ≤ j ∧ j < 39 ∧ 2 ≤ k ∧ k ≤ 9) ∨ (51 ≤ j ∧ j < 57 ∧ k = 99) ∨ ((j = 17 ∨ j = 20) ∧ k = 99)) S S_3 ∧ True := by
    exact ⟨hX_4, hF_5, trivial⟩
  exact W.iret (v := (-1)) hx hb hr (fun t_ ht_ hW_ => ⟨⟨(-1), S_3, rfl, hpost, by rw [ht_]; exact hP, va_K.moved hW_.alike hK, hD⟩, hS.F ht_⟩) hS.2.2 (fk_get fk_cX11_on_0 15 rfl)
set_option maxHeartbeats 800000 in
set_option maxRecDepth 100000 in
theorem c_x11_dare (l : Launch) (G : GG) (ad : Nat → Nat) (S : FS) (sz : Nat) (n : Nat) (x : Int32) (w_ : Int32) (hn : fF S (9 + 0) 3 = nI n) (hn6 : n ≤ 6) (hX : XI S) : Met l yX11_dare (Cond.code yX11_dare cX11_dare 7 (some .int) :: TBL) ({ frames := 8, cells := 0, slots := 0, locals := 229 } : Room) (PcW G (wX G ad S) sz [.ref (ad 0), .int (x), .int (w_)]) (va_Qi (fun (r : Int32) (S' : FS) => XI S' ∧ Fr (fun j k => (j = 11 ∧ 3 ≤ k ∧ k ≤ 7) ∨ (33 ≤ j ∧ j < 39 ∧ 2 ≤ k ∧ k ≤ 9) ∨ (51 ≤ j ∧ j < 57 ∧ k = 99) ∨ ((j = 17 ∨ j = 20) ∧ k = 99)) S S' ∧ True) (fun S' t => BW G (va_A (wX G ad S) sz) (wX G ad S') t) (va_A (wX G ad S) sz)) 0 0 (va_A (wX G ad S) sz) := by
  refine Met.ofW (cc := cX11_dare) (maxL := 7) (ret := (some .int)) (by decide) rfl ?_
  intro p e s m args below meth c₀ s₁ B hml hv
  obtain ⟨rfl, hsz, hP, hK, hD0⟩ := hv
  have hx := B.exec
  have hb := B.bytes
  have hr := B.returns
  have hT : ∀ w ∈ TBL, w.before ([.ref (ad 0), .int (x), .int (w_)] : List Value).toArray s = true := fun w h => atoms_spec (ws := Cond.code yX11_dare cX11_dare 7 (some .int) :: TBL) B.pre w (List.mem_cons_of_mem _ h)
  have hown : s.vm.findClass "LittleMore" = some m.cls := findClass_of_methodNamed B.named
  have hlocks := B.notSynchronized
  subst hsz
  have hD := hD0.self (sz := s.heap.size)
  generalize hAe : va_A (wX G ad S) s.heap.size = A at hD ⊢
  have hA : ∀ q : Nat, s.heap.size ≤ q → A q := fun q h => by rw [← hAe]; exact Or.inr h
  have hS : va_S A s.heap s.heap [] := va_S.rf
  have hP : va_P G.1 vwCl (wX G ad S) s.heap := hP
  have hl := lv_entry ([.ref (ad 0), .int (x), .int (w_)]) (n := 7) (Nat.le_of_ble_eq_true rfl)
  rw [lg_entry_eq]
  generalize (lg_sl ([.ref (ad 0), .int (x), .int (w_)]) ++ List.replicate (7 - (lg_sl ([.ref (ad 0), .int (x), .int (w_)])).length) Slot.unset).toArray = ls at hl ⊢
  have hl : lv_has ls 7 [(0, .ref (ad 0)), (1, .int (x)), (2, .int (w_))] := hl
  refine W_abs (fun Q hQ => ?_)
  generalize ([.ref (ad 0), .int (x), .int (w_)] : List Value).toArray = args at hT hQ ⊢
  refine lv_iload_n hx hb (fk_get fk_cX11_dare_0 0 rfl) rfl (lv_at hl 2 rfl) ?_
  refine lv_iconst (v := 0) hx hb (fk_get fk_cX11_dare_0 1 rfl) (by decide) ?_
  refine lv_iconst (v := 1) hx hb (fk_get fk_cX11_dare_0 2 rfl) (by decide) ?_
  refine vp_callSi (W.runS (As := [.int (w_), .int (0), .int (1)]) (rest := []) ⟨hx, hb, hml, hown, hT⟩ (c_xisOutside l (w_) (0) (1) ) (tS 3 hT m2_108 m2_109 m1_1 m2_110 rfl rfl (by decide +kernel) ⟨Nat.le_of_ble_eq_true rfl, Nat.le_of_ble_eq_true rfl⟩) ⟨PcN_blind, PcN_of _ _ _⟩ rfl rfl hl.1 rfl (lv_room (Nat.le_of_ble_eq_true rfl)) (fk_get fk_cX11_dare_0 3 rfl) ⟨Nat.zero_le _, Nat.zero_le _⟩) (fun r_1 hw_2 => ?_)
  try dsimp only at hw_2
  refine lv_if_eq (tgt := 11) hx hb (fk_get fk_cX11_dare_0 4 rfl) (by decide) (fun c_3 => ?_) (fun c_3 => ?_)
  · have p_c_3 := if1_f hw_2 c_3
    refine lv_iload_n hx hb (fk_get fk_cX11_dare_0 7 rfl) rfl (lv_at hl 1 rfl) ?_
    refine lv_iconst (v := 1) hx hb (fk_get fk_cX11_dare_0 8 rfl) (by decide) ?_
    refine lv_bipush (v := 20) hx hb (fk_get fk_cX11_dare_0 9 rfl) (by decide) ?_
    refine vp_callSi (W.runS (As := [.int (x), .int (1), .int (20)]) (rest := []) ⟨hx, hb, hml, hown, hT⟩ (c_xisOutside l (x) (1) (20) ) (tS 3 hT m2_108 m2_109 m1_1 m2_110 rfl rfl (by decide +kernel) ⟨Nat.le_of_ble_eq_true rfl, Nat.le_of_ble_eq_true rfl⟩) ⟨PcN_blind, PcN_of _ _ _⟩ rfl rfl hl.1 rfl (lv_room (Nat.le_of_ble_eq_true rfl)) (fk_get fk_cX11_dare_0 10 rfl) ⟨Nat.zero_le _, Nat.zero_le _⟩) (fun r_4 hw_5 => ?_)
    try dsimp only at hw_5
    refine lv_if_eq (tgt := 24) hx hb (fk_get fk_cX11_dare_0 11 rfl) (by decide) (fun c_6 => ?_) (fun c_6 => ?_)
    · have p_c_6 := if1_f hw_5 c_6
      obtain ⟨wz, hw20, ew⟩ := out_1 (b := 20) p_c_6 (by decide)
      refine lv_iconst (v := 0) hx hb (fk_get fk_cX11_dare_0 14 rfl) (by decide) ?_
      refine lv_istore_n (lv' := [(3, .int (0)), (0, .ref (ad 0)), (1, .int (x)), (2, .int (w_))]) hx hb (fk_get fk_cX11_dare_0 15 rfl) rfl hl (by decide) rfl (fun ls hl => ?_)
      refine lv_iconst (v := (-1)) hx hb (fk_get fk_cX11_dare_0 16 rfl) (by decide) ?_
      refine lv_istore (lv' := [(4, .int ((-1))), (3, .int (0)), (0, .ref (ad 0)), (1, .int (x)), (2, .int (w_))]) hx hb (fk_get fk_cX11_dare_0 17 rfl) hl (by decide) rfl (fun ls hl => ?_)
      refine lv_iconst (v := 0) hx hb (fk_get fk_cX11_dare_0 18 rfl) (by decide) ?_
      refine lv_istore (lv' := [(5, .int (0)), (4, .int ((-1))), (3, .int (0)), (0, .ref (ad 0)), (1, .int (x)), (2, .int (w_))]) hx hb (fk_get fk_cX11_dare_0 19 rfl) hl (by decide) rfl (fun ls hl => ?_)
      have lp_7 : ∀ (fu : Nat) (c : Nat) (v3 : Int32) (v4 : Int32) (SL32 : FS) (H_9 : Heap) (locs_10 : List Loc) (ls : Array Slot),  (XI SL32) → (Fr (fun j k => (j = 11 ∧ 3 ≤ k ∧ k ≤ 7) ∨ (33 ≤ j ∧ j < 39 ∧ 2 ≤ k ∧ k ≤ 9) ∨ (51 ≤ j ∧ j < 57 ∧ k = 99) ∨ ((j = 17 ∨ j = 20) ∧ k = 99)) S SL32) → (c ≤ 31) → (31 < c + fu) → (fF SL32 (9 + 0) 3 = nI n) → va_P G.1 vwCl (wX G ad SL32) H_9 → va_D A (wX G ad SL32) → va_S A s.heap H_9 locs_10 → lv_has ls 7 [(5, .int ((nI c))), (4, .int (v4)), (3, .int (v3)), (0, .ref (ad 0)), (1, .int (x)), (2, .int (w_))] → W p l e ({ frames := 8, cells := 0, slots := 0, locals := 229 } : Room) s m args below meth c₀ H_9 locs_10 0 0 Q (F0 m 32 ls []) := by
        intro fu
        induction fu with
        | zero =>
          intro c v3 v4 SL32 H_9 locs_10 ls hXl32 hFl32 hk hf hn2 hP hD hS hl
          exact absurd hf (by omega)
        | succ fu ih =>
          intro c v3 v4 SL32 H_9 locs_10 ls hXl32 hFl32 hk hf hn2 hP hD hS hl
          refine lv_iload hx hb (fk_get fk_cX11_dare_0 20 rfl) (lv_at hl 0 rfl) ?_
          refine lv_bipush (v := 30) hx hb (fk_get fk_cX11_dare_0 21 rfl) (by decide) ?_
          refine lv_icmp_gt (tgt := 68) hx hb (fk_get fk_cX11_dare_0 22 rfl) (by decide) (fun c_11 => ?_) (fun c_11 => ?_)
          · have q_c_11 : 30 < c := ci_lt (a := 30) (b := c) (by omega) (by omega) c_11
            refine lv_iload_n hx hb (fk_get fk_cX11_dare_1 5 rfl) rfl (lv_at hl 5 rfl) ?_
            refine lv_if_ne (tgt := 76) hx hb (fk_get fk_cX11_dare_1 6 rfl) (by decide) (fun c_12 => ?_) (fun c_12 => ?_)
            · refine lv_iload hx hb (fk_get fk_cX11_dare_1 9 rfl) (lv_at hl 1 rfl) ?_
              subst hQ
              have hpost : XI SL32 ∧ Fr (fun j k => (j = 11 ∧ 3 ≤ k ∧ k ≤ 7) ∨ (33 ≤ j ∧ j < 39 ∧ 2 ≤ k ∧ k ≤ 9) ∨ (51 ≤ j ∧ j < 57 ∧ k = 99) ∨ ((j = 17 ∨ j = 20) ∧ k = 99)) S SL32 ∧ True := by
                exact ⟨hXl32, hFl32, trivial⟩
              exact W.iret (v := v4) hx hb hr (fun t_ ht_ hW_ => ⟨⟨v4, SL32, rfl, hpost, by rw [ht_]; exact hP, va_K.moved hW_.alike hK, hD⟩, hS.F ht_⟩) hS.2.2 (fk_get fk_cX11_dare_1 10 rfl)
            refine lv_iload_n hx hb (fk_get fk_cX11_dare_1 7 rfl) rfl (lv_at hl 2 rfl) ?_
            refine lv_goto (tgt := 78) hx hb (fk_get fk_cX11_dare_1 8 rfl) (by decide) ?_
            subst hQ
            have hpost : XI SL32 ∧ Fr (fun j k => (j = 11 ∧ 3 ≤ k ∧ k ≤ 7) ∨ (33 ≤ j ∧ j < 39 ∧ 2 ≤ k ∧ k ≤ 9) ∨ (51 ≤ j ∧ j < 57 ∧ k = 99) ∨ ((j = 17 ∨ j = 20) ∧ k = 99)) S SL32 ∧ True := by
              exact ⟨hXl32, hFl32, trivial⟩
            exact W.iret (v := v3) hx hb hr (fun t_ ht_ hW_ => ⟨⟨v3, SL32, rfl, hpost, by rw [ht_]; exact hP, va_K.moved hW_.alike hK, hD⟩, hS.F ht_⟩) hS.2.2 (fk_get fk_cX11_dare_1 10 rfl)
          have q_c_11 : c ≤ 30 := ci_nlt (a := 30) (b := c) (by omega) (by omega) c_11
          refine lv_aload_n hx hb (fk_get fk_cX11_dare_0 23 rfl) rfl (lv_at hl 3 rfl) ?_
          refine lv_iload hx hb (fk_get fk_cX11_dare_0 24 rfl) (lv_at hl 0 rfl) ?_
          refine lv_iload_n hx hb (fk_get fk_cX11_dare_0 25 rfl) rfl (lv_at hl 4 rfl) ?_
          have hFc := va_self hD hS hA
          refine va_calli (va_runV (As := [.int ((nI c)), .int (x)]) (rest := []) ⟨hx, hb, hml, hown, hT⟩ (c_x11_paidWithE l G ad SL32 H_9.size (n) (wz) ((nI c)) (hn2) (hn6) (by omega) (x) (ew) (hXl32)) (tV 2 hT m4_2 m4_4 mp_12 m1_1 m4_5 rfl rfl (by decide +kernel) ⟨Nat.le_of_ble_eq_true rfl, Nat.le_of_ble_eq_true rfl⟩) ⟨PcW_blind, va_recv hK hP (ci := 13) (q0 := 0) rfl (ix_at (lt71 (by omega)) (cX_0 G ad SL32)), PcW_of hP hK hD _⟩ rfl rfl hl.1 rfl (lv_room (Nat.le_of_ble_eq_true rfl)) (fk_get fk_cX11_dare_0 26 rfl) ⟨Nat.zero_le _, Nat.zero_le _⟩) hS (fun q _ h => hFc q h) hFc (fun r_13 S_15 t_ H locs ht_ hvm_ hw_14 hB_ hz_ hk_ hS => ?_)
          obtain ⟨hP, -, hD1_⟩ := hB_
          rw [ht_] at hP
          have hD : va_D A (wX G ad S_15) := hD1_.weaken (fun k q _ h => hFc q.1 h)
          try dsimp only at hw_14
          obtain ⟨hX_16, hF_17_, hw_14⟩ := hw_14
          have hF_17 : Fr (fun j k => (j = 11 ∧ 3 ≤ k ∧ k ≤ 7) ∨ (33 ≤ j ∧ j < 39 ∧ 2 ≤ k ∧ k ≤ 9) ∨ (51 ≤ j ∧ j < 57 ∧ k = 99) ∨ ((j = 17 ∨ j = 20) ∧ k = 99)) S S_15 := Fr.trans hFl32 (Fr.mono hF_17_ (fun j k h => by omega))
          have hff_ := hF_17_
          refine lv_istore (lv' := [(6, .int (r_13)), (5, .int ((nI c))), (4, .int (v4)), (3, .int (v3)), (0, .ref (ad 0)), (1, .int (x)), (2, .int (w_))]) hx hb (fk_get fk_cX11_dare_0 27 rfl) hl (by decide) rfl (fun ls hl => ?_)
          refine lv_iload hx hb (fk_get fk_cX11_dare_0 28 rfl) (lv_at hl 0 rfl) ?_
          refine lv_iload hx hb (fk_get fk_cX11_dare_0 29 rfl) (lv_at hl 2 rfl) ?_
          refine lv_icmp_le (tgt := 62) hx hb (fk_get fk_cX11_dare_0 30 rfl) (by decide) (fun c_18 => ?_) (fun c_18 => ?_)
          · refine lv_iinc (v := (nI (c + 1))) (lv' := [(5, .int ((nI (c + 1)))), (6, .int (r_13)), (4, .int (v4)), (3, .int (v3)), (0, .ref (ad 0)), (1, .int (x)), (2, .int (w_))]) hx hb (fk_get fk_cX11_dare_1 3 rfl) hl (k := 1) rfl ((nI_1 c)) (by decide) rfl (fun ls hl => ?_)
            refine lv_goto (tgt := 32) hx hb (fk_get fk_cX11_dare_1 4 rfl) (by decide) ?_
            exact ih (c + 1) (v3) (v4) (S_15) _ _ ls (hX_16) (hF_17) (by omega) (by omega) ((hff_.F (lt71 (by omega)) (by omega)).trans hn2) hP hD hS (lv_sub hl [0, 2, 3, 4, 5, 6] rfl)
          refine lv_iload hx hb (fk_get fk_cX11_dare_0 31 rfl) (lv_at hl 0 rfl) ?_
          refine lv_istore (lv' := [(4, .int (r_13)), (6, .int (r_13)), (5, .int ((nI c))), (3, .int (v3)), (0, .ref (ad 0)), (1, .int (x)), (2, .int (w_))]) hx hb (fk_get fk_cX11_dare_1 0 rfl) hl (by decide) rfl (fun ls hl => ?_)
          refine lv_iload hx hb (fk_get fk_cX11_dare_1 1 rfl) (lv_at hl 2 rfl) ?_
          refine lv_istore_n (lv' := [(3, .int ((nI c))), (4, .int (r_13)), (6, .int (r_13)), (5, .int ((nI c))), (0, .ref (ad 0)), (1, .int (x)), (2, .int (w_))]) hx hb (fk_get fk_cX11_dare_1 2 rfl) rfl hl (by decide) rfl (fun ls hl => ?_)
          refine lv_iinc (v := (nI (c + 1))) (lv' := [(5, .int ((nI (c + 1)))), (3, .int ((nI c))), (4, .int (r_13)), (6, .int (r_13)), (0, .ref (ad 0)), (1, .int (x)), (2, .int (w_))]) hx hb (fk_get fk_cX11_dare_1 3 rfl) hl (k := 3) rfl ((nI_1 c)) (by decide) rfl (fun ls hl => ?_)
          refine lv_goto (tgt := 32) hx hb (fk_get fk_cX11_dare_1 4 rfl) (by decide) ?_
          exact ih (c + 1) ((nI c)) (r_13) (S_15) _ _ ls (hX_16) (hF_17) (by omega) (by omega) ((hff_.F (lt71 (by omega)) (by omega)).trans hn2) hP hD hS (lv_sub hl [0, 2, 1, 4, 5, 6] rfl)
      exact lp_7 (31 + 1) (0) (0) ((-1)) (S) _ _ ls (hX) ((Fr.rf : Fr (fun j k => (j = 11 ∧ 3 ≤ k ∧ k ≤ 7) ∨ (33 ≤ j ∧ j < 39 ∧ 2 ≤ k ∧ k ≤ 9) ∨ (51 ≤ j ∧ j < 57 ∧ k = 99) ∨ ((j = 17 ∨ j = 20) ∧ k = 99)) S S)) (by omega) (by omega) (hn) hP hD hS (lv_sub hl [0, 1, 2, 3, 4, 5] rfl)
    have p_c_6 := if1_t hw_5 c_6
    refine lv_bipush (v := (-2)) hx hb (fk_get fk_cX11_dare_0 12 rfl) (by decide) ?_
    subst hQ
    have hpost : XI S ∧ Fr (fun j k => (j = 11 ∧ 3 ≤ k ∧ k ≤ 7) ∨ (33 ≤ j ∧ j < 39 ∧ 2 ≤ k ∧ k ≤ 9) ∨ (51 ≤ j ∧ j < 57 ∧ k = 99) ∨ ((j = 17 ∨ j = 20) ∧ k = 99)) S S ∧ True := by
      exact ⟨hX, (Fr.rf : Fr (fun j k => (j = 11 ∧ 3 ≤ k ∧ k ≤ 7) ∨ (33 ≤ j ∧ j < 39 ∧ 2 ≤ k ∧ k ≤ 9) ∨ (51 ≤ j ∧ j < 57 ∧ k = 99) ∨ ((j = 17 ∨ j = 20) ∧ k = 99)) S S), trivial⟩
    exact W.iret (v := (-2)) hx hb hr (fun t_ ht_ hW_ => ⟨⟨(-2), S, rfl, hpost, by rw [ht_]; exact hP, va_K.moved hW_.alike hK, hD⟩, hS.F ht_⟩) hS.2.2 (fk_get fk_cX11_dare_0 13 rfl)
  have p_c_3 := if1_t hw_2 c_3
  refine lv_iconst (v := (-1)) hx hb (fk_get fk_cX11_dare_0 5 rfl) (by decide) ?_
  subst hQ
  have hpost : XI S ∧ Fr (fun j k => (j = 11 ∧ 3 ≤ k ∧ k ≤ 7) ∨ (33 ≤ j ∧ j < 39 ∧ 2 ≤ k ∧ k ≤ 9) ∨ (51 ≤ j ∧ j < 57 ∧ k = 99) ∨ ((j = 17 ∨ j = 20) ∧ k = 99)) S S ∧ True := by
    exact ⟨hX, (Fr.rf : Fr (fun j k => (j = 11 ∧ 3 ≤ k ∧ k ≤ 7) ∨ (33 ≤ j ∧ j < 39 ∧ 2 ≤ k ∧ k ≤ 9) ∨ (51 ≤ j ∧ j < 57 ∧ k = 99) ∨ ((j = 17 ∨ j = 20) ∧ k = 99)) S S), trivial⟩
  exact W.iret (v := (-1)) hx hb hr (fun t_ ht_ hW_ => ⟨⟨(-1), S, rfl, hpost, by rw [ht_]; exact hP, va_K.moved hW_.alike hK, hD⟩, hS.F ht_⟩) hS.2.2 (fk_get fk_cX11_dare_0 6 rfl)
set_option maxHeartbeats 800000 in
set_option maxRecDepth 100000 in
theorem c_x11_learnt (l : Launch) (G : GG) (ad : Nat → Nat) (S : FS) (sz : Nat) (n : Nat) (x : Int32) (w_ : Int32) (hn : fF S (9 + 0) 3 = nI n) (hn6 : n ≤ 6) (hX : XI S) : Met l yX11_learnt (Cond.code yX11_learnt cX11_learnt 6 (some .int) :: TBL) ({ frames := 7, cells := 0, slots := 0, locals := 202 } : Room) (PcW G (wX G ad S) sz [.ref (ad 0), .int (x), .int (w_)]) (va_Qi (fun (r : Int32) (S' : FS) => XI S' ∧ Fr (fun j k => (j = 11 ∧ 3 ≤ k ∧ k ≤ 7) ∨ (33 ≤ j ∧ j < 39 ∧ 2 ≤ k ∧ k ≤ 9) ∨ (51 ≤ j ∧ j < 57 ∧ k = 99) ∨ ((j = 17 ∨ j = 20) ∧ k = 99)) S S' ∧ True) (fun S' t => BW G (va_A (wX G ad S) sz) (wX G ad S') t) (va_A (wX G ad S) sz)) 0 0 (va_A (wX G ad S) sz) := by
  refine Met.ofW (cc := cX11_learnt) (maxL := 6) (ret := (some .int)) (by decide) rfl ?_
  intro p e s m args below meth c₀ s₁ B hml hv
  obtain ⟨rfl, hsz, hP, hK, hD0⟩ := hv
  have hx := B.exec
  have hb := B.bytes
  have hr := B.returns
  have hT : ∀ w ∈ TBL, w.before ([.ref (ad 0), .int (x), .int (w_)] : List Value).toArray s = true := fun w h => atoms_spec (ws := Cond.code yX11_learnt cX11_learnt 6 (some .int) :: TBL) B.pre w (List.mem_cons_of_mem _ h)
  have hown : s.vm.findClass "LittleMore" = some m.cls := findClass_of_methodNamed B.named
  have hlocks := B.notSynchronized
  subst hsz
  have hD := hD0.self (sz := s.heap.size)
  generalize hAe : va_A (wX G ad S) s.heap.size = A at hD ⊢
  have hA : ∀ q : Nat, s.heap.size ≤ q → A q := fun q h => by rw [← hAe]; exact Or.inr h
  have hS : va_S A s.heap s.heap [] := va_S.rf
  have hP : va_P G.1 vwCl (wX G ad S) s.heap := hP
  have hl := lv_entry ([.ref (ad 0), .int (x), .int (w_)]) (n := 6) (Nat.le_of_ble_eq_true rfl)
  rw [lg_entry_eq]
  generalize (lg_sl ([.ref (ad 0), .int (x), .int (w_)]) ++ List.replicate (6 - (lg_sl ([.ref (ad 0), .int (x), .int (w_)])).length) Slot.unset).toArray = ls at hl ⊢
  have hl : lv_has ls 6 [(0, .ref (ad 0)), (1, .int (x)), (2, .int (w_))] := hl
  refine W_abs (fun Q hQ => ?_)
  generalize ([.ref (ad 0), .int (x), .int (w_)] : List Value).toArray = args at hT hQ ⊢
  refine lv_aload_n hx hb (fk_get fk_cX11_learnt_0 0 rfl) rfl (lv_at hl 0 rfl) ?_
  have hFc := va_self hD hS hA
  refine va_callr (va_runV (As := []) (rest := []) ⟨hx, hb, hml, hown, hT⟩ (c_x11_shopToTry l G ad S s.heap.size (n) (hn) (hn6) (hX)) (tV 0 hT m3_211 m3_213 mp_11 m1_1 m3_214 rfl rfl (by decide +kernel) ⟨Nat.le_of_ble_eq_true rfl, Nat.le_of_ble_eq_true rfl⟩) ⟨PcW_blind, va_recv hK hP (ci := 13) (q0 := 0) rfl (ix_at (lt71 (by omega)) (cX_0 G ad S)), PcW_of hP hK hD _⟩ rfl rfl hl.1 rfl (lv_room (Nat.le_of_ble_eq_true rfl)) (fk_get fk_cX11_learnt_0 1 rfl) ⟨Nat.zero_le _, Nat.zero_le _⟩) hS (fun q _ h => hFc q h) hFc (fun S_3 r_1 t_ H locs ht_ hvm_ hw_2 hB_ hz_ hk_ hS => ?_)
  obtain ⟨hra_, hB_⟩ := hB_
  subst hra_
  obtain ⟨hP, -, hD1_⟩ := hB_
  rw [ht_] at hP
  have hD : va_D A (wX G ad S_3) := hD1_.weaken (fun k q _ h => hFc q.1 h)
  try dsimp only at hw_2
  obtain ⟨hX_4, hF_5_, hw_2⟩ := hw_2
  have hF_5 : Fr (fun j k => (j = 11 ∧ 3 ≤ k ∧ k ≤ 7) ∨ (33 ≤ j ∧ j < 39 ∧ 2 ≤ k ∧ k ≤ 9) ∨ (51 ≤ j ∧ j < 57 ∧ k = 99) ∨ ((j = 17 ∨ j = 20) ∧ k = 99)) S S_3 := Fr.trans (Fr.rf : Fr (fun j k => (j = 11 ∧ 3 ≤ k ∧ k ≤ 7) ∨ (33 ≤ j ∧ j < 39 ∧ 2 ≤ k ∧ k ≤ 9) ∨ (51 ≤ j ∧ j < 57 ∧ k = 99) ∨ ((j = 17 ∨ j = 20) ∧ k = 99)) S S) (Fr.mono hF_5_ (fun j k h => by omega))
  refine lv_astore_n (lv' := [(3, .ref (ad (9 + 2))), (0, .ref (ad 0)), (1, .int (x)), (2, .int (w_))]) hx hb (fk_get fk_cX11_learnt_0 2 rfl) rfl hl (by decide) rfl (fun ls hl => ?_)
  refine lv_aload_n hx hb (fk_get fk_cX11_learnt_0 3 rfl) rfl (lv_at hl 0 rfl) ?_
  refine lv_iload_n hx hb (fk_get fk_cX11_learnt_0 4 rfl) rfl (lv_at hl 2 rfl) ?_
  obtain ⟨n_6, en_6, bn_6⟩ := XI.size hX_4 (by decide : 2 < 3)
  refine va_csq (W.runV (As := [.int (x)]) (rest := []) ⟨hx, hb, hml, hown, hT⟩ (c_x7_at l G ad S_3 H.size (2) (n_6) (x) ((by decide : 2 < 3)) (en_6) (bn_6) (hX_4)) (tV 1 hT m2_120 m2_121 m2_122 m1_9 m2_123 rfl rfl (by decide +kernel) ⟨Nat.le_of_ble_eq_true rfl, Nat.le_of_ble_eq_true rfl⟩) ⟨PcW_blind, va_recv hK hP (ci := 9) (q0 := (9 + 2)) rfl (ix_at (lt71 (by omega)) (cX_shop (pk_shop (by decide : 2 < 3)))), PcW_of hP hK hD _⟩ rfl rfl hl.1 rfl (lv_room (Nat.le_of_ble_eq_true rfl)) (fk_get fk_cX11_learnt_0 5 rfl) ⟨Nat.zero_le _, Nat.zero_le _⟩) (fun r_7 hw_8 => ?_)
  try dsimp only at hw_8
  rcases hw_8 with ⟨j_7, hj_7, ej_7, rfl⟩ | ⟨rfl, hn_7⟩
  · rw [show va_rf (some (ad (21 + 6 * 2 + j_7))) = .ref (ad (21 + 6 * 2 + j_7)) from rfl]
    generalize hg_i_7 : 21 + 6 * 2 + j_7 = i_7
    have hp_i_7 : pk i_7 = 7 := by rw [← hg_i_7]; exact pk_c (by decide : 2 < 3) (show j_7 < 6 by omega)
    have hb_i_7 := pk7 hp_i_7
    refine lv_astore (lv' := [(4, .ref (ad i_7)), (3, .ref (ad (9 + 2))), (0, .ref (ad 0)), (1, .int (x)), (2, .int (w_))]) hx hb (fk_get fk_cX11_learnt_0 6 rfl) hl (by decide) rfl (fun ls hl => ?_)
    refine lv_aload hx hb (fk_get fk_cX11_learnt_0 7 rfl) (lv_at hl 0 rfl) ?_
    refine lv_ifnonnull (tgt := 19) hx hb (fk_get fk_cX11_learnt_0 8 rfl) (by decide) ?_
    refine lv_iload_n hx hb (fk_get fk_cX11_learnt_0 11 rfl) rfl (lv_at hl 4 rfl) ?_
    refine lv_iconst (v := 0) hx hb (fk_get fk_cX11_learnt_0 12 rfl) (by decide) ?_
    refine lv_bipush (v := 99) hx hb (fk_get fk_cX11_learnt_0 13 rfl) (by decide) ?_
    refine vp_callSi (W.runS (As := [.int (w_), .int (0), .int (99)]) (rest := []) ⟨hx, hb, hml, hown, hT⟩ (c_xisOutside l (w_) (0) (99) ) (tS 3 hT m2_108 m2_109 m1_1 m2_110 rfl rfl (by decide +kernel) ⟨Nat.le_of_ble_eq_true rfl, Nat.le_of_ble_eq_true rfl⟩) ⟨PcN_blind, PcN_of _ _ _⟩ rfl rfl hl.1 rfl (lv_room (Nat.le_of_ble_eq_true rfl)) (fk_get fk_cX11_learnt_0 14 rfl) ⟨Nat.zero_le _, Nat.zero_le _⟩) (fun r_9 hw_10 => ?_)
    try dsimp only at hw_10
    refine lv_if_eq (tgt := 32) hx hb (fk_get fk_cX11_learnt_0 15 rfl) (by decide) (fun c_11 => ?_) (fun c_11 => ?_)
    · have p_c_11 := if1_f hw_10 c_11
      refine lv_iconst (v := 0) hx hb (fk_get fk_cX11_learnt_0 18 rfl) (by decide) ?_
      refine lv_istore (lv' := [(5, .int (0)), (4, .ref (ad i_7)), (3, .ref (ad (9 + 2))), (0, .ref (ad 0)), (1, .int (x)), (2, .int (w_))]) hx hb (fk_get fk_cX11_learnt_0 19 rfl) hl (by decide) rfl (fun ls hl => ?_)
      have lp_12 : ∀ (fu : Nat) (c : Nat) (SL35 : FS) (H_14 : Heap) (locs_15 : List Loc) (ls : Array Slot),  (XI SL35) → (Fr (fun j k => (j = 11 ∧ 3 ≤ k ∧ k ≤ 7) ∨ (33 ≤ j ∧ j < 39 ∧ 2 ≤ k ∧ k ≤ 9) ∨ (51 ≤ j ∧ j < 57 ∧ k = 99) ∨ ((j = 17 ∨ j = 20) ∧ k = 99)) S SL35) → (c ≤ 41) → (41 < c + fu) → va_P G.1 vwCl (wX G ad SL35) H_14 → va_D A (wX G ad SL35) → va_S A s.heap H_14 locs_15 → lv_has ls 6 [(5, .int ((nI c))), (4, .ref (ad i_7)), (3, .ref (ad (9 + 2))), (0, .ref (ad 0)), (1, .int (x)), (2, .int (w_))] → W p l e ({ frames := 7, cells := 0, slots := 0, locals := 202 } : Room) s m args below meth c₀ H_14 locs_15 0 0 Q (F0 m 35 ls []) := by
        intro fu
        induction fu with
        | zero =>
          intro c SL35 H_14 locs_15 ls hXl35 hFl35 hk hf hP hD hS hl
          exact absurd hf (by omega)
        | succ fu ih =>
          intro c SL35 H_14 locs_15 ls hXl35 hFl35 hk hf hP hD hS hl
          refine lv_iload hx hb (fk_get fk_cX11_learnt_0 20 rfl) (lv_at hl 0 rfl) ?_
          refine lv_bipush (v := 40) hx hb (fk_get fk_cX11_learnt_0 21 rfl) (by decide) ?_
          refine lv_icmp_gt (tgt := 69) hx hb (fk_get fk_cX11_learnt_0 22 rfl) (by decide) (fun c_16 => ?_) (fun c_16 => ?_)
          · have q_c_16 : 40 < c := ci_lt (a := 40) (b := c) (by omega) (by omega) c_16
            refine lv_bipush (v := (-5)) hx hb (fk_get fk_cX11_learnt_1 5 rfl) (by decide) ?_
            subst hQ
            have hpost : XI SL35 ∧ Fr (fun j k => (j = 11 ∧ 3 ≤ k ∧ k ≤ 7) ∨ (33 ≤ j ∧ j < 39 ∧ 2 ≤ k ∧ k ≤ 9) ∨ (51 ≤ j ∧ j < 57 ∧ k = 99) ∨ ((j = 17 ∨ j = 20) ∧ k = 99)) S SL35 ∧ True := by
              exact ⟨hXl35, hFl35, trivial⟩
            exact W.iret (v := (-5)) hx hb hr (fun t_ ht_ hW_ => ⟨⟨(-5), SL35, rfl, hpost, by rw [ht_]; exact hP, va_K.moved hW_.alike hK, hD⟩, hS.F ht_⟩) hS.2.2 (fk_get fk_cX11_learnt_1 6 rfl)
          have q_c_16 : c ≤ 40 := ci_nlt (a := 40) (b := c) (by omega) (by omega) c_16
          refine lv_aload_n hx hb (fk_get fk_cX11_learnt_0 23 rfl) rfl (lv_at hl 2 rfl) ?_
          refine lv_aload hx hb (fk_get fk_cX11_learnt_0 24 rfl) (lv_at hl 1 rfl) ?_
          refine vp_callSi (W.runV (As := [.ref (ad i_7)]) (rest := []) ⟨hx, hb, hml, hown, hT⟩ (c_x7_moreFor l G ad SL35 H_14.size (2) (i_7) ((by decide : 2 < 3)) (hp_i_7) (hXl35)) (tV 1 hT m2_124 m2_125 m2_126 m1_9 m2_127 rfl rfl (by decide +kernel) ⟨Nat.le_of_ble_eq_true rfl, Nat.le_of_ble_eq_true rfl⟩) ⟨PcW_blind, va_recv hK hP (ci := 9) (q0 := (9 + 2)) rfl (ix_at (lt71 (by omega)) (cX_shop (pk_shop (by decide : 2 < 3)))), PcW_of hP hK hD _⟩ rfl rfl hl.1 rfl (lv_room (Nat.le_of_ble_eq_true rfl)) (fk_get fk_cX11_learnt_0 25 rfl) ⟨Nat.zero_le _, Nat.zero_le _⟩) (fun r_17 hw_18 => ?_)
          try dsimp only at hw_18
          refine lv_iload_n hx hb (fk_get fk_cX11_learnt_0 26 rfl) rfl (lv_at hl 5 rfl) ?_
          refine lv_icmp_gt (tgt := 55) hx hb (fk_get fk_cX11_learnt_0 27 rfl) (by decide) (fun c_19 => ?_) (fun c_19 => ?_)
          · refine lv_aload_n hx hb (fk_get fk_cX11_learnt_0 30 rfl) rfl (lv_at hl 2 rfl) ?_
            refine lv_aload hx hb (fk_get fk_cX11_learnt_0 31 rfl) (lv_at hl 1 rfl) ?_
            refine lv_iconst (v := 1) hx hb (fk_get fk_cX11_learnt_1 0 rfl) (by decide) ?_
            have hFc := va_self hD hS hA
            refine va_calli (va_runV (As := [.ref (ad i_7), .int (1)]) (rest := []) ⟨hx, hb, hml, hown, hT⟩ (c_x7_makeVisitsAloneE l G ad SL35 H_14.size (2) (i_7) (1) ((by decide : 2 < 3)) (hp_i_7) (by omega) (1) (rfl) (hXl35)) (tV 2 hT m3_225 m3_226 m3_227 m1_9 m3_228 rfl rfl (by decide +kernel) ⟨Nat.le_of_ble_eq_true rfl, Nat.le_of_ble_eq_true rfl⟩) ⟨PcW_blind, va_recv hK hP (ci := 9) (q0 := (9 + 2)) rfl (ix_at (lt71 (by omega)) (cX_shop (pk_shop (by decide : 2 < 3)))), PcW_of hP hK hD _⟩ rfl rfl hl.1 rfl (lv_room (Nat.le_of_ble_eq_true rfl)) (fk_get fk_cX11_learnt_1 1 rfl) ⟨Nat.zero_le _, Nat.zero_le _⟩) hS (fun q _ h => hFc q h) hFc (fun r_20 S_22 t_ H locs ht_ hvm_ hw_21 hB_ hz_ hk_ hS => ?_)
            obtain ⟨hP, -, hD1_⟩ := hB_
            rw [ht_] at hP
            have hD : va_D A (wX G ad S_22) := hD1_.weaken (fun k q _ h => hFc q.1 h)
            try dsimp only at hw_21
            obtain ⟨hX_23, hF_24_, hw_21⟩ := hw_21
            have hF_24 : Fr (fun j k => (j = 11 ∧ 3 ≤ k ∧ k ≤ 7) ∨ (33 ≤ j ∧ j < 39 ∧ 2 ≤ k ∧ k ≤ 9) ∨ (51 ≤ j ∧ j < 57 ∧ k = 99) ∨ ((j = 17 ∨ j = 20) ∧ k = 99)) S S_22 := Fr.trans hFl35 (Fr.mono hF_24_ (fun j k h => by omega))
            refine lv_pop hx hb (fk_get fk_cX11_learnt_1 2 rfl) rfl ?_
            refine lv_iinc (v := (nI (c + 1))) (lv' := [(5, .int ((nI (c + 1)))), (4, .ref (ad i_7)), (3, .ref (ad (9 + 2))), (0, .ref (ad 0)), (1, .int (x)), (2, .int (w_))]) hx hb (fk_get fk_cX11_learnt_1 3 rfl) hl (k := 0) rfl ((nI_1 c)) (by decide) rfl (fun ls hl => ?_)
            refine lv_goto (tgt := 35) hx hb (fk_get fk_cX11_learnt_1 4 rfl) (by decide) ?_
            exact ih (c + 1) (S_22) _ _ ls (hX_23) (hF_24) (by omega) (by omega) hP hD hS (lv_sub hl [0, 1, 2, 3, 4, 5] rfl)
          refine lv_iload hx hb (fk_get fk_cX11_learnt_0 28 rfl) (lv_at hl 0 rfl) ?_
          subst hQ
          have hpost : XI SL35 ∧ Fr (fun j k => (j = 11 ∧ 3 ≤ k ∧ k ≤ 7) ∨ (33 ≤ j ∧ j < 39 ∧ 2 ≤ k ∧ k ≤ 9) ∨ (51 ≤ j ∧ j < 57 ∧ k = 99) ∨ ((j = 17 ∨ j = 20) ∧ k = 99)) S SL35 ∧ True := by
            exact ⟨hXl35, hFl35, trivial⟩
          exact W.iret (v := (nI c)) hx hb hr (fun t_ ht_ hW_ => ⟨⟨(nI c), SL35, rfl, hpost, by rw [ht_]; exact hP, va_K.moved hW_.alike hK, hD⟩, hS.F ht_⟩) hS.2.2 (fk_get fk_cX11_learnt_0 29 rfl)
      exact lp_12 (41 + 1) (0) (S_3) _ _ ls (hX_4) (hF_5) (by omega) (by omega) hP hD hS (lv_sub hl [0, 1, 2, 3, 4, 5] rfl)
    have p_c_11 := if1_t hw_10 c_11
    refine lv_bipush (v := (-2)) hx hb (fk_get fk_cX11_learnt_0 16 rfl) (by decide) ?_
    subst hQ
    have hpost : XI S_3 ∧ Fr (fun j k => (j = 11 ∧ 3 ≤ k ∧ k ≤ 7) ∨ (33 ≤ j ∧ j < 39 ∧ 2 ≤ k ∧ k ≤ 9) ∨ (51 ≤ j ∧ j < 57 ∧ k = 99) ∨ ((j = 17 ∨ j = 20) ∧ k = 99)) S S_3 ∧ True := by
      exact ⟨hX_4, hF_5, trivial⟩
    exact W.iret (v := (-2)) hx hb hr (fun t_ ht_ hW_ => ⟨⟨(-2), S_3, rfl, hpost, by rw [ht_]; exact hP, va_K.moved hW_.alike hK, hD⟩, hS.F ht_⟩) hS.2.2 (fk_get fk_cX11_learnt_0 17 rfl)
  rw [show va_rf none = .null from rfl]
  refine lv_astoreN (lv' := [(4, .null), (3, .ref (ad (9 + 2))), (0, .ref (ad 0)), (1, .int (x)), (2, .int (w_))]) hx hb (fk_get fk_cX11_learnt_0 6 rfl) hl (by decide) rfl (fun ls hl => ?_)
  refine lv_aloadN hx hb (fk_get fk_cX11_learnt_0 7 rfl) (lv_at hl 0 rfl) ?_
  refine lv_ifnonnullN hx hb (fk_get fk_cX11_learnt_0 8 rfl) ?_
  refine lv_iconst (v := (-1)) hx hb (fk_get fk_cX11_learnt_0 9 rfl) (by decide) ?_
  subst hQ
  have hpost : XI S_3 ∧ Fr (fun j k => (j = 11 ∧ 3 ≤ k ∧ k ≤ 7) ∨ (33 ≤ j ∧ j < 39 ∧ 2 ≤ k ∧ k ≤ 9) ∨ (51 ≤ j ∧ j < 57 ∧ k = 99) ∨ ((j = 17 ∨ j = 20) ∧ k = 99)) S S_3 ∧ True := by
    exact ⟨hX_4, hF_5, trivial⟩
  exact W.iret (v := (-1)) hx hb hr (fun t_ ht_ hW_ => ⟨⟨(-1), S_3, rfl, hpost, by rw [ht_]; exact hP, va_K.moved hW_.alike hK, hD⟩, hS.F ht_⟩) hS.2.2 (fk_get fk_cX11_learnt_0 10 rfl)
set_option maxHeartbeats 800000 in
set_option maxRecDepth 100000 in
theorem c_x11_nobody (l : Launch) (G : GG) (ad : Nat → Nat) (S : FS) (sz : Nat) (n : Nat) (hn : fF S (9 + 0) 3 = nI n) (hn6 : n ≤ 6) (hX : XI S) : Met l yX11_nobody (Cond.code yX11_nobody cX11_nobody 3 (some .int) :: TBL) ({ frames := 7, cells := 0, slots := 0, locals := 200 } : Room) (PcW G (wX G ad S) sz [.ref (ad 0)]) (va_Qi (fun (r : Int32) (S' : FS) => XI S' ∧ Fr (fun j k => (j = 11 ∧ 3 ≤ k ∧ k ≤ 7) ∨ (33 ≤ j ∧ j < 39 ∧ 2 ≤ k ∧ k ≤ 9) ∨ (51 ≤ j ∧ j < 57 ∧ k = 99) ∨ ((j = 17 ∨ j = 20) ∧ k = 99)) S S' ∧ True) (fun S' t => BW G (va_A (wX G ad S) sz) (wX G ad S') t) (va_A (wX G ad S) sz)) 0 0 (va_A (wX G ad S) sz) := by
  refine Met.ofW (cc := cX11_nobody) (maxL := 3) (ret := (some .int)) (by decide) rfl ?_
  intro p e s m args below meth c₀ s₁ B hml hv
  obtain ⟨rfl, hsz, hP, hK, hD0⟩ := hv
  have hx := B.exec
  have hb := B.bytes
  have hr := B.returns
  have hT : ∀ w ∈ TBL, w.before ([.ref (ad 0)] : List Value).toArray s = true := fun w h => atoms_spec (ws := Cond.code yX11_nobody cX11_nobody 3 (some .int) :: TBL) B.pre w (List.mem_cons_of_mem _ h)
  have hown : s.vm.findClass "LittleMore" = some m.cls := findClass_of_methodNamed B.named
  have hlocks := B.notSynchronized
  subst hsz
  have hD := hD0.self (sz := s.heap.size)
  generalize hAe : va_A (wX G ad S) s.heap.size = A at hD ⊢
  have hA : ∀ q : Nat, s.heap.size ≤ q → A q := fun q h => by rw [← hAe]; exact Or.inr h
  have hS : va_S A s.heap s.heap [] := va_S.rf
  have hP : va_P G.1 vwCl (wX G ad S) s.heap := hP
  have hl := lv_entry ([.ref (ad 0)]) (n := 3) (Nat.le_of_ble_eq_true rfl)
  rw [lg_entry_eq]
  generalize (lg_sl ([.ref (ad 0)]) ++ List.replicate (3 - (lg_sl ([.ref (ad 0)])).length) Slot.unset).toArray = ls at hl ⊢
  have hl : lv_has ls 3 [(0, .ref (ad 0))] := hl
  refine W_abs (fun Q hQ => ?_)
  generalize ([.ref (ad 0)] : List Value).toArray = args at hT hQ ⊢
  refine lv_aload_n hx hb (fk_get fk_cX11_nobody_0 0 rfl) rfl (lv_at hl 0 rfl) ?_
  have hFc := va_self hD hS hA
  refine va_callr (va_runV (As := []) (rest := []) ⟨hx, hb, hml, hown, hT⟩ (c_x11_shopToTry l G ad S s.heap.size (n) (hn) (hn6) (hX)) (tV 0 hT m3_211 m3_213 mp_11 m1_1 m3_214 rfl rfl (by decide +kernel) ⟨Nat.le_of_ble_eq_true rfl, Nat.le_of_ble_eq_true rfl⟩) ⟨PcW_blind, va_recv hK hP (ci := 13) (q0 := 0) rfl (ix_at (lt71 (by omega)) (cX_0 G ad S)), PcW_of hP hK hD _⟩ rfl rfl hl.1 rfl (lv_room (Nat.le_of_ble_eq_true rfl)) (fk_get fk_cX11_nobody_0 1 rfl) ⟨Nat.zero_le _, Nat.zero_le _⟩) hS (fun q _ h => hFc q h) hFc (fun S_3 r_1 t_ H locs ht_ hvm_ hw_2 hB_ hz_ hk_ hS => ?_)
  obtain ⟨hra_, hB_⟩ := hB_
  subst hra_
  obtain ⟨hP, -, hD1_⟩ := hB_
  rw [ht_] at hP
  have hD : va_D A (wX G ad S_3) := hD1_.weaken (fun k q _ h => hFc q.1 h)
  try dsimp only at hw_2
  obtain ⟨hX_4, hF_5_, hw_2⟩ := hw_2
  have hF_5 : Fr (fun j k => (j = 11 ∧ 3 ≤ k ∧ k ≤ 7) ∨ (33 ≤ j ∧ j < 39 ∧ 2 ≤ k ∧ k ≤ 9) ∨ (51 ≤ j ∧ j < 57 ∧ k = 99) ∨ ((j = 17 ∨ j = 20) ∧ k = 99)) S S_3 := Fr.trans (Fr.rf : Fr (fun j k => (j = 11 ∧ 3 ≤ k ∧ k ≤ 7) ∨ (33 ≤ j ∧ j < 39 ∧ 2 ≤ k ∧ k ≤ 9) ∨ (51 ≤ j ∧ j < 57 ∧ k = 99) ∨ ((j = 17 ∨ j = 20) ∧ k = 99)) S S) (Fr.mono hF_5_ (fun j k h => by omega))
  refine lv_astore_n (lv' := [(1, .ref (ad (9 + 2))), (0, .ref (ad 0))]) hx hb (fk_get fk_cX11_nobody_0 2 rfl) rfl hl (by decide) rfl (fun ls hl => ?_)
  refine lv_iconst (v := 0) hx hb (fk_get fk_cX11_nobody_0 3 rfl) (by decide) ?_
  refine lv_istore_n (lv' := [(2, .int (0)), (1, .ref (ad (9 + 2))), (0, .ref (ad 0))]) hx hb (fk_get fk_cX11_nobody_0 4 rfl) rfl hl (by decide) rfl (fun ls hl => ?_)
  have lp_6 : ∀ (fu : Nat) (c : Nat) (SL7 : FS) (H_8 : Heap) (locs_9 : List Loc) (ls : Array Slot),  (XI SL7) → (Fr (fun j k => (j = 11 ∧ 3 ≤ k ∧ k ≤ 7) ∨ (33 ≤ j ∧ j < 39 ∧ 2 ≤ k ∧ k ≤ 9) ∨ (51 ≤ j ∧ j < 57 ∧ k = 99) ∨ ((j = 17 ∨ j = 20) ∧ k = 99)) S SL7) → (c ≤ 41) → (41 < c + fu) → va_P G.1 vwCl (wX G ad SL7) H_8 → va_D A (wX G ad SL7) → va_S A s.heap H_8 locs_9 → lv_has ls 3 [(2, .int ((nI c))), (1, .ref (ad (9 + 2))), (0, .ref (ad 0))] → W p l e ({ frames := 7, cells := 0, slots := 0, locals := 200 } : Room) s m args below meth c₀ H_8 locs_9 0 0 Q (F0 m 7 ls []) := by
    intro fu
    induction fu with
    | zero =>
      intro c SL7 H_8 locs_9 ls hXl7 hFl7 hk hf hP hD hS hl
      exact absurd hf (by omega)
    | succ fu ih =>
      intro c SL7 H_8 locs_9 ls hXl7 hFl7 hk hf hP hD hS hl
      refine lv_iload_n hx hb (fk_get fk_cX11_nobody_0 5 rfl) rfl (lv_at hl 0 rfl) ?_
      refine lv_bipush (v := 40) hx hb (fk_get fk_cX11_nobody_0 6 rfl) (by decide) ?_
      refine lv_icmp_gt (tgt := 33) hx hb (fk_get fk_cX11_nobody_0 7 rfl) (by decide) (fun c_10 => ?_) (fun c_10 => ?_)
      · have q_c_10 : 40 < c := ci_lt (a := 40) (b := c) (by omega) (by omega) c_10
        refine lv_bipush (v := (-5)) hx hb (fk_get fk_cX11_nobody_0 18 rfl) (by decide) ?_
        subst hQ
        have hpost : XI SL7 ∧ Fr (fun j k => (j = 11 ∧ 3 ≤ k ∧ k ≤ 7) ∨ (33 ≤ j ∧ j < 39 ∧ 2 ≤ k ∧ k ≤ 9) ∨ (51 ≤ j ∧ j < 57 ∧ k = 99) ∨ ((j = 17 ∨ j = 20) ∧ k = 99)) S SL7 ∧ True := by
          exact ⟨hXl7, hFl7, trivial⟩
        exact W.iret (v := (-5)) hx hb hr (fun t_ ht_ hW_ => ⟨⟨(-5), SL7, rfl, hpost, by rw [ht_]; exact hP, va_K.moved hW_.alike hK, hD⟩, hS.F ht_⟩) hS.2.2 (fk_get fk_cX11_nobody_0 19 rfl)
      have q_c_10 : c ≤ 40 := ci_nlt (a := 40) (b := c) (by omega) (by omega) c_10
      refine lv_aload_n hx hb (fk_get fk_cX11_nobody_0 8 rfl) rfl (lv_at hl 1 rfl) ?_
      refine vp_callSi (W.runV (As := []) (rest := []) ⟨hx, hb, hml, hown, hT⟩ (c_x7_howManyRefuse l G ad SL7 H_8.size (2) ((by decide : 2 < 3)) (hXl7)) (tV 0 hT m4_14 m4_15 m4_16 m1_9 m4_17 rfl rfl (by decide +kernel) ⟨Nat.le_of_ble_eq_true rfl, Nat.le_of_ble_eq_true rfl⟩) ⟨PcW_blind, va_recv hK hP (ci := 9) (q0 := (9 + 2)) rfl (ix_at (lt71 (by omega)) (cX_shop (pk_shop (by decide : 2 < 3)))), PcW_of hP hK hD _⟩ rfl rfl hl.1 rfl (lv_room (Nat.le_of_ble_eq_true rfl)) (fk_get fk_cX11_nobody_0 9 rfl) ⟨Nat.zero_le _, Nat.zero_le _⟩) (fun r_11 hw_12 => ?_)
      try dsimp only at hw_12
      refine lv_if_ne (tgt := 22) hx hb (fk_get fk_cX11_nobody_0 10 rfl) (by decide) (fun c_13 => ?_) (fun c_13 => ?_)
      · refine lv_aload_n hx hb (fk_get fk_cX11_nobody_0 13 rfl) rfl (lv_at hl 1 rfl) ?_
        have hFc := va_self hD hS hA
        refine va_calli (va_runV (As := []) (rest := []) ⟨hx, hb, hml, hown, hT⟩ (c_x7_makeSaturday l G ad SL7 H_8.size (2) ((by decide : 2 < 3)) (hXl7)) (tV 0 hT m3_202 m3_203 m3_204 m1_9 m3_205 rfl rfl (by decide +kernel) ⟨Nat.le_of_ble_eq_true rfl, Nat.le_of_ble_eq_true rfl⟩) ⟨PcW_blind, va_recv hK hP (ci := 9) (q0 := (9 + 2)) rfl (ix_at (lt71 (by omega)) (cX_shop (pk_shop (by decide : 2 < 3)))), PcW_of hP hK hD _⟩ rfl rfl hl.1 rfl (lv_room (Nat.le_of_ble_eq_true rfl)) (fk_get fk_cX11_nobody_0 14 rfl) ⟨Nat.zero_le _, Nat.zero_le _⟩) hS (fun q _ h => hFc q h) hFc (fun r_14 S_16 t_ H locs ht_ hvm_ hw_15 hB_ hz_ hk_ hS => ?_)
        obtain ⟨hP, -, hD1_⟩ := hB_
        rw [ht_] at hP
        have hD : va_D A (wX G ad S_16) := hD1_.weaken (fun k q _ h => hFc q.1 h)
        try dsimp only at hw_15
        obtain ⟨hX_17, hF_18_, hw_15⟩ := hw_15
        have hF_18 : Fr (fun j k => (j = 11 ∧ 3 ≤ k ∧ k ≤ 7) ∨ (33 ≤ j ∧ j < 39 ∧ 2 ≤ k ∧ k ≤ 9) ∨ (51 ≤ j ∧ j < 57 ∧ k = 99) ∨ ((j = 17 ∨ j = 20) ∧ k = 99)) S S_16 := Fr.trans hFl7 (Fr.mono hF_18_ (fun j k h => by omega))
        refine lv_pop hx hb (fk_get fk_cX11_nobody_0 15 rfl) rfl ?_
        refine lv_iinc (v := (nI (c + 1))) (lv' := [(2, .int ((nI (c + 1)))), (1, .ref (ad (9 + 2))), (0, .ref (ad 0))]) hx hb (fk_get fk_cX11_nobody_0 16 rfl) hl (k := 0) rfl ((nI_1 c)) (by decide) rfl (fun ls hl => ?_)
        refine lv_goto (tgt := 7) hx hb (fk_get fk_cX11_nobody_0 17 rfl) (by decide) ?_
        exact ih (c + 1) (S_16) _ _ ls (hX_17) (hF_18) (by omega) (by omega) hP hD hS (lv_sub hl [0, 1, 2] rfl)
      refine lv_iload_n hx hb (fk_get fk_cX11_nobody_0 11 rfl) rfl (lv_at hl 0 rfl) ?_
      subst hQ
      have hpost : XI SL7 ∧ Fr (fun j k => (j = 11 ∧ 3 ≤ k ∧ k ≤ 7) ∨ (33 ≤ j ∧ j < 39 ∧ 2 ≤ k ∧ k ≤ 9) ∨ (51 ≤ j ∧ j < 57 ∧ k = 99) ∨ ((j = 17 ∨ j = 20) ∧ k = 99)) S SL7 ∧ True := by
        exact ⟨hXl7, hFl7, trivial⟩
      exact W.iret (v := (nI c)) hx hb hr (fun t_ ht_ hW_ => ⟨⟨(nI c), SL7, rfl, hpost, by rw [ht_]; exact hP, va_K.moved hW_.alike hK, hD⟩, hS.F ht_⟩) hS.2.2 (fk_get fk_cX11_nobody_0 12 rfl)
  exact lp_6 (41 + 1) (0) (S_3) _ _ ls (hX_4) (hF_5) (by omega) (by omega) hP hD hS (lv_sub hl [0, 1, 2] rfl)
set_option maxHeartbeats 800000 in
set_option maxRecDepth 100000 in
theorem c_x11_lost (l : Launch) (G : GG) (ad : Nat → Nat) (S : FS) (sz : Nat) (n : Nat) (x : Int32) (hn : fF S (9 + 0) 3 = nI n) (hn6 : n ≤ 6) (hX : XI S) : Met l yX11_lost (Cond.code yX11_lost cX11_lost 2 (some .int) :: TBL) ({ frames := 8, cells := 0, slots := 0, locals := 227 } : Room) (PcW G (wX G ad S) sz [.ref (ad 0), .int (x)]) (va_Qi (fun (r : Int32) (S' : FS) => XI S' ∧ Fr (fun j k => (j = 11 ∧ 3 ≤ k ∧ k ≤ 7) ∨ (33 ≤ j ∧ j < 39 ∧ 2 ≤ k ∧ k ≤ 9) ∨ (51 ≤ j ∧ j < 57 ∧ k = 99) ∨ ((j = 17 ∨ j = 20) ∧ k = 99)) S S' ∧ True) (fun S' t => BW G (va_A (wX G ad S) sz) (wX G ad S') t) (va_A (wX G ad S) sz)) 0 0 (va_A (wX G ad S) sz) := by
  refine Met.ofW (cc := cX11_lost) (maxL := 2) (ret := (some .int)) (by decide) rfl ?_
  intro p e s m args below meth c₀ s₁ B hml hv
  obtain ⟨rfl, hsz, hP, hK, hD0⟩ := hv
  have hx := B.exec
  have hb := B.bytes
  have hr := B.returns
  have hT : ∀ w ∈ TBL, w.before ([.ref (ad 0), .int (x)] : List Value).toArray s = true := fun w h => atoms_spec (ws := Cond.code yX11_lost cX11_lost 2 (some .int) :: TBL) B.pre w (List.mem_cons_of_mem _ h)
  have hown : s.vm.findClass "LittleMore" = some m.cls := findClass_of_methodNamed B.named
  have hlocks := B.notSynchronized
  subst hsz
  have hD := hD0.self (sz := s.heap.size)
  generalize hAe : va_A (wX G ad S) s.heap.size = A at hD ⊢
  have hA : ∀ q : Nat, s.heap.size ≤ q → A q := fun q h => by rw [← hAe]; exact Or.inr h
  have hS : va_S A s.heap s.heap [] := va_S.rf
  have hP : va_P G.1 vwCl (wX G ad S) s.heap := hP
  have hl := lv_entry ([.ref (ad 0), .int (x)]) (n := 2) (Nat.le_of_ble_eq_true rfl)
  rw [lg_entry_eq]
  generalize (lg_sl ([.ref (ad 0), .int (x)]) ++ List.replicate (2 - (lg_sl ([.ref (ad 0), .int (x)])).length) Slot.unset).toArray = ls at hl ⊢
  have hl : lv_has ls 2 [(0, .ref (ad 0)), (1, .int (x))] := hl
  refine W_abs (fun Q hQ => ?_)
  generalize ([.ref (ad 0), .int (x)] : List Value).toArray = args at hT hQ ⊢
  refine lv_iload_n hx hb (fk_get fk_cX11_lost_0 0 rfl) rfl (lv_at hl 1 rfl) ?_
  refine lv_iconst (v := 0) hx hb (fk_get fk_cX11_lost_0 1 rfl) (by decide) ?_
  refine lv_bipush (v := 40) hx hb (fk_get fk_cX11_lost_0 2 rfl) (by decide) ?_
  refine vp_callSi (W.runS (As := [.int (x), .int (0), .int (40)]) (rest := []) ⟨hx, hb, hml, hown, hT⟩ (c_xisOutside l (x) (0) (40) ) (tS 3 hT m2_108 m2_109 m1_1 m2_110 rfl rfl (by decide +kernel) ⟨Nat.le_of_ble_eq_true rfl, Nat.le_of_ble_eq_true rfl⟩) ⟨PcN_blind, PcN_of _ _ _⟩ rfl rfl hl.1 rfl (lv_room (Nat.le_of_ble_eq_true rfl)) (fk_get fk_cX11_lost_0 3 rfl) ⟨Nat.zero_le _, Nat.zero_le _⟩) (fun r_1 hw_2 => ?_)
  try dsimp only at hw_2
  refine lv_if_eq (tgt := 13) hx hb (fk_get fk_cX11_lost_0 4 rfl) (by decide) (fun c_3 => ?_) (fun c_3 => ?_)
  · have p_c_3 := if1_f hw_2 c_3
    obtain ⟨wz, hw40, ew⟩ := out_n (b := 40) p_c_3 (by decide)
    refine lv_aload_n hx hb (fk_get fk_cX11_lost_0 7 rfl) rfl (lv_at hl 0 rfl) ?_
    refine lv_iload_n hx hb (fk_get fk_cX11_lost_0 8 rfl) rfl (lv_at hl 1 rfl) ?_
    have hFc := va_self hD hS hA
    refine va_callr (va_runV (As := [.int (x)]) (rest := []) ⟨hx, hb, hml, hown, hT⟩ (c_x11_shopBehindE l G ad S s.heap.size (n) (wz) (hn) (hn6) (by omega) (x) (ew) (hX)) (tV 1 hT m4_23 m4_25 mp_13 m1_1 m4_26 rfl rfl (by decide +kernel) ⟨Nat.le_of_ble_eq_true rfl, Nat.le_of_ble_eq_true rfl⟩) ⟨PcW_blind, va_recv hK hP (ci := 13) (q0 := 0) rfl (ix_at (lt71 (by omega)) (cX_0 G ad S)), PcW_of hP hK hD _⟩ rfl rfl hl.1 rfl (lv_room (Nat.le_of_ble_eq_true rfl)) (fk_get fk_cX11_lost_0 9 rfl) ⟨Nat.zero_le _, Nat.zero_le _⟩) hS (fun q _ h => hFc q h) hFc (fun S_6 r_4 t_ H locs ht_ hvm_ hw_5 hB_ hz_ hk_ hS => ?_)
    obtain ⟨hra_, hB_⟩ := hB_
    subst hra_
    obtain ⟨hP, -, hD1_⟩ := hB_
    rw [ht_] at hP
    have hD : va_D A (wX G ad S_6) := hD1_.weaken (fun k q _ h => hFc q.1 h)
    try dsimp only at hw_5
    obtain ⟨hX_7, hF_8_, hw_5⟩ := hw_5
    have hF_8 : Fr (fun j k => (j = 11 ∧ 3 ≤ k ∧ k ≤ 7) ∨ (33 ≤ j ∧ j < 39 ∧ 2 ≤ k ∧ k ≤ 9) ∨ (51 ≤ j ∧ j < 57 ∧ k = 99) ∨ ((j = 17 ∨ j = 20) ∧ k = 99)) S S_6 := Fr.trans (Fr.rf : Fr (fun j k => (j = 11 ∧ 3 ≤ k ∧ k ≤ 7) ∨ (33 ≤ j ∧ j < 39 ∧ 2 ≤ k ∧ k ≤ 9) ∨ (51 ≤ j ∧ j < 57 ∧ k = 99) ∨ ((j = 17 ∨ j = 20) ∧ k = 99)) S S) (Fr.mono hF_8_ (fun j k h => by omega))
    refine vp_callSi (W.runV (As := []) (rest := []) ⟨hx, hb, hml, hown, hT⟩ (c_x7_goneBits l G ad S_6 H.size (2) ((by decide : 2 < 3)) (hX_7)) (tV 0 hT m3_161 m3_162 m3_163 m1_9 m3_164 rfl rfl (by decide +kernel) ⟨Nat.le_of_ble_eq_true rfl, Nat.le_of_ble_eq_true rfl⟩) ⟨PcW_blind, va_recv hK hP (ci := 9) (q0 := (9 + 2)) rfl (ix_at (lt71 (by omega)) (cX_shop (pk_shop (by decide : 2 < 3)))), PcW_of hP hK hD _⟩ rfl rfl hl.1 rfl (lv_room (Nat.le_of_ble_eq_true rfl)) (fk_get fk_cX11_lost_0 10 rfl) ⟨Nat.zero_le _, Nat.zero_le _⟩) (fun r_9 hw_10 => ?_)
    try dsimp only at hw_10
    subst hQ
    have hpost : XI S_6 ∧ Fr (fun j k => (j = 11 ∧ 3 ≤ k ∧ k ≤ 7) ∨ (33 ≤ j ∧ j < 39 ∧ 2 ≤ k ∧ k ≤ 9) ∨ (51 ≤ j ∧ j < 57 ∧ k = 99) ∨ ((j = 17 ∨ j = 20) ∧ k = 99)) S S_6 ∧ True := by
      exact ⟨hX_7, hF_8, trivial⟩
    exact W.iret (v := r_9) hx hb hr (fun t_ ht_ hW_ => ⟨⟨r_9, S_6, rfl, hpost, by rw [ht_]; exact hP, va_K.moved hW_.alike hK, hD⟩, hS.F ht_⟩) hS.2.2 (fk_get fk_cX11_lost_0 11 rfl)
  have p_c_3 := if1_t hw_2 c_3
  refine lv_bipush (v := (-2)) hx hb (fk_get fk_cX11_lost_0 5 rfl) (by decide) ?_
  subst hQ
  have hpost : XI S ∧ Fr (fun j k => (j = 11 ∧ 3 ≤ k ∧ k ≤ 7) ∨ (33 ≤ j ∧ j < 39 ∧ 2 ≤ k ∧ k ≤ 9) ∨ (51 ≤ j ∧ j < 57 ∧ k = 99) ∨ ((j = 17 ∨ j = 20) ∧ k = 99)) S S ∧ True := by
    exact ⟨hX, (Fr.rf : Fr (fun j k => (j = 11 ∧ 3 ≤ k ∧ k ≤ 7) ∨ (33 ≤ j ∧ j < 39 ∧ 2 ≤ k ∧ k ≤ 9) ∨ (51 ≤ j ∧ j < 57 ∧ k = 99) ∨ ((j = 17 ∨ j = 20) ∧ k = 99)) S S), trivial⟩
  exact W.iret (v := (-2)) hx hb hr (fun t_ ht_ hW_ => ⟨⟨(-2), S, rfl, hpost, by rw [ht_]; exact hP, va_K.moved hW_.alike hK, hD⟩, hS.F ht_⟩) hS.2.2 (fk_get fk_cX11_lost_0 6 rfl)
set_option maxHeartbeats 800000 in
set_option maxRecDepth 100000 in
theorem c_x11_over (l : Launch) (G : GG) (ad : Nat → Nat) (S : FS) (sz : Nat) (n : Nat) (x : Int32) (y_ : Int32) (w_ : Int32) (hn : fF S (9 + 0) 3 = nI n) (hn6 : n ≤ 6) (hX : XI S) : Met l yX11_over (Cond.code yX11_over cX11_over 6 (some .int) :: TBL) ({ frames := 7, cells := 0, slots := 0, locals := 202 } : Room) (PcW G (wX G ad S) sz [.ref (ad 0), .int (x), .int (y_), .int (w_)]) (va_Qi (fun (r : Int32) (S' : FS) => XI S' ∧ Fr (fun j k => (j = 11 ∧ 3 ≤ k ∧ k ≤ 7) ∨ (33 ≤ j ∧ j < 39 ∧ 2 ≤ k ∧ k ≤ 9) ∨ (51 ≤ j ∧ j < 57 ∧ k = 99) ∨ ((j = 17 ∨ j = 20) ∧ k = 99)) S S' ∧ True) (fun S' t => BW G (va_A (wX G ad S) sz) (wX G ad S') t) (va_A (wX G ad S) sz)) 0 0 (va_A (wX G ad S) sz) := by
  refine Met.ofW (cc := cX11_over) (maxL := 6) (ret := (some .int)) (by decide) rfl ?_
  intro p e s m args below meth c₀ s₁ B hml hv
  obtain ⟨rfl, hsz, hP, hK, hD0⟩ := hv
  have hx := B.exec
  have hb := B.bytes
  have hr := B.returns
  have hT : ∀ w ∈ TBL, w.before ([.ref (ad 0), .int (x), .int (y_), .int (w_)] : List Value).toArray s = true := fun w h => atoms_spec (ws := Cond.code yX11_over cX11_over 6 (some .int) :: TBL) B.pre w (List.mem_cons_of_mem _ h)
  have hown : s.vm.findClass "LittleMore" = some m.cls := findClass_of_methodNamed B.named
  have hlocks := B.notSynchronized
  subst hsz
  have hD := hD0.self (sz := s.heap.size)
  generalize hAe : va_A (wX G ad S) s.heap.size = A at hD ⊢
  have hA : ∀ q : Nat, s.heap.size ≤ q → A q := fun q h => by rw [← hAe]; exact Or.inr h
  have hS : va_S A s.heap s.heap [] := va_S.rf
  have hP : va_P G.1 vwCl (wX G ad S) s.heap := hP
  have hl := lv_entry ([.ref (ad 0), .int (x), .int (y_), .int (w_)]) (n := 6) (Nat.le_of_ble_eq_true rfl)
  rw [lg_entry_eq]
  generalize (lg_sl ([.ref (ad 0), .int (x), .int (y_), .int (w_)]) ++ List.replicate (6 - (lg_sl ([.ref (ad 0), .int (x), .int (y_), .int (w_)])).length) Slot.unset).toArray = ls at hl ⊢
  have hl : lv_has ls 6 [(0, .ref (ad 0)), (1, .int (x)), (2, .int (y_)), (3, .int (w_))] := hl
  refine W_abs (fun Q hQ => ?_)
  generalize ([.ref (ad 0), .int (x), .int (y_), .int (w_)] : List Value).toArray = args at hT hQ ⊢
  refine lv_aload_n hx hb (fk_get fk_cX11_over_0 0 rfl) rfl (lv_at hl 0 rfl) ?_
  have hFc := va_self hD hS hA
  refine va_callr (va_runV (As := []) (rest := []) ⟨hx, hb, hml, hown, hT⟩ (c_x11_shopToTry l G ad S s.heap.size (n) (hn) (hn6) (hX)) (tV 0 hT m3_211 m3_213 mp_11 m1_1 m3_214 rfl rfl (by decide +kernel) ⟨Nat.le_of_ble_eq_true rfl, Nat.le_of_ble_eq_true rfl⟩) ⟨PcW_blind, va_recv hK hP (ci := 13) (q0 := 0) rfl (ix_at (lt71 (by omega)) (cX_0 G ad S)), PcW_of hP hK hD _⟩ rfl rfl hl.1 rfl (lv_room (Nat.le_of_ble_eq_true rfl)) (fk_get fk_cX11_over_0 1 rfl) ⟨Nat.zero_le _, Nat.zero_le _⟩) hS (fun q _ h => hFc q h) hFc (fun S_3 r_1 t_ H locs ht_ hvm_ hw_2 hB_ hz_ hk_ hS => ?_)
  obtain ⟨hra_, hB_⟩ := hB_
  subst hra_
  obtain ⟨hP, -, hD1_⟩ := hB_
  rw [ht_] at hP
  have hD : va_D A (wX G ad S_3) := hD1_.weaken (fun k q _ h => hFc q.1 h)
  try dsimp only at hw_2
  obtain ⟨hX_4, hF_5_, hw_2⟩ := hw_2
  have hF_5 : Fr (fun j k => (j = 11 ∧ 3 ≤ k ∧ k ≤ 7) ∨ (33 ≤ j ∧ j < 39 ∧ 2 ≤ k ∧ k ≤ 9) ∨ (51 ≤ j ∧ j < 57 ∧ k = 99) ∨ ((j = 17 ∨ j = 20) ∧ k = 99)) S S_3 := Fr.trans (Fr.rf : Fr (fun j k => (j = 11 ∧ 3 ≤ k ∧ k ≤ 7) ∨ (33 ≤ j ∧ j < 39 ∧ 2 ≤ k ∧ k ≤ 9) ∨ (51 ≤ j ∧ j < 57 ∧ k = 99) ∨ ((j = 17 ∨ j = 20) ∧ k = 99)) S S) (Fr.mono hF_5_ (fun j k h => by omega))
  refine lv_astore (lv' := [(4, .ref (ad (9 + 2))), (0, .ref (ad 0)), (1, .int (x)), (2, .int (y_)), (3, .int (w_))]) hx hb (fk_get fk_cX11_over_0 2 rfl) hl (by decide) rfl (fun ls hl => ?_)
  refine lv_aload hx hb (fk_get fk_cX11_over_0 3 rfl) (lv_at hl 0 rfl) ?_
  refine lv_iload_n hx hb (fk_get fk_cX11_over_0 4 rfl) rfl (lv_at hl 2 rfl) ?_
  obtain ⟨n_6, en_6, bn_6⟩ := XI.size hX_4 (by decide : 2 < 3)
  refine va_csq (W.runV (As := [.int (x)]) (rest := []) ⟨hx, hb, hml, hown, hT⟩ (c_x7_at l G ad S_3 H.size (2) (n_6) (x) ((by decide : 2 < 3)) (en_6) (bn_6) (hX_4)) (tV 1 hT m2_120 m2_121 m2_122 m1_9 m2_123 rfl rfl (by decide +kernel) ⟨Nat.le_of_ble_eq_true rfl, Nat.le_of_ble_eq_true rfl⟩) ⟨PcW_blind, va_recv hK hP (ci := 9) (q0 := (9 + 2)) rfl (ix_at (lt71 (by omega)) (cX_shop (pk_shop (by decide : 2 < 3)))), PcW_of hP hK hD _⟩ rfl rfl hl.1 rfl (lv_room (Nat.le_of_ble_eq_true rfl)) (fk_get fk_cX11_over_0 5 rfl) ⟨Nat.zero_le _, Nat.zero_le _⟩) (fun r_7 hw_8 => ?_)
  try dsimp only at hw_8
  rcases hw_8 with ⟨j_9, hj_9, ej_9, rfl⟩ | ⟨rfl, hn_9⟩
  · rw [show va_rf (some (ad (21 + 6 * 2 + j_9))) = .ref (ad (21 + 6 * 2 + j_9)) from rfl]
    generalize hg_i_9 : 21 + 6 * 2 + j_9 = i_9
    have hp_i_9 : pk i_9 = 7 := by rw [← hg_i_9]; exact pk_c (by decide : 2 < 3) (show j_9 < 6 by omega)
    have hb_i_9 := pk7 hp_i_9
    refine lv_astore (lv' := [(5, .ref (ad i_9)), (4, .ref (ad (9 + 2))), (0, .ref (ad 0)), (1, .int (x)), (2, .int (y_)), (3, .int (w_))]) hx hb (fk_get fk_cX11_over_0 6 rfl) hl (by decide) rfl (fun ls hl => ?_)
    refine lv_aload hx hb (fk_get fk_cX11_over_0 7 rfl) (lv_at hl 0 rfl) ?_
    refine lv_ifnonnull (tgt := 22) hx hb (fk_get fk_cX11_over_0 8 rfl) (by decide) ?_
    refine lv_iload_n hx hb (fk_get fk_cX11_over_0 11 rfl) rfl (lv_at hl 4 rfl) ?_
    refine lv_iconst (v := 1) hx hb (fk_get fk_cX11_over_0 12 rfl) (by decide) ?_
    refine lv_bipush (v := 99) hx hb (fk_get fk_cX11_over_0 13 rfl) (by decide) ?_
    refine vp_callSi (W.runS (As := [.int (y_), .int (1), .int (99)]) (rest := []) ⟨hx, hb, hml, hown, hT⟩ (c_xisOutside l (y_) (1) (99) ) (tS 3 hT m2_108 m2_109 m1_1 m2_110 rfl rfl (by decide +kernel) ⟨Nat.le_of_ble_eq_true rfl, Nat.le_of_ble_eq_true rfl⟩) ⟨PcN_blind, PcN_of _ _ _⟩ rfl rfl hl.1 rfl (lv_room (Nat.le_of_ble_eq_true rfl)) (fk_get fk_cX11_over_0 14 rfl) ⟨Nat.zero_le _, Nat.zero_le _⟩) (fun r_9 hw_10 => ?_)
    try dsimp only at hw_10
    refine lv_if_ne (tgt := 42) hx hb (fk_get fk_cX11_over_0 15 rfl) (by decide) (fun c_11 => ?_) (fun c_11 => ?_)
    · have p_c_11 := if1_t hw_10 c_11
      refine lv_ldc (v := (-1000002)) hx hb hown (hT _ m4_32) (fk_get fk_cX11_over_0 21 rfl) ?_
      subst hQ
      have hpost : XI S_3 ∧ Fr (fun j k => (j = 11 ∧ 3 ≤ k ∧ k ≤ 7) ∨ (33 ≤ j ∧ j < 39 ∧ 2 ≤ k ∧ k ≤ 9) ∨ (51 ≤ j ∧ j < 57 ∧ k = 99) ∨ ((j = 17 ∨ j = 20) ∧ k = 99)) S S_3 ∧ True := by
        exact ⟨hX_4, hF_5, trivial⟩
      exact W.iret (v := (-1000002)) hx hb hr (fun t_ ht_ hW_ => ⟨⟨(-1000002), S_3, rfl, hpost, by rw [ht_]; exact hP, va_K.moved hW_.alike hK, hD⟩, hS.F ht_⟩) hS.2.2 (fk_get fk_cX11_over_0 22 rfl)
    have p_c_11 := if1_f hw_10 c_11
    refine lv_iload_n hx hb (fk_get fk_cX11_over_0 16 rfl) rfl (lv_at hl 5 rfl) ?_
    refine lv_iconst (v := 1) hx hb (fk_get fk_cX11_over_0 17 rfl) (by decide) ?_
    refine lv_bipush (v := 40) hx hb (fk_get fk_cX11_over_0 18 rfl) (by decide) ?_
    refine vp_callSi (W.runS (As := [.int (w_), .int (1), .int (40)]) (rest := []) ⟨hx, hb, hml, hown, hT⟩ (c_xisOutside l (w_) (1) (40) ) (tS 3 hT m2_108 m2_109 m1_1 m2_110 rfl rfl (by decide +kernel) ⟨Nat.le_of_ble_eq_true rfl, Nat.le_of_ble_eq_true rfl⟩) ⟨PcN_blind, PcN_of _ _ _⟩ rfl rfl hl.1 rfl (lv_room (Nat.le_of_ble_eq_true rfl)) (fk_get fk_cX11_over_0 19 rfl) ⟨Nat.zero_le _, Nat.zero_le _⟩) (fun r_12 hw_13 => ?_)
    try dsimp only at hw_13
    refine lv_if_eq (tgt := 45) hx hb (fk_get fk_cX11_over_0 20 rfl) (by decide) (fun c_14 => ?_) (fun c_14 => ?_)
    · have p_c_14 := if1_f hw_13 c_14
      obtain ⟨wz, hw40, ew⟩ := out_1 (b := 40) p_c_14 (by decide)
      refine lv_aload hx hb (fk_get fk_cX11_over_0 23 rfl) (lv_at hl 1 rfl) ?_
      refine lv_aload hx hb (fk_get fk_cX11_over_0 24 rfl) (lv_at hl 0 rfl) ?_
      refine lv_iload_n hx hb (fk_get fk_cX11_over_0 25 rfl) rfl (lv_at hl 5 rfl) ?_
      have hFc := va_self hD hS hA
      refine va_calli (va_runV (As := [.ref (ad i_9), .int (w_)]) (rest := []) ⟨hx, hb, hml, hown, hT⟩ (c_x7_makeVisitsAloneE l G ad S_3 H.size (2) (i_9) (wz) ((by decide : 2 < 3)) (hp_i_9) (by omega) (w_) (ew) (hX_4)) (tV 2 hT m3_225 m3_226 m3_227 m1_9 m3_228 rfl rfl (by decide +kernel) ⟨Nat.le_of_ble_eq_true rfl, Nat.le_of_ble_eq_true rfl⟩) ⟨PcW_blind, va_recv hK hP (ci := 9) (q0 := (9 + 2)) rfl (ix_at (lt71 (by omega)) (cX_shop (pk_shop (by decide : 2 < 3)))), PcW_of hP hK hD _⟩ rfl rfl hl.1 rfl (lv_room (Nat.le_of_ble_eq_true rfl)) (fk_get fk_cX11_over_0 26 rfl) ⟨Nat.zero_le _, Nat.zero_le _⟩) hS (fun q _ h => hFc q h) hFc (fun r_15 S_17 t_ H locs ht_ hvm_ hw_16 hB_ hz_ hk_ hS => ?_)
      obtain ⟨hP, -, hD1_⟩ := hB_
      rw [ht_] at hP
      have hD : va_D A (wX G ad S_17) := hD1_.weaken (fun k q _ h => hFc q.1 h)
      try dsimp only at hw_16
      obtain ⟨hX_18, hF_19_, hw_16⟩ := hw_16
      have hF_19 : Fr (fun j k => (j = 11 ∧ 3 ≤ k ∧ k ≤ 7) ∨ (33 ≤ j ∧ j < 39 ∧ 2 ≤ k ∧ k ≤ 9) ∨ (51 ≤ j ∧ j < 57 ∧ k = 99) ∨ ((j = 17 ∨ j = 20) ∧ k = 99)) S S_17 := Fr.trans hF_5 (Fr.mono hF_19_ (fun j k h => by omega))
      refine lv_aload hx hb (fk_get fk_cX11_over_0 27 rfl) (lv_at hl 1 rfl) ?_
      obtain ⟨n_20, en_20, bn_20⟩ := XI.ctr hX_18 (by decide : 2 < 3)
      refine va_get (D := G.1) (ci := 9) (v := va_rf ((fR S_17 (9 + 2) 7).map ad)) (C := RX7) (T := TX7) (N := 8) hx hb hT inX7 hown hK hP (9 + 2) (ix_at (lt71 (by omega)) (cX_shop (pk_shop (by decide : 2 < 3)))) rfl 7 (by decide) (hT _ m1_217) (fun _ h9 => h9) rfl (fk_get fk_cX11_over_0 28 rfl) ?_
      rw [show va_rf ((fR S_17 (9 + 2) 7).map ad) = .ref (ad n_20) from by rw [en_20]; rfl]
      refine va_get (D := G.1) (ci := 3) (v := .int (fF S_17 n_20 0)) (C := RX1) (T := TX1) (N := 4) hx hb hT inX1 hown hK hP n_20 (ix_at (bn_20).2.1 (cX_ctr (bn_20).1 (bn_20).2.2.1)) rfl 0 (by decide) (hT _ m1_114) (fun _ h9 => h9) rfl (fk_get fk_cX11_over_0 29 rfl) ?_
      refine lv_imul hx hb (fk_get fk_cX11_over_0 30 rfl) ?_
      refine lv_iload_n hx hb (fk_get fk_cX11_over_0 31 rfl) rfl (lv_at hl 5 rfl) ?_
      refine lv_aload hx hb (fk_get fk_cX11_over_1 0 rfl) (lv_at hl 0 rfl) ?_
      refine va_get (D := G.1) (ci := 5) (v := .int (fF S_17 i_9 4)) (C := RX3) (T := TX3) (N := 10) hx hb hT inX3 hown hK hP i_9 (ix_at (lt71 (by omega)) (cX_cust hp_i_9)) rfl 4 (by decide) (hT _ m1_157) (fun _ h9 => h9) rfl (fk_get fk_cX11_over_1 1 rfl) ?_
      refine lv_imul hx hb (fk_get fk_cX11_over_1 2 rfl) ?_
      refine lv_iload_n hx hb (fk_get fk_cX11_over_1 3 rfl) rfl (lv_at hl 4 rfl) ?_
      refine lv_imul hx hb (fk_get fk_cX11_over_1 4 rfl) ?_
      refine lv_isub hx hb (fk_get fk_cX11_over_1 5 rfl) ?_
      subst hQ
      have hpost : XI S_17 ∧ Fr (fun j k => (j = 11 ∧ 3 ≤ k ∧ k ≤ 7) ∨ (33 ≤ j ∧ j < 39 ∧ 2 ≤ k ∧ k ≤ 9) ∨ (51 ≤ j ∧ j < 57 ∧ k = 99) ∨ ((j = 17 ∨ j = 20) ∧ k = 99)) S S_17 ∧ True := by
        exact ⟨hX_18, hF_19, trivial⟩
      exact W.iret (v := ((r_15 * (fF S_17 n_20 0)) - ((w_ * (fF S_17 i_9 4)) * y_))) hx hb hr (fun t_ ht_ hW_ => ⟨⟨((r_15 * (fF S_17 n_20 0)) - ((w_ * (fF S_17 i_9 4)) * y_)), S_17, rfl, hpost, by rw [ht_]; exact hP, va_K.moved hW_.alike hK, hD⟩, hS.F ht_⟩) hS.2.2 (fk_get fk_cX11_over_1 6 rfl)
    have p_c_14 := if1_t hw_13 c_14
    refine lv_ldc (v := (-1000002)) hx hb hown (hT _ m4_32) (fk_get fk_cX11_over_0 21 rfl) ?_
    subst hQ
    have hpost : XI S_3 ∧ Fr (fun j k => (j = 11 ∧ 3 ≤ k ∧ k ≤ 7) ∨ (33 ≤ j ∧ j < 39 ∧ 2 ≤ k ∧ k ≤ 9) ∨ (51 ≤ j ∧ j < 57 ∧ k = 99) ∨ ((j = 17 ∨ j = 20) ∧ k = 99)) S S_3 ∧ True := by
      exact ⟨hX_4, hF_5, trivial⟩
    exact W.iret (v := (-1000002)) hx hb hr (fun t_ ht_ hW_ => ⟨⟨(-1000002), S_3, rfl, hpost, by rw [ht_]; exact hP, va_K.moved hW_.alike hK, hD⟩, hS.F ht_⟩) hS.2.2 (fk_get fk_cX11_over_0 22 rfl)
  rw [show va_rf none = .null from rfl]
  refine lv_astoreN (lv' := [(5, .null), (4, .ref (ad (9 + 2))), (0, .ref (ad 0)), (1, .int (x)), (2, .int (y_)), (3, .int (w_))]) hx hb (fk_get fk_cX11_over_0 6 rfl) hl (by decide) rfl (fun ls hl => ?_)
  refine lv_aloadN hx hb (fk_get fk_cX11_over_0 7 rfl) (lv_at hl 0 rfl) ?_
  refine lv_ifnonnullN hx hb (fk_get fk_cX11_over_0 8 rfl) ?_
  refine lv_ldc (v := (-1000001)) hx hb hown (hT _ m4_31) (fk_get fk_cX11_over_0 9 rfl) ?_
  subst hQ
  have hpost : XI S_3 ∧ Fr (fun j k => (j = 11 ∧ 3 ≤ k ∧ k ≤ 7) ∨ (33 ≤ j ∧ j < 39 ∧ 2 ≤ k ∧ k ≤ 9) ∨ (51 ≤ j ∧ j < 57 ∧ k = 99) ∨ ((j = 17 ∨ j = 20) ∧ k = 99)) S S_3 ∧ True := by
    exact ⟨hX_4, hF_5, trivial⟩
  exact W.iret (v := (-1000001)) hx hb hr (fun t_ ht_ hW_ => ⟨⟨(-1000001), S_3, rfl, hpost, by rw [ht_]; exact hP, va_K.moved hW_.alike hK, hD⟩, hS.F ht_⟩) hS.2.2 (fk_get fk_cX11_over_0 10 rfl)
set_option maxHeartbeats 800000 in
set_option maxRecDepth 100000 in
theorem c_x11_nearest (l : Launch) (G : GG) (ad : Nat → Nat) (S : FS) (sz : Nat) (n : Nat) (x : Int32) (hn : fF S (9 + 0) 3 = nI n) (hn6 : n ≤ 6) (hX : XI S) : Met l yX11_nearest (Cond.code yX11_nearest cX11_nearest 8 (some .int) :: TBL) ({ frames := 7, cells := 0, slots := 0, locals := 202 } : Room) (PcW G (wX G ad S) sz [.ref (ad 0), .int (x)]) (va_Qi (fun (r : Int32) (S' : FS) => XI S' ∧ Fr (fun j k => (j = 11 ∧ 3 ≤ k ∧ k ≤ 7) ∨ (33 ≤ j ∧ j < 39 ∧ 2 ≤ k ∧ k ≤ 9) ∨ (51 ≤ j ∧ j < 57 ∧ k = 99) ∨ ((j = 17 ∨ j = 20) ∧ k = 99)) S S' ∧ True) (fun S' t => BW G (va_A (wX G ad S) sz) (wX G ad S') t) (va_A (wX G ad S) sz)) 0 0 (va_A (wX G ad S) sz) := by
  refine Met.ofW (cc := cX11_nearest) (maxL := 8) (ret := (some .int)) (by decide) rfl ?_
  intro p e s m args below meth c₀ s₁ B hml hv
  obtain ⟨rfl, hsz, hP, hK, hD0⟩ := hv
  have hx := B.exec
  have hb := B.bytes
  have hr := B.returns
  have hT : ∀ w ∈ TBL, w.before ([.ref (ad 0), .int (x)] : List Value).toArray s = true := fun w h => atoms_spec (ws := Cond.code yX11_nearest cX11_nearest 8 (some .int) :: TBL) B.pre w (List.mem_cons_of_mem _ h)
  have hown : s.vm.findClass "LittleMore" = some m.cls := findClass_of_methodNamed B.named
  have hlocks := B.notSynchronized
  subst hsz
  have hD := hD0.self (sz := s.heap.size)
  generalize hAe : va_A (wX G ad S) s.heap.size = A at hD ⊢
  have hA : ∀ q : Nat, s.heap.size ≤ q → A q := fun q h => by rw [← hAe]; exact Or.inr h
  have hS : va_S A s.heap s.heap [] := va_S.rf
  have hP : va_P G.1 vwCl (wX G ad S) s.heap := hP
  have hl := lv_entry ([.ref (ad 0), .int (x)]) (n := 8) (Nat.le_of_ble_eq_true rfl)
  rw [lg_entry_eq]
  generalize (lg_sl ([.ref (ad 0), .int (x)]) ++ List.replicate (8 - (lg_sl ([.ref (ad 0), .int (x)])).length) Slot.unset).toArray = ls at hl ⊢
  have hl : lv_has ls 8 [(0, .ref (ad 0)), (1, .int (x))] := hl
  refine W_abs (fun Q hQ => ?_)
  generalize ([.ref (ad 0), .int (x)] : List Value).toArray = args at hT hQ ⊢
  refine lv_iload_n hx hb (fk_get fk_cX11_nearest_0 0 rfl) rfl (lv_at hl 1 rfl) ?_
  refine lv_iconst (v := 1) hx hb (fk_get fk_cX11_nearest_0 1 rfl) (by decide) ?_
  refine lv_bipush (v := 20) hx hb (fk_get fk_cX11_nearest_0 2 rfl) (by decide) ?_
  refine vp_callSi (W.runS (As := [.int (x), .int (1), .int (20)]) (rest := []) ⟨hx, hb, hml, hown, hT⟩ (c_xisOutside l (x) (1) (20) ) (tS 3 hT m2_108 m2_109 m1_1 m2_110 rfl rfl (by decide +kernel) ⟨Nat.le_of_ble_eq_true rfl, Nat.le_of_ble_eq_true rfl⟩) ⟨PcN_blind, PcN_of _ _ _⟩ rfl rfl hl.1 rfl (lv_room (Nat.le_of_ble_eq_true rfl)) (fk_get fk_cX11_nearest_0 3 rfl) ⟨Nat.zero_le _, Nat.zero_le _⟩) (fun r_1 hw_2 => ?_)
  try dsimp only at hw_2
  refine lv_if_eq (tgt := 13) hx hb (fk_get fk_cX11_nearest_0 4 rfl) (by decide) (fun c_3 => ?_) (fun c_3 => ?_)
  · have p_c_3 := if1_f hw_2 c_3
    obtain ⟨wz, hw20, ew⟩ := out_1 (b := 20) p_c_3 (by decide)
    refine lv_aload_n hx hb (fk_get fk_cX11_nearest_0 7 rfl) rfl (lv_at hl 0 rfl) ?_
    have hFc := va_self hD hS hA
    refine va_callr (va_runV (As := []) (rest := []) ⟨hx, hb, hml, hown, hT⟩ (c_x11_shopToTry l G ad S s.heap.size (n) (hn) (hn6) (hX)) (tV 0 hT m3_211 m3_213 mp_11 m1_1 m3_214 rfl rfl (by decide +kernel) ⟨Nat.le_of_ble_eq_true rfl, Nat.le_of_ble_eq_true rfl⟩) ⟨PcW_blind, va_recv hK hP (ci := 13) (q0 := 0) rfl (ix_at (lt71 (by omega)) (cX_0 G ad S)), PcW_of hP hK hD _⟩ rfl rfl hl.1 rfl (lv_room (Nat.le_of_ble_eq_true rfl)) (fk_get fk_cX11_nearest_0 8 rfl) ⟨Nat.zero_le _, Nat.zero_le _⟩) hS (fun q _ h => hFc q h) hFc (fun S_6 r_4 t_ H locs ht_ hvm_ hw_5 hB_ hz_ hk_ hS => ?_)
    obtain ⟨hra_, hB_⟩ := hB_
    subst hra_
    obtain ⟨hP, -, hD1_⟩ := hB_
    rw [ht_] at hP
    have hD : va_D A (wX G ad S_6) := hD1_.weaken (fun k q _ h => hFc q.1 h)
    try dsimp only at hw_5
    obtain ⟨hX_7, hF_8_, hw_5⟩ := hw_5
    have hF_8 : Fr (fun j k => (j = 11 ∧ 3 ≤ k ∧ k ≤ 7) ∨ (33 ≤ j ∧ j < 39 ∧ 2 ≤ k ∧ k ≤ 9) ∨ (51 ≤ j ∧ j < 57 ∧ k = 99) ∨ ((j = 17 ∨ j = 20) ∧ k = 99)) S S_6 := Fr.trans (Fr.rf : Fr (fun j k => (j = 11 ∧ 3 ≤ k ∧ k ≤ 7) ∨ (33 ≤ j ∧ j < 39 ∧ 2 ≤ k ∧ k ≤ 9) ∨ (51 ≤ j ∧ j < 57 ∧ k = 99) ∨ ((j = 17 ∨ j = 20) ∧ k = 99)) S S) (Fr.mono hF_8_ (fun j k h => by omega))
    refine lv_astore_n (lv' := [(2, .ref (ad (9 + 2))), (0, .ref (ad 0)), (1, .int (x))]) hx hb (fk_get fk_cX11_nearest_0 9 rfl) rfl hl (by decide) rfl (fun ls hl => ?_)
    refine lv_bipush (v := (-5)) hx hb (fk_get fk_cX11_nearest_0 10 rfl) (by decide) ?_
    refine lv_istore_n (lv' := [(3, .int ((-5))), (2, .ref (ad (9 + 2))), (0, .ref (ad 0)), (1, .int (x))]) hx hb (fk_get fk_cX11_nearest_0 11 rfl) rfl hl (by decide) rfl (fun ls hl => ?_)
    refine lv_iconst (v := 0) hx hb (fk_get fk_cX11_nearest_0 12 rfl) (by decide) ?_
    refine lv_istore (lv' := [(4, .int (0)), (3, .int ((-5))), (2, .ref (ad (9 + 2))), (0, .ref (ad 0)), (1, .int (x))]) hx hb (fk_get fk_cX11_nearest_0 13 rfl) hl (by decide) rfl (fun ls hl => ?_)
    refine lv_iconst (v := 0) hx hb (fk_get fk_cX11_nearest_0 14 rfl) (by decide) ?_
    refine lv_istore (lv' := [(5, .int (0)), (4, .int (0)), (3, .int ((-5))), (2, .ref (ad (9 + 2))), (0, .ref (ad 0)), (1, .int (x))]) hx hb (fk_get fk_cX11_nearest_0 15 rfl) hl (by decide) rfl (fun ls hl => ?_)
    have lp_9 : ∀ (fu : Nat) (c : Nat) (v3 : Int32) (v4 : Int32) (SL27 : FS) (H_11 : Heap) (locs_12 : List Loc) (ls : Array Slot),  (XI SL27) → (Fr (fun j k => (j = 11 ∧ 3 ≤ k ∧ k ≤ 7) ∨ (33 ≤ j ∧ j < 39 ∧ 2 ≤ k ∧ k ≤ 9) ∨ (51 ≤ j ∧ j < 57 ∧ k = 99) ∨ ((j = 17 ∨ j = 20) ∧ k = 99)) S SL27) → (c ≤ 6) → (6 < c + fu) → va_P G.1 vwCl (wX G ad SL27) H_11 → va_D A (wX G ad SL27) → va_S A s.heap H_11 locs_12 → lv_has ls 8 [(5, .int ((nI c))), (4, .int (v4)), (3, .int (v3)), (2, .ref (ad (9 + 2))), (0, .ref (ad 0)), (1, .int (x))] → W p l e ({ frames := 7, cells := 0, slots := 0, locals := 202 } : Room) s m args below meth c₀ H_11 locs_12 0 0 Q (F0 m 27 ls []) := by
      intro fu
      induction fu with
      | zero =>
        intro c v3 v4 SL27 H_11 locs_12 ls hXl27 hFl27 hk hf hP hD hS hl
        exact absurd hf (by omega)
      | succ fu ih =>
        intro c v3 v4 SL27 H_11 locs_12 ls hXl27 hFl27 hk hf hP hD hS hl
        refine lv_iload hx hb (fk_get fk_cX11_nearest_0 16 rfl) (lv_at hl 0 rfl) ?_
        refine lv_aload_n hx hb (fk_get fk_cX11_nearest_0 17 rfl) rfl (lv_at hl 3 rfl) ?_
        refine va_get (D := G.1) (ci := 9) (v := .int (fF SL27 (9 + 2) 3)) (C := RX7) (T := TX7) (N := 8) hx hb hT inX7 hown hK hP (9 + 2) (ix_at (lt71 (by omega)) (cX_shop (pk_shop (by decide : 2 < 3)))) rfl 3 (by decide) (hT _ m1_209) (fun _ h9 => h9) rfl (fk_get fk_cX11_nearest_0 18 rfl) ?_
        obtain ⟨n_13, en_13, bn_13⟩ := XI.size hXl27 (by decide : 2 < 3)
        rw [en_13]
        refine lv_icmp_ge (tgt := 89) hx hb (fk_get fk_cX11_nearest_0 19 rfl) (by decide) (fun c_14 => ?_) (fun c_14 => ?_)
        · have q_c_14 : n_13 ≤ c := ci_le (a := n_13) (b := c) (by omega) (by omega) c_14
          refine lv_iload_n hx hb (fk_get fk_cX11_nearest_1 15 rfl) rfl (lv_at hl 2 rfl) ?_
          subst hQ
          have hpost : XI SL27 ∧ Fr (fun j k => (j = 11 ∧ 3 ≤ k ∧ k ≤ 7) ∨ (33 ≤ j ∧ j < 39 ∧ 2 ≤ k ∧ k ≤ 9) ∨ (51 ≤ j ∧ j < 57 ∧ k = 99) ∨ ((j = 17 ∨ j = 20) ∧ k = 99)) S SL27 ∧ True := by
            exact ⟨hXl27, hFl27, trivial⟩
          exact W.iret (v := v3) hx hb hr (fun t_ ht_ hW_ => ⟨⟨v3, SL27, rfl, hpost, by rw [ht_]; exact hP, va_K.moved hW_.alike hK, hD⟩, hS.F ht_⟩) hS.2.2 (fk_get fk_cX11_nearest_1 16 rfl)
        have q_c_14 : c < n_13 := ci_nle (a := n_13) (b := c) (by omega) (by omega) c_14
        refine lv_aload_n hx hb (fk_get fk_cX11_nearest_0 20 rfl) rfl (lv_at hl 3 rfl) ?_
        refine va_get (D := G.1) (ci := 9) (v := .ref (ad (9 + 2 + 3))) (C := RX7) (T := TX7) (N := 8) hx hb hT inX7 hown hK hP (9 + 2) (ix_at (lt71 (by omega)) (cX_shop (pk_shop (by decide : 2 < 3)))) rfl 0 (by decide) (hT _ m1_203) (fun _ h9 => h9) rfl (fk_get fk_cX11_nearest_0 21 rfl) ?_
        refine lv_iload hx hb (fk_get fk_cX11_nearest_0 22 rfl) (lv_at hl 0 rfl) ?_
        refine x_ppl hx hb hK hP (by decide : 2 < 3) (k := c) (by omega) (rfl) (fk_get fk_cX11_nearest_0 23 rfl) ?_
        generalize hg_i_42 : 21 + 6 * 2 + c = i_42
        have hp_i_42 : pk i_42 = 7 := by rw [← hg_i_42]; exact pk_c (by decide : 2 < 3) (by omega)
        have hb_i_42 := pk7 hp_i_42
        refine lv_astore (lv' := [(6, .ref (ad i_42)), (5, .int ((nI c))), (4, .int (v4)), (3, .int (v3)), (2, .ref (ad (9 + 2))), (0, .ref (ad 0)), (1, .int (x))]) hx hb (fk_get fk_cX11_nearest_0 24 rfl) hl (by decide) rfl (fun ls hl => ?_)
        refine lv_aload_n hx hb (fk_get fk_cX11_nearest_0 25 rfl) rfl (lv_at hl 4 rfl) ?_
        refine lv_aload hx hb (fk_get fk_cX11_nearest_0 26 rfl) (lv_at hl 0 rfl) ?_
        refine lv_iload_n hx hb (fk_get fk_cX11_nearest_0 27 rfl) rfl (lv_at hl 6 rfl) ?_
        have hFc := va_self hD hS hA
        refine va_calli (va_runV (As := [.ref (ad i_42), .int (x)]) (rest := []) ⟨hx, hb, hml, hown, hT⟩ (c_x7_makeVisitsAloneE l G ad SL27 H_11.size (2) (i_42) (wz) ((by decide : 2 < 3)) (hp_i_42) (by omega) (x) (ew) (hXl27)) (tV 2 hT m3_225 m3_226 m3_227 m1_9 m3_228 rfl rfl (by decide +kernel) ⟨Nat.le_of_ble_eq_true rfl, Nat.le_of_ble_eq_true rfl⟩) ⟨PcW_blind, va_recv hK hP (ci := 9) (q0 := (9 + 2)) rfl (ix_at (lt71 (by omega)) (cX_shop (pk_shop (by decide : 2 < 3)))), PcW_of hP hK hD _⟩ rfl rfl hl.1 rfl (lv_room (Nat.le_of_ble_eq_true rfl)) (fk_get fk_cX11_nearest_0 28 rfl) ⟨Nat.zero_le _, Nat.zero_le _⟩) hS (fun q _ h => hFc q h) hFc (fun r_15 S_17 t_ H locs ht_ hvm_ hw_16 hB_ hz_ hk_ hS => ?_)
        obtain ⟨hP, -, hD1_⟩ := hB_
        rw [ht_] at hP
        have hD : va_D A (wX G ad S_17) := hD1_.weaken (fun k q _ h => hFc q.1 h)
        try dsimp only at hw_16
        obtain ⟨hX_18, hF_19_, hw_16⟩ := hw_16
        have hF_19 : Fr (fun j k => (j = 11 ∧ 3 ≤ k ∧ k ≤ 7) ∨ (33 ≤ j ∧ j < 39 ∧ 2 ≤ k ∧ k ≤ 9) ∨ (51 ≤ j ∧ j < 57 ∧ k = 99) ∨ ((j = 17 ∨ j = 20) ∧ k = 99)) S S_17 := Fr.trans hFl27 (Fr.mono hF_19_ (fun j k h => by omega))
        refine lv_iload_n hx hb (fk_get fk_cX11_nearest_0 29 rfl) rfl (lv_at hl 6 rfl) ?_
        refine lv_aload hx hb (fk_get fk_cX11_nearest_0 30 rfl) (lv_at hl 0 rfl) ?_
        refine va_get (D := G.1) (ci := 5) (v := .int (fF S_17 i_42 4)) (C := RX3) (T := TX3) (N := 10) hx hb hT inX3 hown hK hP i_42 (ix_at (lt71 (by omega)) (cX_cust hp_i_42)) rfl 4 (by decide) (hT _ m1_157) (fun _ h9 => h9) rfl (fk_get fk_cX11_nearest_0 31 rfl) ?_
        refine lv_imul hx hb (fk_get fk_cX11_nearest_1 0 rfl) ?_
        refine lv_isub hx hb (fk_get fk_cX11_nearest_1 1 rfl) ?_
        refine vp_callSi (W.runS (As := [.int ((r_15 - (x * (fF S_17 i_42 4))))]) (rest := []) ⟨hx, hb, hml, hown, hT⟩ (c_jabs l ((r_15 - (x * (fF S_17 i_42 4)))) ) (tS 1 hT m4_37 m4_38 m1_18 m4_39 rfl rfl (by decide +kernel) ⟨Nat.le_of_ble_eq_true rfl, Nat.le_of_ble_eq_true rfl⟩) ⟨PcN_blind, PcN_of _ _ _⟩ rfl rfl hl.1 rfl (lv_room (Nat.le_of_ble_eq_true rfl)) (fk_get fk_cX11_nearest_1 2 rfl) ⟨Nat.zero_le _, Nat.zero_le _⟩) (fun r_20 hw_21 => ?_)
        try dsimp only at hw_21
        refine lv_istore (lv' := [(7, .int (r_20)), (6, .ref (ad i_42)), (5, .int ((nI c))), (4, .int (v4)), (3, .int (v3)), (2, .ref (ad (9 + 2))), (0, .ref (ad 0)), (1, .int (x))]) hx hb (fk_get fk_cX11_nearest_1 3 rfl) hl (by decide) rfl (fun ls hl => ?_)
        refine lv_iload_n hx hb (fk_get fk_cX11_nearest_1 4 rfl) rfl (lv_at hl 4 rfl) ?_
        refine lv_if_lt (tgt := 76) hx hb (fk_get fk_cX11_nearest_1 5 rfl) (by decide) (fun c_22 => ?_) (fun c_22 => ?_)
        · refine lv_iload hx hb (fk_get fk_cX11_nearest_1 9 rfl) (lv_at hl 0 rfl) ?_
          refine lv_istore (lv' := [(4, .int (r_20)), (7, .int (r_20)), (6, .ref (ad i_42)), (5, .int ((nI c))), (3, .int (v3)), (2, .ref (ad (9 + 2))), (0, .ref (ad 0)), (1, .int (x))]) hx hb (fk_get fk_cX11_nearest_1 10 rfl) hl (by decide) rfl (fun ls hl => ?_)
          refine lv_iload hx hb (fk_get fk_cX11_nearest_1 11 rfl) (lv_at hl 3 rfl) ?_
          refine lv_istore_n (lv' := [(3, .int ((nI c))), (4, .int (r_20)), (7, .int (r_20)), (6, .ref (ad i_42)), (5, .int ((nI c))), (2, .ref (ad (9 + 2))), (0, .ref (ad 0)), (1, .int (x))]) hx hb (fk_get fk_cX11_nearest_1 12 rfl) rfl hl (by decide) rfl (fun ls hl => ?_)
          refine lv_iinc (v := (nI (c + 1))) (lv' := [(5, .int ((nI (c + 1)))), (3, .int ((nI c))), (4, .int (r_20)), (7, .int (r_20)), (6, .ref (ad i_42)), (2, .ref (ad (9 + 2))), (0, .ref (ad 0)), (1, .int (x))]) hx hb (fk_get fk_cX11_nearest_1 13 rfl) hl (k := 4) rfl ((nI_1 c)) (by decide) rfl (fun ls hl => ?_)
          refine lv_goto (tgt := 27) hx hb (fk_get fk_cX11_nearest_1 14 rfl) (by decide) ?_
          exact ih (c + 1) ((nI c)) (r_20) (S_17) _ _ ls (hX_18) (hF_19) (by omega) (by omega) hP hD hS (lv_sub hl [0, 2, 1, 5, 6, 7] rfl)
        refine lv_iload hx hb (fk_get fk_cX11_nearest_1 6 rfl) (lv_at hl 0 rfl) ?_
        refine lv_iload hx hb (fk_get fk_cX11_nearest_1 7 rfl) (lv_at hl 3 rfl) ?_
        refine lv_icmp_ge (tgt := 83) hx hb (fk_get fk_cX11_nearest_1 8 rfl) (by decide) (fun c_23 => ?_) (fun c_23 => ?_)
        · refine lv_iinc (v := (nI (c + 1))) (lv' := [(5, .int ((nI (c + 1)))), (7, .int (r_20)), (6, .ref (ad i_42)), (4, .int (v4)), (3, .int (v3)), (2, .ref (ad (9 + 2))), (0, .ref (ad 0)), (1, .int (x))]) hx hb (fk_get fk_cX11_nearest_1 13 rfl) hl (k := 2) rfl ((nI_1 c)) (by decide) rfl (fun ls hl => ?_)
          refine lv_goto (tgt := 27) hx hb (fk_get fk_cX11_nearest_1 14 rfl) (by decide) ?_
          exact ih (c + 1) (v3) (v4) (S_17) _ _ ls (hX_18) (hF_19) (by omega) (by omega) hP hD hS (lv_sub hl [0, 3, 4, 5, 6, 7] rfl)
        refine lv_iload hx hb (fk_get fk_cX11_nearest_1 9 rfl) (lv_at hl 0 rfl) ?_
        refine lv_istore (lv' := [(4, .int (r_20)), (7, .int (r_20)), (6, .ref (ad i_42)), (5, .int ((nI c))), (3, .int (v3)), (2, .ref (ad (9 + 2))), (0, .ref (ad 0)), (1, .int (x))]) hx hb (fk_get fk_cX11_nearest_1 10 rfl) hl (by decide) rfl (fun ls hl => ?_)
        refine lv_iload hx hb (fk_get fk_cX11_nearest_1 11 rfl) (lv_at hl 3 rfl) ?_
        refine lv_istore_n (lv' := [(3, .int ((nI c))), (4, .int (r_20)), (7, .int (r_20)), (6, .ref (ad i_42)), (5, .int ((nI c))), (2, .ref (ad (9 + 2))), (0, .ref (ad 0)), (1, .int (x))]) hx hb (fk_get fk_cX11_nearest_1 12 rfl) rfl hl (by decide) rfl (fun ls hl => ?_)
        refine lv_iinc (v := (nI (c + 1))) (lv' := [(5, .int ((nI (c + 1)))), (3, .int ((nI c))), (4, .int (r_20)), (7, .int (r_20)), (6, .ref (ad i_42)), (2, .ref (ad (9 + 2))), (0, .ref (ad 0)), (1, .int (x))]) hx hb (fk_get fk_cX11_nearest_1 13 rfl) hl (k := 4) rfl ((nI_1 c)) (by decide) rfl (fun ls hl => ?_)
        refine lv_goto (tgt := 27) hx hb (fk_get fk_cX11_nearest_1 14 rfl) (by decide) ?_
        exact ih (c + 1) ((nI c)) (r_20) (S_17) _ _ ls (hX_18) (hF_19) (by omega) (by omega) hP hD hS (lv_sub hl [0, 2, 1, 5, 6, 7] rfl)
    exact lp_9 (6 + 1) (0) ((-5)) (0) (S_6) _ _ ls (hX_7) (hF_8) (by omega) (by omega) hP hD hS (lv_sub hl [0, 1, 2, 3, 4, 5] rfl)
  have p_c_3 := if1_t hw_2 c_3
  refine lv_bipush (v := (-2)) hx hb (fk_get fk_cX11_nearest_0 5 rfl) (by decide) ?_
  subst hQ
  have hpost : XI S ∧ Fr (fun j k => (j = 11 ∧ 3 ≤ k ∧ k ≤ 7) ∨ (33 ≤ j ∧ j < 39 ∧ 2 ≤ k ∧ k ≤ 9) ∨ (51 ≤ j ∧ j < 57 ∧ k = 99) ∨ ((j = 17 ∨ j = 20) ∧ k = 99)) S S ∧ True := by
    exact ⟨hX, (Fr.rf : Fr (fun j k => (j = 11 ∧ 3 ≤ k ∧ k ≤ 7) ∨ (33 ≤ j ∧ j < 39 ∧ 2 ≤ k ∧ k ≤ 9) ∨ (51 ≤ j ∧ j < 57 ∧ k = 99) ∨ ((j = 17 ∨ j = 20) ∧ k = 99)) S S), trivial⟩
  exact W.iret (v := (-2)) hx hb hr (fun t_ ht_ hW_ => ⟨⟨(-2), S, rfl, hpost, by rw [ht_]; exact hP, va_K.moved hW_.alike hK, hD⟩, hS.F ht_⟩) hS.2.2 (fk_get fk_cX11_nearest_0 6 rfl)
set_option maxHeartbeats 800000 in
set_option maxRecDepth 100000 in
theorem c_x11_who (l : Launch) (G : GG) (ad : Nat → Nat) (S : FS) (sz : Nat) (n : Nat) (hn : fF S (9 + 0) 3 = nI n) (hn6 : n ≤ 6) (hX : XI S) : Met l yX11_who (Cond.code yX11_who cX11_who 4 (some .int) :: TBL) ({ frames := 7, cells := 0, slots := 0, locals := 200 } : Room) (PcW G (wX G ad S) sz [.ref (ad 0)]) (va_Qi (fun (r : Int32) (S' : FS) => XI S' ∧ Fr (fun j k => (j = 11 ∧ 3 ≤ k ∧ k ≤ 7) ∨ (33 ≤ j ∧ j < 39 ∧ 2 ≤ k ∧ k ≤ 9) ∨ (51 ≤ j ∧ j < 57 ∧ k = 99) ∨ ((j = 17 ∨ j = 20) ∧ k = 99)) S S' ∧ True) (fun S' t => BW G (va_A (wX G ad S) sz) (wX G ad S') t) (va_A (wX G ad S) sz)) 0 0 (va_A (wX G ad S) sz) := by
  refine Met.ofW (cc := cX11_who) (maxL := 4) (ret := (some .int)) (by decide) rfl ?_
  intro p e s m args below meth c₀ s₁ B hml hv
  obtain ⟨rfl, hsz, hP, hK, hD0⟩ := hv
  have hx := B.exec
  have hb := B.bytes
  have hr := B.returns
  have hT : ∀ w ∈ TBL, w.before ([.ref (ad 0)] : List Value).toArray s = true := fun w h => atoms_spec (ws := Cond.code yX11_who cX11_who 4 (some .int) :: TBL) B.pre w (List.mem_cons_of_mem _ h)
  have hown : s.vm.findClass "LittleMore" = some m.cls := findClass_of_methodNamed B.named
  have hlocks := B.notSynchronized
  subst hsz
  have hD := hD0.self (sz := s.heap.size)
  generalize hAe : va_A (wX G ad S) s.heap.size = A at hD ⊢
  have hA : ∀ q : Nat, s.heap.size ≤ q → A q := fun q h => by rw [← hAe]; exact Or.inr h
  have hS : va_S A s.heap s.heap [] := va_S.rf
  have hP : va_P G.1 vwCl (wX G ad S) s.heap := hP
  have hl := lv_entry ([.ref (ad 0)]) (n := 4) (Nat.le_of_ble_eq_true rfl)
  rw [lg_entry_eq]
  generalize (lg_sl ([.ref (ad 0)]) ++ List.replicate (4 - (lg_sl ([.ref (ad 0)])).length) Slot.unset).toArray = ls at hl ⊢
  have hl : lv_has ls 4 [(0, .ref (ad 0))] := hl
  refine W_abs (fun Q hQ => ?_)
  generalize ([.ref (ad 0)] : List Value).toArray = args at hT hQ ⊢
  refine lv_aload_n hx hb (fk_get fk_cX11_who_0 0 rfl) rfl (lv_at hl 0 rfl) ?_
  have hFc := va_self hD hS hA
  refine va_callr (va_runV (As := []) (rest := []) ⟨hx, hb, hml, hown, hT⟩ (c_x11_shopToTry l G ad S s.heap.size (n) (hn) (hn6) (hX)) (tV 0 hT m3_211 m3_213 mp_11 m1_1 m3_214 rfl rfl (by decide +kernel) ⟨Nat.le_of_ble_eq_true rfl, Nat.le_of_ble_eq_true rfl⟩) ⟨PcW_blind, va_recv hK hP (ci := 13) (q0 := 0) rfl (ix_at (lt71 (by omega)) (cX_0 G ad S)), PcW_of hP hK hD _⟩ rfl rfl hl.1 rfl (lv_room (Nat.le_of_ble_eq_true rfl)) (fk_get fk_cX11_who_0 1 rfl) ⟨Nat.zero_le _, Nat.zero_le _⟩) hS (fun q _ h => hFc q h) hFc (fun S_3 r_1 t_ H locs ht_ hvm_ hw_2 hB_ hz_ hk_ hS => ?_)
  obtain ⟨hra_, hB_⟩ := hB_
  subst hra_
  obtain ⟨hP, -, hD1_⟩ := hB_
  rw [ht_] at hP
  have hD : va_D A (wX G ad S_3) := hD1_.weaken (fun k q _ h => hFc q.1 h)
  try dsimp only at hw_2
  obtain ⟨hX_4, hF_5_, hw_2⟩ := hw_2
  have hF_5 : Fr (fun j k => (j = 11 ∧ 3 ≤ k ∧ k ≤ 7) ∨ (33 ≤ j ∧ j < 39 ∧ 2 ≤ k ∧ k ≤ 9) ∨ (51 ≤ j ∧ j < 57 ∧ k = 99) ∨ ((j = 17 ∨ j = 20) ∧ k = 99)) S S_3 := Fr.trans (Fr.rf : Fr (fun j k => (j = 11 ∧ 3 ≤ k ∧ k ≤ 7) ∨ (33 ≤ j ∧ j < 39 ∧ 2 ≤ k ∧ k ≤ 9) ∨ (51 ≤ j ∧ j < 57 ∧ k = 99) ∨ ((j = 17 ∨ j = 20) ∧ k = 99)) S S) (Fr.mono hF_5_ (fun j k h => by omega))
  refine lv_astore_n (lv' := [(1, .ref (ad (9 + 2))), (0, .ref (ad 0))]) hx hb (fk_get fk_cX11_who_0 2 rfl) rfl hl (by decide) rfl (fun ls hl => ?_)
  refine lv_iconst (v := 0) hx hb (fk_get fk_cX11_who_0 3 rfl) (by decide) ?_
  refine lv_istore_n (lv' := [(2, .int (0)), (1, .ref (ad (9 + 2))), (0, .ref (ad 0))]) hx hb (fk_get fk_cX11_who_0 4 rfl) rfl hl (by decide) rfl (fun ls hl => ?_)
  refine lv_iconst (v := 0) hx hb (fk_get fk_cX11_who_0 5 rfl) (by decide) ?_
  refine lv_istore_n (lv' := [(3, .int (0)), (2, .int (0)), (1, .ref (ad (9 + 2))), (0, .ref (ad 0))]) hx hb (fk_get fk_cX11_who_0 6 rfl) rfl hl (by decide) rfl (fun ls hl => ?_)
  have lp_6 : ∀ (fu : Nat) (c : Nat) (v2 : Int32) (SL9 : FS) (H_8 : Heap) (locs_9 : List Loc) (ls : Array Slot),  (XI SL9) → (Fr (fun j k => (j = 11 ∧ 3 ≤ k ∧ k ≤ 7) ∨ (33 ≤ j ∧ j < 39 ∧ 2 ≤ k ∧ k ≤ 9) ∨ (51 ≤ j ∧ j < 57 ∧ k = 99) ∨ ((j = 17 ∨ j = 20) ∧ k = 99)) S SL9) → (c ≤ 6) → (6 < c + fu) → va_P G.1 vwCl (wX G ad SL9) H_8 → va_D A (wX G ad SL9) → va_S A s.heap H_8 locs_9 → lv_has ls 4 [(3, .int ((nI c))), (2, .int (v2)), (1, .ref (ad (9 + 2))), (0, .ref (ad 0))] → W p l e ({ frames := 7, cells := 0, slots := 0, locals := 200 } : Room) s m args below meth c₀ H_8 locs_9 0 0 Q (F0 m 9 ls []) := by
    intro fu
    induction fu with
    | zero =>
      intro c v2 SL9 H_8 locs_9 ls hXl9 hFl9 hk hf hP hD hS hl
      exact absurd hf (by omega)
    | succ fu ih =>
      intro c v2 SL9 H_8 locs_9 ls hXl9 hFl9 hk hf hP hD hS hl
      refine lv_iload_n hx hb (fk_get fk_cX11_who_0 7 rfl) rfl (lv_at hl 0 rfl) ?_
      refine lv_aload_n hx hb (fk_get fk_cX11_who_0 8 rfl) rfl (lv_at hl 2 rfl) ?_
      refine va_get (D := G.1) (ci := 9) (v := .int (fF SL9 (9 + 2) 3)) (C := RX7) (T := TX7) (N := 8) hx hb hT inX7 hown hK hP (9 + 2) (ix_at (lt71 (by omega)) (cX_shop (pk_shop (by decide : 2 < 3)))) rfl 3 (by decide) (hT _ m1_209) (fun _ h9 => h9) rfl (fk_get fk_cX11_who_0 9 rfl) ?_
      obtain ⟨n_10, en_10, bn_10⟩ := XI.size hXl9 (by decide : 2 < 3)
      rw [en_10]
      refine lv_icmp_ge (tgt := 42) hx hb (fk_get fk_cX11_who_0 10 rfl) (by decide) (fun c_11 => ?_) (fun c_11 => ?_)
      · have q_c_11 : n_10 ≤ c := ci_le (a := n_10) (b := c) (by omega) (by omega) c_11
        refine lv_iload_n hx hb (fk_get fk_cX11_who_0 26 rfl) rfl (lv_at hl 1 rfl) ?_
        subst hQ
        have hpost : XI SL9 ∧ Fr (fun j k => (j = 11 ∧ 3 ≤ k ∧ k ≤ 7) ∨ (33 ≤ j ∧ j < 39 ∧ 2 ≤ k ∧ k ≤ 9) ∨ (51 ≤ j ∧ j < 57 ∧ k = 99) ∨ ((j = 17 ∨ j = 20) ∧ k = 99)) S SL9 ∧ True := by
          exact ⟨hXl9, hFl9, trivial⟩
        exact W.iret (v := v2) hx hb hr (fun t_ ht_ hW_ => ⟨⟨v2, SL9, rfl, hpost, by rw [ht_]; exact hP, va_K.moved hW_.alike hK, hD⟩, hS.F ht_⟩) hS.2.2 (fk_get fk_cX11_who_0 27 rfl)
      have q_c_11 : c < n_10 := ci_nle (a := n_10) (b := c) (by omega) (by omega) c_11
      refine lv_aload_n hx hb (fk_get fk_cX11_who_0 11 rfl) rfl (lv_at hl 2 rfl) ?_
      refine lv_aload_n hx hb (fk_get fk_cX11_who_0 12 rfl) rfl (lv_at hl 2 rfl) ?_
      refine va_get (D := G.1) (ci := 9) (v := .ref (ad (9 + 2 + 3))) (C := RX7) (T := TX7) (N := 8) hx hb hT inX7 hown hK hP (9 + 2) (ix_at (lt71 (by omega)) (cX_shop (pk_shop (by decide : 2 < 3)))) rfl 0 (by decide) (hT _ m1_203) (fun _ h9 => h9) rfl (fk_get fk_cX11_who_0 13 rfl) ?_
      refine lv_iload_n hx hb (fk_get fk_cX11_who_0 14 rfl) rfl (lv_at hl 0 rfl) ?_
      refine x_ppl hx hb hK hP (by decide : 2 < 3) (k := c) (by omega) (rfl) (fk_get fk_cX11_who_0 15 rfl) ?_
      generalize hg_i_23 : 21 + 6 * 2 + c = i_23
      have hp_i_23 : pk i_23 = 7 := by rw [← hg_i_23]; exact pk_c (by decide : 2 < 3) (by omega)
      have hb_i_23 := pk7 hp_i_23
      have hFc := va_self hD hS hA
      refine va_calli (va_runV (As := [.ref (ad i_23)]) (rest := []) ⟨hx, hb, hml, hown, hT⟩ (c_x7_cutsAreSeen l G ad SL9 H_8.size (2) (i_23) ((by decide : 2 < 3)) (hp_i_23) (hXl9)) (tV 1 hT m4_48 m4_49 m4_50 m1_9 m4_51 rfl rfl (by decide +kernel) ⟨Nat.le_of_ble_eq_true rfl, Nat.le_of_ble_eq_true rfl⟩) ⟨PcW_blind, va_recv hK hP (ci := 9) (q0 := (9 + 2)) rfl (ix_at (lt71 (by omega)) (cX_shop (pk_shop (by decide : 2 < 3)))), PcW_of hP hK hD _⟩ rfl rfl hl.1 rfl (lv_room (Nat.le_of_ble_eq_true rfl)) (fk_get fk_cX11_who_0 16 rfl) ⟨Nat.zero_le _, Nat.zero_le _⟩) hS (fun q _ h => hFc q h) hFc (fun r_12 S_14 t_ H locs ht_ hvm_ hw_13 hB_ hz_ hk_ hS => ?_)
      obtain ⟨hP, -, hD1_⟩ := hB_
      rw [ht_] at hP
      have hD : va_D A (wX G ad S_14) := hD1_.weaken (fun k q _ h => hFc q.1 h)
      try dsimp only at hw_13
      obtain ⟨hX_15, hF_16_, hw_13⟩ := hw_13
      have hF_16 : Fr (fun j k => (j = 11 ∧ 3 ≤ k ∧ k ≤ 7) ∨ (33 ≤ j ∧ j < 39 ∧ 2 ≤ k ∧ k ≤ 9) ∨ (51 ≤ j ∧ j < 57 ∧ k = 99) ∨ ((j = 17 ∨ j = 20) ∧ k = 99)) S S_14 := Fr.trans hFl9 (Fr.mono hF_16_ (fun j k h => by omega))
      refine lv_if_eq (tgt := 36) hx hb (fk_get fk_cX11_who_0 17 rfl) (by decide) (fun c_17 => ?_) (fun c_17 => ?_)
      · refine lv_iinc (v := (nI (c + 1))) (lv' := [(3, .int ((nI (c + 1)))), (2, .int (v2)), (1, .ref (ad (9 + 2))), (0, .ref (ad 0))]) hx hb (fk_get fk_cX11_who_0 24 rfl) hl (k := 0) rfl ((nI_1 c)) (by decide) rfl (fun ls hl => ?_)
        refine lv_goto (tgt := 9) hx hb (fk_get fk_cX11_who_0 25 rfl) (by decide) ?_
        exact ih (c + 1) (v2) (S_14) _ _ ls (hX_15) (hF_16) (by omega) (by omega) hP hD hS (lv_sub hl [0, 1, 2, 3] rfl)
      refine lv_iload_n hx hb (fk_get fk_cX11_who_0 18 rfl) rfl (lv_at hl 1 rfl) ?_
      refine lv_iconst (v := 1) hx hb (fk_get fk_cX11_who_0 19 rfl) (by decide) ?_
      refine lv_iload_n hx hb (fk_get fk_cX11_who_0 20 rfl) rfl (lv_at hl 0 rfl) ?_
      refine lv_ishl hx hb (fk_get fk_cX11_who_0 21 rfl) ?_
      refine lv_ior hx hb (fk_get fk_cX11_who_0 22 rfl) ?_
      refine lv_istore_n (lv' := [(2, .int ((v2 ||| (1 <<< ((nI c) &&& 31))))), (3, .int ((nI c))), (1, .ref (ad (9 + 2))), (0, .ref (ad 0))]) hx hb (fk_get fk_cX11_who_0 23 rfl) rfl hl (by decide) rfl (fun ls hl => ?_)
      refine lv_iinc (v := (nI (c + 1))) (lv' := [(3, .int ((nI (c + 1)))), (2, .int ((v2 ||| (1 <<< ((nI c) &&& 31))))), (1, .ref (ad (9 + 2))), (0, .ref (ad 0))]) hx hb (fk_get fk_cX11_who_0 24 rfl) hl (k := 1) rfl ((nI_1 c)) (by decide) rfl (fun ls hl => ?_)
      refine lv_goto (tgt := 9) hx hb (fk_get fk_cX11_who_0 25 rfl) (by decide) ?_
      exact ih (c + 1) ((v2 ||| (1 <<< ((nI c) &&& 31)))) (S_14) _ _ ls (hX_15) (hF_16) (by omega) (by omega) hP hD hS (lv_sub hl [0, 1, 2, 3] rfl)
  exact lp_6 (6 + 1) (0) (0) (S_3) _ _ ls (hX_4) (hF_5) (by omega) (by omega) hP hD hS (lv_sub hl [0, 1, 2, 3] rfl)
set_option maxHeartbeats 800000 in
set_option maxRecDepth 100000 in
theorem c_x11_offs (l : Launch) (G : GG) (ad : Nat → Nat) (S : FS) (sz : Nat) (n : Nat) (x : Int32) (w_ : Int32) (hn : fF S (9 + 0) 3 = nI n) (hn6 : n ≤ 6) (hX : XI S) : Met l yX11_offs (Cond.code yX11_offs cX11_offs 6 (some .int) :: TBL) ({ frames := 8, cells := 0, slots := 0, locals := 228 } : Room) (PcW G (wX G ad S) sz [.ref (ad 0), .int (x), .int (w_)]) (va_Qi (fun (r : Int32) (S' : FS) => XI S' ∧ Fr (fun j k => (j = 11 ∧ 3 ≤ k ∧ k ≤ 7) ∨ (33 ≤ j ∧ j < 39 ∧ 2 ≤ k ∧ k ≤ 9) ∨ (51 ≤ j ∧ j < 57 ∧ k = 99) ∨ ((j = 17 ∨ j = 20) ∧ k = 99)) S S' ∧ True) (fun S' t => BW G (va_A (wX G ad S) sz) (wX G ad S') t) (va_A (wX G ad S) sz)) 0 0 (va_A (wX G ad S) sz) := by
  refine Met.ofW (cc := cX11_offs) (maxL := 6) (ret := (some .int)) (by decide) rfl ?_
  intro p e s m args below meth c₀ s₁ B hml hv
  obtain ⟨rfl, hsz, hP, hK, hD0⟩ := hv
  have hx := B.exec
  have hb := B.bytes
  have hr := B.returns
  have hT : ∀ w ∈ TBL, w.before ([.ref (ad 0), .int (x), .int (w_)] : List Value).toArray s = true := fun w h => atoms_spec (ws := Cond.code yX11_offs cX11_offs 6 (some .int) :: TBL) B.pre w (List.mem_cons_of_mem _ h)
  have hown : s.vm.findClass "LittleMore" = some m.cls := findClass_of_methodNamed B.named
  have hlocks := B.notSynchronized
  subst hsz
  have hD := hD0.self (sz := s.heap.size)
  generalize hAe : va_A (wX G ad S) s.heap.size = A at hD ⊢
  have hA : ∀ q : Nat, s.heap.size ≤ q → A q := fun q h => by rw [← hAe]; exact Or.inr h
  have hS : va_S A s.heap s.heap [] := va_S.rf
  have hP : va_P G.1 vwCl (wX G ad S) s.heap := hP
  have hl := lv_entry ([.ref (ad 0), .int (x), .int (w_)]) (n := 6) (Nat.le_of_ble_eq_true rfl)
  rw [lg_entry_eq]
  generalize (lg_sl ([.ref (ad 0), .int (x), .int (w_)]) ++ List.replicate (6 - (lg_sl ([.ref (ad 0), .int (x), .int (w_)])).length) Slot.unset).toArray = ls at hl ⊢
  have hl : lv_has ls 6 [(0, .ref (ad 0)), (1, .int (x)), (2, .int (w_))] := hl
  refine W_abs (fun Q hQ => ?_)
  generalize ([.ref (ad 0), .int (x), .int (w_)] : List Value).toArray = args at hT hQ ⊢
  refine lv_aload_n hx hb (fk_get fk_cX11_offs_0 0 rfl) rfl (lv_at hl 0 rfl) ?_
  refine va_get (D := G.1) (ci := 13) (v := .ref (ad (9 + 0))) (C := RX11) (T := TX11) (N := 11) hx hb hT inX11 hown hK hP 0 (ix_at (lt71 (by omega)) (cX_0 G ad S)) rfl 1 (by decide) (hT _ m2_70) (fun _ h9 => h9) rfl (fk_get fk_cX11_offs_0 1 rfl) ?_
  refine lv_iload_n hx hb (fk_get fk_cX11_offs_0 2 rfl) rfl (lv_at hl 1 rfl) ?_
  refine va_csq (W.runV (As := [.int (x)]) (rest := []) ⟨hx, hb, hml, hown, hT⟩ (c_x7_at l G ad S s.heap.size (0) (n) (x) ((by decide : 0 < 3)) (hn) (hn6) (hX)) (tV 1 hT m2_120 m2_121 m2_122 m1_9 m2_123 rfl rfl (by decide +kernel) ⟨Nat.le_of_ble_eq_true rfl, Nat.le_of_ble_eq_true rfl⟩) ⟨PcW_blind, va_recv hK hP (ci := 9) (q0 := (9 + 0)) rfl (ix_at (lt71 (by omega)) (cX_shop (pk_shop (by decide : 0 < 3)))), PcW_of hP hK hD _⟩ rfl rfl hl.1 rfl (lv_room (Nat.le_of_ble_eq_true rfl)) (fk_get fk_cX11_offs_0 3 rfl) ⟨Nat.zero_le _, Nat.zero_le _⟩) (fun r_1 hw_2 => ?_)
  try dsimp only at hw_2
  rcases hw_2 with ⟨j_5, hj_5, ej_5, rfl⟩ | ⟨rfl, hn_5⟩
  · rw [show va_rf (some (ad (21 + 6 * 0 + j_5))) = .ref (ad (21 + 6 * 0 + j_5)) from rfl]
    generalize hg_i_5 : 21 + 6 * 0 + j_5 = i_5
    have hp_i_5 : pk i_5 = 7 := by rw [← hg_i_5]; exact pk_c (by decide : 0 < 3) (show j_5 < 6 by omega)
    have hb_i_5 := pk7 hp_i_5
    refine lv_ifnull hx hb (fk_get fk_cX11_offs_0 4 rfl) ?_
    refine lv_iload_n hx hb (fk_get fk_cX11_offs_0 5 rfl) rfl (lv_at hl 2 rfl) ?_
    refine lv_iconst (v := 0) hx hb (fk_get fk_cX11_offs_0 6 rfl) (by decide) ?_
    refine lv_iconst (v := 1) hx hb (fk_get fk_cX11_offs_0 7 rfl) (by decide) ?_
    refine vp_callSi (W.runS (As := [.int (w_), .int (0), .int (1)]) (rest := []) ⟨hx, hb, hml, hown, hT⟩ (c_xisOutside l (w_) (0) (1) ) (tS 3 hT m2_108 m2_109 m1_1 m2_110 rfl rfl (by decide +kernel) ⟨Nat.le_of_ble_eq_true rfl, Nat.le_of_ble_eq_true rfl⟩) ⟨PcN_blind, PcN_of _ _ _⟩ rfl rfl hl.1 rfl (lv_room (Nat.le_of_ble_eq_true rfl)) (fk_get fk_cX11_offs_0 8 rfl) ⟨Nat.zero_le _, Nat.zero_le _⟩) (fun r_3 hw_4 => ?_)
    try dsimp only at hw_4
    refine lv_if_eq (tgt := 22) hx hb (fk_get fk_cX11_offs_0 9 rfl) (by decide) (fun c_5 => ?_) (fun c_5 => ?_)
    · have p_c_5 := if1_f hw_4 c_5
      refine lv_iconst (v := 0) hx hb (fk_get fk_cX11_offs_0 12 rfl) (by decide) ?_
      refine lv_istore_n (lv' := [(3, .int (0)), (0, .ref (ad 0)), (1, .int (x)), (2, .int (w_))]) hx hb (fk_get fk_cX11_offs_0 13 rfl) rfl hl (by decide) rfl (fun ls hl => ?_)
      refine lv_bipush (v := (-5)) hx hb (fk_get fk_cX11_offs_0 14 rfl) (by decide) ?_
      refine lv_istore (lv' := [(4, .int ((-5))), (3, .int (0)), (0, .ref (ad 0)), (1, .int (x)), (2, .int (w_))]) hx hb (fk_get fk_cX11_offs_0 15 rfl) hl (by decide) rfl (fun ls hl => ?_)
      refine lv_bipush (v := 30) hx hb (fk_get fk_cX11_offs_0 16 rfl) (by decide) ?_
      refine lv_istore (lv' := [(5, .int (30)), (4, .int ((-5))), (3, .int (0)), (0, .ref (ad 0)), (1, .int (x)), (2, .int (w_))]) hx hb (fk_get fk_cX11_offs_0 17 rfl) hl (by decide) rfl (fun ls hl => ?_)
      have lp_6 : ∀ (fu : Nat) (c : Nat) (v3 v4 : Int32) (SL32 : FS) (H_8 : Heap) (locs_9 : List Loc) (ls : Array Slot),  (XI SL32) → (Fr (fun j k => (j = 11 ∧ 3 ≤ k ∧ k ≤ 7) ∨ (33 ≤ j ∧ j < 39 ∧ 2 ≤ k ∧ k ≤ 9) ∨ (51 ≤ j ∧ j < 57 ∧ k = 99) ∨ ((j = 17 ∨ j = 20) ∧ k = 99)) S SL32) → (c ≤ 31) → (c < fu) → (fF SL32 (9 + 0) 3 = nI n) → va_P G.1 vwCl (wX G ad SL32) H_8 → va_D A (wX G ad SL32) → va_S A s.heap H_8 locs_9 → lv_has ls 6 [(5, .int ((nI c - 1))), (4, .int (v4)), (3, .int (v3)), (0, .ref (ad 0)), (1, .int (x)), (2, .int (w_))] → W p l e ({ frames := 8, cells := 0, slots := 0, locals := 228 } : Room) s m args below meth c₀ H_8 locs_9 0 0 Q (F0 m 32 ls []) := by
        intro fu
        induction fu with
        | zero =>
          intro c v3 v4 SL32 H_8 locs_9 ls hXl32 hFl32 hk hf hn2 hP hD hS hl
          exact absurd hf (by omega)
        | succ fu ih =>
          intro c v3 v4 SL32 H_8 locs_9 ls hXl32 hFl32 hk hf hn2 hP hD hS hl
          refine lv_iload hx hb (fk_get fk_cX11_offs_0 18 rfl) (lv_at hl 0 rfl) ?_
          refine lv_if_lt (tgt := 60) hx hb (fk_get fk_cX11_offs_0 19 rfl) (by decide) (fun c_10 => ?_) (fun c_10 => ?_)
          · refine lv_iload_n hx hb (fk_get fk_cX11_offs_0 30 rfl) rfl (lv_at hl 5 rfl) ?_
            refine lv_if_ne (tgt := 68) hx hb (fk_get fk_cX11_offs_0 31 rfl) (by decide) (fun c_11 => ?_) (fun c_11 => ?_)
            · refine lv_iload hx hb (fk_get fk_cX11_offs_1 2 rfl) (lv_at hl 1 rfl) ?_
              subst hQ
              have hpost : XI SL32 ∧ Fr (fun j k => (j = 11 ∧ 3 ≤ k ∧ k ≤ 7) ∨ (33 ≤ j ∧ j < 39 ∧ 2 ≤ k ∧ k ≤ 9) ∨ (51 ≤ j ∧ j < 57 ∧ k = 99) ∨ ((j = 17 ∨ j = 20) ∧ k = 99)) S SL32 ∧ True := by
                exact ⟨hXl32, hFl32, trivial⟩
              exact W.iret (v := v4) hx hb hr (fun t_ ht_ hW_ => ⟨⟨v4, SL32, rfl, hpost, by rw [ht_]; exact hP, va_K.moved hW_.alike hK, hD⟩, hS.F ht_⟩) hS.2.2 (fk_get fk_cX11_offs_1 3 rfl)
            refine lv_iload_n hx hb (fk_get fk_cX11_offs_1 0 rfl) rfl (lv_at hl 2 rfl) ?_
            refine lv_goto (tgt := 70) hx hb (fk_get fk_cX11_offs_1 1 rfl) (by decide) ?_
            subst hQ
            have hpost : XI SL32 ∧ Fr (fun j k => (j = 11 ∧ 3 ≤ k ∧ k ≤ 7) ∨ (33 ≤ j ∧ j < 39 ∧ 2 ≤ k ∧ k ≤ 9) ∨ (51 ≤ j ∧ j < 57 ∧ k = 99) ∨ ((j = 17 ∨ j = 20) ∧ k = 99)) S SL32 ∧ True := by
              exact ⟨hXl32, hFl32, trivial⟩
            exact W.iret (v := v3) hx hb hr (fun t_ ht_ hW_ => ⟨⟨v3, SL32, rfl, hpost, by rw [ht_]; exact hP, va_K.moved hW_.alike hK, hD⟩, hS.F ht_⟩) hS.2.2 (fk_get fk_cX11_offs_1 3 rfl)
          have hk1 : 1 ≤ c := Nat.pos_of_ne_zero (fun q => c_10 (by rw [q]; decide))
          refine lv_aload_n hx hb (fk_get fk_cX11_offs_0 20 rfl) rfl (lv_at hl 3 rfl) ?_
          refine lv_iload hx hb (fk_get fk_cX11_offs_0 21 rfl) (lv_at hl 0 rfl) ?_
          refine lv_iload_n hx hb (fk_get fk_cX11_offs_0 22 rfl) rfl (lv_at hl 4 rfl) ?_
          have hFc := va_self hD hS hA
          refine va_calli (va_runV (As := [.int ((nI c - 1)), .int (x)]) (rest := []) ⟨hx, hb, hml, hown, hT⟩ (c_x11_isSeenWith l G ad SL32 H_8.size (n) ((nI c - 1)) (x) (hn2) (hn6) (hXl32)) (tV 2 hT m4_56 m4_58 mp_14 m1_1 m4_59 rfl rfl (by decide +kernel) ⟨Nat.le_of_ble_eq_true rfl, Nat.le_of_ble_eq_true rfl⟩) ⟨PcW_blind, va_recv hK hP (ci := 13) (q0 := 0) rfl (ix_at (lt71 (by omega)) (cX_0 G ad SL32)), PcW_of hP hK hD _⟩ rfl rfl hl.1 rfl (lv_room (Nat.le_of_ble_eq_true rfl)) (fk_get fk_cX11_offs_0 23 rfl) ⟨Nat.zero_le _, Nat.zero_le _⟩) hS (fun q _ h => hFc q h) hFc (fun r_12 S_14 t_ H locs ht_ hvm_ hw_13 hB_ hz_ hk_ hS => ?_)
          obtain ⟨hP, -, hD1_⟩ := hB_
          rw [ht_] at hP
          have hD : va_D A (wX G ad S_14) := hD1_.weaken (fun k q _ h => hFc q.1 h)
          try dsimp only at hw_13
          obtain ⟨hX_15, hF_16_, hw_13⟩ := hw_13
          have hF_16 : Fr (fun j k => (j = 11 ∧ 3 ≤ k ∧ k ≤ 7) ∨ (33 ≤ j ∧ j < 39 ∧ 2 ≤ k ∧ k ≤ 9) ∨ (51 ≤ j ∧ j < 57 ∧ k = 99) ∨ ((j = 17 ∨ j = 20) ∧ k = 99)) S S_14 := Fr.trans hFl32 (Fr.mono hF_16_ (fun j k h => by omega))
          have hff_ := hF_16_
          refine lv_if_eq (tgt := 54) hx hb (fk_get fk_cX11_offs_0 24 rfl) (by decide) (fun c_17 => ?_) (fun c_17 => ?_)
          · refine lv_iinc (v := (nI (c - 1) - 1)) (lv' := [(5, .int ((nI (c - 1) - 1))), (4, .int (v4)), (3, .int (v3)), (0, .ref (ad 0)), (1, .int (x)), (2, .int (w_))]) hx hb (fk_get fk_cX11_offs_0 28 rfl) hl (k := 0) rfl ((nI_dn hk1)) (by decide) rfl (fun ls hl => ?_)
            refine lv_goto (tgt := 32) hx hb (fk_get fk_cX11_offs_0 29 rfl) (by decide) ?_
            exact ih (c - 1) (v3) (v4) (S_14) _ _ ls (hX_15) (hF_16) (by omega) (by omega) ((hff_.F (lt71 (by omega)) (by omega)).trans hn2) hP hD hS (lv_sub hl [0, 1, 2, 3, 4, 5] rfl)
          refine lv_iinc (v := v3 + 1) (lv' := [(3, .int (v3 + 1)), (5, .int ((nI c - 1))), (4, .int (v4)), (0, .ref (ad 0)), (1, .int (x)), (2, .int (w_))]) hx hb (fk_get fk_cX11_offs_0 25 rfl) hl (k := 2) rfl (rfl) (by decide) rfl (fun ls hl => ?_)
          refine lv_iload hx hb (fk_get fk_cX11_offs_0 26 rfl) (lv_at hl 1 rfl) ?_
          refine lv_istore (lv' := [(4, .int ((nI c - 1))), (3, .int (v3 + 1)), (5, .int ((nI c - 1))), (0, .ref (ad 0)), (1, .int (x)), (2, .int (w_))]) hx hb (fk_get fk_cX11_offs_0 27 rfl) hl (by decide) rfl (fun ls hl => ?_)
          refine lv_iinc (v := (nI (c - 1) - 1)) (lv' := [(5, .int ((nI (c - 1) - 1))), (4, .int ((nI c - 1))), (3, .int (v3 + 1)), (0, .ref (ad 0)), (1, .int (x)), (2, .int (w_))]) hx hb (fk_get fk_cX11_offs_0 28 rfl) hl (k := 2) rfl ((nI_dn hk1)) (by decide) rfl (fun ls hl => ?_)
          refine lv_goto (tgt := 32) hx hb (fk_get fk_cX11_offs_0 29 rfl) (by decide) ?_
          exact ih (c - 1) (v3 + 1) ((nI c - 1)) (S_14) _ _ ls (hX_15) (hF_16) (by omega) (by omega) ((hff_.F (lt71 (by omega)) (by omega)).trans hn2) hP hD hS (lv_sub hl [0, 1, 2, 3, 4, 5] rfl)
      exact lp_6 (32) (31) (0) ((-5)) (S) _ _ ls (hX) ((Fr.rf : Fr (fun j k => (j = 11 ∧ 3 ≤ k ∧ k ≤ 7) ∨ (33 ≤ j ∧ j < 39 ∧ 2 ≤ k ∧ k ≤ 9) ∨ (51 ≤ j ∧ j < 57 ∧ k = 99) ∨ ((j = 17 ∨ j = 20) ∧ k = 99)) S S)) (by omega) (by omega) (hn) hP hD hS (lv_sub hl [0, 1, 2, 3, 4, 5] rfl)
    have p_c_5 := if1_t hw_4 c_5
    refine lv_iconst (v := (-1)) hx hb (fk_get fk_cX11_offs_0 10 rfl) (by decide) ?_
    subst hQ
    have hpost : XI S ∧ Fr (fun j k => (j = 11 ∧ 3 ≤ k ∧ k ≤ 7) ∨ (33 ≤ j ∧ j < 39 ∧ 2 ≤ k ∧ k ≤ 9) ∨ (51 ≤ j ∧ j < 57 ∧ k = 99) ∨ ((j = 17 ∨ j = 20) ∧ k = 99)) S S ∧ True := by
      exact ⟨hX, (Fr.rf : Fr (fun j k => (j = 11 ∧ 3 ≤ k ∧ k ≤ 7) ∨ (33 ≤ j ∧ j < 39 ∧ 2 ≤ k ∧ k ≤ 9) ∨ (51 ≤ j ∧ j < 57 ∧ k = 99) ∨ ((j = 17 ∨ j = 20) ∧ k = 99)) S S), trivial⟩
    exact W.iret (v := (-1)) hx hb hr (fun t_ ht_ hW_ => ⟨⟨(-1), S, rfl, hpost, by rw [ht_]; exact hP, va_K.moved hW_.alike hK, hD⟩, hS.F ht_⟩) hS.2.2 (fk_get fk_cX11_offs_0 11 rfl)
  rw [show va_rf none = .null from rfl]
  refine lv_ifnullN (tgt := 20) hx hb (fk_get fk_cX11_offs_0 4 rfl) (by decide) ?_
  refine lv_iconst (v := (-1)) hx hb (fk_get fk_cX11_offs_0 10 rfl) (by decide) ?_
  subst hQ
  have hpost : XI S ∧ Fr (fun j k => (j = 11 ∧ 3 ≤ k ∧ k ≤ 7) ∨ (33 ≤ j ∧ j < 39 ∧ 2 ≤ k ∧ k ≤ 9) ∨ (51 ≤ j ∧ j < 57 ∧ k = 99) ∨ ((j = 17 ∨ j = 20) ∧ k = 99)) S S ∧ True := by
    exact ⟨hX, (Fr.rf : Fr (fun j k => (j = 11 ∧ 3 ≤ k ∧ k ≤ 7) ∨ (33 ≤ j ∧ j < 39 ∧ 2 ≤ k ∧ k ≤ 9) ∨ (51 ≤ j ∧ j < 57 ∧ k = 99) ∨ ((j = 17 ∨ j = 20) ∧ k = 99)) S S), trivial⟩
  exact W.iret (v := (-1)) hx hb hr (fun t_ ht_ hW_ => ⟨⟨(-1), S, rfl, hpost, by rw [ht_]; exact hP, va_K.moved hW_.alike hK, hD⟩, hS.F ht_⟩) hS.2.2 (fk_get fk_cX11_offs_0 11 rfl)
set_option maxHeartbeats 800000 in
set_option maxRecDepth 100000 in
theorem c_x11_odds (l : Launch) (G : GG) (ad : Nat → Nat) (S : FS) (sz : Nat) (n : Nat) (x : Int32) (w_ : Int32) (hn : fF S (9 + 0) 3 = nI n) (hn6 : n ≤ 6) (hX : XI S) : Met l yX11_odds (Cond.code yX11_odds cX11_odds 4 (some .long) :: TBL) ({ frames := 8, cells := 0, slots := 0, locals := 227 } : Room) (PcW G (wX G ad S) sz [.ref (ad 0), .int (x), .int (w_)]) (va_Ql (fun (r : Int64) (S' : FS) => XI S' ∧ Fr (fun j k => (j = 11 ∧ 3 ≤ k ∧ k ≤ 7) ∨ (33 ≤ j ∧ j < 39 ∧ 2 ≤ k ∧ k ≤ 9) ∨ (51 ≤ j ∧ j < 57 ∧ k = 99) ∨ ((j = 17 ∨ j = 20) ∧ k = 99)) S S' ∧ True) (fun S' t => BW G (va_A (wX G ad S) sz) (wX G ad S') t) (va_A (wX G ad S) sz)) 0 0 (va_A (wX G ad S) sz) := by
  refine Met.ofW (cc := cX11_odds) (maxL := 4) (ret := (some .long)) (by decide) rfl ?_
  intro p e s m args below meth c₀ s₁ B hml hv
  obtain ⟨rfl, hsz, hP, hK, hD0⟩ := hv
  have hx := B.exec
  have hb := B.bytes
  have hr := B.returns
  have hT : ∀ w ∈ TBL, w.before ([.ref (ad 0), .int (x), .int (w_)] : List Value).toArray s = true := fun w h => atoms_spec (ws := Cond.code yX11_odds cX11_odds 4 (some .long) :: TBL) B.pre w (List.mem_cons_of_mem _ h)
  have hown : s.vm.findClass "LittleMore" = some m.cls := findClass_of_methodNamed B.named
  have hlocks := B.notSynchronized
  subst hsz
  have hD := hD0.self (sz := s.heap.size)
  generalize hAe : va_A (wX G ad S) s.heap.size = A at hD ⊢
  have hA : ∀ q : Nat, s.heap.size ≤ q → A q := fun q h => by rw [← hAe]; exact Or.inr h
  have hS : va_S A s.heap s.heap [] := va_S.rf
  have hP : va_P G.1 vwCl (wX G ad S) s.heap := hP
  have hl := lv_entry ([.ref (ad 0), .int (x), .int (w_)]) (n := 4) (Nat.le_of_ble_eq_true rfl)
  rw [lg_entry_eq]
  generalize (lg_sl ([.ref (ad 0), .int (x), .int (w_)]) ++ List.replicate (4 - (lg_sl ([.ref (ad 0), .int (x), .int (w_)])).length) Slot.unset).toArray = ls at hl ⊢
  have hl : lv_has ls 4 [(0, .ref (ad 0)), (1, .int (x)), (2, .int (w_))] := hl
  refine W_abs (fun Q hQ => ?_)
  generalize ([.ref (ad 0), .int (x), .int (w_)] : List Value).toArray = args at hT hQ ⊢
  refine lv_iload_n hx hb (fk_get fk_cX11_odds_0 0 rfl) rfl (lv_at hl 1 rfl) ?_
  refine lv_iconst (v := 0) hx hb (fk_get fk_cX11_odds_0 1 rfl) (by decide) ?_
  refine lv_bipush (v := 40) hx hb (fk_get fk_cX11_odds_0 2 rfl) (by decide) ?_
  refine vp_callSi (W.runS (As := [.int (x), .int (0), .int (40)]) (rest := []) ⟨hx, hb, hml, hown, hT⟩ (c_xisOutside l (x) (0) (40) ) (tS 3 hT m2_108 m2_109 m1_1 m2_110 rfl rfl (by decide +kernel) ⟨Nat.le_of_ble_eq_true rfl, Nat.le_of_ble_eq_true rfl⟩) ⟨PcN_blind, PcN_of _ _ _⟩ rfl rfl hl.1 rfl (lv_room (Nat.le_of_ble_eq_true rfl)) (fk_get fk_cX11_odds_0 3 rfl) ⟨Nat.zero_le _, Nat.zero_le _⟩) (fun r_1 hw_2 => ?_)
  try dsimp only at hw_2
  refine lv_if_ne (tgt := 19) hx hb (fk_get fk_cX11_odds_0 4 rfl) (by decide) (fun c_3 => ?_) (fun c_3 => ?_)
  · have p_c_3 := if1_t hw_2 c_3
    refine lv_ldc2 (v := (-9223372036854775808)) hx hb hown (hT _ m4_64) (fk_get fk_cX11_odds_0 10 rfl) ?_
    subst hQ
    have hpost : XI S ∧ Fr (fun j k => (j = 11 ∧ 3 ≤ k ∧ k ≤ 7) ∨ (33 ≤ j ∧ j < 39 ∧ 2 ≤ k ∧ k ≤ 9) ∨ (51 ≤ j ∧ j < 57 ∧ k = 99) ∨ ((j = 17 ∨ j = 20) ∧ k = 99)) S S ∧ True := by
      exact ⟨hX, (Fr.rf : Fr (fun j k => (j = 11 ∧ 3 ≤ k ∧ k ≤ 7) ∨ (33 ≤ j ∧ j < 39 ∧ 2 ≤ k ∧ k ≤ 9) ∨ (51 ≤ j ∧ j < 57 ∧ k = 99) ∨ ((j = 17 ∨ j = 20) ∧ k = 99)) S S), trivial⟩
    exact W.lret (v := (-9223372036854775808)) hx hb hr (fun t_ ht_ hW_ => ⟨⟨(-9223372036854775808), S, rfl, hpost, by rw [ht_]; exact hP, va_K.moved hW_.alike hK, hD⟩, hS.F ht_⟩) hS.2.2 (fk_get fk_cX11_odds_0 11 rfl)
  have p_c_3 := if1_f hw_2 c_3
  obtain ⟨wz, hw40, ew⟩ := out_n (b := 40) p_c_3 (by decide)
  refine lv_iload_n hx hb (fk_get fk_cX11_odds_0 5 rfl) rfl (lv_at hl 2 rfl) ?_
  refine lv_iconst (v := 0) hx hb (fk_get fk_cX11_odds_0 6 rfl) (by decide) ?_
  refine lv_iconst (v := 1) hx hb (fk_get fk_cX11_odds_0 7 rfl) (by decide) ?_
  refine vp_callSi (W.runS (As := [.int (w_), .int (0), .int (1)]) (rest := []) ⟨hx, hb, hml, hown, hT⟩ (c_xisOutside l (w_) (0) (1) ) (tS 3 hT m2_108 m2_109 m1_1 m2_110 rfl rfl (by decide +kernel) ⟨Nat.le_of_ble_eq_true rfl, Nat.le_of_ble_eq_true rfl⟩) ⟨PcN_blind, PcN_of _ _ _⟩ rfl rfl hl.1 rfl (lv_room (Nat.le_of_ble_eq_true rfl)) (fk_get fk_cX11_odds_0 8 rfl) ⟨Nat.zero_le _, Nat.zero_le _⟩) (fun r_4 hw_5 => ?_)
  try dsimp only at hw_5
  refine lv_if_eq (tgt := 23) hx hb (fk_get fk_cX11_odds_0 9 rfl) (by decide) (fun c_6 => ?_) (fun c_6 => ?_)
  · have p_c_6 := if1_f hw_5 c_6
    refine lv_aload_n hx hb (fk_get fk_cX11_odds_0 12 rfl) rfl (lv_at hl 0 rfl) ?_
    refine lv_iload_n hx hb (fk_get fk_cX11_odds_0 13 rfl) rfl (lv_at hl 1 rfl) ?_
    have hFc := va_self hD hS hA
    refine va_callr (va_runV (As := [.int (x)]) (rest := []) ⟨hx, hb, hml, hown, hT⟩ (c_x11_shopBehindE l G ad S s.heap.size (n) (wz) (hn) (hn6) (by omega) (x) (ew) (hX)) (tV 1 hT m4_23 m4_25 mp_13 m1_1 m4_26 rfl rfl (by decide +kernel) ⟨Nat.le_of_ble_eq_true rfl, Nat.le_of_ble_eq_true rfl⟩) ⟨PcW_blind, va_recv hK hP (ci := 13) (q0 := 0) rfl (ix_at (lt71 (by omega)) (cX_0 G ad S)), PcW_of hP hK hD _⟩ rfl rfl hl.1 rfl (lv_room (Nat.le_of_ble_eq_true rfl)) (fk_get fk_cX11_odds_0 14 rfl) ⟨Nat.zero_le _, Nat.zero_le _⟩) hS (fun q _ h => hFc q h) hFc (fun S_9 r_7 t_ H locs ht_ hvm_ hw_8 hB_ hz_ hk_ hS => ?_)
    obtain ⟨hra_, hB_⟩ := hB_
    subst hra_
    obtain ⟨hP, -, hD1_⟩ := hB_
    rw [ht_] at hP
    have hD : va_D A (wX G ad S_9) := hD1_.weaken (fun k q _ h => hFc q.1 h)
    try dsimp only at hw_8
    obtain ⟨hX_10, hF_11_, hw_8⟩ := hw_8
    have hF_11 : Fr (fun j k => (j = 11 ∧ 3 ≤ k ∧ k ≤ 7) ∨ (33 ≤ j ∧ j < 39 ∧ 2 ≤ k ∧ k ≤ 9) ∨ (51 ≤ j ∧ j < 57 ∧ k = 99) ∨ ((j = 17 ∨ j = 20) ∧ k = 99)) S S_9 := Fr.trans (Fr.rf : Fr (fun j k => (j = 11 ∧ 3 ≤ k ∧ k ≤ 7) ∨ (33 ≤ j ∧ j < 39 ∧ 2 ≤ k ∧ k ≤ 9) ∨ (51 ≤ j ∧ j < 57 ∧ k = 99) ∨ ((j = 17 ∨ j = 20) ∧ k = 99)) S S) (Fr.mono hF_11_ (fun j k h => by omega))
    refine lv_astore_n (lv' := [(3, .ref (ad (9 + 2))), (0, .ref (ad 0)), (1, .int (x)), (2, .int (w_))]) hx hb (fk_get fk_cX11_odds_0 15 rfl) rfl hl (by decide) rfl (fun ls hl => ?_)
    refine lv_aload_n hx hb (fk_get fk_cX11_odds_0 16 rfl) rfl (lv_at hl 0 rfl) ?_
    refine vp_callSi (W.runV (As := []) (rest := []) ⟨hx, hb, hml, hown, hT⟩ (c_x7_howManyRefuse l G ad S_9 H.size (2) ((by decide : 2 < 3)) (hX_10)) (tV 0 hT m4_14 m4_15 m4_16 m1_9 m4_17 rfl rfl (by decide +kernel) ⟨Nat.le_of_ble_eq_true rfl, Nat.le_of_ble_eq_true rfl⟩) ⟨PcW_blind, va_recv hK hP (ci := 9) (q0 := (9 + 2)) rfl (ix_at (lt71 (by omega)) (cX_shop (pk_shop (by decide : 2 < 3)))), PcW_of hP hK hD _⟩ rfl rfl hl.1 rfl (lv_room (Nat.le_of_ble_eq_true rfl)) (fk_get fk_cX11_odds_0 17 rfl) ⟨Nat.zero_le _, Nat.zero_le _⟩) (fun r_12 hw_13 => ?_)
    try dsimp only at hw_13
    refine lv_i2l hx hb (fk_get fk_cX11_odds_0 18 rfl) rfl ?_
    refine lv_aload_n hx hb (fk_get fk_cX11_odds_0 19 rfl) rfl (lv_at hl 0 rfl) ?_
    refine vp_callSi (W.runV (As := []) (rest := [.long ((r_12).toInt64)]) ⟨hx, hb, hml, hown, hT⟩ (c_x7_howManyStay l G ad S_9 H.size (2) ((by decide : 2 < 3)) (hX_10)) (tV 0 hT m4_65 m4_66 m4_67 m1_9 m4_68 rfl rfl (by decide +kernel) ⟨Nat.le_of_ble_eq_true rfl, Nat.le_of_ble_eq_true rfl⟩) ⟨PcW_blind, va_recv hK hP (ci := 9) (q0 := (9 + 2)) rfl (ix_at (lt71 (by omega)) (cX_shop (pk_shop (by decide : 2 < 3)))), PcW_of hP hK hD _⟩ rfl rfl hl.1 rfl (lv_room (Nat.le_of_ble_eq_true rfl)) (fk_get fk_cX11_odds_0 20 rfl) ⟨Nat.zero_le _, Nat.zero_le _⟩) (fun r_14 hw_15 => ?_)
    try dsimp only at hw_15
    refine lv_i2l hx hb (fk_get fk_cX11_odds_0 21 rfl) rfl ?_
    refine lv_iload_n hx hb (fk_get fk_cX11_odds_0 22 rfl) rfl (lv_at hl 3 rfl) ?_
    refine vp_callSl (W.runS (As := [.long ((r_12).toInt64), .long ((r_14).toInt64), .int (w_)]) (rest := []) ⟨hx, hb, hml, hown, hT⟩ (c_xpartInLowestTerms l ((r_12).toInt64) ((r_14).toInt64) (w_) ) (tS 3 hT m4_76 m4_77 m1_1 m4_78 rfl rfl (by decide +kernel) ⟨Nat.le_of_ble_eq_true rfl, Nat.le_of_ble_eq_true rfl⟩) ⟨PcN_blind, PcN_of _ _ _⟩ rfl rfl hl.1 rfl (lv_room (Nat.le_of_ble_eq_true rfl)) (fk_get fk_cX11_odds_0 23 rfl) ⟨Nat.zero_le _, Nat.zero_le _⟩) (fun r_16 hw_17 => ?_)
    try dsimp only at hw_17
    subst hQ
    have hpost : XI S_9 ∧ Fr (fun j k => (j = 11 ∧ 3 ≤ k ∧ k ≤ 7) ∨ (33 ≤ j ∧ j < 39 ∧ 2 ≤ k ∧ k ≤ 9) ∨ (51 ≤ j ∧ j < 57 ∧ k = 99) ∨ ((j = 17 ∨ j = 20) ∧ k = 99)) S S_9 ∧ True := by
      exact ⟨hX_10, hF_11, trivial⟩
    exact W.lret (v := r_16) hx hb hr (fun t_ ht_ hW_ => ⟨⟨r_16, S_9, rfl, hpost, by rw [ht_]; exact hP, va_K.moved hW_.alike hK, hD⟩, hS.F ht_⟩) hS.2.2 (fk_get fk_cX11_odds_0 24 rfl)
  have p_c_6 := if1_t hw_5 c_6
  refine lv_ldc2 (v := (-9223372036854775808)) hx hb hown (hT _ m4_64) (fk_get fk_cX11_odds_0 10 rfl) ?_
  subst hQ
  have hpost : XI S ∧ Fr (fun j k => (j = 11 ∧ 3 ≤ k ∧ k ≤ 7) ∨ (33 ≤ j ∧ j < 39 ∧ 2 ≤ k ∧ k ≤ 9) ∨ (51 ≤ j ∧ j < 57 ∧ k = 99) ∨ ((j = 17 ∨ j = 20) ∧ k = 99)) S S ∧ True := by
    exact ⟨hX, (Fr.rf : Fr (fun j k => (j = 11 ∧ 3 ≤ k ∧ k ≤ 7) ∨ (33 ≤ j ∧ j < 39 ∧ 2 ≤ k ∧ k ≤ 9) ∨ (51 ≤ j ∧ j < 57 ∧ k = 99) ∨ ((j = 17 ∨ j = 20) ∧ k = 99)) S S), trivial⟩
  exact W.lret (v := (-9223372036854775808)) hx hb hr (fun t_ ht_ hW_ => ⟨⟨(-9223372036854775808), S, rfl, hpost, by rw [ht_]; exact hP, va_K.moved hW_.alike hK, hD⟩, hS.F ht_⟩) hS.2.2 (fk_get fk_cX11_odds_0 11 rfl)
set_option maxHeartbeats 800000 in
set_option maxRecDepth 100000 in
theorem c_x11_mean (l : Launch) (G : GG) (ad : Nat → Nat) (S : FS) (sz : Nat) (n : Nat) (x : Int32) (w_ : Int32) (hn : fF S (9 + 0) 3 = nI n) (hn6 : n ≤ 6) (hX : XI S) : Met l yX11_mean (Cond.code yX11_mean cX11_mean 9 (some .long) :: TBL) ({ frames := 7, cells := 0, slots := 0, locals := 200 } : Room) (PcW G (wX G ad S) sz [.ref (ad 0), .int (x), .int (w_)]) (va_Ql (fun (r : Int64) (S' : FS) => XI S' ∧ Fr (fun j k => (j = 11 ∧ 3 ≤ k ∧ k ≤ 7) ∨ (33 ≤ j ∧ j < 39 ∧ 2 ≤ k ∧ k ≤ 9) ∨ (51 ≤ j ∧ j < 57 ∧ k = 99) ∨ ((j = 17 ∨ j = 20) ∧ k = 99)) S S' ∧ True) (fun S' t => BW G (va_A (wX G ad S) sz) (wX G ad S') t) (va_A (wX G ad S) sz)) 0 0 (va_A (wX G ad S) sz) := by
  refine Met.ofW (cc := cX11_mean) (maxL := 9) (ret := (some .long)) (by decide) rfl ?_
  intro p e s m args below meth c₀ s₁ B hml hv
  obtain ⟨rfl, hsz, hP, hK, hD0⟩ := hv
  have hx := B.exec
  have hb := B.bytes
  have hr := B.returns
  have hT : ∀ w ∈ TBL, w.before ([.ref (ad 0), .int (x), .int (w_)] : List Value).toArray s = true := fun w h => atoms_spec (ws := Cond.code yX11_mean cX11_mean 9 (some .long) :: TBL) B.pre w (List.mem_cons_of_mem _ h)
  have hown : s.vm.findClass "LittleMore" = some m.cls := findClass_of_methodNamed B.named
  have hlocks := B.notSynchronized
  subst hsz
  have hD := hD0.self (sz := s.heap.size)
  generalize hAe : va_A (wX G ad S) s.heap.size = A at hD ⊢
  have hA : ∀ q : Nat, s.heap.size ≤ q → A q := fun q h => by rw [← hAe]; exact Or.inr h
  have hS : va_S A s.heap s.heap [] := va_S.rf
  have hP : va_P G.1 vwCl (wX G ad S) s.heap := hP
  have hl := lv_entry ([.ref (ad 0), .int (x), .int (w_)]) (n := 9) (Nat.le_of_ble_eq_true rfl)
  rw [lg_entry_eq]
  generalize (lg_sl ([.ref (ad 0), .int (x), .int (w_)]) ++ List.replicate (9 - (lg_sl ([.ref (ad 0), .int (x), .int (w_)])).length) Slot.unset).toArray = ls at hl ⊢
  have hl : lv_has ls 9 [(0, .ref (ad 0)), (1, .int (x)), (2, .int (w_))] := hl
  refine W_abs (fun Q hQ => ?_)
  generalize ([.ref (ad 0), .int (x), .int (w_)] : List Value).toArray = args at hT hQ ⊢
  refine lv_iload_n hx hb (fk_get fk_cX11_mean_0 0 rfl) rfl (lv_at hl 1 rfl) ?_
  refine lv_iconst (v := 1) hx hb (fk_get fk_cX11_mean_0 1 rfl) (by decide) ?_
  refine lv_bipush (v := 40) hx hb (fk_get fk_cX11_mean_0 2 rfl) (by decide) ?_
  refine vp_callSi (W.runS (As := [.int (x), .int (1), .int (40)]) (rest := []) ⟨hx, hb, hml, hown, hT⟩ (c_xisOutside l (x) (1) (40) ) (tS 3 hT m2_108 m2_109 m1_1 m2_110 rfl rfl (by decide +kernel) ⟨Nat.le_of_ble_eq_true rfl, Nat.le_of_ble_eq_true rfl⟩) ⟨PcN_blind, PcN_of _ _ _⟩ rfl rfl hl.1 rfl (lv_room (Nat.le_of_ble_eq_true rfl)) (fk_get fk_cX11_mean_0 3 rfl) ⟨Nat.zero_le _, Nat.zero_le _⟩) (fun r_1 hw_2 => ?_)
  try dsimp only at hw_2
  refine lv_if_ne (tgt := 19) hx hb (fk_get fk_cX11_mean_0 4 rfl) (by decide) (fun c_3 => ?_) (fun c_3 => ?_)
  · have p_c_3 := if1_t hw_2 c_3
    refine lv_ldc2 (v := (-9223372036854775808)) hx hb hown (hT _ m4_64) (fk_get fk_cX11_mean_0 10 rfl) ?_
    subst hQ
    have hpost : XI S ∧ Fr (fun j k => (j = 11 ∧ 3 ≤ k ∧ k ≤ 7) ∨ (33 ≤ j ∧ j < 39 ∧ 2 ≤ k ∧ k ≤ 9) ∨ (51 ≤ j ∧ j < 57 ∧ k = 99) ∨ ((j = 17 ∨ j = 20) ∧ k = 99)) S S ∧ True := by
      exact ⟨hX, (Fr.rf : Fr (fun j k => (j = 11 ∧ 3 ≤ k ∧ k ≤ 7) ∨ (33 ≤ j ∧ j < 39 ∧ 2 ≤ k ∧ k ≤ 9) ∨ (51 ≤ j ∧ j < 57 ∧ k = 99) ∨ ((j = 17 ∨ j = 20) ∧ k = 99)) S S), trivial⟩
    exact W.lret (v := (-9223372036854775808)) hx hb hr (fun t_ ht_ hW_ => ⟨⟨(-9223372036854775808), S, rfl, hpost, by rw [ht_]; exact hP, va_K.moved hW_.alike hK, hD⟩, hS.F ht_⟩) hS.2.2 (fk_get fk_cX11_mean_0 11 rfl)
  have p_c_3 := if1_f hw_2 c_3
  obtain ⟨wz, hw40, ew⟩ := out_1 (b := 40) p_c_3 (by decide)
  refine lv_iload_n hx hb (fk_get fk_cX11_mean_0 5 rfl) rfl (lv_at hl 2 rfl) ?_
  refine lv_iconst (v := 0) hx hb (fk_get fk_cX11_mean_0 6 rfl) (by decide) ?_
  refine lv_iconst (v := 1) hx hb (fk_get fk_cX11_mean_0 7 rfl) (by decide) ?_
  refine vp_callSi (W.runS (As := [.int (w_), .int (0), .int (1)]) (rest := []) ⟨hx, hb, hml, hown, hT⟩ (c_xisOutside l (w_) (0) (1) ) (tS 3 hT m2_108 m2_109 m1_1 m2_110 rfl rfl (by decide +kernel) ⟨Nat.le_of_ble_eq_true rfl, Nat.le_of_ble_eq_true rfl⟩) ⟨PcN_blind, PcN_of _ _ _⟩ rfl rfl hl.1 rfl (lv_room (Nat.le_of_ble_eq_true rfl)) (fk_get fk_cX11_mean_0 8 rfl) ⟨Nat.zero_le _, Nat.zero_le _⟩) (fun r_4 hw_5 => ?_)
  try dsimp only at hw_5
  refine lv_if_eq (tgt := 23) hx hb (fk_get fk_cX11_mean_0 9 rfl) (by decide) (fun c_6 => ?_) (fun c_6 => ?_)
  · have p_c_6 := if1_f hw_5 c_6
    refine lv_aload_n hx hb (fk_get fk_cX11_mean_0 12 rfl) rfl (lv_at hl 0 rfl) ?_
    have hFc := va_self hD hS hA
    refine va_callr (va_runV (As := []) (rest := []) ⟨hx, hb, hml, hown, hT⟩ (c_x11_shopToTry l G ad S s.heap.size (n) (hn) (hn6) (hX)) (tV 0 hT m3_211 m3_213 mp_11 m1_1 m3_214 rfl rfl (by decide +kernel) ⟨Nat.le_of_ble_eq_true rfl, Nat.le_of_ble_eq_true rfl⟩) ⟨PcW_blind, va_recv hK hP (ci := 13) (q0 := 0) rfl (ix_at (lt71 (by omega)) (cX_0 G ad S)), PcW_of hP hK hD _⟩ rfl rfl hl.1 rfl (lv_room (Nat.le_of_ble_eq_true rfl)) (fk_get fk_cX11_mean_0 13 rfl) ⟨Nat.zero_le _, Nat.zero_le _⟩) hS (fun q _ h => hFc q h) hFc (fun S_9 r_7 t_ H locs ht_ hvm_ hw_8 hB_ hz_ hk_ hS => ?_)
    obtain ⟨hra_, hB_⟩ := hB_
    subst hra_
    obtain ⟨hP, -, hD1_⟩ := hB_
    rw [ht_] at hP
    have hD : va_D A (wX G ad S_9) := hD1_.weaken (fun k q _ h => hFc q.1 h)
    try dsimp only at hw_8
    obtain ⟨hX_10, hF_11_, hw_8⟩ := hw_8
    have hF_11 : Fr (fun j k => (j = 11 ∧ 3 ≤ k ∧ k ≤ 7) ∨ (33 ≤ j ∧ j < 39 ∧ 2 ≤ k ∧ k ≤ 9) ∨ (51 ≤ j ∧ j < 57 ∧ k = 99) ∨ ((j = 17 ∨ j = 20) ∧ k = 99)) S S_9 := Fr.trans (Fr.rf : Fr (fun j k => (j = 11 ∧ 3 ≤ k ∧ k ≤ 7) ∨ (33 ≤ j ∧ j < 39 ∧ 2 ≤ k ∧ k ≤ 9) ∨ (51 ≤ j ∧ j < 57 ∧ k = 99) ∨ ((j = 17 ∨ j = 20) ∧ k = 99)) S S) (Fr.mono hF_11_ (fun j k h => by omega))
    refine lv_astore_n (lv' := [(3, .ref (ad (9 + 2))), (0, .ref (ad 0)), (1, .int (x)), (2, .int (w_))]) hx hb (fk_get fk_cX11_mean_0 14 rfl) rfl hl (by decide) rfl (fun ls hl => ?_)
    refine lv_lconst (v := 0) hx hb (fk_get fk_cX11_mean_0 15 rfl) (by decide) ?_
    refine lv_lstore (lv' := [(4, .long (0)), (3, .ref (ad (9 + 2))), (0, .ref (ad 0)), (1, .int (x)), (2, .int (w_))]) hx hb (fk_get fk_cX11_mean_0 16 rfl) hl (by decide) rfl (fun ls hl => ?_)
    refine lv_lconst (v := 0) hx hb (fk_get fk_cX11_mean_0 17 rfl) (by decide) ?_
    refine lv_lstore (lv' := [(6, .long (0)), (4, .long (0)), (3, .ref (ad (9 + 2))), (0, .ref (ad 0)), (1, .int (x)), (2, .int (w_))]) hx hb (fk_get fk_cX11_mean_0 18 rfl) hl (by decide) rfl (fun ls hl => ?_)
    refine lv_iconst (v := 0) hx hb (fk_get fk_cX11_mean_0 19 rfl) (by decide) ?_
    refine lv_istore (lv' := [(8, .int (0)), (6, .long (0)), (4, .long (0)), (3, .ref (ad (9 + 2))), (0, .ref (ad 0)), (1, .int (x)), (2, .int (w_))]) hx hb (fk_get fk_cX11_mean_0 20 rfl) hl (by decide) rfl (fun ls hl => ?_)
    have lp_12 : ∀ (fu : Nat) (c : Nat) (v4 v6 : Int64) (SL37 : FS) (H_14 : Heap) (locs_15 : List Loc) (ls : Array Slot),  (XI SL37) → (Fr (fun j k => (j = 11 ∧ 3 ≤ k ∧ k ≤ 7) ∨ (33 ≤ j ∧ j < 39 ∧ 2 ≤ k ∧ k ≤ 9) ∨ (51 ≤ j ∧ j < 57 ∧ k = 99) ∨ ((j = 17 ∨ j = 20) ∧ k = 99)) S SL37) → (c ≤ wz) → (wz < c + fu) → va_P G.1 vwCl (wX G ad SL37) H_14 → va_D A (wX G ad SL37) → va_S A s.heap H_14 locs_15 → lv_has ls 9 [(8, .int ((nI c))), (6, .long (v6)), (4, .long (v4)), (3, .ref (ad (9 + 2))), (0, .ref (ad 0)), (1, .int (x)), (2, .int (w_))] → W p l e ({ frames := 7, cells := 0, slots := 0, locals := 200 } : Room) s m args below meth c₀ H_14 locs_15 0 0 Q (F0 m 37 ls []) := by
      intro fu
      induction fu with
      | zero =>
        intro c v4 v6 SL37 H_14 locs_15 ls hXl37 hFl37 hk hf hP hD hS hl
        exact absurd hf (by omega)
      | succ fu ih =>
        intro c v4 v6 SL37 H_14 locs_15 ls hXl37 hFl37 hk hf hP hD hS hl
        refine lv_iload hx hb (fk_get fk_cX11_mean_0 21 rfl) (lv_at hl 0 rfl) ?_
        refine lv_iload_n hx hb (fk_get fk_cX11_mean_0 22 rfl) rfl (lv_at hl 5 rfl) ?_
        refine lv_icmp_ge (tgt := 79) hx hb (fk_get fk_cX11_mean_0 23 rfl) (by decide) (fun c_16 => ?_) (fun c_16 => ?_)
        · refine lv_lload hx hb (fk_get fk_cX11_mean_1 11 rfl) (lv_at hl 2 rfl) ?_
          refine lv_lload hx hb (fk_get fk_cX11_mean_1 12 rfl) (lv_at hl 1 rfl) ?_
          refine lv_iload_n hx hb (fk_get fk_cX11_mean_1 13 rfl) rfl (lv_at hl 6 rfl) ?_
          refine vp_callSl (W.runS (As := [.long (v4), .long (v6), .int (w_)]) (rest := []) ⟨hx, hb, hml, hown, hT⟩ (c_xpartInLowestTerms l (v4) (v6) (w_) ) (tS 3 hT m4_76 m4_77 m1_1 m4_78 rfl rfl (by decide +kernel) ⟨Nat.le_of_ble_eq_true rfl, Nat.le_of_ble_eq_true rfl⟩) ⟨PcN_blind, PcN_of _ _ _⟩ rfl rfl hl.1 rfl (lv_room (Nat.le_of_ble_eq_true rfl)) (fk_get fk_cX11_mean_1 14 rfl) ⟨Nat.zero_le _, Nat.zero_le _⟩) (fun r_17 hw_18 => ?_)
          try dsimp only at hw_18
          subst hQ
          have hpost : XI SL37 ∧ Fr (fun j k => (j = 11 ∧ 3 ≤ k ∧ k ≤ 7) ∨ (33 ≤ j ∧ j < 39 ∧ 2 ≤ k ∧ k ≤ 9) ∨ (51 ≤ j ∧ j < 57 ∧ k = 99) ∨ ((j = 17 ∨ j = 20) ∧ k = 99)) S SL37 ∧ True := by
            exact ⟨hXl37, hFl37, trivial⟩
          exact W.lret (v := r_17) hx hb hr (fun t_ ht_ hW_ => ⟨⟨r_17, SL37, rfl, hpost, by rw [ht_]; exact hP, va_K.moved hW_.alike hK, hD⟩, hS.F ht_⟩) hS.2.2 (fk_get fk_cX11_mean_1 15 rfl)
        have hlt : c < wz := ci_nle (a := wz) (b := c) (by omega) (by omega) (by rw [← ew]; exact c_16)
        refine lv_lload hx hb (fk_get fk_cX11_mean_0 24 rfl) (lv_at hl 1 rfl) ?_
        refine lv_aload_n hx hb (fk_get fk_cX11_mean_0 25 rfl) rfl (lv_at hl 3 rfl) ?_
        refine vp_callSi (W.runV (As := []) (rest := [.long (v6)]) ⟨hx, hb, hml, hown, hT⟩ (c_x7_howManyStay l G ad SL37 H_14.size (2) ((by decide : 2 < 3)) (hXl37)) (tV 0 hT m4_65 m4_66 m4_67 m1_9 m4_68 rfl rfl (by decide +kernel) ⟨Nat.le_of_ble_eq_true rfl, Nat.le_of_ble_eq_true rfl⟩) ⟨PcW_blind, va_recv hK hP (ci := 9) (q0 := (9 + 2)) rfl (ix_at (lt71 (by omega)) (cX_shop (pk_shop (by decide : 2 < 3)))), PcW_of hP hK hD _⟩ rfl rfl hl.1 rfl (lv_room (Nat.le_of_ble_eq_true rfl)) (fk_get fk_cX11_mean_0 26 rfl) ⟨Nat.zero_le _, Nat.zero_le _⟩) (fun r_19 hw_20 => ?_)
        try dsimp only at hw_20
        refine lv_i2l hx hb (fk_get fk_cX11_mean_0 27 rfl) rfl ?_
        refine lv_ladd hx hb (fk_get fk_cX11_mean_0 28 rfl) ?_
        refine lv_lstore (lv' := [(6, .long ((v6 + (r_19).toInt64))), (8, .int ((nI c))), (4, .long (v4)), (3, .ref (ad (9 + 2))), (0, .ref (ad 0)), (1, .int (x)), (2, .int (w_))]) hx hb (fk_get fk_cX11_mean_0 29 rfl) hl (by decide) rfl (fun ls hl => ?_)
        refine lv_lload hx hb (fk_get fk_cX11_mean_0 30 rfl) (lv_at hl 2 rfl) ?_
        refine lv_aload_n hx hb (fk_get fk_cX11_mean_0 31 rfl) rfl (lv_at hl 3 rfl) ?_
        refine vp_callSi (W.runV (As := []) (rest := [.long (v4)]) ⟨hx, hb, hml, hown, hT⟩ (c_x7_askedTogether l G ad SL37 H_14.size (2) ((by decide : 2 < 3)) (hXl37)) (tV 0 hT m4_86 m4_87 m4_88 m1_9 m4_89 rfl rfl (by decide +kernel) ⟨Nat.le_of_ble_eq_true rfl, Nat.le_of_ble_eq_true rfl⟩) ⟨PcW_blind, va_recv hK hP (ci := 9) (q0 := (9 + 2)) rfl (ix_at (lt71 (by omega)) (cX_shop (pk_shop (by decide : 2 < 3)))), PcW_of hP hK hD _⟩ rfl rfl hl.1 rfl (lv_room (Nat.le_of_ble_eq_true rfl)) (fk_get fk_cX11_mean_1 0 rfl) ⟨Nat.zero_le _, Nat.zero_le _⟩) (fun r_21 hw_22 => ?_)
        try dsimp only at hw_22
        refine lv_i2l hx hb (fk_get fk_cX11_mean_1 1 rfl) rfl ?_
        refine lv_lsub hx hb (dk_get dk_cX11_mean_0 0 rfl) ?_
        refine lv_lstore (lv' := [(4, .long ((v4 - (r_21).toInt64))), (6, .long ((v6 + (r_19).toInt64))), (8, .int ((nI c))), (3, .ref (ad (9 + 2))), (0, .ref (ad 0)), (1, .int (x)), (2, .int (w_))]) hx hb (fk_get fk_cX11_mean_1 2 rfl) hl (by decide) rfl (fun ls hl => ?_)
        refine lv_lload hx hb (fk_get fk_cX11_mean_1 3 rfl) (lv_at hl 0 rfl) ?_
        refine lv_aload_n hx hb (fk_get fk_cX11_mean_1 4 rfl) rfl (lv_at hl 3 rfl) ?_
        have hFc := va_self hD hS hA
        refine va_calli (va_runV (As := []) (rest := [.long ((v4 - (r_21).toInt64))]) ⟨hx, hb, hml, hown, hT⟩ (c_x7_makeSaturday l G ad SL37 H_14.size (2) ((by decide : 2 < 3)) (hXl37)) (tV 0 hT m3_202 m3_203 m3_204 m1_9 m3_205 rfl rfl (by decide +kernel) ⟨Nat.le_of_ble_eq_true rfl, Nat.le_of_ble_eq_true rfl⟩) ⟨PcW_blind, va_recv hK hP (ci := 9) (q0 := (9 + 2)) rfl (ix_at (lt71 (by omega)) (cX_shop (pk_shop (by decide : 2 < 3)))), PcW_of hP hK hD _⟩ rfl rfl hl.1 rfl (lv_room (Nat.le_of_ble_eq_true rfl)) (fk_get fk_cX11_mean_1 5 rfl) ⟨Nat.zero_le _, Nat.zero_le _⟩) hS (fun q _ h => hFc q h) hFc (fun r_23 S_25 t_ H locs ht_ hvm_ hw_24 hB_ hz_ hk_ hS => ?_)
        obtain ⟨hP, -, hD1_⟩ := hB_
        rw [ht_] at hP
        have hD : va_D A (wX G ad S_25) := hD1_.weaken (fun k q _ h => hFc q.1 h)
        try dsimp only at hw_24
        obtain ⟨hX_26, hF_27_, hw_24⟩ := hw_24
        have hF_27 : Fr (fun j k => (j = 11 ∧ 3 ≤ k ∧ k ≤ 7) ∨ (33 ≤ j ∧ j < 39 ∧ 2 ≤ k ∧ k ≤ 9) ∨ (51 ≤ j ∧ j < 57 ∧ k = 99) ∨ ((j = 17 ∨ j = 20) ∧ k = 99)) S S_25 := Fr.trans hFl37 (Fr.mono hF_27_ (fun j k h => by omega))
        refine lv_i2l hx hb (fk_get fk_cX11_mean_1 6 rfl) rfl ?_
        refine lv_ladd hx hb (fk_get fk_cX11_mean_1 7 rfl) ?_
        refine lv_lstore (lv' := [(4, .long (((v4 - (r_21).toInt64) + (r_23).toInt64))), (6, .long ((v6 + (r_19).toInt64))), (8, .int ((nI c))), (3, .ref (ad (9 + 2))), (0, .ref (ad 0)), (1, .int (x)), (2, .int (w_))]) hx hb (fk_get fk_cX11_mean_1 8 rfl) hl (by decide) rfl (fun ls hl => ?_)
        refine lv_iinc (v := (nI (c + 1))) (lv' := [(8, .int ((nI (c + 1)))), (4, .long (((v4 - (r_21).toInt64) + (r_23).toInt64))), (6, .long ((v6 + (r_19).toInt64))), (3, .ref (ad (9 + 2))), (0, .ref (ad 0)), (1, .int (x)), (2, .int (w_))]) hx hb (fk_get fk_cX11_mean_1 9 rfl) hl (k := 2) rfl ((nI_1 c)) (by decide) rfl (fun ls hl => ?_)
        refine lv_goto (tgt := 37) hx hb (fk_get fk_cX11_mean_1 10 rfl) (by decide) ?_
        exact ih (c + 1) (((v4 - (r_21).toInt64) + (r_23).toInt64)) ((v6 + (r_19).toInt64)) (S_25) _ _ ls (hX_26) (hF_27) (by omega) (by omega) hP hD hS (lv_sub hl [0, 2, 1, 3, 4, 5, 6] rfl)
    exact lp_12 (wz + 1) (0) (0) (0) (S_9) _ _ ls (hX_10) (hF_11) (by omega) (by omega) hP hD hS (lv_sub hl [0, 1, 2, 3, 4, 5, 6] rfl)
  have p_c_6 := if1_t hw_5 c_6
  refine lv_ldc2 (v := (-9223372036854775808)) hx hb hown (hT _ m4_64) (fk_get fk_cX11_mean_0 10 rfl) ?_
  subst hQ
  have hpost : XI S ∧ Fr (fun j k => (j = 11 ∧ 3 ≤ k ∧ k ≤ 7) ∨ (33 ≤ j ∧ j < 39 ∧ 2 ≤ k ∧ k ≤ 9) ∨ (51 ≤ j ∧ j < 57 ∧ k = 99) ∨ ((j = 17 ∨ j = 20) ∧ k = 99)) S S ∧ True := by
    exact ⟨hX, (Fr.rf : Fr (fun j k => (j = 11 ∧ 3 ≤ k ∧ k ≤ 7) ∨ (33 ≤ j ∧ j < 39 ∧ 2 ≤ k ∧ k ≤ 9) ∨ (51 ≤ j ∧ j < 57 ∧ k = 99) ∨ ((j = 17 ∨ j = 20) ∧ k = 99)) S S), trivial⟩
  exact W.lret (v := (-9223372036854775808)) hx hb hr (fun t_ ht_ hW_ => ⟨⟨(-9223372036854775808), S, rfl, hpost, by rw [ht_]; exact hP, va_K.moved hW_.alike hK, hD⟩, hS.F ht_⟩) hS.2.2 (fk_get fk_cX11_mean_0 11 rfl)
set_option maxHeartbeats 800000 in
set_option maxRecDepth 100000 in
theorem c_x11_looked (l : Launch) (G : GG) (ad : Nat → Nat) (S : FS) (sz : Nat) (n : Nat) (hn : fF S (9 + 0) 3 = nI n) (hn6 : n ≤ 6) (hX : XI S) : Met l yX11_looked (Cond.code yX11_looked cX11_looked 4 (some .int) :: TBL) ({ frames := 6, cells := 0, slots := 0, locals := 174 } : Room) (PcW G (wX G ad S) sz [.ref (ad 0)]) (va_Qi (fun (r : Int32) (S' : FS) => XI S' ∧ Fr (fun j k => (j = 11 ∧ 3 ≤ k ∧ k ≤ 7) ∨ (33 ≤ j ∧ j < 39 ∧ 2 ≤ k ∧ k ≤ 9) ∨ (51 ≤ j ∧ j < 57 ∧ k = 99) ∨ ((j = 17 ∨ j = 20) ∧ k = 99)) S S' ∧ True) (fun S' t => BW G (va_A (wX G ad S) sz) (wX G ad S') t) (va_A (wX G ad S) sz)) 0 0 (va_A (wX G ad S) sz) := by
  refine Met.ofW (cc := cX11_looked) (maxL := 4) (ret := (some .int)) (by decide) rfl ?_
  intro p e s m args below meth c₀ s₁ B hml hv
  obtain ⟨rfl, hsz, hP, hK, hD0⟩ := hv
  have hx := B.exec
  have hb := B.bytes
  have hr := B.returns
  have hT : ∀ w ∈ TBL, w.before ([.ref (ad 0)] : List Value).toArray s = true := fun w h => atoms_spec (ws := Cond.code yX11_looked cX11_looked 4 (some .int) :: TBL) B.pre w (List.mem_cons_of_mem _ h)
  have hown : s.vm.findClass "LittleMore" = some m.cls := findClass_of_methodNamed B.named
  have hlocks := B.notSynchronized
  subst hsz
  have hD := hD0.self (sz := s.heap.size)
  generalize hAe : va_A (wX G ad S) s.heap.size = A at hD ⊢
  have hA : ∀ q : Nat, s.heap.size ≤ q → A q := fun q h => by rw [← hAe]; exact Or.inr h
  have hS : va_S A s.heap s.heap [] := va_S.rf
  have hP : va_P G.1 vwCl (wX G ad S) s.heap := hP
  have hl := lv_entry ([.ref (ad 0)]) (n := 4) (Nat.le_of_ble_eq_true rfl)
  rw [lg_entry_eq]
  generalize (lg_sl ([.ref (ad 0)]) ++ List.replicate (4 - (lg_sl ([.ref (ad 0)])).length) Slot.unset).toArray = ls at hl ⊢
  have hl : lv_has ls 4 [(0, .ref (ad 0))] := hl
  refine W_abs (fun Q hQ => ?_)
  generalize ([.ref (ad 0)] : List Value).toArray = args at hT hQ ⊢
  refine lv_aload_n hx hb (fk_get fk_cX11_looked_0 0 rfl) rfl (lv_at hl 0 rfl) ?_
  have hFc := va_self hD hS hA
  refine va_callr (va_runV (As := []) (rest := []) ⟨hx, hb, hml, hown, hT⟩ (c_x11_shopToTry l G ad S s.heap.size (n) (hn) (hn6) (hX)) (tV 0 hT m3_211 m3_213 mp_11 m1_1 m3_214 rfl rfl (by decide +kernel) ⟨Nat.le_of_ble_eq_true rfl, Nat.le_of_ble_eq_true rfl⟩) ⟨PcW_blind, va_recv hK hP (ci := 13) (q0 := 0) rfl (ix_at (lt71 (by omega)) (cX_0 G ad S)), PcW_of hP hK hD _⟩ rfl rfl hl.1 rfl (lv_room (Nat.le_of_ble_eq_true rfl)) (fk_get fk_cX11_looked_0 1 rfl) ⟨Nat.zero_le _, Nat.zero_le _⟩) hS (fun q _ h => hFc q h) hFc (fun S_3 r_1 t_ H locs ht_ hvm_ hw_2 hB_ hz_ hk_ hS => ?_)
  obtain ⟨hra_, hB_⟩ := hB_
  subst hra_
  obtain ⟨hP, -, hD1_⟩ := hB_
  rw [ht_] at hP
  have hD : va_D A (wX G ad S_3) := hD1_.weaken (fun k q _ h => hFc q.1 h)
  try dsimp only at hw_2
  obtain ⟨hX_4, hF_5_, hw_2⟩ := hw_2
  have hF_5 : Fr (fun j k => (j = 11 ∧ 3 ≤ k ∧ k ≤ 7) ∨ (33 ≤ j ∧ j < 39 ∧ 2 ≤ k ∧ k ≤ 9) ∨ (51 ≤ j ∧ j < 57 ∧ k = 99) ∨ ((j = 17 ∨ j = 20) ∧ k = 99)) S S_3 := Fr.trans (Fr.rf : Fr (fun j k => (j = 11 ∧ 3 ≤ k ∧ k ≤ 7) ∨ (33 ≤ j ∧ j < 39 ∧ 2 ≤ k ∧ k ≤ 9) ∨ (51 ≤ j ∧ j < 57 ∧ k = 99) ∨ ((j = 17 ∨ j = 20) ∧ k = 99)) S S) (Fr.mono hF_5_ (fun j k h => by omega))
  refine lv_astore_n (lv' := [(1, .ref (ad (9 + 2))), (0, .ref (ad 0))]) hx hb (fk_get fk_cX11_looked_0 2 rfl) rfl hl (by decide) rfl (fun ls hl => ?_)
  refine lv_iconst (v := 0) hx hb (fk_get fk_cX11_looked_0 3 rfl) (by decide) ?_
  refine lv_istore_n (lv' := [(2, .int (0)), (1, .ref (ad (9 + 2))), (0, .ref (ad 0))]) hx hb (fk_get fk_cX11_looked_0 4 rfl) rfl hl (by decide) rfl (fun ls hl => ?_)
  have lp_6 : ∀ (fu : Nat) (c : Nat) (SL7 : FS) (H_8 : Heap) (locs_9 : List Loc) (ls : Array Slot),  (XI SL7) → (Fr (fun j k => (j = 11 ∧ 3 ≤ k ∧ k ≤ 7) ∨ (33 ≤ j ∧ j < 39 ∧ 2 ≤ k ∧ k ≤ 9) ∨ (51 ≤ j ∧ j < 57 ∧ k = 99) ∨ ((j = 17 ∨ j = 20) ∧ k = 99)) S SL7) → (c ≤ 8) → (8 < c + fu) → va_P G.1 vwCl (wX G ad SL7) H_8 → va_D A (wX G ad SL7) → va_S A s.heap H_8 locs_9 → lv_has ls 4 [(2, .int ((nI c))), (1, .ref (ad (9 + 2))), (0, .ref (ad 0))] → W p l e ({ frames := 6, cells := 0, slots := 0, locals := 174 } : Room) s m args below meth c₀ H_8 locs_9 0 0 Q (F0 m 7 ls []) := by
    intro fu
    induction fu with
    | zero =>
      intro c SL7 H_8 locs_9 ls hXl7 hFl7 hk hf hP hD hS hl
      exact absurd hf (by omega)
    | succ fu ih =>
      intro c SL7 H_8 locs_9 ls hXl7 hFl7 hk hf hP hD hS hl
      refine lv_iload_n hx hb (fk_get fk_cX11_looked_0 5 rfl) rfl (lv_at hl 0 rfl) ?_
      refine lv_aload_n hx hb (fk_get fk_cX11_looked_0 6 rfl) rfl (lv_at hl 1 rfl) ?_
      refine va_get (D := G.1) (ci := 9) (v := .int (fF SL7 (9 + 2) 5)) (C := RX7) (T := TX7) (N := 8) hx hb hT inX7 hown hK hP (9 + 2) (ix_at (lt71 (by omega)) (cX_shop (pk_shop (by decide : 2 < 3)))) rfl 5 (by decide) (hT _ m1_213) (fun _ h9 => h9) rfl (fk_get fk_cX11_looked_0 7 rfl) ?_
      obtain ⟨n_10, en_10, bn_10⟩ := XI.book hXl7 (by decide : 2 < 3)
      rw [en_10]
      refine lv_icmp_ge (tgt := 62) hx hb (fk_get fk_cX11_looked_0 8 rfl) (by decide) (fun c_11 => ?_) (fun c_11 => ?_)
      · have q_c_11 : n_10 ≤ c := ci_le (a := n_10) (b := c) (by omega) (by omega) c_11
        refine lv_bipush (v := (-5)) hx hb (fk_get fk_cX11_looked_1 2 rfl) (by decide) ?_
        subst hQ
        have hpost : XI SL7 ∧ Fr (fun j k => (j = 11 ∧ 3 ≤ k ∧ k ≤ 7) ∨ (33 ≤ j ∧ j < 39 ∧ 2 ≤ k ∧ k ≤ 9) ∨ (51 ≤ j ∧ j < 57 ∧ k = 99) ∨ ((j = 17 ∨ j = 20) ∧ k = 99)) S SL7 ∧ True := by
          exact ⟨hXl7, hFl7, trivial⟩
        exact W.iret (v := (-5)) hx hb hr (fun t_ ht_ hW_ => ⟨⟨(-5), SL7, rfl, hpost, by rw [ht_]; exact hP, va_K.moved hW_.alike hK, hD⟩, hS.F ht_⟩) hS.2.2 (fk_get fk_cX11_looked_1 3 rfl)
      have q_c_11 : c < n_10 := ci_nle (a := n_10) (b := c) (by omega) (by omega) c_11
      refine lv_aload_n hx hb (fk_get fk_cX11_looked_0 9 rfl) rfl (lv_at hl 1 rfl) ?_
      refine lv_aload_n hx hb (fk_get fk_cX11_looked_0 10 rfl) rfl (lv_at hl 1 rfl) ?_
      refine va_get (D := G.1) (ci := 9) (v := .ref (ad (9 + 2 + 9))) (C := RX7) (T := TX7) (N := 8) hx hb hT inX7 hown hK hP (9 + 2) (ix_at (lt71 (by omega)) (cX_shop (pk_shop (by decide : 2 < 3)))) rfl 2 (by decide) (hT _ m1_207) (fun _ h9 => h9) rfl (fk_get fk_cX11_looked_0 11 rfl) ?_
      refine lv_iload_n hx hb (fk_get fk_cX11_looked_0 12 rfl) rfl (lv_at hl 0 rfl) ?_
      refine r_iald (f := fA SL7 (9 + 2 + 9)) hx hb hK hP (9 + 2 + 9) 0 (ix_at (lt71 (by omega)) (cX_arr (Or.inr (Or.inl ⟨rfl, rfl, pk_bk (by decide : 2 < 3)⟩)))) rfl (j := c) (rfl) (by omega) (by decide) (fk_get fk_cX11_looked_0 13 rfl) ?_
      obtain ⟨n_12, en_12, bn_12⟩ := XI.size hXl7 (by decide : 2 < 3)
      refine va_csq (W.runV (As := [.int ((fA SL7 (9 + 2 + 9) c))]) (rest := []) ⟨hx, hb, hml, hown, hT⟩ (c_x7_at l G ad SL7 H_8.size (2) (n_12) ((fA SL7 (9 + 2 + 9) c)) ((by decide : 2 < 3)) (en_12) (bn_12) (hXl7)) (tV 1 hT m2_120 m2_121 m2_122 m1_9 m2_123 rfl rfl (by decide +kernel) ⟨Nat.le_of_ble_eq_true rfl, Nat.le_of_ble_eq_true rfl⟩) ⟨PcW_blind, va_recv hK hP (ci := 9) (q0 := (9 + 2)) rfl (ix_at (lt71 (by omega)) (cX_shop (pk_shop (by decide : 2 < 3)))), PcW_of hP hK hD _⟩ rfl rfl hl.1 rfl (lv_room (Nat.le_of_ble_eq_true rfl)) (fk_get fk_cX11_looked_0 14 rfl) ⟨Nat.zero_le _, Nat.zero_le _⟩) (fun r_13 hw_14 => ?_)
      try dsimp only at hw_14
      rcases hw_14 with ⟨j_22, hj_22, ej_22, rfl⟩ | ⟨rfl, hn_22⟩
      · rw [show va_rf (some (ad (21 + 6 * 2 + j_22))) = .ref (ad (21 + 6 * 2 + j_22)) from rfl]
        generalize hg_i_22 : 21 + 6 * 2 + j_22 = i_22
        have hp_i_22 : pk i_22 = 7 := by rw [← hg_i_22]; exact pk_c (by decide : 2 < 3) (show j_22 < 6 by omega)
        have hb_i_22 := pk7 hp_i_22
        refine lv_astore_n (lv' := [(3, .ref (ad i_22)), (2, .int ((nI c))), (1, .ref (ad (9 + 2))), (0, .ref (ad 0))]) hx hb (fk_get fk_cX11_looked_0 15 rfl) rfl hl (by decide) rfl (fun ls hl => ?_)
        refine lv_aload_n hx hb (fk_get fk_cX11_looked_0 16 rfl) rfl (lv_at hl 0 rfl) ?_
        refine lv_ifnull hx hb (fk_get fk_cX11_looked_0 17 rfl) ?_
        refine lv_aload_n hx hb (fk_get fk_cX11_looked_0 18 rfl) rfl (lv_at hl 0 rfl) ?_
        refine va_get (D := G.1) (ci := 5) (v := .int (fF SL7 i_22 9)) (C := RX3) (T := TX3) (N := 10) hx hb hT inX3 hown hK hP i_22 (ix_at (lt71 (by omega)) (cX_cust hp_i_22)) rfl 9 (by decide) (hT _ m1_179) (fun _ h9 => h9) rfl (fk_get fk_cX11_looked_0 19 rfl) ?_
        refine lv_if_ne (tgt := 56) hx hb (fk_get fk_cX11_looked_0 20 rfl) (by decide) (fun c_15 => ?_) (fun c_15 => ?_)
        · refine lv_iinc (v := (nI (c + 1))) (lv' := [(2, .int ((nI (c + 1)))), (3, .ref (ad i_22)), (1, .ref (ad (9 + 2))), (0, .ref (ad 0))]) hx hb (fk_get fk_cX11_looked_1 0 rfl) hl (k := 1) rfl ((nI_1 c)) (by decide) rfl (fun ls hl => ?_)
          refine lv_goto (tgt := 7) hx hb (fk_get fk_cX11_looked_1 1 rfl) (by decide) ?_
          exact ih (c + 1) (SL7) _ _ ls (hXl7) (hFl7) (by omega) (by omega) hP hD hS (lv_sub hl [0, 2, 3] rfl)
        refine lv_aload_n hx hb (fk_get fk_cX11_looked_0 21 rfl) rfl (lv_at hl 2 rfl) ?_
        refine lv_aload_n hx hb (fk_get fk_cX11_looked_0 22 rfl) rfl (lv_at hl 0 rfl) ?_
        refine vp_callSi (W.runV (As := [.ref (ad i_22)]) (rest := []) ⟨hx, hb, hml, hown, hT⟩ (c_x7_refuses l G ad SL7 H_8.size (2) (i_22) ((by decide : 2 < 3)) (hp_i_22) (hXl7)) (tV 1 hT m2_187 m2_188 m2_189 m1_9 m2_190 rfl rfl (by decide +kernel) ⟨Nat.le_of_ble_eq_true rfl, Nat.le_of_ble_eq_true rfl⟩) ⟨PcW_blind, va_recv hK hP (ci := 9) (q0 := (9 + 2)) rfl (ix_at (lt71 (by omega)) (cX_shop (pk_shop (by decide : 2 < 3)))), PcW_of hP hK hD _⟩ rfl rfl hl.1 rfl (lv_room (Nat.le_of_ble_eq_true rfl)) (fk_get fk_cX11_looked_0 23 rfl) ⟨Nat.zero_le _, Nat.zero_le _⟩) (fun r_16 hw_17 => ?_)
        try dsimp only at hw_17
        refine lv_if_eq (tgt := 50) hx hb (fk_get fk_cX11_looked_0 24 rfl) (by decide) (fun c_18 => ?_) (fun c_18 => ?_)
        · refine lv_aload_n hx hb (fk_get fk_cX11_looked_0 28 rfl) rfl (lv_at hl 2 rfl) ?_
          refine lv_aload_n hx hb (fk_get fk_cX11_looked_0 29 rfl) rfl (lv_at hl 0 rfl) ?_
          have hFc := va_self hD hS hA
          refine va_calli (va_runV (As := [.ref (ad i_22)]) (rest := []) ⟨hx, hb, hml, hown, hT⟩ (c_x7_makeVisit l G ad SL7 H_8.size (2) (i_22) ((by decide : 2 < 3)) (hp_i_22) (hXl7)) (tV 1 hT m3_169 m3_170 m3_171 m1_9 m3_172 rfl rfl (by decide +kernel) ⟨Nat.le_of_ble_eq_true rfl, Nat.le_of_ble_eq_true rfl⟩) ⟨PcW_blind, va_recv hK hP (ci := 9) (q0 := (9 + 2)) rfl (ix_at (lt71 (by omega)) (cX_shop (pk_shop (by decide : 2 < 3)))), PcW_of hP hK hD _⟩ rfl rfl hl.1 rfl (lv_room (Nat.le_of_ble_eq_true rfl)) (fk_get fk_cX11_looked_0 30 rfl) ⟨Nat.zero_le _, Nat.zero_le _⟩) hS (fun q _ h => hFc q h) hFc (fun r_19 S_21 t_ H locs ht_ hvm_ hw_20 hB_ hz_ hk_ hS => ?_)
          obtain ⟨hP, -, hD1_⟩ := hB_
          rw [ht_] at hP
          have hD : va_D A (wX G ad S_21) := hD1_.weaken (fun k q _ h => hFc q.1 h)
          try dsimp only at hw_20
          obtain ⟨hX_22, hF_23_, hw_20⟩ := hw_20
          have hF_23 : Fr (fun j k => (j = 11 ∧ 3 ≤ k ∧ k ≤ 7) ∨ (33 ≤ j ∧ j < 39 ∧ 2 ≤ k ∧ k ≤ 9) ∨ (51 ≤ j ∧ j < 57 ∧ k = 99) ∨ ((j = 17 ∨ j = 20) ∧ k = 99)) S S_21 := Fr.trans hFl7 (Fr.mono hF_23_ (fun j k h => by omega))
          refine lv_pop hx hb (fk_get fk_cX11_looked_0 31 rfl) rfl ?_
          refine lv_iinc (v := (nI (c + 1))) (lv' := [(2, .int ((nI (c + 1)))), (3, .ref (ad i_22)), (1, .ref (ad (9 + 2))), (0, .ref (ad 0))]) hx hb (fk_get fk_cX11_looked_1 0 rfl) hl (k := 1) rfl ((nI_1 c)) (by decide) rfl (fun ls hl => ?_)
          refine lv_goto (tgt := 7) hx hb (fk_get fk_cX11_looked_1 1 rfl) (by decide) ?_
          exact ih (c + 1) (S_21) _ _ ls (hX_22) (hF_23) (by omega) (by omega) hP hD hS (lv_sub hl [0, 2, 3] rfl)
        refine lv_aload_n hx hb (fk_get fk_cX11_looked_0 25 rfl) rfl (lv_at hl 0 rfl) ?_
        refine va_get (D := G.1) (ci := 5) (v := .int (fF SL7 i_22 0)) (C := RX3) (T := TX3) (N := 10) hx hb hT inX3 hown hK hP i_22 (ix_at (lt71 (by omega)) (cX_cust hp_i_22)) rfl 0 (by decide) (hT _ m1_139) (fun _ h9 => h9) rfl (fk_get fk_cX11_looked_0 26 rfl) ?_
        subst hQ
        have hpost : XI SL7 ∧ Fr (fun j k => (j = 11 ∧ 3 ≤ k ∧ k ≤ 7) ∨ (33 ≤ j ∧ j < 39 ∧ 2 ≤ k ∧ k ≤ 9) ∨ (51 ≤ j ∧ j < 57 ∧ k = 99) ∨ ((j = 17 ∨ j = 20) ∧ k = 99)) S SL7 ∧ True := by
          exact ⟨hXl7, hFl7, trivial⟩
        exact W.iret (v := (fF SL7 i_22 0)) hx hb hr (fun t_ ht_ hW_ => ⟨⟨(fF SL7 i_22 0), SL7, rfl, hpost, by rw [ht_]; exact hP, va_K.moved hW_.alike hK, hD⟩, hS.F ht_⟩) hS.2.2 (fk_get fk_cX11_looked_0 27 rfl)
      rw [show va_rf none = .null from rfl]
      refine lv_astore_nN (lv' := [(3, .null), (2, .int ((nI c))), (1, .ref (ad (9 + 2))), (0, .ref (ad 0))]) hx hb (fk_get fk_cX11_looked_0 15 rfl) rfl hl (by decide) rfl (fun ls hl => ?_)
      refine lv_aload_nN hx hb (fk_get fk_cX11_looked_0 16 rfl) rfl (lv_at hl 0 rfl) ?_
      refine lv_ifnullN (tgt := 56) hx hb (fk_get fk_cX11_looked_0 17 rfl) (by decide) ?_
      refine lv_iinc (v := (nI (c + 1))) (lv' := [(2, .int ((nI (c + 1)))), (3, .null), (1, .ref (ad (9 + 2))), (0, .ref (ad 0))]) hx hb (fk_get fk_cX11_looked_1 0 rfl) hl (k := 1) rfl ((nI_1 c)) (by decide) rfl (fun ls hl => ?_)
      refine lv_goto (tgt := 7) hx hb (fk_get fk_cX11_looked_1 1 rfl) (by decide) ?_
      exact ih (c + 1) (SL7) _ _ ls (hXl7) (hFl7) (by omega) (by omega) hP hD hS (lv_sub hl [0, 2, 3] rfl)
  exact lp_6 (8 + 1) (0) (S_3) _ _ ls (hX_4) (hF_5) (by omega) (by omega) hP hD hS (lv_sub hl [0, 1, 2] rfl)
