set_option maxHeartbeats 800000 in
set_option maxRecDepth 100000 in
theorem c_x11_countE (l : Launch) (G : GG) (ad : Nat → Nat) (S : FS) (sz : Nat) (n : Nat) (x : Int32) (hn : fF S (9 + 0) 3 = nI n) (hn6 : n ≤ 6) (hX : XI S) : Met l yX11_count (Cond.code yX11_count cX11_count 2 (some .int) :: TBL) ({ frames := 3, cells := 0, slots := 0, locals := 88 } : Room) (PcW G (wX G ad S) sz [.ref (ad 0), .int (x)]) (vp_Si (fun (r : Int32) => r = if x = 0 then fF S (9 + 0) 3 else if x = 1 then fF S 0 9 else if x = 2 then fF S (9 + 0) 4 else if x = 3 then fF S (9 + 0) 5 else if x = 4 then fF S 57 1 else if x = 5 then fF S 61 2 else -2)) 0 0 (fun _ => False) := by
  refine Met.ofW (cc := cX11_count) (maxL := 2) (ret := (some .int)) (by decide) rfl ?_
  intro p e s m args below meth c₀ s₁ B hml hv
  obtain ⟨rfl, hsz, hP, hK, hD0⟩ := hv
  have hx := B.exec
  have hb := B.bytes
  have hr := B.returns
  have hT : ∀ w ∈ TBL, w.before ([.ref (ad 0), .int (x)] : List Value).toArray s = true := fun w h => atoms_spec (ws := Cond.code yX11_count cX11_count 2 (some .int) :: TBL) B.pre w (List.mem_cons_of_mem _ h)
  have hown : s.vm.findClass "LittleMore" = some m.cls := findClass_of_methodNamed B.named
  have hlocks := B.notSynchronized
  have hD := hD0
  have hP : va_P G.1 vwCl (wX G ad S) s.heap := hP
  have hl := lv_entry ([.ref (ad 0), .int (x)]) (n := 2) (Nat.le_of_ble_eq_true rfl)
  rw [lg_entry_eq]
  generalize (lg_sl ([.ref (ad 0), .int (x)]) ++ List.replicate (2 - (lg_sl ([.ref (ad 0), .int (x)])).length) Slot.unset).toArray = ls at hl ⊢
  have hl : lv_has ls 2 [(0, .ref (ad 0)), (1, .int (x))] := hl
  refine W_abs (fun Q hQ => ?_)
  generalize ([.ref (ad 0), .int (x)] : List Value).toArray = args at hT hQ ⊢
  refine lv_iload_n hx hb (fk_get fk_cX11_count_0 0 rfl) rfl (lv_at hl 1 rfl) ?_
  by_cases c_1 : x = (0 : Int32)
  · refine lv_tableIn (off := 39) (tgt := 40) hx hb (dk_get dk_cX11_count_0 0 rfl) (by rw [c_1]; decide) (by rw [c_1]; decide) (by rw [c_1]; rfl) (by decide) ?_
    refine lv_aload_n hx hb (fk_get fk_cX11_count_0 1 rfl) rfl (lv_at hl 0 rfl) ?_
    refine va_get (D := G.1) (ci := 13) (v := .ref (ad (9 + 0))) (C := RX11) (T := TX11) (N := 11) hx hb hT inX11 hown hK hP 0 (ix_at (lt71 (by omega)) (cX_0 G ad S)) rfl 1 (by decide) (hT _ m2_70) (fun _ h9 => h9) rfl (fk_get fk_cX11_count_0 2 rfl) ?_
    refine va_get (D := G.1) (ci := 9) (v := .int (fF S (9 + 0) 3)) (C := RX7) (T := TX7) (N := 8) hx hb hT inX7 hown hK hP (9 + 0) (ix_at (lt71 (by omega)) (cX_shop (pk_shop (by decide : 0 < 3)))) rfl 3 (by decide) (hT _ m1_209) (fun _ h9 => h9) rfl (fk_get fk_cX11_count_0 3 rfl) ?_
    rw [hn]
    subst hQ
    have hpost : ((nI n) : Int32) = if x = 0 then fF S (9 + 0) 3 else if x = 1 then fF S 0 9 else if x = 2 then fF S (9 + 0) 4 else if x = 3 then fF S (9 + 0) 5 else if x = 4 then fF S 57 1 else if x = 5 then fF S 61 2 else -2 := by
      (repeat (first | rw [if_pos (by assumption)] | rw [if_neg (by assumption)])) <;> first | rfl | exact Eq.symm (by assumption) | assumption
    exact W.iret (v := (nI n)) hx hb hr (fun t_ ht_ hW_ => ⟨(nI n), rfl, hpost, ht_⟩) (fun q h => by cases h) (fk_get fk_cX11_count_0 4 rfl)
  by_cases c_2 : x = (1 : Int32)
  · refine lv_tableIn (off := 47) (tgt := 48) hx hb (dk_get dk_cX11_count_0 0 rfl) (by rw [c_2]; decide) (by rw [c_2]; decide) (by rw [c_2]; rfl) (by decide) ?_
    refine lv_aload_n hx hb (fk_get fk_cX11_count_0 5 rfl) rfl (lv_at hl 0 rfl) ?_
    refine va_get (D := G.1) (ci := 13) (v := .int (fF S 0 9)) (C := RX11) (T := TX11) (N := 11) hx hb hT inX11 hown hK hP 0 (ix_at (lt71 (by omega)) (cX_0 G ad S)) rfl 9 (by decide) (hT _ m2_78) (fun _ h9 => h9) rfl (fk_get fk_cX11_count_0 6 rfl) ?_
    subst hQ
    have hpost : ((fF S 0 9) : Int32) = if x = 0 then fF S (9 + 0) 3 else if x = 1 then fF S 0 9 else if x = 2 then fF S (9 + 0) 4 else if x = 3 then fF S (9 + 0) 5 else if x = 4 then fF S 57 1 else if x = 5 then fF S 61 2 else -2 := by
      (repeat (first | rw [if_pos (by assumption)] | rw [if_neg (by assumption)])) <;> first | rfl | exact Eq.symm (by assumption) | assumption
    exact W.iret (v := (fF S 0 9)) hx hb hr (fun t_ ht_ hW_ => ⟨(fF S 0 9), rfl, hpost, ht_⟩) (fun q h => by cases h) (fk_get fk_cX11_count_0 7 rfl)
  by_cases c_3 : x = (2 : Int32)
  · refine lv_tableIn (off := 52) (tgt := 53) hx hb (dk_get dk_cX11_count_0 0 rfl) (by rw [c_3]; decide) (by rw [c_3]; decide) (by rw [c_3]; rfl) (by decide) ?_
    refine lv_aload_n hx hb (fk_get fk_cX11_count_0 8 rfl) rfl (lv_at hl 0 rfl) ?_
    refine va_get (D := G.1) (ci := 13) (v := .ref (ad (9 + 0))) (C := RX11) (T := TX11) (N := 11) hx hb hT inX11 hown hK hP 0 (ix_at (lt71 (by omega)) (cX_0 G ad S)) rfl 1 (by decide) (hT _ m2_70) (fun _ h9 => h9) rfl (fk_get fk_cX11_count_0 9 rfl) ?_
    refine va_get (D := G.1) (ci := 9) (v := .int (fF S (9 + 0) 4)) (C := RX7) (T := TX7) (N := 8) hx hb hT inX7 hown hK hP (9 + 0) (ix_at (lt71 (by omega)) (cX_shop (pk_shop (by decide : 0 < 3)))) rfl 4 (by decide) (hT _ m1_211) (fun _ h9 => h9) rfl (fk_get fk_cX11_count_0 10 rfl) ?_
    obtain ⟨n_4, en_4, bn_4⟩ := XI.seen hX (by decide : 0 < 3)
    rw [en_4]
    subst hQ
    have hpost : ((nI n_4) : Int32) = if x = 0 then fF S (9 + 0) 3 else if x = 1 then fF S 0 9 else if x = 2 then fF S (9 + 0) 4 else if x = 3 then fF S (9 + 0) 5 else if x = 4 then fF S 57 1 else if x = 5 then fF S 61 2 else -2 := by
      (repeat (first | rw [if_pos (by assumption)] | rw [if_neg (by assumption)])) <;> first | rfl | exact Eq.symm (by assumption) | assumption
    exact W.iret (v := (nI n_4)) hx hb hr (fun t_ ht_ hW_ => ⟨(nI n_4), rfl, hpost, ht_⟩) (fun q h => by cases h) (fk_get fk_cX11_count_0 11 rfl)
  by_cases c_5 : x = (3 : Int32)
  · refine lv_tableIn (off := 60) (tgt := 61) hx hb (dk_get dk_cX11_count_0 0 rfl) (by rw [c_5]; decide) (by rw [c_5]; decide) (by rw [c_5]; rfl) (by decide) ?_
    refine lv_aload_n hx hb (fk_get fk_cX11_count_0 12 rfl) rfl (lv_at hl 0 rfl) ?_
    refine va_get (D := G.1) (ci := 13) (v := .ref (ad (9 + 0))) (C := RX11) (T := TX11) (N := 11) hx hb hT inX11 hown hK hP 0 (ix_at (lt71 (by omega)) (cX_0 G ad S)) rfl 1 (by decide) (hT _ m2_70) (fun _ h9 => h9) rfl (fk_get fk_cX11_count_0 13 rfl) ?_
    refine va_get (D := G.1) (ci := 9) (v := .int (fF S (9 + 0) 5)) (C := RX7) (T := TX7) (N := 8) hx hb hT inX7 hown hK hP (9 + 0) (ix_at (lt71 (by omega)) (cX_shop (pk_shop (by decide : 0 < 3)))) rfl 5 (by decide) (hT _ m1_213) (fun _ h9 => h9) rfl (fk_get fk_cX11_count_0 14 rfl) ?_
    obtain ⟨n_6, en_6, bn_6⟩ := XI.book hX (by decide : 0 < 3)
    rw [en_6]
    subst hQ
    have hpost : ((nI n_6) : Int32) = if x = 0 then fF S (9 + 0) 3 else if x = 1 then fF S 0 9 else if x = 2 then fF S (9 + 0) 4 else if x = 3 then fF S (9 + 0) 5 else if x = 4 then fF S 57 1 else if x = 5 then fF S 61 2 else -2 := by
      (repeat (first | rw [if_pos (by assumption)] | rw [if_neg (by assumption)])) <;> first | rfl | exact Eq.symm (by assumption) | assumption
    exact W.iret (v := (nI n_6)) hx hb hr (fun t_ ht_ hW_ => ⟨(nI n_6), rfl, hpost, ht_⟩) (fun q h => by cases h) (fk_get fk_cX11_count_0 15 rfl)
  by_cases c_7 : x = (4 : Int32)
  · refine lv_tableIn (off := 68) (tgt := 69) hx hb (dk_get dk_cX11_count_0 0 rfl) (by rw [c_7]; decide) (by rw [c_7]; decide) (by rw [c_7]; rfl) (by decide) ?_
    refine lv_aload_n hx hb (fk_get fk_cX11_count_0 16 rfl) rfl (lv_at hl 0 rfl) ?_
    refine va_get (D := G.1) (ci := 13) (v := .ref (ad 57)) (C := RX11) (T := TX11) (N := 11) hx hb hT inX11 hown hK hP 0 (ix_at (lt71 (by omega)) (cX_0 G ad S)) rfl 4 (by decide) (hT _ m2_73) (fun _ h9 => h9) rfl (fk_get fk_cX11_count_0 17 rfl) ?_
    refine va_get (D := G.1) (ci := 11) (v := .int (fF S 57 1)) (C := RX9) (T := TX9) (N := 9) hx hb hT inX9 hown hK hP 57 (ix_at (lt71 (by omega)) (cX_text G ad S)) rfl 1 (by decide) (hT _ m2_4) (fun _ h9 => h9) rfl (fk_get fk_cX11_count_0 18 rfl) ?_
    obtain ⟨n_8, en_8, bn_8⟩ := XI.tlen hX
    rw [en_8]
    subst hQ
    have hpost : ((nI n_8) : Int32) = if x = 0 then fF S (9 + 0) 3 else if x = 1 then fF S 0 9 else if x = 2 then fF S (9 + 0) 4 else if x = 3 then fF S (9 + 0) 5 else if x = 4 then fF S 57 1 else if x = 5 then fF S 61 2 else -2 := by
      (repeat (first | rw [if_pos (by assumption)] | rw [if_neg (by assumption)])) <;> first | rfl | exact Eq.symm (by assumption) | assumption
    exact W.iret (v := (nI n_8)) hx hb hr (fun t_ ht_ hW_ => ⟨(nI n_8), rfl, hpost, ht_⟩) (fun q h => by cases h) (fk_get fk_cX11_count_0 19 rfl)
  by_cases c_9 : x = (5 : Int32)
  · refine lv_tableIn (off := 76) (tgt := 77) hx hb (dk_get dk_cX11_count_0 0 rfl) (by rw [c_9]; decide) (by rw [c_9]; decide) (by rw [c_9]; rfl) (by decide) ?_
    refine lv_aload_n hx hb (fk_get fk_cX11_count_0 20 rfl) rfl (lv_at hl 0 rfl) ?_
    refine va_get (D := G.1) (ci := 13) (v := .ref (ad 61)) (C := RX11) (T := TX11) (N := 11) hx hb hT inX11 hown hK hP 0 (ix_at (lt71 (by omega)) (cX_0 G ad S)) rfl 5 (by decide) (hT _ m2_74) (fun _ h9 => h9) rfl (fk_get fk_cX11_count_0 21 rfl) ?_
    refine vp_callSi (W.runV (As := []) (rest := []) ⟨hx, hb, hml, hown, hT⟩ (c_jsize l G ad S s.heap.size  (hX)) (tV 0 hT m5_40 m5_41 m5_42 m1_15 m5_43 rfl rfl (by decide +kernel) ⟨Nat.le_of_ble_eq_true rfl, Nat.le_of_ble_eq_true rfl⟩) ⟨PcW_blind, va_recv hK hP (ci := 1) (q0 := 61) rfl (ix_at (lt71 (by omega)) (cX_lst G ad S)), PcW_of hP hK hD _⟩ rfl rfl hl.1 rfl (lv_room (Nat.le_of_ble_eq_true rfl)) (fk_get fk_cX11_count_0 22 rfl) ⟨Nat.zero_le _, Nat.zero_le _⟩) (fun r_10 hw_11 => ?_)
    try dsimp only at hw_11
    subst hQ
    have hpost : (r_10 : Int32) = if x = 0 then fF S (9 + 0) 3 else if x = 1 then fF S 0 9 else if x = 2 then fF S (9 + 0) 4 else if x = 3 then fF S (9 + 0) 5 else if x = 4 then fF S 57 1 else if x = 5 then fF S 61 2 else -2 := by
      (repeat (first | rw [if_pos (by assumption)] | rw [if_neg (by assumption)])) <;> first | rfl | exact Eq.symm (by assumption) | assumption
    exact W.iret (v := r_10) hx hb hr (fun t_ ht_ hW_ => ⟨r_10, rfl, hpost, ht_⟩) (fun q h => by cases h) (fk_get fk_cX11_count_0 23 rfl)
  have o_12 : (x).toInt < 0 ∨ 5 < (x).toInt := by
    have qc_1 : ¬ (x).toInt = 0 := lv_neT c_1 (by decide)
    have qc_2 : ¬ (x).toInt = 1 := lv_neT c_2 (by decide)
    have qc_3 : ¬ (x).toInt = 2 := lv_neT c_3 (by decide)
    have qc_5 : ¬ (x).toInt = 3 := lv_neT c_5 (by decide)
    have qc_7 : ¬ (x).toInt = 4 := lv_neT c_7 (by decide)
    have qc_9 : ¬ (x).toInt = 5 := lv_neT c_9 (by decide)
    omega
  refine lv_tableOut (tgt := 85) hx hb (dk_get dk_cX11_count_0 0 rfl) o_12 (by decide) ?_
  refine lv_bipush (v := (-2)) hx hb (fk_get fk_cX11_count_0 24 rfl) (by decide) ?_
  subst hQ
  have hpost : ((-2) : Int32) = if x = 0 then fF S (9 + 0) 3 else if x = 1 then fF S 0 9 else if x = 2 then fF S (9 + 0) 4 else if x = 3 then fF S (9 + 0) 5 else if x = 4 then fF S 57 1 else if x = 5 then fF S 61 2 else -2 := by
    (repeat (first | rw [if_pos (by assumption)] | rw [if_neg (by assumption)])) <;> first | rfl | exact Eq.symm (by assumption) | assumption
  exact W.iret (v := (-2)) hx hb hr (fun t_ ht_ hW_ => ⟨(-2), rfl, hpost, ht_⟩) (fun q h => by cases h) (fk_get fk_cX11_count_0 25 rfl)
