set_option maxHeartbeats 800000 in
set_option maxRecDepth 100000 in
theorem c_x1_valueOf (l : Launch) (G : GG) (ad : Nat → Nat) (S : FS) (sz : Nat) (i : Nat) (w_ : Int32) (hpk : pk i = 7) (hX : XI S) : Met l yX1_valueOf (Cond.code yX1_valueOf cX1_valueOf 2 (some .int) :: TBL) ({ frames := 2, cells := 0, slots := 0, locals := 64 } : Room) (PcW G (wX G ad S) sz [.ref (ad i), .int (w_)]) (vp_Si (fun (r : Int32) => True)) 0 0 (fun _ => False) := by
  refine Met.ofW (cc := cX1_valueOf) (maxL := 2) (ret := (some .int)) (by decide) rfl ?_
  intro p e s m args below meth c₀ s₁ B hml hv
  obtain ⟨rfl, hsz, hP, hK, hD0⟩ := hv
  have hx := B.exec
  have hb := B.bytes
  have hr := B.returns
  have hT : ∀ w ∈ TBL, w.before ([.ref (ad i), .int (w_)] : List Value).toArray s = true := fun w h => atoms_spec (ws := Cond.code yX1_valueOf cX1_valueOf 2 (some .int) :: TBL) B.pre w (List.mem_cons_of_mem _ h)
  have hown : s.vm.findClass "LittleMore$Counter" = some m.cls := findClass_of_methodNamed B.named
  have hlocks := B.notSynchronized
  have hD := hD0
  have hP : va_P G.1 vwCl (wX G ad S) s.heap := hP
  have hl := lv_entry ([.ref (ad i), .int (w_)]) (n := 2) (Nat.le_of_ble_eq_true rfl)
  rw [lg_entry_eq]
  generalize (lg_sl ([.ref (ad i), .int (w_)]) ++ List.replicate (2 - (lg_sl ([.ref (ad i), .int (w_)])).length) Slot.unset).toArray = ls at hl ⊢
  have hl : lv_has ls 2 [(0, .ref (ad i)), (1, .int (w_))] := hl
  refine W_abs (fun Q hQ => ?_)
  generalize ([.ref (ad i), .int (w_)] : List Value).toArray = args at hT hQ ⊢
  have hb_i := pk7 hpk
  refine lv_iload_n hx hb (fk_get fk_cX1_valueOf_0 0 rfl) rfl (lv_at hl 1 rfl) ?_
  by_cases c_1 : w_ = (0 : Int32)
  · refine lv_tableIn (off := 35) (tgt := 36) hx hb (dk_get dk_cX1_valueOf_0 0 rfl) (by rw [c_1]; decide) (by rw [c_1]; decide) (by rw [c_1]; rfl) (by decide) ?_
    refine lv_aload_n hx hb (fk_get fk_cX1_valueOf_0 1 rfl) rfl (lv_at hl 0 rfl) ?_
    refine va_get (D := G.1) (ci := 5) (v := .int (fF S i 0)) (C := RX3) (T := TX3) (N := 10) hx hb hT inX3 hown hK hP i (ix_at (lt71 (by omega)) (cX_cust hpk)) rfl 0 (by decide) (hT _ m1_137) (fun _ h9 => h9) rfl (fk_get fk_cX1_valueOf_0 2 rfl) ?_
    subst hQ
    have hpost : True := by
      trivial
    exact W.iret (v := (fF S i 0)) hx hb hr (fun t_ ht_ hW_ => ⟨(fF S i 0), rfl, hpost, ht_⟩) (fun q h => by cases h) (fk_get fk_cX1_valueOf_0 3 rfl)
  by_cases c_2 : w_ = (1 : Int32)
  · refine lv_tableIn (off := 40) (tgt := 41) hx hb (dk_get dk_cX1_valueOf_0 0 rfl) (by rw [c_2]; decide) (by rw [c_2]; decide) (by rw [c_2]; rfl) (by decide) ?_
    refine lv_aload_n hx hb (fk_get fk_cX1_valueOf_0 4 rfl) rfl (lv_at hl 0 rfl) ?_
    obtain ⟨n_3, en_3, bn_3⟩ := XI.kin hX hpk
    refine va_get (D := G.1) (ci := 5) (v := va_rf ((fR S i 2).map ad)) (C := RX3) (T := TX3) (N := 10) hx hb hT inX3 hown hK hP i (ix_at (lt71 (by omega)) (cX_cust hpk)) rfl 2 (by decide) (hT _ m1_145) (fun _ h9 => h9) rfl (fk_get fk_cX1_valueOf_0 5 rfl) ?_
    rw [show va_rf ((fR S i 2).map ad) = .ref (ad (2 + n_3)) from by rw [en_3]; rfl]
    have kk_45 : W p l e ({ frames := 2, cells := 0, slots := 0, locals := 64 } : Room) s m args below meth c₀ s.heap [] 0 0 Q (F0 m 48 ls [.int (fF S (2 + n_3) 0)]) := by
      rw [XI.knum hX bn_3]
      subst hQ
      have hpost : True := by
        trivial
      exact W.iret (v := (nI n_3)) hx hb hr (fun t_ ht_ hW_ => ⟨(nI n_3), rfl, hpost, ht_⟩) (fun q h => by cases h) (fk_get fk_cX1_valueOf_0 7 rfl)
    rcases kq7 bn_3 with rfl | rfl | rfl | rfl | rfl | rfl | rfl
    · exact va_get (D := G.1) (ci := 7) (v := .int (fF S (2 + 0) 0)) (C := RX5) (T := TX5) (N := 1) hx hb hT inX5 hown hK hP (2 + 0) (ix_at (lt71 (by omega)) (cX_knd (by omega))) rfl 0 (by decide) (hT _ m1_47) (fun _ h9 => h9) rfl (fk_get fk_cX1_valueOf_0 6 rfl) kk_45
    · exact va_get (D := G.1) (ci := 10) (v := .int (fF S (2 + 1) 0)) (C := RX8) (T := TX8) (N := 1) hx hb hT inX8 hown hK hP (2 + 1) (ix_at (lt71 (by omega)) (cX_knd (by omega))) rfl 0 (by decide) (hT _ m1_47) (fun _ h9 => h9) rfl (fk_get fk_cX1_valueOf_0 6 rfl) kk_45
    · exact va_get (D := G.1) (ci := 6) (v := .int (fF S (2 + 2) 0)) (C := RX4) (T := TX4) (N := 1) hx hb hT inX4 hown hK hP (2 + 2) (ix_at (lt71 (by omega)) (cX_knd (by omega))) rfl 0 (by decide) (hT _ m1_47) (fun _ h9 => h9) rfl (fk_get fk_cX1_valueOf_0 6 rfl) kk_45
    · exact va_get (D := G.1) (ci := 2) (v := .int (fF S (2 + 3) 0)) (C := RX0) (T := TX0) (N := 1) hx hb hT inX0 hown hK hP (2 + 3) (ix_at (lt71 (by omega)) (cX_knd (by omega))) rfl 0 (by decide) (hT _ m1_47) (fun _ h9 => h9) rfl (fk_get fk_cX1_valueOf_0 6 rfl) kk_45
    · exact va_get (D := G.1) (ci := 4) (v := .int (fF S (2 + 4) 0)) (C := RX2) (T := TX2) (N := 1) hx hb hT inX2 hown hK hP (2 + 4) (ix_at (lt71 (by omega)) (cX_knd (by omega))) rfl 0 (by decide) (hT _ m1_47) (fun _ h9 => h9) rfl (fk_get fk_cX1_valueOf_0 6 rfl) kk_45
    · exact va_get (D := G.1) (ci := 8) (v := .int (fF S (2 + 5) 0)) (C := RX6) (T := TX6) (N := 1) hx hb hT inX6 hown hK hP (2 + 5) (ix_at (lt71 (by omega)) (cX_knd (by omega))) rfl 0 (by decide) (hT _ m1_47) (fun _ h9 => h9) rfl (fk_get fk_cX1_valueOf_0 6 rfl) kk_45
    · exact va_get (D := G.1) (ci := 12) (v := .int (fF S (2 + 6) 0)) (C := RX10) (T := TX10) (N := 1) hx hb hT inX10 hown hK hP (2 + 6) (ix_at (lt71 (by omega)) (cX_knd (by omega))) rfl 0 (by decide) (hT _ m1_47) (fun _ h9 => h9) rfl (fk_get fk_cX1_valueOf_0 6 rfl) kk_45
  by_cases c_4 : w_ = (2 : Int32)
  · refine lv_tableIn (off := 48) (tgt := 49) hx hb (dk_get dk_cX1_valueOf_0 0 rfl) (by rw [c_4]; decide) (by rw [c_4]; decide) (by rw [c_4]; rfl) (by decide) ?_
    refine lv_aload_n hx hb (fk_get fk_cX1_valueOf_0 8 rfl) rfl (lv_at hl 0 rfl) ?_
    refine va_get (D := G.1) (ci := 5) (v := .int (fF S i 5)) (C := RX3) (T := TX3) (N := 10) hx hb hT inX3 hown hK hP i (ix_at (lt71 (by omega)) (cX_cust hpk)) rfl 5 (by decide) (hT _ m1_162) (fun _ h9 => h9) rfl (fk_get fk_cX1_valueOf_0 9 rfl) ?_
    subst hQ
    have hpost : True := by
      trivial
    exact W.iret (v := (fF S i 5)) hx hb hr (fun t_ ht_ hW_ => ⟨(fF S i 5), rfl, hpost, ht_⟩) (fun q h => by cases h) (fk_get fk_cX1_valueOf_0 10 rfl)
  by_cases c_5 : w_ = (3 : Int32)
  · refine lv_tableIn (off := 53) (tgt := 54) hx hb (dk_get dk_cX1_valueOf_0 0 rfl) (by rw [c_5]; decide) (by rw [c_5]; decide) (by rw [c_5]; rfl) (by decide) ?_
    refine lv_aload_n hx hb (fk_get fk_cX1_valueOf_0 11 rfl) rfl (lv_at hl 0 rfl) ?_
    refine va_get (D := G.1) (ci := 5) (v := .int (fF S i 6)) (C := RX3) (T := TX3) (N := 10) hx hb hT inX3 hown hK hP i (ix_at (lt71 (by omega)) (cX_cust hpk)) rfl 6 (by decide) (hT _ m1_167) (fun _ h9 => h9) rfl (fk_get fk_cX1_valueOf_0 12 rfl) ?_
    subst hQ
    have hpost : True := by
      trivial
    exact W.iret (v := (fF S i 6)) hx hb hr (fun t_ ht_ hW_ => ⟨(fF S i 6), rfl, hpost, ht_⟩) (fun q h => by cases h) (fk_get fk_cX1_valueOf_0 13 rfl)
  by_cases c_6 : w_ = (4 : Int32)
  · refine lv_tableIn (off := 58) (tgt := 59) hx hb (dk_get dk_cX1_valueOf_0 0 rfl) (by rw [c_6]; decide) (by rw [c_6]; decide) (by rw [c_6]; rfl) (by decide) ?_
    refine lv_aload_n hx hb (fk_get fk_cX1_valueOf_0 14 rfl) rfl (lv_at hl 0 rfl) ?_
    refine va_get (D := G.1) (ci := 5) (v := .int (fF S i 7)) (C := RX3) (T := TX3) (N := 10) hx hb hT inX3 hown hK hP i (ix_at (lt71 (by omega)) (cX_cust hpk)) rfl 7 (by decide) (hT _ m1_172) (fun _ h9 => h9) rfl (fk_get fk_cX1_valueOf_0 15 rfl) ?_
    subst hQ
    have hpost : True := by
      trivial
    exact W.iret (v := (fF S i 7)) hx hb hr (fun t_ ht_ hW_ => ⟨(fF S i 7), rfl, hpost, ht_⟩) (fun q h => by cases h) (fk_get fk_cX1_valueOf_0 16 rfl)
  have o_7 : (w_).toInt < 0 ∨ 4 < (w_).toInt := by
    have qc_1 : ¬ (w_).toInt = 0 := lv_neT c_1 (by decide)
    have qc_2 : ¬ (w_).toInt = 1 := lv_neT c_2 (by decide)
    have qc_4 : ¬ (w_).toInt = 2 := lv_neT c_4 (by decide)
    have qc_5 : ¬ (w_).toInt = 3 := lv_neT c_5 (by decide)
    have qc_6 : ¬ (w_).toInt = 4 := lv_neT c_6 (by decide)
    omega
  refine lv_tableOut (tgt := 64) hx hb (dk_get dk_cX1_valueOf_0 0 rfl) o_7 (by decide) ?_
  refine lv_aload_n hx hb (fk_get fk_cX1_valueOf_0 17 rfl) rfl (lv_at hl 0 rfl) ?_
  refine va_get (D := G.1) (ci := 5) (v := .int (fF S i 8)) (C := RX3) (T := TX3) (N := 10) hx hb hT inX3 hown hK hP i (ix_at (lt71 (by omega)) (cX_cust hpk)) rfl 8 (by decide) (hT _ m1_176) (fun _ h9 => h9) rfl (fk_get fk_cX1_valueOf_0 18 rfl) ?_
  refine lv_bipush (v := 7) hx hb (fk_get fk_cX1_valueOf_0 19 rfl) (by decide) ?_
  refine lv_irem hx hb (fk_get fk_cX1_valueOf_0 20 rfl) (by decide) ?_
  subst hQ
  have hpost : True := by
    trivial
  exact W.iret (v := ((fF S i 8) - (fF S i 8) / 7 * 7)) hx hb hr (fun t_ ht_ hW_ => ⟨((fF S i 8) - (fF S i 8) / 7 * 7), rfl, hpost, ht_⟩) (fun q h => by cases h) (fk_get fk_cX1_valueOf_0 21 rfl)
set_option maxHeartbeats 800000 in
set_option maxRecDepth 100000 in
theorem c_x1_addedByClauses (l : Launch) (G : GG) (ad : Nat → Nat) (S : FS) (sz : Nat) (pz i : Nat) (hc : COK S pz) (hpk : pk i = 7) (hX : XI S) : Met l yX1_addedByClauses (Cond.code yX1_addedByClauses cX1_addedByClauses 8 (some .int) :: TBL) ({ frames := 3, cells := 0, slots := 0, locals := 90 } : Room) (PcW G (wX G ad S) sz [.ref (ad pz), .ref (ad i)]) (vp_Si (fun (r : Int32) => True)) 0 0 (fun _ => False) := by
  refine Met.ofW (cc := cX1_addedByClauses) (maxL := 8) (ret := (some .int)) (by decide) rfl ?_
  intro p e s m args below meth c₀ s₁ B hml hv
  obtain ⟨rfl, hsz, hP, hK, hD0⟩ := hv
  have hx := B.exec
  have hb := B.bytes
  have hr := B.returns
  have hT : ∀ w ∈ TBL, w.before ([.ref (ad pz), .ref (ad i)] : List Value).toArray s = true := fun w h => atoms_spec (ws := Cond.code yX1_addedByClauses cX1_addedByClauses 8 (some .int) :: TBL) B.pre w (List.mem_cons_of_mem _ h)
  have hown : s.vm.findClass "LittleMore$Counter" = some m.cls := findClass_of_methodNamed B.named
  have hlocks := B.notSynchronized
  have hD := hD0
  have hP : va_P G.1 vwCl (wX G ad S) s.heap := hP
  have hl := lv_entry ([.ref (ad pz), .ref (ad i)]) (n := 8) (Nat.le_of_ble_eq_true rfl)
  rw [lg_entry_eq]
  generalize (lg_sl ([.ref (ad pz), .ref (ad i)]) ++ List.replicate (8 - (lg_sl ([.ref (ad pz), .ref (ad i)])).length) Slot.unset).toArray = ls at hl ⊢
  have hl : lv_has ls 8 [(0, .ref (ad pz)), (1, .ref (ad i))] := hl
  refine W_abs (fun Q hQ => ?_)
  generalize ([.ref (ad pz), .ref (ad i)] : List Value).toArray = args at hT hQ ⊢
  have hb_i := pk7 hpk
  obtain ⟨h1_z, h2_z, h3_z, a_z, b_z, L_z, ha_z, hb_z, hL_z, da_z, db_z⟩ := hc
  have hc : COK S pz := ⟨h1_z, h2_z, h3_z, a_z, b_z, L_z, ha_z, hb_z, hL_z, da_z, db_z⟩
  refine lv_iconst (v := 0) hx hb (fk_get fk_cX1_addedByClauses_0 0 rfl) (by decide) ?_
  refine lv_istore_n (lv' := [(2, .int (0)), (0, .ref (ad pz)), (1, .ref (ad i))]) hx hb (fk_get fk_cX1_addedByClauses_0 1 rfl) rfl hl (by decide) rfl (fun ls hl => ?_)
  refine lv_iconst (v := 0) hx hb (fk_get fk_cX1_addedByClauses_0 2 rfl) (by decide) ?_
  refine lv_istore_n (lv' := [(3, .int (0)), (2, .int (0)), (0, .ref (ad pz)), (1, .ref (ad i))]) hx hb (fk_get fk_cX1_addedByClauses_0 3 rfl) rfl hl (by decide) rfl (fun ls hl => ?_)
  refine lv_iconst (v := 0) hx hb (fk_get fk_cX1_addedByClauses_0 4 rfl) (by decide) ?_
  refine lv_istore (lv' := [(4, .int (0)), (3, .int (0)), (2, .int (0)), (0, .ref (ad pz)), (1, .ref (ad i))]) hx hb (fk_get fk_cX1_addedByClauses_0 5 rfl) hl (by decide) rfl (fun ls hl => ?_)
  have lp_1 : ∀ (fu : Nat) (k : Nat) (v2 v3 : Int32) (ls : Array Slot),  (k ≤ L_z) → (L_z < k + fu) → lv_has ls 8 [(4, .int ((nI k))), (3, .int (v3)), (2, .int (v2)), (0, .ref (ad pz)), (1, .ref (ad i))] → W p l e ({ frames := 3, cells := 0, slots := 0, locals := 90 } : Room) s m args below meth c₀ s.heap [] 0 0 Q (F0 m 7 ls []) := by
    intro fu
    induction fu with
    | zero =>
      intro k v2 v3 ls hk hf hl
      exact absurd hf (by omega)
    | succ fu ih =>
      intro k v2 v3 ls hk hf hl
      refine lv_iload hx hb (fk_get fk_cX1_addedByClauses_0 6 rfl) (lv_at hl 0 rfl) ?_
      refine lv_aload_n hx hb (fk_get fk_cX1_addedByClauses_0 7 rfl) rfl (lv_at hl 3 rfl) ?_
      refine va_get (D := G.1) (ci := 3) (v := va_rf ((fR S pz 2).map ad)) (C := RX1) (T := TX1) (N := 4) hx hb hT inX1 hown hK hP pz (ix_at (hc).2.1 (cX_ctr (hc).1 (hc).2.2.1)) rfl 2 (by decide) (hT _ m1_118) (fun _ h9 => h9) rfl (fk_get fk_cX1_addedByClauses_0 8 rfl) ?_
      rw [show va_rf ((fR S pz 2).map ad) = .ref (ad a_z) from by rw [ha_z]; rfl]
      refine va_alen hx hb hK hP a_z 0 (ix_at (da_z).2.1 (cX_din da_z)) rfl (v := nI L_z) rfl (fk_get fk_cX1_addedByClauses_0 9 rfl) ?_
      refine lv_icmp_ge (tgt := 157) hx hb (fk_get fk_cX1_addedByClauses_0 10 rfl) (by decide) (fun c_2 => ?_) (fun c_2 => ?_)
      · have q_c_2 : L_z ≤ k := ci_le (a := L_z) (b := k) (by omega) (by omega) c_2
        refine lv_iload_n hx hb (fk_get fk_cX1_addedByClauses_2 16 rfl) rfl (lv_at hl 2 rfl) ?_
        subst hQ
        have hpost : True := by
          trivial
        exact W.iret (v := v2) hx hb hr (fun t_ ht_ hW_ => ⟨v2, rfl, hpost, ht_⟩) (fun q h => by cases h) (fk_get fk_cX1_addedByClauses_2 17 rfl)
      have q_c_2 : k < L_z := ci_nle (a := L_z) (b := k) (by omega) (by omega) c_2
      refine lv_aload_n hx hb (fk_get fk_cX1_addedByClauses_0 11 rfl) rfl (lv_at hl 3 rfl) ?_
      refine va_get (D := G.1) (ci := 3) (v := va_rf ((fR S pz 2).map ad)) (C := RX1) (T := TX1) (N := 4) hx hb hT inX1 hown hK hP pz (ix_at (hc).2.1 (cX_ctr (hc).1 (hc).2.2.1)) rfl 2 (by decide) (hT _ m1_118) (fun _ h9 => h9) rfl (fk_get fk_cX1_addedByClauses_0 12 rfl) ?_
      rw [show va_rf ((fR S pz 2).map ad) = .ref (ad a_z) from by rw [ha_z]; rfl]
      refine lv_iload hx hb (fk_get fk_cX1_addedByClauses_0 13 rfl) (lv_at hl 0 rfl) ?_
      refine r_iald (f := fA S a_z) hx hb hK hP a_z 0 (ix_at (da_z).2.1 (cX_din da_z)) rfl (j := k) (rfl) (by omega) (by omega) (fk_get fk_cX1_addedByClauses_0 14 rfl) ?_
      refine lv_istore (lv' := [(5, .int ((fA S a_z k))), (4, .int ((nI k))), (3, .int (v3)), (2, .int (v2)), (0, .ref (ad pz)), (1, .ref (ad i))]) hx hb (fk_get fk_cX1_addedByClauses_0 15 rfl) hl (by decide) rfl (fun ls hl => ?_)
      refine lv_iload_n hx hb (fk_get fk_cX1_addedByClauses_0 16 rfl) rfl (lv_at hl 2 rfl) ?_
      refine lv_iconst (v := 1) hx hb (fk_get fk_cX1_addedByClauses_0 17 rfl) (by decide) ?_
      refine lv_iand hx hb (fk_get fk_cX1_addedByClauses_0 18 rfl) ?_
      refine lv_istore (lv' := [(6, .int ((v3 &&& 1))), (5, .int ((fA S a_z k))), (4, .int ((nI k))), (3, .int (v3)), (2, .int (v2)), (0, .ref (ad pz)), (1, .ref (ad i))]) hx hb (fk_get fk_cX1_addedByClauses_0 19 rfl) hl (by decide) rfl (fun ls hl => ?_)
      refine lv_iload hx hb (fk_get fk_cX1_addedByClauses_0 20 rfl) (lv_at hl 1 rfl) ?_
      by_cases c_3 : (fA S a_z k) = (18 : Int32)
      · refine lv_tableIn (off := 31) (tgt := 64) hx hb (dk_get dk_cX1_addedByClauses_0 0 rfl) (by rw [c_3]; decide) (by rw [c_3]; decide) (by rw [c_3]; rfl) (by decide) ?_
        refine lv_iload_n hx hb (fk_get fk_cX1_addedByClauses_0 21 rfl) rfl (lv_at hl 3 rfl) ?_
        refine lv_iconst (v := 1) hx hb (fk_get fk_cX1_addedByClauses_0 22 rfl) (by decide) ?_
        refine lv_ixor hx hb (fk_get fk_cX1_addedByClauses_0 23 rfl) ?_
        refine lv_istore_n (lv' := [(3, .int ((v3 ^^^ 1))), (6, .int ((v3 &&& 1))), (5, .int ((fA S a_z k))), (4, .int ((nI k))), (2, .int (v2)), (0, .ref (ad pz)), (1, .ref (ad i))]) hx hb (fk_get fk_cX1_addedByClauses_0 24 rfl) rfl hl (by decide) rfl (fun ls hl => ?_)
        refine lv_goto (tgt := 151) hx hb (fk_get fk_cX1_addedByClauses_0 25 rfl) (by decide) ?_
        refine lv_iinc (v := (nI (k + 1))) (lv' := [(4, .int ((nI (k + 1)))), (3, .int ((v3 ^^^ 1))), (6, .int ((v3 &&& 1))), (5, .int ((fA S a_z k))), (2, .int (v2)), (0, .ref (ad pz)), (1, .ref (ad i))]) hx hb (fk_get fk_cX1_addedByClauses_2 14 rfl) hl (k := 3) rfl ((nI_1 k)) (by decide) rfl (fun ls hl => ?_)
        refine lv_goto (tgt := 7) hx hb (fk_get fk_cX1_addedByClauses_2 15 rfl) (by decide) ?_
        exact ih (k + 1) (v2) ((v3 ^^^ 1)) ls (by omega) (by omega) (lv_sub hl [0, 1, 4, 5, 6] rfl)
      by_cases c_4 : (fA S a_z k) = (19 : Int32)
      · refine lv_tableIn (off := 38) (tgt := 71) hx hb (dk_get dk_cX1_addedByClauses_0 0 rfl) (by rw [c_4]; decide) (by rw [c_4]; decide) (by rw [c_4]; rfl) (by decide) ?_
        refine lv_iload_n hx hb (fk_get fk_cX1_addedByClauses_0 26 rfl) rfl (lv_at hl 3 rfl) ?_
        refine lv_iconst (v := 1) hx hb (fk_get fk_cX1_addedByClauses_0 27 rfl) (by decide) ?_
        refine lv_ishr hx hb (fk_get fk_cX1_addedByClauses_0 28 rfl) ?_
        refine lv_iload hx hb (fk_get fk_cX1_addedByClauses_0 29 rfl) (lv_at hl 0 rfl) ?_
        refine lv_bipush (v := (-2)) hx hb (fk_get fk_cX1_addedByClauses_0 30 rfl) (by decide) ?_
        refine lv_ior hx hb (fk_get fk_cX1_addedByClauses_0 31 rfl) ?_
        refine lv_iand hx hb (fk_get fk_cX1_addedByClauses_1 0 rfl) ?_
        refine lv_istore_n (lv' := [(3, .int (((v3 >>> (1 &&& 31)) &&& ((v3 &&& 1) ||| (-2))))), (6, .int ((v3 &&& 1))), (5, .int ((fA S a_z k))), (4, .int ((nI k))), (2, .int (v2)), (0, .ref (ad pz)), (1, .ref (ad i))]) hx hb (fk_get fk_cX1_addedByClauses_1 1 rfl) rfl hl (by decide) rfl (fun ls hl => ?_)
        refine lv_goto (tgt := 151) hx hb (fk_get fk_cX1_addedByClauses_1 2 rfl) (by decide) ?_
        refine lv_iinc (v := (nI (k + 1))) (lv' := [(4, .int ((nI (k + 1)))), (3, .int (((v3 >>> (1 &&& 31)) &&& ((v3 &&& 1) ||| (-2))))), (6, .int ((v3 &&& 1))), (5, .int ((fA S a_z k))), (2, .int (v2)), (0, .ref (ad pz)), (1, .ref (ad i))]) hx hb (fk_get fk_cX1_addedByClauses_2 14 rfl) hl (k := 3) rfl ((nI_1 k)) (by decide) rfl (fun ls hl => ?_)
        refine lv_goto (tgt := 7) hx hb (fk_get fk_cX1_addedByClauses_2 15 rfl) (by decide) ?_
        exact ih (k + 1) (v2) (((v3 >>> (1 &&& 31)) &&& ((v3 &&& 1) ||| (-2)))) ls (by omega) (by omega) (lv_sub hl [0, 1, 4, 5, 6] rfl)
      by_cases c_5 : (fA S a_z k) = (20 : Int32)
      · refine lv_tableIn (off := 51) (tgt := 84) hx hb (dk_get dk_cX1_addedByClauses_0 0 rfl) (by rw [c_5]; decide) (by rw [c_5]; decide) (by rw [c_5]; rfl) (by decide) ?_
        refine lv_iload_n hx hb (fk_get fk_cX1_addedByClauses_1 3 rfl) rfl (lv_at hl 3 rfl) ?_
        refine lv_iconst (v := 1) hx hb (fk_get fk_cX1_addedByClauses_1 4 rfl) (by decide) ?_
        refine lv_ishr hx hb (fk_get fk_cX1_addedByClauses_1 5 rfl) ?_
        refine lv_iload hx hb (fk_get fk_cX1_addedByClauses_1 6 rfl) (lv_at hl 0 rfl) ?_
        refine lv_ior hx hb (fk_get fk_cX1_addedByClauses_1 7 rfl) ?_
        refine lv_istore_n (lv' := [(3, .int (((v3 >>> (1 &&& 31)) ||| (v3 &&& 1)))), (6, .int ((v3 &&& 1))), (5, .int ((fA S a_z k))), (4, .int ((nI k))), (2, .int (v2)), (0, .ref (ad pz)), (1, .ref (ad i))]) hx hb (fk_get fk_cX1_addedByClauses_1 8 rfl) rfl hl (by decide) rfl (fun ls hl => ?_)
        refine lv_goto (tgt := 151) hx hb (fk_get fk_cX1_addedByClauses_1 9 rfl) (by decide) ?_
        refine lv_iinc (v := (nI (k + 1))) (lv' := [(4, .int ((nI (k + 1)))), (3, .int (((v3 >>> (1 &&& 31)) ||| (v3 &&& 1)))), (6, .int ((v3 &&& 1))), (5, .int ((fA S a_z k))), (2, .int (v2)), (0, .ref (ad pz)), (1, .ref (ad i))]) hx hb (fk_get fk_cX1_addedByClauses_2 14 rfl) hl (k := 3) rfl ((nI_1 k)) (by decide) rfl (fun ls hl => ?_)
        refine lv_goto (tgt := 7) hx hb (fk_get fk_cX1_addedByClauses_2 15 rfl) (by decide) ?_
        exact ih (k + 1) (v2) (((v3 >>> (1 &&& 31)) ||| (v3 &&& 1))) ls (by omega) (by omega) (lv_sub hl [0, 1, 4, 5, 6] rfl)
      by_cases c_6 : (fA S a_z k) = (21 : Int32)
      · refine lv_tableIn (off := 61) (tgt := 94) hx hb (dk_get dk_cX1_addedByClauses_0 0 rfl) (by rw [c_6]; decide) (by rw [c_6]; decide) (by rw [c_6]; rfl) (by decide) ?_
        refine lv_iload_n hx hb (fk_get fk_cX1_addedByClauses_1 10 rfl) rfl (lv_at hl 4 rfl) ?_
        refine lv_iload hx hb (fk_get fk_cX1_addedByClauses_1 11 rfl) (lv_at hl 0 rfl) ?_
        refine lv_aload_n hx hb (fk_get fk_cX1_addedByClauses_1 12 rfl) rfl (lv_at hl 5 rfl) ?_
        refine va_get (D := G.1) (ci := 3) (v := va_rf ((fR S pz 3).map ad)) (C := RX1) (T := TX1) (N := 4) hx hb hT inX1 hown hK hP pz (ix_at (hc).2.1 (cX_ctr (hc).1 (hc).2.2.1)) rfl 3 (by decide) (hT _ m1_119) (fun _ h9 => h9) rfl (fk_get fk_cX1_addedByClauses_1 13 rfl) ?_
        rw [show va_rf ((fR S pz 3).map ad) = .ref (ad b_z) from by rw [hb_z]; rfl]
        refine lv_iload hx hb (fk_get fk_cX1_addedByClauses_1 14 rfl) (lv_at hl 2 rfl) ?_
        refine r_iald (f := fA S b_z) hx hb hK hP b_z 0 (ix_at (db_z).2.1 (cX_din db_z)) rfl (j := k) (rfl) (by omega) (by omega) (fk_get fk_cX1_addedByClauses_1 15 rfl) ?_
        refine lv_imul hx hb (fk_get fk_cX1_addedByClauses_1 16 rfl) ?_
        refine lv_iadd hx hb (fk_get fk_cX1_addedByClauses_1 17 rfl) ?_
        refine lv_istore_n (lv' := [(2, .int ((v2 + ((v3 &&& 1) * (fA S b_z k))))), (6, .int ((v3 &&& 1))), (5, .int ((fA S a_z k))), (4, .int ((nI k))), (3, .int (v3)), (0, .ref (ad pz)), (1, .ref (ad i))]) hx hb (fk_get fk_cX1_addedByClauses_1 18 rfl) rfl hl (by decide) rfl (fun ls hl => ?_)
        refine lv_iconst (v := 0) hx hb (fk_get fk_cX1_addedByClauses_1 19 rfl) (by decide) ?_
        refine lv_istore_n (lv' := [(3, .int (0)), (2, .int ((v2 + ((v3 &&& 1) * (fA S b_z k))))), (6, .int ((v3 &&& 1))), (5, .int ((fA S a_z k))), (4, .int ((nI k))), (0, .ref (ad pz)), (1, .ref (ad i))]) hx hb (fk_get fk_cX1_addedByClauses_1 20 rfl) rfl hl (by decide) rfl (fun ls hl => ?_)
        refine lv_goto (tgt := 151) hx hb (fk_get fk_cX1_addedByClauses_1 21 rfl) (by decide) ?_
        refine lv_iinc (v := (nI (k + 1))) (lv' := [(4, .int ((nI (k + 1)))), (3, .int (0)), (2, .int ((v2 + ((v3 &&& 1) * (fA S b_z k))))), (6, .int ((v3 &&& 1))), (5, .int ((fA S a_z k))), (0, .ref (ad pz)), (1, .ref (ad i))]) hx hb (fk_get fk_cX1_addedByClauses_2 14 rfl) hl (k := 4) rfl ((nI_1 k)) (by decide) rfl (fun ls hl => ?_)
        refine lv_goto (tgt := 7) hx hb (fk_get fk_cX1_addedByClauses_2 15 rfl) (by decide) ?_
        exact ih (k + 1) ((v2 + ((v3 &&& 1) * (fA S b_z k)))) (0) ls (by omega) (by omega) (lv_sub hl [0, 1, 2, 5, 6] rfl)
      have o_7 : ((fA S a_z k)).toInt < 18 ∨ 21 < ((fA S a_z k)).toInt := by
        have qc_3 : ¬ ((fA S a_z k)).toInt = 18 := lv_neT c_3 (by decide)
        have qc_4 : ¬ ((fA S a_z k)).toInt = 19 := lv_neT c_4 (by decide)
        have qc_5 : ¬ ((fA S a_z k)).toInt = 20 := lv_neT c_5 (by decide)
        have qc_6 : ¬ ((fA S a_z k)).toInt = 21 := lv_neT c_6 (by decide)
        omega
      refine lv_tableOut (tgt := 112) hx hb (dk_get dk_cX1_addedByClauses_0 0 rfl) o_7 (by decide) ?_
      refine lv_aload_n hx hb (fk_get fk_cX1_addedByClauses_1 22 rfl) rfl (lv_at hl 6 rfl) ?_
      refine lv_iload hx hb (fk_get fk_cX1_addedByClauses_1 23 rfl) (lv_at hl 1 rfl) ?_
      refine lv_iconst (v := 3) hx hb (fk_get fk_cX1_addedByClauses_1 24 rfl) (by decide) ?_
      refine lv_idiv hx hb (fk_get fk_cX1_addedByClauses_1 25 rfl) (by decide) ?_
      refine vp_callSi (W.runS (As := [.ref (ad i), .int (((fA S a_z k) / 3))]) (rest := []) ⟨hx, hb, hml, hown, hT⟩ (c_x1_valueOf l G ad S s.heap.size (i) (((fA S a_z k) / 3)) (hpk) (hX)) (tS 2 hT m2_132 m2_133 m1_10 m2_134 rfl rfl (by decide +kernel) ⟨Nat.le_of_ble_eq_true rfl, Nat.le_of_ble_eq_true rfl⟩) ⟨PcW_blind, PcW_of hP hK hD _⟩ rfl rfl hl.1 rfl (lv_room (Nat.le_of_ble_eq_true rfl)) (fk_get fk_cX1_addedByClauses_1 26 rfl) ⟨Nat.zero_le _, Nat.zero_le _⟩) (fun r_8 hw_9 => ?_)
      try dsimp only at hw_9
      refine lv_istore (lv' := [(7, .int (r_8)), (6, .int ((v3 &&& 1))), (5, .int ((fA S a_z k))), (4, .int ((nI k))), (3, .int (v3)), (2, .int (v2)), (0, .ref (ad pz)), (1, .ref (ad i))]) hx hb (fk_get fk_cX1_addedByClauses_1 27 rfl) hl (by decide) rfl (fun ls hl => ?_)
      refine lv_iload_n hx hb (fk_get fk_cX1_addedByClauses_1 28 rfl) rfl (lv_at hl 4 rfl) ?_
      refine lv_iconst (v := 1) hx hb (fk_get fk_cX1_addedByClauses_1 29 rfl) (by decide) ?_
      refine lv_ishl hx hb (fk_get fk_cX1_addedByClauses_1 30 rfl) ?_
      refine lv_iload hx hb (fk_get fk_cX1_addedByClauses_1 31 rfl) (lv_at hl 0 rfl) ?_
      refine lv_iload hx hb (fk_get fk_cX1_addedByClauses_2 0 rfl) (lv_at hl 2 rfl) ?_
      refine lv_iconst (v := 3) hx hb (fk_get fk_cX1_addedByClauses_2 1 rfl) (by decide) ?_
      refine lv_irem hx hb (fk_get fk_cX1_addedByClauses_2 2 rfl) (by decide) ?_
      refine lv_aload_n hx hb (fk_get fk_cX1_addedByClauses_2 3 rfl) rfl (lv_at hl 6 rfl) ?_
      refine va_get (D := G.1) (ci := 3) (v := va_rf ((fR S pz 3).map ad)) (C := RX1) (T := TX1) (N := 4) hx hb hT inX1 hown hK hP pz (ix_at (hc).2.1 (cX_ctr (hc).1 (hc).2.2.1)) rfl 3 (by decide) (hT _ m1_119) (fun _ h9 => h9) rfl (fk_get fk_cX1_addedByClauses_2 4 rfl) ?_
      rw [show va_rf ((fR S pz 3).map ad) = .ref (ad b_z) from by rw [hb_z]; rfl]
      refine lv_iload hx hb (fk_get fk_cX1_addedByClauses_2 5 rfl) (lv_at hl 3 rfl) ?_
      refine r_iald (f := fA S b_z) hx hb hK hP b_z 0 (ix_at (db_z).2.1 (cX_din db_z)) rfl (j := k) (rfl) (by omega) (by omega) (fk_get fk_cX1_addedByClauses_2 6 rfl) ?_
      refine vp_callSi (W.runS (As := [.int (r_8), .int (((fA S a_z k) - (fA S a_z k) / 3 * 3)), .int ((fA S b_z k))]) (rest := [.int ((v3 <<< (1 &&& 31)))]) ⟨hx, hb, hml, hown, hT⟩ (c_x1_compares l (r_8) (((fA S a_z k) - (fA S a_z k) / 3 * 3)) ((fA S b_z k)) ) (tS 3 hT m2_135 m2_136 m1_10 m2_137 rfl rfl (by decide +kernel) ⟨Nat.le_of_ble_eq_true rfl, Nat.le_of_ble_eq_true rfl⟩) ⟨PcN_blind, PcN_of _ _ _⟩ rfl rfl hl.1 rfl (lv_room (Nat.le_of_ble_eq_true rfl)) (fk_get fk_cX1_addedByClauses_2 7 rfl) ⟨Nat.zero_le _, Nat.zero_le _⟩) (fun r_10 hw_11 => ?_)
      try dsimp only at hw_11
      refine lv_if_eq (tgt := 148) hx hb (fk_get fk_cX1_addedByClauses_2 8 rfl) (by decide) (fun c_12 => ?_) (fun c_12 => ?_)
      · have p_c_12 := if1_f hw_11 c_12
        refine lv_iconst (v := 0) hx hb (fk_get fk_cX1_addedByClauses_2 11 rfl) (by decide) ?_
        refine lv_ior hx hb (fk_get fk_cX1_addedByClauses_2 12 rfl) ?_
        refine lv_istore_n (lv' := [(3, .int (((v3 <<< (1 &&& 31)) ||| 0))), (7, .int (r_8)), (6, .int ((v3 &&& 1))), (5, .int ((fA S a_z k))), (4, .int ((nI k))), (2, .int (v2)), (0, .ref (ad pz)), (1, .ref (ad i))]) hx hb (fk_get fk_cX1_addedByClauses_2 13 rfl) rfl hl (by decide) rfl (fun ls hl => ?_)
        refine lv_iinc (v := (nI (k + 1))) (lv' := [(4, .int ((nI (k + 1)))), (3, .int (((v3 <<< (1 &&& 31)) ||| 0))), (7, .int (r_8)), (6, .int ((v3 &&& 1))), (5, .int ((fA S a_z k))), (2, .int (v2)), (0, .ref (ad pz)), (1, .ref (ad i))]) hx hb (fk_get fk_cX1_addedByClauses_2 14 rfl) hl (k := 4) rfl ((nI_1 k)) (by decide) rfl (fun ls hl => ?_)
        refine lv_goto (tgt := 7) hx hb (fk_get fk_cX1_addedByClauses_2 15 rfl) (by decide) ?_
        exact ih (k + 1) (v2) (((v3 <<< (1 &&& 31)) ||| 0)) ls (by omega) (by omega) (lv_sub hl [0, 1, 5, 6, 7] rfl)
      have p_c_12 := if1_t hw_11 c_12
      refine lv_iconst (v := 1) hx hb (fk_get fk_cX1_addedByClauses_2 9 rfl) (by decide) ?_
      refine lv_goto (tgt := 149) hx hb (fk_get fk_cX1_addedByClauses_2 10 rfl) (by decide) ?_
      refine lv_ior hx hb (fk_get fk_cX1_addedByClauses_2 12 rfl) ?_
      refine lv_istore_n (lv' := [(3, .int (((v3 <<< (1 &&& 31)) ||| 1))), (7, .int (r_8)), (6, .int ((v3 &&& 1))), (5, .int ((fA S a_z k))), (4, .int ((nI k))), (2, .int (v2)), (0, .ref (ad pz)), (1, .ref (ad i))]) hx hb (fk_get fk_cX1_addedByClauses_2 13 rfl) rfl hl (by decide) rfl (fun ls hl => ?_)
      refine lv_iinc (v := (nI (k + 1))) (lv' := [(4, .int ((nI (k + 1)))), (3, .int (((v3 <<< (1 &&& 31)) ||| 1))), (7, .int (r_8)), (6, .int ((v3 &&& 1))), (5, .int ((fA S a_z k))), (2, .int (v2)), (0, .ref (ad pz)), (1, .ref (ad i))]) hx hb (fk_get fk_cX1_addedByClauses_2 14 rfl) hl (k := 4) rfl ((nI_1 k)) (by decide) rfl (fun ls hl => ?_)
      refine lv_goto (tgt := 7) hx hb (fk_get fk_cX1_addedByClauses_2 15 rfl) (by decide) ?_
      exact ih (k + 1) (v2) (((v3 <<< (1 &&& 31)) ||| 1)) ls (by omega) (by omega) (lv_sub hl [0, 1, 5, 6, 7] rfl)
  exact lp_1 (L_z + 1) (0) (0) (0) ls (by omega) (by omega) (lv_sub hl [0, 1, 2, 3, 4] rfl)
theorem at_nat {x : Int32} {n : Nat} (h0 : ¬ x < 0) (h1 : x < nI n) (hn : n ≤ 6) : ∃ j, j < n ∧ x = nI j := by
  obtain ⟨j, hj, rfl⟩ := nI_of (x := x) h0
  exact ⟨j, ci_lt hj (by omega) h1, rfl⟩
set_option maxHeartbeats 800000 in
set_option maxRecDepth 100000 in
theorem c_x7_at (l : Launch) (G : GG) (ad : Nat → Nat) (S : FS) (sz : Nat) (h n : Nat) (x : Int32) (hh : h < 3) (hn : fF S (9 + h) 3 = nI n) (hn6 : n ≤ 6) (hX : XI S) : Met l yX7_at (Cond.code yX7_at cX7_at 2 (some (.object "LittleMore$Customer")) :: TBL) ({ frames := 2, cells := 0, slots := 0, locals := 64 } : Room) (PcW G (wX G ad S) sz [.ref (ad (9 + h)), .int (x)]) (va_Sq (fun (r : Option Nat) => (∃ j, j < n ∧ x = nI j ∧ r = some (ad (21 + 6 * h + j))) ∨ (r = none ∧ (x < 0 ∨ nI n ≤ x)))) 0 0 (fun _ => False) := by
  refine Met.ofW (cc := cX7_at) (maxL := 2) (ret := (some (.object "LittleMore$Customer"))) (by decide) rfl ?_
  intro p e s m args below meth c₀ s₁ B hml hv
  obtain ⟨rfl, hsz, hP, hK, hD0⟩ := hv
  have hx := B.exec
  have hb := B.bytes
  have hr := B.returns
  have hT : ∀ w ∈ TBL, w.before ([.ref (ad (9 + h)), .int (x)] : List Value).toArray s = true := fun w h => atoms_spec (ws := Cond.code yX7_at cX7_at 2 (some (.object "LittleMore$Customer")) :: TBL) B.pre w (List.mem_cons_of_mem _ h)
  have hown : s.vm.findClass "LittleMore$Shop" = some m.cls := findClass_of_methodNamed B.named
  have hlocks := B.notSynchronized
  have hD := hD0
  have hP : va_P G.1 vwCl (wX G ad S) s.heap := hP
  have hl := lv_entry ([.ref (ad (9 + h)), .int (x)]) (n := 2) (Nat.le_of_ble_eq_true rfl)
  rw [lg_entry_eq]
  generalize (lg_sl ([.ref (ad (9 + h)), .int (x)]) ++ List.replicate (2 - (lg_sl ([.ref (ad (9 + h)), .int (x)])).length) Slot.unset).toArray = ls at hl ⊢
  have hl : lv_has ls 2 [(0, .ref (ad (9 + h))), (1, .int (x))] := hl
  refine W_abs (fun Q hQ => ?_)
  generalize ([.ref (ad (9 + h)), .int (x)] : List Value).toArray = args at hT hQ ⊢
  refine lv_iload_n hx hb (fk_get fk_cX7_at_0 0 rfl) rfl (lv_at hl 1 rfl) ?_
  refine lv_if_lt (tgt := 12) hx hb (fk_get fk_cX7_at_0 1 rfl) (by decide) (fun c_1 => ?_) (fun c_1 => ?_)
  · refine lv_null hx hb (fk_get fk_cX7_at_0 6 rfl) ?_
    refine lv_goto (tgt := 22) hx hb (fk_get fk_cX7_at_0 7 rfl) (by decide) ?_
    subst hQ
    have hpost : (∃ j, j < n ∧ x = nI j ∧ (none : Option Nat) = some (ad (21 + 6 * h + j))) ∨ ((none : Option Nat) = none ∧ (x < 0 ∨ nI n ≤ x)) := by
      first | exact Or.inr ⟨rfl, Or.inl (by assumption)⟩ | exact Or.inr ⟨rfl, Or.inr (Int32.not_lt.mp (by assumption))⟩ | exact Or.inl ⟨j, hj, ej, by rw [hg_i_21]⟩
    exact W.aret hx hb hr (Or.inl ⟨_, rfl⟩) (Or.inl rfl) (fun t_ ht_ hW_ => ⟨none, rfl, hpost, ht_⟩) (fun q h => by cases h) (fk_get fk_cX7_at_0 12 rfl)
  refine lv_iload_n hx hb (fk_get fk_cX7_at_0 2 rfl) rfl (lv_at hl 1 rfl) ?_
  refine lv_aload_n hx hb (fk_get fk_cX7_at_0 3 rfl) rfl (lv_at hl 0 rfl) ?_
  refine va_get (D := G.1) (ci := 9) (v := .int (fF S (9 + h) 3)) (C := RX7) (T := TX7) (N := 8) hx hb hT inX7 hown hK hP (9 + h) (ix_at (lt71 (by omega)) (cX_shop (pk_shop hh))) rfl 3 (by decide) (hT _ m1_208) (fun _ h9 => h9) rfl (fk_get fk_cX7_at_0 4 rfl) ?_
  rw [hn]
  refine lv_icmp_lt (tgt := 16) hx hb (fk_get fk_cX7_at_0 5 rfl) (by decide) (fun c_2 => ?_) (fun c_2 => ?_)
  · obtain ⟨j, hj, ej⟩ := at_nat (by assumption) c_2 hn6
    refine lv_aload_n hx hb (fk_get fk_cX7_at_0 8 rfl) rfl (lv_at hl 0 rfl) ?_
    refine va_get (D := G.1) (ci := 9) (v := .ref (ad (9 + h + 3))) (C := RX7) (T := TX7) (N := 8) hx hb hT inX7 hown hK hP (9 + h) (ix_at (lt71 (by omega)) (cX_shop (pk_shop hh))) rfl 0 (by decide) (hT _ m1_202) (fun _ h9 => h9) rfl (fk_get fk_cX7_at_0 9 rfl) ?_
    refine lv_iload_n hx hb (fk_get fk_cX7_at_0 10 rfl) rfl (lv_at hl 1 rfl) ?_
    refine x_ppl hx hb hK hP hh (k := j) (by omega) (ej) (fk_get fk_cX7_at_0 11 rfl) ?_
    generalize hg_i_21 : 21 + 6 * h + j = i_21
    have hp_i_21 : pk i_21 = 7 := by rw [← hg_i_21]; exact pk_c hh (by omega)
    have hb_i_21 := pk7 hp_i_21
    subst hQ
    have hpost : (∃ j, j < n ∧ x = nI j ∧ ((some (ad i_21)) : Option Nat) = some (ad (21 + 6 * h + j))) ∨ (((some (ad i_21)) : Option Nat) = none ∧ (x < 0 ∨ nI n ≤ x)) := by
      first | exact Or.inr ⟨rfl, Or.inl (by assumption)⟩ | exact Or.inr ⟨rfl, Or.inr (Int32.not_lt.mp (by assumption))⟩ | exact Or.inl ⟨j, hj, ej, by rw [hg_i_21]⟩
    exact W.aret hx hb hr (Or.inl ⟨_, rfl⟩) (Or.inr ⟨_, rfl⟩) (fun t_ ht_ hW_ => ⟨(some (ad i_21)), rfl, hpost, ht_⟩) (fun q h => by cases h) (fk_get fk_cX7_at_0 12 rfl)
  refine lv_null hx hb (fk_get fk_cX7_at_0 6 rfl) ?_
  refine lv_goto (tgt := 22) hx hb (fk_get fk_cX7_at_0 7 rfl) (by decide) ?_
  subst hQ
  have hpost : (∃ j, j < n ∧ x = nI j ∧ (none : Option Nat) = some (ad (21 + 6 * h + j))) ∨ ((none : Option Nat) = none ∧ (x < 0 ∨ nI n ≤ x)) := by
    first | exact Or.inr ⟨rfl, Or.inl (by assumption)⟩ | exact Or.inr ⟨rfl, Or.inr (Int32.not_lt.mp (by assumption))⟩ | exact Or.inl ⟨j, hj, ej, by rw [hg_i_21]⟩
  exact W.aret hx hb hr (Or.inl ⟨_, rfl⟩) (Or.inl rfl) (fun t_ ht_ hW_ => ⟨none, rfl, hpost, ht_⟩) (fun q h => by cases h) (fk_get fk_cX7_at_0 12 rfl)
set_option maxHeartbeats 800000 in
set_option maxRecDepth 100000 in
theorem c_x7_moreFor (l : Launch) (G : GG) (ad : Nat → Nat) (S : FS) (sz : Nat) (h i : Nat) (hh : h < 3) (hpk : pk i = 7) (hX : XI S) : Met l yX7_moreFor (Cond.code yX7_moreFor cX7_moreFor 2 (some .int) :: TBL) ({ frames := 4, cells := 0, slots := 0, locals := 121 } : Room) (PcW G (wX G ad S) sz [.ref (ad (9 + h)), .ref (ad i)]) (vp_Si (fun (r : Int32) => True)) 0 0 (fun _ => False) := by
  refine Met.ofW (cc := cX7_moreFor) (maxL := 2) (ret := (some .int)) (by decide) rfl ?_
  intro p e s m args below meth c₀ s₁ B hml hv
  obtain ⟨rfl, hsz, hP, hK, hD0⟩ := hv
  have hx := B.exec
  have hb := B.bytes
  have hr := B.returns
  have hT : ∀ w ∈ TBL, w.before ([.ref (ad (9 + h)), .ref (ad i)] : List Value).toArray s = true := fun w h => atoms_spec (ws := Cond.code yX7_moreFor cX7_moreFor 2 (some .int) :: TBL) B.pre w (List.mem_cons_of_mem _ h)
  have hown : s.vm.findClass "LittleMore$Shop" = some m.cls := findClass_of_methodNamed B.named
  have hlocks := B.notSynchronized
  have hD := hD0
  have hP : va_P G.1 vwCl (wX G ad S) s.heap := hP
  have hl := lv_entry ([.ref (ad (9 + h)), .ref (ad i)]) (n := 2) (Nat.le_of_ble_eq_true rfl)
  rw [lg_entry_eq]
  generalize (lg_sl ([.ref (ad (9 + h)), .ref (ad i)]) ++ List.replicate (2 - (lg_sl ([.ref (ad (9 + h)), .ref (ad i)])).length) Slot.unset).toArray = ls at hl ⊢
  have hl : lv_has ls 2 [(0, .ref (ad (9 + h))), (1, .ref (ad i))] := hl
  refine W_abs (fun Q hQ => ?_)
  generalize ([.ref (ad (9 + h)), .ref (ad i)] : List Value).toArray = args at hT hQ ⊢
  have hb_i := pk7 hpk
  refine lv_iconst (v := 0) hx hb (fk_get fk_cX7_moreFor_0 0 rfl) (by decide) ?_
  refine lv_aload_n hx hb (fk_get fk_cX7_moreFor_0 1 rfl) rfl (lv_at hl 0 rfl) ?_
  refine va_get (D := G.1) (ci := 9) (v := .int (fF S (9 + h) 6)) (C := RX7) (T := TX7) (N := 8) hx hb hT inX7 hown hK hP (9 + h) (ix_at (lt71 (by omega)) (cX_shop (pk_shop hh))) rfl 6 (by decide) (hT _ m1_214) (fun _ h9 => h9) rfl (fk_get fk_cX7_moreFor_0 2 rfl) ?_
  refine lv_aload_n hx hb (fk_get fk_cX7_moreFor_0 3 rfl) rfl (lv_at hl 1 rfl) ?_
  refine va_get (D := G.1) (ci := 5) (v := .int (fF S i 5)) (C := RX3) (T := TX3) (N := 10) hx hb hT inX3 hown hK hP i (ix_at (lt71 (by omega)) (cX_cust hpk)) rfl 5 (by decide) (hT _ m1_161) (fun _ h9 => h9) rfl (fk_get fk_cX7_moreFor_0 4 rfl) ?_
  refine lv_iadd hx hb (fk_get fk_cX7_moreFor_0 5 rfl) ?_
  refine lv_aload_n hx hb (fk_get fk_cX7_moreFor_0 6 rfl) rfl (lv_at hl 0 rfl) ?_
  obtain ⟨n_1, en_1, bn_1⟩ := XI.ctr hX hh
  refine va_get (D := G.1) (ci := 9) (v := va_rf ((fR S (9 + h) 7).map ad)) (C := RX7) (T := TX7) (N := 8) hx hb hT inX7 hown hK hP (9 + h) (ix_at (lt71 (by omega)) (cX_shop (pk_shop hh))) rfl 7 (by decide) (hT _ m1_216) (fun _ h9 => h9) rfl (fk_get fk_cX7_moreFor_0 7 rfl) ?_
  rw [show va_rf ((fR S (9 + h) 7).map ad) = .ref (ad n_1) from by rw [en_1]; rfl]
  refine lv_aload_n hx hb (fk_get fk_cX7_moreFor_0 8 rfl) rfl (lv_at hl 1 rfl) ?_
  refine vp_callSi (W.runV (As := [.ref (ad i)]) (rest := [.int (((fF S (9 + h) 6) + (fF S i 5))), .int (0)]) ⟨hx, hb, hml, hown, hT⟩ (c_x1_addedByClauses l G ad S s.heap.size (n_1) (i) (bn_1) (hpk) (hX)) (tV 1 hT m2_128 m2_129 m2_130 m1_10 m2_131 rfl rfl (by decide +kernel) ⟨Nat.le_of_ble_eq_true rfl, Nat.le_of_ble_eq_true rfl⟩) ⟨PcW_blind, va_recv hK hP (ci := 3) (q0 := n_1) rfl (ix_at (bn_1).2.1 (cX_ctr (bn_1).1 (bn_1).2.2.1)), PcW_of hP hK hD _⟩ rfl rfl hl.1 rfl (lv_room (Nat.le_of_ble_eq_true rfl)) (fk_get fk_cX7_moreFor_0 9 rfl) ⟨Nat.zero_le _, Nat.zero_le _⟩) (fun r_2 hw_3 => ?_)
  try dsimp only at hw_3
  refine lv_iadd hx hb (fk_get fk_cX7_moreFor_0 10 rfl) ?_
  refine vp_callSi (W.runS (As := [.int (0), .int ((((fF S (9 + h) 6) + (fF S i 5)) + r_2))]) (rest := []) ⟨hx, hb, hml, hown, hT⟩ (c_jmax l (0) ((((fF S (9 + h) 6) + (fF S i 5)) + r_2)) ) (tS 2 hT m2_138 m2_139 m1_18 m2_140 rfl rfl (by decide +kernel) ⟨Nat.le_of_ble_eq_true rfl, Nat.le_of_ble_eq_true rfl⟩) ⟨PcN_blind, PcN_of _ _ _⟩ rfl rfl hl.1 rfl (lv_room (Nat.le_of_ble_eq_true rfl)) (fk_get fk_cX7_moreFor_0 11 rfl) ⟨Nat.zero_le _, Nat.zero_le _⟩) (fun r_4 hw_5 => ?_)
  try dsimp only at hw_5
  subst hQ
  have hpost : True := by
    trivial
  exact W.iret (v := r_4) hx hb hr (fun t_ ht_ hW_ => ⟨r_4, rfl, hpost, ht_⟩) (fun q h => by cases h) (fk_get fk_cX7_moreFor_0 12 rfl)
set_option maxHeartbeats 800000 in
set_option maxRecDepth 100000 in
theorem c_x7_refuses (l : Launch) (G : GG) (ad : Nat → Nat) (S : FS) (sz : Nat) (h i : Nat) (hh : h < 3) (hpk : pk i = 7) (hX : XI S) : Met l yX7_refuses (Cond.code yX7_refuses cX7_refuses 2 (some .boolean) :: TBL) ({ frames := 5, cells := 0, slots := 0, locals := 146 } : Room) (PcW G (wX G ad S) sz [.ref (ad (9 + h)), .ref (ad i)]) (vp_Si (fun (r : Int32) => r = 0 ∨ r = 1)) 0 0 (fun _ => False) := by
  refine Met.ofW (cc := cX7_refuses) (maxL := 2) (ret := (some .boolean)) (by decide) rfl ?_
  intro p e s m args below meth c₀ s₁ B hml hv
  obtain ⟨rfl, hsz, hP, hK, hD0⟩ := hv
  have hx := B.exec
  have hb := B.bytes
  have hr := B.returns
  have hT : ∀ w ∈ TBL, w.before ([.ref (ad (9 + h)), .ref (ad i)] : List Value).toArray s = true := fun w h => atoms_spec (ws := Cond.code yX7_refuses cX7_refuses 2 (some .boolean) :: TBL) B.pre w (List.mem_cons_of_mem _ h)
  have hown : s.vm.findClass "LittleMore$Shop" = some m.cls := findClass_of_methodNamed B.named
  have hlocks := B.notSynchronized
  have hD := hD0
  have hP : va_P G.1 vwCl (wX G ad S) s.heap := hP
  have hl := lv_entry ([.ref (ad (9 + h)), .ref (ad i)]) (n := 2) (Nat.le_of_ble_eq_true rfl)
  rw [lg_entry_eq]
  generalize (lg_sl ([.ref (ad (9 + h)), .ref (ad i)]) ++ List.replicate (2 - (lg_sl ([.ref (ad (9 + h)), .ref (ad i)])).length) Slot.unset).toArray = ls at hl ⊢
  have hl : lv_has ls 2 [(0, .ref (ad (9 + h))), (1, .ref (ad i))] := hl
  refine W_abs (fun Q hQ => ?_)
  generalize ([.ref (ad (9 + h)), .ref (ad i)] : List Value).toArray = args at hT hQ ⊢
  have hb_i := pk7 hpk
  refine lv_aload_n hx hb (fk_get fk_cX7_refuses_0 0 rfl) rfl (lv_at hl 0 rfl) ?_
  refine lv_aload_n hx hb (fk_get fk_cX7_refuses_0 1 rfl) rfl (lv_at hl 1 rfl) ?_
  refine vp_callSi (W.runV (As := [.ref (ad i)]) (rest := []) ⟨hx, hb, hml, hown, hT⟩ (c_x7_moreFor l G ad S s.heap.size (h) (i) (hh) (hpk) (hX)) (tV 1 hT m2_191 m2_125 m2_126 m1_9 m2_127 rfl rfl (by decide +kernel) ⟨Nat.le_of_ble_eq_true rfl, Nat.le_of_ble_eq_true rfl⟩) ⟨PcW_blind, va_recv hK hP (ci := 9) (q0 := (9 + h)) rfl (ix_at (lt71 (by omega)) (cX_shop (pk_shop hh))), PcW_of hP hK hD _⟩ rfl rfl hl.1 rfl (lv_room (Nat.le_of_ble_eq_true rfl)) (fk_get fk_cX7_refuses_0 2 rfl) ⟨Nat.zero_le _, Nat.zero_le _⟩) (fun r_1 hw_2 => ?_)
  try dsimp only at hw_2
  refine lv_aload_n hx hb (fk_get fk_cX7_refuses_0 3 rfl) rfl (lv_at hl 1 rfl) ?_
  obtain ⟨n_3, en_3, bn_3⟩ := XI.kin hX hpk
  refine va_get (D := G.1) (ci := 5) (v := va_rf ((fR S i 2).map ad)) (C := RX3) (T := TX3) (N := 10) hx hb hT inX3 hown hK hP i (ix_at (lt71 (by omega)) (cX_cust hpk)) rfl 2 (by decide) (hT _ m1_146) (fun _ h9 => h9) rfl (fk_get fk_cX7_refuses_0 4 rfl) ?_
  rw [show va_rf ((fR S i 2).map ad) = .ref (ad (2 + n_3)) from by rw [en_3]; rfl]
  refine lv_aload_n hx hb (fk_get fk_cX7_refuses_0 5 rfl) rfl (lv_at hl 1 rfl) ?_
  have kk_10 : ∀ rv_10 : Int32, W p l e ({ frames := 5, cells := 0, slots := 0, locals := 146 } : Room) s m args below meth c₀ s.heap [] 0 0 Q (F0 m 13 ls [.int (rv_10), .int (r_1)]) := by
    intro rv_10
    refine lv_icmp_le (tgt := 20) hx hb (fk_get fk_cX7_refuses_0 7 rfl) (by decide) (fun c_4 => ?_) (fun c_4 => ?_)
    · refine lv_iconst (v := 0) hx hb (fk_get fk_cX7_refuses_0 10 rfl) (by decide) ?_
      subst hQ
      have hpost : (0 : Int32) = 0 ∨ (0 : Int32) = 1 := by
        first | exact Or.inl rfl | exact Or.inr rfl
      exact W.zret (v := 0) hx hb hr rfl (fun t_ ht_ hW_ => ⟨0, rfl, hpost, ht_⟩) (fun q h => by cases h) (fk_get fk_cX7_refuses_0 11 rfl)
    refine lv_iconst (v := 1) hx hb (fk_get fk_cX7_refuses_0 8 rfl) (by decide) ?_
    refine lv_goto (tgt := 21) hx hb (fk_get fk_cX7_refuses_0 9 rfl) (by decide) ?_
    subst hQ
    have hpost : (1 : Int32) = 0 ∨ (1 : Int32) = 1 := by
      first | exact Or.inl rfl | exact Or.inr rfl
    exact W.zret (v := 1) hx hb hr rfl (fun t_ ht_ hW_ => ⟨1, rfl, hpost, ht_⟩) (fun q h => by cases h) (fk_get fk_cX7_refuses_0 11 rfl)
  rcases kq7 bn_3 with rfl | rfl | rfl | rfl | rfl | rfl | rfl
  · exact vp_callSi (va_Run.run (va_runU (As := [.ref (ad i)]) (rest := [.int (r_1)]) ⟨hx, hb, hml, hown, hT⟩ (c_x5_patience l G ad S s.heap.size (2 + 0) (i) ((lt71 (by omega))) (hpk)) (tU 1 hT m2_192 m2_170 m2_169 m2_168 m1_2 m2_186 rfl rfl rfl (by decide +kernel) ⟨Nat.le_of_ble_eq_true rfl, Nat.le_of_ble_eq_true rfl⟩) ⟨PcW_blind, va_recv hK hP (ci := 7) (q0 := 2 + 0) rfl (ix_at (lt71 (by omega)) (cX_knd (by omega))), PcW_of hP hK hD _⟩ rfl rfl hl.1 rfl (lv_room (Nat.le_of_ble_eq_true rfl)) (fk_get fk_cX7_refuses_0 6 rfl) ⟨Nat.zero_le _, Nat.zero_le _⟩)) (fun r h_ => kk_10 r)
  · exact vp_callSi (va_Run.run (va_runU (As := [.ref (ad i)]) (rest := [.int (r_1)]) ⟨hx, hb, hml, hown, hT⟩ (c_x8_patience l G ad S s.heap.size (2 + 1) (i) ((lt71 (by omega))) (hpk)) (tO 1 hT m2_192 m2_170 m2_168 m2_184 m2_178 m1_3 m2_179 m2_186 rfl rfl (by decide +kernel) ⟨Nat.le_of_ble_eq_true rfl, Nat.le_of_ble_eq_true rfl⟩) ⟨PcW_blind, va_recv hK hP (ci := 10) (q0 := 2 + 1) rfl (ix_at (lt71 (by omega)) (cX_knd (by omega))), PcW_of hP hK hD _⟩ rfl rfl hl.1 rfl (lv_room (Nat.le_of_ble_eq_true rfl)) (fk_get fk_cX7_refuses_0 6 rfl) ⟨Nat.zero_le _, Nat.zero_le _⟩)) (fun r h_ => kk_10 r)
  · exact vp_callSi (va_Run.run (va_runU (As := [.ref (ad i)]) (rest := [.int (r_1)]) ⟨hx, hb, hml, hown, hT⟩ (c_x4_patience l G ad S s.heap.size (2 + 2) (i) ((lt71 (by omega))) (hpk)) (tO 1 hT m2_192 m2_170 m2_168 m2_180 m2_181 m1_4 m2_182 m2_186 rfl rfl (by decide +kernel) ⟨Nat.le_of_ble_eq_true rfl, Nat.le_of_ble_eq_true rfl⟩) ⟨PcW_blind, va_recv hK hP (ci := 6) (q0 := 2 + 2) rfl (ix_at (lt71 (by omega)) (cX_knd (by omega))), PcW_of hP hK hD _⟩ rfl rfl hl.1 rfl (lv_room (Nat.le_of_ble_eq_true rfl)) (fk_get fk_cX7_refuses_0 6 rfl) ⟨Nat.zero_le _, Nat.zero_le _⟩)) (fun r h_ => kk_10 r)
  · exact vp_callSi (va_Run.run (va_runU (As := [.ref (ad i)]) (rest := [.int (r_1)]) ⟨hx, hb, hml, hown, hT⟩ (c_x0_patience l G ad S s.heap.size (2 + 3) (i) ((lt71 (by omega))) (hpk)) (tO 1 hT m2_192 m2_170 m2_168 m2_171 m2_172 m1_5 m2_173 m2_186 rfl rfl (by decide +kernel) ⟨Nat.le_of_ble_eq_true rfl, Nat.le_of_ble_eq_true rfl⟩) ⟨PcW_blind, va_recv hK hP (ci := 2) (q0 := 2 + 3) rfl (ix_at (lt71 (by omega)) (cX_knd (by omega))), PcW_of hP hK hD _⟩ rfl rfl hl.1 rfl (lv_room (Nat.le_of_ble_eq_true rfl)) (fk_get fk_cX7_refuses_0 6 rfl) ⟨Nat.zero_le _, Nat.zero_le _⟩)) (fun r h_ => kk_10 r)
  · exact vp_callSi (va_Run.run (va_runU (As := [.ref (ad i)]) (rest := [.int (r_1)]) ⟨hx, hb, hml, hown, hT⟩ (c_x2_patience l G ad S s.heap.size (4) (i) ((by omega)) (hpk) (hX)) (tO 1 hT m2_192 m2_170 m2_168 m2_174 m2_175 m1_6 m2_176 m2_186 rfl rfl (by decide +kernel) ⟨Nat.le_of_ble_eq_true rfl, Nat.le_of_ble_eq_true rfl⟩) ⟨PcW_blind, va_recv hK hP (ci := 4) (q0 := 2 + 4) rfl (ix_at (lt71 (by omega)) (cX_knd (by omega))), PcW_of hP hK hD _⟩ rfl rfl hl.1 rfl (lv_room (Nat.le_of_ble_eq_true rfl)) (fk_get fk_cX7_refuses_0 6 rfl) ⟨Nat.zero_le _, Nat.zero_le _⟩)) (fun r h_ => kk_10 r)
  · exact vp_callSi (va_Run.run (va_runU (As := [.ref (ad i)]) (rest := [.int (r_1)]) ⟨hx, hb, hml, hown, hT⟩ (c_x4_patience l G ad S s.heap.size (2 + 5) (i) ((lt71 (by omega))) (hpk)) (tO 1 hT m2_192 m2_170 m2_168 m2_183 m2_181 m1_4 m2_182 m2_186 rfl rfl (by decide +kernel) ⟨Nat.le_of_ble_eq_true rfl, Nat.le_of_ble_eq_true rfl⟩) ⟨PcW_blind, va_recv hK hP (ci := 8) (q0 := 2 + 5) rfl (ix_at (lt71 (by omega)) (cX_knd (by omega))), PcW_of hP hK hD _⟩ rfl rfl hl.1 rfl (lv_room (Nat.le_of_ble_eq_true rfl)) (fk_get fk_cX7_refuses_0 6 rfl) ⟨Nat.zero_le _, Nat.zero_le _⟩)) (fun r h_ => kk_10 r)
  · exact vp_callSi (va_Run.run (va_runU (As := [.ref (ad i)]) (rest := [.int (r_1)]) ⟨hx, hb, hml, hown, hT⟩ (c_x0_patience l G ad S s.heap.size (2 + 6) (i) ((lt71 (by omega))) (hpk)) (tO 1 hT m2_192 m2_170 m2_168 m2_185 m2_172 m1_5 m2_173 m2_186 rfl rfl (by decide +kernel) ⟨Nat.le_of_ble_eq_true rfl, Nat.le_of_ble_eq_true rfl⟩) ⟨PcW_blind, va_recv hK hP (ci := 12) (q0 := 2 + 6) rfl (ix_at (lt71 (by omega)) (cX_knd (by omega))), PcW_of hP hK hD _⟩ rfl rfl hl.1 rfl (lv_room (Nat.le_of_ble_eq_true rfl)) (fk_get fk_cX7_refuses_0 6 rfl) ⟨Nat.zero_le _, Nat.zero_le _⟩)) (fun r h_ => kk_10 r)
set_option maxHeartbeats 800000 in
set_option maxRecDepth 100000 in
theorem c_x7_makeVisit (l : Launch) (G : GG) (ad : Nat → Nat) (S : FS) (sz : Nat) (h i : Nat) (hh : h < 3) (hpk : pk i = 7) (hX : XI S) : Met l yX7_makeVisit (Cond.code yX7_makeVisit cX7_makeVisit 5 (some .int) :: TBL) ({ frames := 5, cells := 0, slots := 0, locals := 146 } : Room) (PcW G (wX G ad S) sz [.ref (ad (9 + h)), .ref (ad i)]) (va_Qi (fun (r : Int32) (S' : FS) => XI S' ∧ Fr (fun j k => j = i ∧ 5 ≤ k ∧ k ≤ 9) S S' ∧ True) (fun S' t => BW G (va_A (wX G ad S) sz) (wX G ad S') t) (va_A (wX G ad S) sz)) 0 0 (va_A (wX G ad S) sz) := by
  refine Met.ofW (cc := cX7_makeVisit) (maxL := 5) (ret := (some .int)) (by decide) rfl ?_
  intro p e s m args below meth c₀ s₁ B hml hv
  obtain ⟨rfl, hsz, hP, hK, hD0⟩ := hv
  have hx := B.exec
  have hb := B.bytes
  have hr := B.returns
  have hT : ∀ w ∈ TBL, w.before ([.ref (ad (9 + h)), .ref (ad i)] : List Value).toArray s = true := fun w h => atoms_spec (ws := Cond.code yX7_makeVisit cX7_makeVisit 5 (some .int) :: TBL) B.pre w (List.mem_cons_of_mem _ h)
  have hown : s.vm.findClass "LittleMore$Shop" = some m.cls := findClass_of_methodNamed B.named
  have hlocks := B.notSynchronized
  subst hsz
  have hD := hD0.self (sz := s.heap.size)
  generalize hAe : va_A (wX G ad S) s.heap.size = A at hD ⊢
  have hA : ∀ q : Nat, s.heap.size ≤ q → A q := fun q h => by rw [← hAe]; exact Or.inr h
  have hS : va_S A s.heap s.heap [] := va_S.rf
  have hP : va_P G.1 vwCl (wX G ad S) s.heap := hP
  have hl := lv_entry ([.ref (ad (9 + h)), .ref (ad i)]) (n := 5) (Nat.le_of_ble_eq_true rfl)
  rw [lg_entry_eq]
  generalize (lg_sl ([.ref (ad (9 + h)), .ref (ad i)]) ++ List.replicate (5 - (lg_sl ([.ref (ad (9 + h)), .ref (ad i)])).length) Slot.unset).toArray = ls at hl ⊢
  have hl : lv_has ls 5 [(0, .ref (ad (9 + h))), (1, .ref (ad i))] := hl
  refine W_abs (fun Q hQ => ?_)
  generalize ([.ref (ad (9 + h)), .ref (ad i)] : List Value).toArray = args at hT hQ ⊢
  have hb_i := pk7 hpk
  refine lv_aload_n hx hb (fk_get fk_cX7_makeVisit_0 0 rfl) rfl (lv_at hl 0 rfl) ?_
  refine lv_aload_n hx hb (fk_get fk_cX7_makeVisit_0 1 rfl) rfl (lv_at hl 1 rfl) ?_
  refine vp_callSi (W.runV (As := [.ref (ad i)]) (rest := []) ⟨hx, hb, hml, hown, hT⟩ (c_x7_moreFor l G ad S s.heap.size (h) (i) (hh) (hpk) (hX)) (tV 1 hT m2_191 m2_125 m2_126 m1_9 m2_127 rfl rfl (by decide +kernel) ⟨Nat.le_of_ble_eq_true rfl, Nat.le_of_ble_eq_true rfl⟩) ⟨PcW_blind, va_recv hK hP (ci := 9) (q0 := (9 + h)) rfl (ix_at (lt71 (by omega)) (cX_shop (pk_shop hh))), PcW_of hP hK hD _⟩ rfl rfl hl.1 rfl (lv_room (Nat.le_of_ble_eq_true rfl)) (fk_get fk_cX7_makeVisit_0 2 rfl) ⟨Nat.zero_le _, Nat.zero_le _⟩) (fun r_1 hw_2 => ?_)
  try dsimp only at hw_2
  refine lv_istore_n (lv' := [(2, .int (r_1)), (0, .ref (ad (9 + h))), (1, .ref (ad i))]) hx hb (fk_get fk_cX7_makeVisit_0 3 rfl) rfl hl (by decide) rfl (fun ls hl => ?_)
  refine lv_iload_n hx hb (fk_get fk_cX7_makeVisit_0 4 rfl) rfl (lv_at hl 0 rfl) ?_
  refine lv_aload_n hx hb (fk_get fk_cX7_makeVisit_0 5 rfl) rfl (lv_at hl 2 rfl) ?_
  obtain ⟨n_3, en_3, bn_3⟩ := XI.kin hX hpk
  refine va_get (D := G.1) (ci := 5) (v := va_rf ((fR S i 2).map ad)) (C := RX3) (T := TX3) (N := 10) hx hb hT inX3 hown hK hP i (ix_at (lt71 (by omega)) (cX_cust hpk)) rfl 2 (by decide) (hT _ m1_146) (fun _ h9 => h9) rfl (fk_get fk_cX7_makeVisit_0 6 rfl) ?_
  rw [show va_rf ((fR S i 2).map ad) = .ref (ad (2 + n_3)) from by rw [en_3]; rfl]
  refine lv_aload_n hx hb (fk_get fk_cX7_makeVisit_0 7 rfl) rfl (lv_at hl 2 rfl) ?_
  have kk_12 : ∀ rv_12 : Int32, W p l e ({ frames := 5, cells := 0, slots := 0, locals := 146 } : Room) s m args below meth c₀ s.heap [] 0 0 Q (F0 m 15 ls [.int (rv_12), .int (r_1)]) := by
    intro rv_12
    refine lv_icmp_le (tgt := 22) hx hb (fk_get fk_cX7_makeVisit_0 9 rfl) (by decide) (fun c_4 => ?_) (fun c_4 => ?_)
    · refine lv_iconst (v := 0) hx hb (fk_get fk_cX7_makeVisit_0 12 rfl) (by decide) ?_
      refine lv_istore_n (lv' := [(3, .int (0)), (2, .int (r_1)), (0, .ref (ad (9 + h))), (1, .ref (ad i))]) hx hb (fk_get fk_cX7_makeVisit_0 13 rfl) rfl hl (by decide) rfl (fun ls hl => ?_)
      refine lv_aload_n hx hb (fk_get fk_cX7_makeVisit_0 14 rfl) rfl (lv_at hl 3 rfl) ?_
      refine va_get (D := G.1) (ci := 5) (v := va_rf ((fR S i 2).map ad)) (C := RX3) (T := TX3) (N := 10) hx hb hT inX3 hown hK hP i (ix_at (lt71 (by omega)) (cX_cust hpk)) rfl 2 (by decide) (hT _ m1_146) (fun _ h9 => h9) rfl (fk_get fk_cX7_makeVisit_0 15 rfl) ?_
      rw [show va_rf ((fR S i 2).map ad) = .ref (ad (2 + n_3)) from by rw [en_3]; rfl]
      refine lv_aload_n hx hb (fk_get fk_cX7_makeVisit_0 16 rfl) rfl (lv_at hl 3 rfl) ?_
      have kk_29 : ∀ rv_29 : Int32, W p l e ({ frames := 5, cells := 0, slots := 0, locals := 146 } : Room) s m args below meth c₀ s.heap [] 0 0 Q (F0 m 32 ls [.int (rv_29)]) := by
        intro rv_29
        refine lv_iload_n hx hb (fk_get fk_cX7_makeVisit_0 18 rfl) rfl (lv_at hl 0 rfl) ?_
        refine lv_if_eq (tgt := 42) hx hb (fk_get fk_cX7_makeVisit_0 19 rfl) (by decide) (fun _ => ?_) (fun c_5 => absurd ((by decide)) c_5)
        refine lv_iload_n hx hb (fk_get fk_cX7_makeVisit_0 24 rfl) rfl (lv_at hl 1 rfl) ?_
        refine lv_iadd hx hb (fk_get fk_cX7_makeVisit_0 25 rfl) ?_
        refine lv_istore (lv' := [(4, .int ((rv_29 + r_1))), (3, .int (0)), (2, .int (r_1)), (0, .ref (ad (9 + h))), (1, .ref (ad i))]) hx hb (fk_get fk_cX7_makeVisit_0 26 rfl) hl (by decide) rfl (fun ls hl => ?_)
        refine lv_iload_n hx hb (fk_get fk_cX7_makeVisit_0 27 rfl) rfl (lv_at hl 1 rfl) ?_
        refine lv_if_eq (tgt := 57) hx hb (fk_get fk_cX7_makeVisit_0 28 rfl) (by decide) (fun _ => ?_) (fun c_6 => absurd ((by decide)) c_6)
        refine lv_aload_n hx hb (fk_get fk_cX7_makeVisit_1 0 rfl) rfl (lv_at hl 4 rfl) ?_
        refine lv_bipush (v := 20) hx hb (fk_get fk_cX7_makeVisit_1 1 rfl) (by decide) ?_
        refine lv_aload_n hx hb (fk_get fk_cX7_makeVisit_1 2 rfl) rfl (lv_at hl 4 rfl) ?_
        refine va_get (D := G.1) (ci := 5) (v := .int (fF S i 5)) (C := RX3) (T := TX3) (N := 10) hx hb hT inX3 hown hK hP i (ix_at (lt71 (by omega)) (cX_cust hpk)) rfl 5 (by decide) (hT _ m1_161) (fun _ h9 => h9) rfl (fk_get fk_cX7_makeVisit_1 3 rfl) ?_
        refine lv_aload_n hx hb (fk_get fk_cX7_makeVisit_1 4 rfl) rfl (lv_at hl 3 rfl) ?_
        obtain ⟨n_7, en_7, bn_7⟩ := XI.ctr hX hh
        refine va_get (D := G.1) (ci := 9) (v := va_rf ((fR S (9 + h) 7).map ad)) (C := RX7) (T := TX7) (N := 8) hx hb hT inX7 hown hK hP (9 + h) (ix_at (lt71 (by omega)) (cX_shop (pk_shop hh))) rfl 7 (by decide) (hT _ m1_216) (fun _ h9 => h9) rfl (fk_get fk_cX7_makeVisit_1 5 rfl) ?_
        rw [show va_rf ((fR S (9 + h) 7).map ad) = .ref (ad n_7) from by rw [en_7]; rfl]
        refine va_get (D := G.1) (ci := 3) (v := .int (fF S n_7 1)) (C := RX1) (T := TX1) (N := 4) hx hb hT inX1 hown hK hP n_7 (ix_at (bn_7).2.1 (cX_ctr (bn_7).1 (bn_7).2.2.1)) rfl 1 (by decide) (hT _ m1_116) (fun _ h9 => h9) rfl (fk_get fk_cX7_makeVisit_1 6 rfl) ?_
        refine lv_iadd hx hb (fk_get fk_cX7_makeVisit_1 7 rfl) ?_
        refine vp_callSi (W.runS (As := [.int (20), .int (((fF S i 5) + (fF S n_7 1)))]) (rest := [.ref (ad i)]) ⟨hx, hb, hml, hown, hT⟩ (c_jmin l (20) (((fF S i 5) + (fF S n_7 1))) ) (tS 2 hT m3_193 m3_94 m1_18 m3_95 rfl rfl (by decide +kernel) ⟨Nat.le_of_ble_eq_true rfl, Nat.le_of_ble_eq_true rfl⟩) ⟨PcN_blind, PcN_of _ _ _⟩ rfl rfl hl.1 rfl (lv_room (Nat.le_of_ble_eq_true rfl)) (fk_get fk_cX7_makeVisit_1 8 rfl) ⟨Nat.zero_le _, Nat.zero_le _⟩) (fun r_8 hw_9 => ?_)
        try dsimp only at hw_9
        refine va_put (D := G.1) (ci := 5) (v := .int (r_8)) (ty := .int) (C := RX3) (T := TX3) (N := 10) hx hb hT inX3 tyX3 tyX3_ok nmX3 hown hK hP hD hS i (ix_at (lt71 (by omega)) (cX_cust hpk)) rfl 5 (by decide) (hT _ m1_161) (fun _ h9 => h9) rfl (by decide +kernel) rfl rfl (Nat.le_of_ble_eq_true rfl) (fk_get fk_cX7_makeVisit_1 9 rfl) (fun H locs hP hD hS => ?_)
        rw [pX_cust_5 (S := S) (lt71 (by omega)) (hpk) (r_8)] at hP hD
        have hX_10 : XI (setF S i 5 (r_8)) := XI.sF hX _ ⟨by omega, by omega, by omega, by omega, by omega, by omega, by omega, by omega⟩
        have hF_11 : Fr (fun j k => j = i ∧ 5 ≤ k ∧ k ≤ 9) S (setF S i 5 (r_8)) := Fr.sF (Fr.rf : Fr (fun j k => j = i ∧ 5 ≤ k ∧ k ≤ 9) S S) (by omega)
        refine lv_aload_n hx hb (fk_get fk_cX7_makeVisit_1 10 rfl) rfl (lv_at hl 4 rfl) ?_
        refine lv_bipush (v := 99) hx hb (fk_get fk_cX7_makeVisit_1 11 rfl) (by decide) ?_
        refine lv_iconst (v := 0) hx hb (fk_get fk_cX7_makeVisit_1 12 rfl) (by decide) ?_
        refine lv_iload hx hb (fk_get fk_cX7_makeVisit_1 13 rfl) (lv_at hl 0 rfl) ?_
        refine lv_aload_n hx hb (fk_get fk_cX7_makeVisit_1 14 rfl) rfl (lv_at hl 4 rfl) ?_
        refine va_get (D := G.1) (ci := 5) (v := .int (fF (setF S i 5 (r_8)) i 4)) (C := RX3) (T := TX3) (N := 10) hx hb hT inX3 hown hK hP i (ix_at (lt71 (by omega)) (cX_cust hpk)) rfl 4 (by decide) (hT _ m1_158) (fun _ h9 => h9) rfl (fk_get fk_cX7_makeVisit_1 15 rfl) ?_
        rw [show fF (setF S i 5 (r_8)) i 4 = (fF S i 4) from by simp [fF_setF, fF_setR, fF_setA, fF_setL]]
        refine lv_isub hx hb (fk_get fk_cX7_makeVisit_1 16 rfl) ?_
        refine vp_callSi (W.runS (As := [.int (0), .int (((rv_29 + r_1) - (fF S i 4)))]) (rest := [.int (99), .ref (ad i)]) ⟨hx, hb, hml, hown, hT⟩ (c_jmax l (0) (((rv_29 + r_1) - (fF S i 4))) ) (tS 2 hT m2_138 m2_139 m1_18 m2_140 rfl rfl (by decide +kernel) ⟨Nat.le_of_ble_eq_true rfl, Nat.le_of_ble_eq_true rfl⟩) ⟨PcN_blind, PcN_of _ _ _⟩ rfl rfl hl.1 rfl (lv_room (Nat.le_of_ble_eq_true rfl)) (fk_get fk_cX7_makeVisit_1 17 rfl) ⟨Nat.zero_le _, Nat.zero_le _⟩) (fun r_12 hw_13 => ?_)
        try dsimp only at hw_13
        refine vp_callSi (W.runS (As := [.int (99), .int (r_12)]) (rest := [.ref (ad i)]) ⟨hx, hb, hml, hown, hT⟩ (c_jmin l (99) (r_12) ) (tS 2 hT m3_193 m3_94 m1_18 m3_95 rfl rfl (by decide +kernel) ⟨Nat.le_of_ble_eq_true rfl, Nat.le_of_ble_eq_true rfl⟩) ⟨PcN_blind, PcN_of _ _ _⟩ rfl rfl hl.1 rfl (lv_room (Nat.le_of_ble_eq_true rfl)) (fk_get fk_cX7_makeVisit_1 18 rfl) ⟨Nat.zero_le _, Nat.zero_le _⟩) (fun r_14 hw_15 => ?_)
        try dsimp only at hw_15
        refine va_put (D := G.1) (ci := 5) (v := .int (r_14)) (ty := .int) (C := RX3) (T := TX3) (N := 10) hx hb hT inX3 tyX3 tyX3_ok nmX3 hown hK hP hD hS i (ix_at (lt71 (by omega)) (cX_cust hpk)) rfl 6 (by decide) (hT _ m1_168) (fun _ h9 => h9) rfl (by decide +kernel) rfl rfl (Nat.le_of_ble_eq_true rfl) (fk_get fk_cX7_makeVisit_1 19 rfl) (fun H locs hP hD hS => ?_)
        rw [pX_cust_6 (S := (setF S i 5 (r_8))) (lt71 (by omega)) (hpk) (r_14)] at hP hD
        have hX_16 : XI (setF (setF S i 5 (r_8)) i 6 (r_14)) := XI.sF hX_10 _ ⟨by omega, by omega, by omega, by omega, by omega, by omega, by omega, by omega⟩
        have hF_17 : Fr (fun j k => j = i ∧ 5 ≤ k ∧ k ≤ 9) S (setF (setF S i 5 (r_8)) i 6 (r_14)) := Fr.sF hF_11 (by omega)
        refine lv_aload_n hx hb (fk_get fk_cX7_makeVisit_1 20 rfl) rfl (lv_at hl 4 rfl) ?_
        refine lv_dup hx hb (fk_get fk_cX7_makeVisit_1 21 rfl) rfl ?_
        refine va_get (D := G.1) (ci := 5) (v := .int (fF (setF (setF S i 5 (r_8)) i 6 (r_14)) i 8)) (C := RX3) (T := TX3) (N := 10) hx hb hT inX3 hown hK hP i (ix_at (lt71 (by omega)) (cX_cust hpk)) rfl 8 (by decide) (hT _ m1_177) (fun _ h9 => h9) rfl (fk_get fk_cX7_makeVisit_1 22 rfl) ?_
        rw [show fF (setF (setF S i 5 (r_8)) i 6 (r_14)) i 8 = (fF S i 8) from by simp [fF_setF, fF_setR, fF_setA, fF_setL]]
        refine lv_iconst (v := 1) hx hb (fk_get fk_cX7_makeVisit_1 23 rfl) (by decide) ?_
        refine lv_iadd hx hb (fk_get fk_cX7_makeVisit_1 24 rfl) ?_
        refine va_put (D := G.1) (ci := 5) (v := .int (((fF S i 8) + 1))) (ty := .int) (C := RX3) (T := TX3) (N := 10) hx hb hT inX3 tyX3 tyX3_ok nmX3 hown hK hP hD hS i (ix_at (lt71 (by omega)) (cX_cust hpk)) rfl 8 (by decide) (hT _ m1_177) (fun _ h9 => h9) rfl (by decide +kernel) rfl rfl (Nat.le_of_ble_eq_true rfl) (fk_get fk_cX7_makeVisit_1 25 rfl) (fun H locs hP hD hS => ?_)
        rw [pX_cust_8 (S := (setF (setF S i 5 (r_8)) i 6 (r_14))) (lt71 (by omega)) (hpk) (((fF S i 8) + 1))] at hP hD
        have hX_18 : XI (setF (setF (setF S i 5 (r_8)) i 6 (r_14)) i 8 (((fF S i 8) + 1))) := XI.sF hX_16 _ ⟨by omega, by omega, by omega, by omega, by omega, by omega, by omega, by omega⟩
        have hF_19 : Fr (fun j k => j = i ∧ 5 ≤ k ∧ k ≤ 9) S (setF (setF (setF S i 5 (r_8)) i 6 (r_14)) i 8 (((fF S i 8) + 1))) := Fr.sF hF_17 (by omega)
        refine lv_iload hx hb (fk_get fk_cX7_makeVisit_1 26 rfl) (lv_at hl 0 rfl) ?_
        subst hQ
        have hpost : XI (setF (setF (setF S i 5 (r_8)) i 6 (r_14)) i 8 (((fF S i 8) + 1))) ∧ Fr (fun j k => j = i ∧ 5 ≤ k ∧ k ≤ 9) S (setF (setF (setF S i 5 (r_8)) i 6 (r_14)) i 8 (((fF S i 8) + 1))) ∧ True := by
          exact ⟨hX_18, hF_19, trivial⟩
        exact W.iret (v := (rv_29 + r_1)) hx hb hr (fun t_ ht_ hW_ => ⟨⟨(rv_29 + r_1), (setF (setF (setF S i 5 (r_8)) i 6 (r_14)) i 8 (((fF S i 8) + 1))), rfl, hpost, by rw [ht_]; exact hP, va_K.moved hW_.alike hK, hD⟩, hS.F ht_⟩) hS.2.2 (fk_get fk_cX7_makeVisit_1 27 rfl)
      rcases kq7 bn_3 with rfl | rfl | rfl | rfl | rfl | rfl | rfl
      · exact vp_callSi (va_Run.run (va_runU (As := [.ref (ad i)]) (rest := []) ⟨hx, hb, hml, hown, hT⟩ (c_x5_portion l G ad S s.heap.size (2 + 0) (i) ((lt71 (by omega))) (hpk)) (tU 1 hT m3_173 m2_144 m2_143 m2_142 m1_2 m2_166 rfl rfl rfl (by decide +kernel) ⟨Nat.le_of_ble_eq_true rfl, Nat.le_of_ble_eq_true rfl⟩) ⟨PcW_blind, va_recv hK hP (ci := 7) (q0 := 2 + 0) rfl (ix_at (lt71 (by omega)) (cX_knd (by omega))), PcW_of hP hK hD _⟩ rfl rfl hl.1 rfl (lv_room (Nat.le_of_ble_eq_true rfl)) (fk_get fk_cX7_makeVisit_0 17 rfl) ⟨Nat.zero_le _, Nat.zero_le _⟩)) (fun r h_ => kk_29 r)
      · exact vp_callSi (va_Run.run (va_runU (As := [.ref (ad i)]) (rest := []) ⟨hx, hb, hml, hown, hT⟩ (c_x8_portion l G ad S s.heap.size (2 + 1) (i) ((lt71 (by omega))) (hpk)) (tO 1 hT m3_173 m2_144 m2_142 m2_158 m2_152 m1_3 m2_153 m2_166 rfl rfl (by decide +kernel) ⟨Nat.le_of_ble_eq_true rfl, Nat.le_of_ble_eq_true rfl⟩) ⟨PcW_blind, va_recv hK hP (ci := 10) (q0 := 2 + 1) rfl (ix_at (lt71 (by omega)) (cX_knd (by omega))), PcW_of hP hK hD _⟩ rfl rfl hl.1 rfl (lv_room (Nat.le_of_ble_eq_true rfl)) (fk_get fk_cX7_makeVisit_0 17 rfl) ⟨Nat.zero_le _, Nat.zero_le _⟩)) (fun r h_ => kk_29 r)
      · exact vp_callSi (va_Run.run (va_runU (As := [.ref (ad i)]) (rest := []) ⟨hx, hb, hml, hown, hT⟩ (c_x5_portion l G ad S s.heap.size (2 + 2) (i) ((lt71 (by omega))) (hpk)) (tU 1 hT m3_173 m2_144 m2_156 m2_142 m1_2 m2_166 rfl rfl rfl (by decide +kernel) ⟨Nat.le_of_ble_eq_true rfl, Nat.le_of_ble_eq_true rfl⟩) ⟨PcW_blind, va_recv hK hP (ci := 6) (q0 := 2 + 2) rfl (ix_at (lt71 (by omega)) (cX_knd (by omega))), PcW_of hP hK hD _⟩ rfl rfl hl.1 rfl (lv_room (Nat.le_of_ble_eq_true rfl)) (fk_get fk_cX7_makeVisit_0 17 rfl) ⟨Nat.zero_le _, Nat.zero_le _⟩)) (fun r h_ => kk_29 r)
      · exact vp_callSi (va_Run.run (va_runU (As := [.ref (ad i)]) (rest := []) ⟨hx, hb, hml, hown, hT⟩ (c_x0_portion l G ad S s.heap.size (2 + 3) (i) ((lt71 (by omega))) (hpk)) (tO 1 hT m3_173 m2_144 m2_142 m2_145 m2_146 m1_5 m2_147 m2_166 rfl rfl (by decide +kernel) ⟨Nat.le_of_ble_eq_true rfl, Nat.le_of_ble_eq_true rfl⟩) ⟨PcW_blind, va_recv hK hP (ci := 2) (q0 := 2 + 3) rfl (ix_at (lt71 (by omega)) (cX_knd (by omega))), PcW_of hP hK hD _⟩ rfl rfl hl.1 rfl (lv_room (Nat.le_of_ble_eq_true rfl)) (fk_get fk_cX7_makeVisit_0 17 rfl) ⟨Nat.zero_le _, Nat.zero_le _⟩)) (fun r h_ => kk_29 r)
      · exact vp_callSi (va_Run.run (va_runU (As := [.ref (ad i)]) (rest := []) ⟨hx, hb, hml, hown, hT⟩ (c_x2_portion l G ad S s.heap.size (4) (i) ((by omega)) (hpk) (hX)) (tO 1 hT m3_173 m2_144 m2_142 m2_148 m2_149 m1_6 m2_150 m2_166 rfl rfl (by decide +kernel) ⟨Nat.le_of_ble_eq_true rfl, Nat.le_of_ble_eq_true rfl⟩) ⟨PcW_blind, va_recv hK hP (ci := 4) (q0 := 2 + 4) rfl (ix_at (lt71 (by omega)) (cX_knd (by omega))), PcW_of hP hK hD _⟩ rfl rfl hl.1 rfl (lv_room (Nat.le_of_ble_eq_true rfl)) (fk_get fk_cX7_makeVisit_0 17 rfl) ⟨Nat.zero_le _, Nat.zero_le _⟩)) (fun r h_ => kk_29 r)
      · exact vp_callSi (va_Run.run (va_runU (As := [.ref (ad i)]) (rest := []) ⟨hx, hb, hml, hown, hT⟩ (c_x5_portion l G ad S s.heap.size (2 + 5) (i) ((lt71 (by omega))) (hpk)) (tU 1 hT m3_173 m2_144 m2_157 m2_142 m1_2 m2_166 rfl rfl rfl (by decide +kernel) ⟨Nat.le_of_ble_eq_true rfl, Nat.le_of_ble_eq_true rfl⟩) ⟨PcW_blind, va_recv hK hP (ci := 8) (q0 := 2 + 5) rfl (ix_at (lt71 (by omega)) (cX_knd (by omega))), PcW_of hP hK hD _⟩ rfl rfl hl.1 rfl (lv_room (Nat.le_of_ble_eq_true rfl)) (fk_get fk_cX7_makeVisit_0 17 rfl) ⟨Nat.zero_le _, Nat.zero_le _⟩)) (fun r h_ => kk_29 r)
      · exact vp_callSi (va_Run.run (va_runU (As := [.ref (ad i)]) (rest := []) ⟨hx, hb, hml, hown, hT⟩ (c_x10_portion l G ad S s.heap.size (6) (i) ((by omega)) (hpk) (hX)) (tO 1 hT m3_173 m2_144 m2_142 m2_159 m2_160 m1_8 m2_161 m2_166 rfl rfl (by decide +kernel) ⟨Nat.le_of_ble_eq_true rfl, Nat.le_of_ble_eq_true rfl⟩) ⟨PcW_blind, va_recv hK hP (ci := 12) (q0 := 2 + 6) rfl (ix_at (lt71 (by omega)) (cX_knd (by omega))), PcW_of hP hK hD _⟩ rfl rfl hl.1 rfl (lv_room (Nat.le_of_ble_eq_true rfl)) (fk_get fk_cX7_makeVisit_0 17 rfl) ⟨Nat.zero_le _, Nat.zero_le _⟩)) (fun r h_ => kk_29 r)
    refine lv_iconst (v := 1) hx hb (fk_get fk_cX7_makeVisit_0 10 rfl) (by decide) ?_
    refine lv_goto (tgt := 23) hx hb (fk_get fk_cX7_makeVisit_0 11 rfl) (by decide) ?_
    refine lv_istore_n (lv' := [(3, .int (1)), (2, .int (r_1)), (0, .ref (ad (9 + h))), (1, .ref (ad i))]) hx hb (fk_get fk_cX7_makeVisit_0 13 rfl) rfl hl (by decide) rfl (fun ls hl => ?_)
    refine lv_aload_n hx hb (fk_get fk_cX7_makeVisit_0 14 rfl) rfl (lv_at hl 3 rfl) ?_
    refine va_get (D := G.1) (ci := 5) (v := va_rf ((fR S i 2).map ad)) (C := RX3) (T := TX3) (N := 10) hx hb hT inX3 hown hK hP i (ix_at (lt71 (by omega)) (cX_cust hpk)) rfl 2 (by decide) (hT _ m1_146) (fun _ h9 => h9) rfl (fk_get fk_cX7_makeVisit_0 15 rfl) ?_
    rw [show va_rf ((fR S i 2).map ad) = .ref (ad (2 + n_3)) from by rw [en_3]; rfl]
    refine lv_aload_n hx hb (fk_get fk_cX7_makeVisit_0 16 rfl) rfl (lv_at hl 3 rfl) ?_
    have kk_29 : ∀ rv_29 : Int32, W p l e ({ frames := 5, cells := 0, slots := 0, locals := 146 } : Room) s m args below meth c₀ s.heap [] 0 0 Q (F0 m 32 ls [.int (rv_29)]) := by
      intro rv_29
      refine lv_iload_n hx hb (fk_get fk_cX7_makeVisit_0 18 rfl) rfl (lv_at hl 0 rfl) ?_
      refine lv_if_eq (tgt := 42) hx hb (fk_get fk_cX7_makeVisit_0 19 rfl) (by decide) (fun c_20 => absurd c_20 ((by decide))) (fun _ => ?_)
      refine lv_iload_n hx hb (fk_get fk_cX7_makeVisit_0 20 rfl) rfl (lv_at hl 1 rfl) ?_
      refine lv_iconst (v := 2) hx hb (fk_get fk_cX7_makeVisit_0 21 rfl) (by decide) ?_
      refine lv_idiv hx hb (fk_get fk_cX7_makeVisit_0 22 rfl) (by decide) ?_
      refine lv_goto (tgt := 43) hx hb (fk_get fk_cX7_makeVisit_0 23 rfl) (by decide) ?_
      refine lv_iadd hx hb (fk_get fk_cX7_makeVisit_0 25 rfl) ?_
      refine lv_istore (lv' := [(4, .int ((rv_29 + (r_1 / 2)))), (3, .int (1)), (2, .int (r_1)), (0, .ref (ad (9 + h))), (1, .ref (ad i))]) hx hb (fk_get fk_cX7_makeVisit_0 26 rfl) hl (by decide) rfl (fun ls hl => ?_)
      refine lv_iload_n hx hb (fk_get fk_cX7_makeVisit_0 27 rfl) rfl (lv_at hl 1 rfl) ?_
      refine lv_if_eq (tgt := 57) hx hb (fk_get fk_cX7_makeVisit_0 28 rfl) (by decide) (fun c_21 => absurd c_21 ((by decide))) (fun _ => ?_)
      refine lv_aload_n hx hb (fk_get fk_cX7_makeVisit_0 29 rfl) rfl (lv_at hl 4 rfl) ?_
      have hFc := va_self hD hS hA
      refine va_callv (va_runV (As := []) (rest := []) ⟨hx, hb, hml, hown, hT⟩ (c_x3_saysNo l G ad S s.heap.size (i) (hpk) (hX)) (tV 0 hT m3_174 m3_175 m3_176 m1_11 m3_177 rfl rfl (by decide +kernel) ⟨Nat.le_of_ble_eq_true rfl, Nat.le_of_ble_eq_true rfl⟩) ⟨PcW_blind, va_recv hK hP (ci := 5) (q0 := i) rfl (ix_at (lt71 (by omega)) (cX_cust hpk)), PcW_of hP hK hD _⟩ rfl rfl hl.1 rfl (lv_room (Nat.le_of_ble_eq_true rfl)) (fk_get fk_cX7_makeVisit_0 30 rfl) ⟨Nat.zero_le _, Nat.zero_le _⟩) hS (fun q _ h => hFc q h) hFc (fun S_24 t_ H locs ht_ hvm_ hw_23 hB_ hz_ hk_ hS => ?_)
      obtain ⟨hP, -, hD1_⟩ := hB_
      rw [ht_] at hP
      have hD : va_D A (wX G ad S_24) := hD1_.weaken (fun k q _ h => hFc q.1 h)
      try dsimp only at hw_23
      obtain ⟨hX_25, hF_26_, hw_23⟩ := hw_23
      have hF_26 : Fr (fun j k => j = i ∧ 5 ≤ k ∧ k ≤ 9) S S_24 := Fr.trans (Fr.rf : Fr (fun j k => j = i ∧ 5 ≤ k ∧ k ≤ 9) S S) (Fr.mono hF_26_ (fun j k h => by omega))
      refine lv_goto (tgt := 78) hx hb (fk_get fk_cX7_makeVisit_0 31 rfl) (by decide) ?_
      refine lv_aload_n hx hb (fk_get fk_cX7_makeVisit_1 10 rfl) rfl (lv_at hl 4 rfl) ?_
      refine lv_bipush (v := 99) hx hb (fk_get fk_cX7_makeVisit_1 11 rfl) (by decide) ?_
      refine lv_iconst (v := 0) hx hb (fk_get fk_cX7_makeVisit_1 12 rfl) (by decide) ?_
      refine lv_iload hx hb (fk_get fk_cX7_makeVisit_1 13 rfl) (lv_at hl 0 rfl) ?_
      refine lv_aload_n hx hb (fk_get fk_cX7_makeVisit_1 14 rfl) rfl (lv_at hl 4 rfl) ?_
      refine va_get (D := G.1) (ci := 5) (v := .int (fF S_24 i 4)) (C := RX3) (T := TX3) (N := 10) hx hb hT inX3 hown hK hP i (ix_at (lt71 (by omega)) (cX_cust hpk)) rfl 4 (by decide) (hT _ m1_158) (fun _ h9 => h9) rfl (fk_get fk_cX7_makeVisit_1 15 rfl) ?_
      refine lv_isub hx hb (fk_get fk_cX7_makeVisit_1 16 rfl) ?_
      refine vp_callSi (W.runS (As := [.int (0), .int (((rv_29 + (r_1 / 2)) - (fF S_24 i 4)))]) (rest := [.int (99), .ref (ad i)]) ⟨hx, hb, hml, hown, hT⟩ (c_jmax l (0) (((rv_29 + (r_1 / 2)) - (fF S_24 i 4))) ) (tS 2 hT m2_138 m2_139 m1_18 m2_140 rfl rfl (by decide +kernel) ⟨Nat.le_of_ble_eq_true rfl, Nat.le_of_ble_eq_true rfl⟩) ⟨PcN_blind, PcN_of _ _ _⟩ rfl rfl hl.1 rfl (lv_room (Nat.le_of_ble_eq_true rfl)) (fk_get fk_cX7_makeVisit_1 17 rfl) ⟨Nat.zero_le _, Nat.zero_le _⟩) (fun r_27 hw_28 => ?_)
      try dsimp only at hw_28
      refine vp_callSi (W.runS (As := [.int (99), .int (r_27)]) (rest := [.ref (ad i)]) ⟨hx, hb, hml, hown, hT⟩ (c_jmin l (99) (r_27) ) (tS 2 hT m3_193 m3_94 m1_18 m3_95 rfl rfl (by decide +kernel) ⟨Nat.le_of_ble_eq_true rfl, Nat.le_of_ble_eq_true rfl⟩) ⟨PcN_blind, PcN_of _ _ _⟩ rfl rfl hl.1 rfl (lv_room (Nat.le_of_ble_eq_true rfl)) (fk_get fk_cX7_makeVisit_1 18 rfl) ⟨Nat.zero_le _, Nat.zero_le _⟩) (fun r_29 hw_30 => ?_)
      try dsimp only at hw_30
      refine va_put (D := G.1) (ci := 5) (v := .int (r_29)) (ty := .int) (C := RX3) (T := TX3) (N := 10) hx hb hT inX3 tyX3 tyX3_ok nmX3 hown hK hP hD hS i (ix_at (lt71 (by omega)) (cX_cust hpk)) rfl 6 (by decide) (hT _ m1_168) (fun _ h9 => h9) rfl (by decide +kernel) rfl rfl (Nat.le_of_ble_eq_true rfl) (fk_get fk_cX7_makeVisit_1 19 rfl) (fun H locs hP hD hS => ?_)
      rw [pX_cust_6 (S := S_24) (lt71 (by omega)) (hpk) (r_29)] at hP hD
      have hX_31 : XI (setF S_24 i 6 (r_29)) := XI.sF hX_25 _ ⟨by omega, by omega, by omega, by omega, by omega, by omega, by omega, by omega⟩
      have hF_32 : Fr (fun j k => j = i ∧ 5 ≤ k ∧ k ≤ 9) S (setF S_24 i 6 (r_29)) := Fr.sF hF_26 (by omega)
      refine lv_aload_n hx hb (fk_get fk_cX7_makeVisit_1 20 rfl) rfl (lv_at hl 4 rfl) ?_
      refine lv_dup hx hb (fk_get fk_cX7_makeVisit_1 21 rfl) rfl ?_
      refine va_get (D := G.1) (ci := 5) (v := .int (fF (setF S_24 i 6 (r_29)) i 8)) (C := RX3) (T := TX3) (N := 10) hx hb hT inX3 hown hK hP i (ix_at (lt71 (by omega)) (cX_cust hpk)) rfl 8 (by decide) (hT _ m1_177) (fun _ h9 => h9) rfl (fk_get fk_cX7_makeVisit_1 22 rfl) ?_
      rw [show fF (setF S_24 i 6 (r_29)) i 8 = (fF S_24 i 8) from by simp [fF_setF, fF_setR, fF_setA, fF_setL]]
      refine lv_iconst (v := 1) hx hb (fk_get fk_cX7_makeVisit_1 23 rfl) (by decide) ?_
      refine lv_iadd hx hb (fk_get fk_cX7_makeVisit_1 24 rfl) ?_
      refine va_put (D := G.1) (ci := 5) (v := .int (((fF S_24 i 8) + 1))) (ty := .int) (C := RX3) (T := TX3) (N := 10) hx hb hT inX3 tyX3 tyX3_ok nmX3 hown hK hP hD hS i (ix_at (lt71 (by omega)) (cX_cust hpk)) rfl 8 (by decide) (hT _ m1_177) (fun _ h9 => h9) rfl (by decide +kernel) rfl rfl (Nat.le_of_ble_eq_true rfl) (fk_get fk_cX7_makeVisit_1 25 rfl) (fun H locs hP hD hS => ?_)
      rw [pX_cust_8 (S := (setF S_24 i 6 (r_29))) (lt71 (by omega)) (hpk) (((fF S_24 i 8) + 1))] at hP hD
      have hX_33 : XI (setF (setF S_24 i 6 (r_29)) i 8 (((fF S_24 i 8) + 1))) := XI.sF hX_31 _ ⟨by omega, by omega, by omega, by omega, by omega, by omega, by omega, by omega⟩
      have hF_34 : Fr (fun j k => j = i ∧ 5 ≤ k ∧ k ≤ 9) S (setF (setF S_24 i 6 (r_29)) i 8 (((fF S_24 i 8) + 1))) := Fr.sF hF_32 (by omega)
      refine lv_iload hx hb (fk_get fk_cX7_makeVisit_1 26 rfl) (lv_at hl 0 rfl) ?_
      subst hQ
      have hpost : XI (setF (setF S_24 i 6 (r_29)) i 8 (((fF S_24 i 8) + 1))) ∧ Fr (fun j k => j = i ∧ 5 ≤ k ∧ k ≤ 9) S (setF (setF S_24 i 6 (r_29)) i 8 (((fF S_24 i 8) + 1))) ∧ True := by
        exact ⟨hX_33, hF_34, trivial⟩
      exact W.iret (v := (rv_29 + (r_1 / 2))) hx hb hr (fun t_ ht_ hW_ => ⟨⟨(rv_29 + (r_1 / 2)), (setF (setF S_24 i 6 (r_29)) i 8 (((fF S_24 i 8) + 1))), rfl, hpost, by rw [ht_]; exact hP, va_K.moved hW_.alike hK, hD⟩, hS.F ht_⟩) hS.2.2 (fk_get fk_cX7_makeVisit_1 27 rfl)
    rcases kq7 bn_3 with rfl | rfl | rfl | rfl | rfl | rfl | rfl
    · exact vp_callSi (va_Run.run (va_runU (As := [.ref (ad i)]) (rest := []) ⟨hx, hb, hml, hown, hT⟩ (c_x5_portion l G ad S s.heap.size (2 + 0) (i) ((lt71 (by omega))) (hpk)) (tU 1 hT m3_173 m2_144 m2_143 m2_142 m1_2 m2_166 rfl rfl rfl (by decide +kernel) ⟨Nat.le_of_ble_eq_true rfl, Nat.le_of_ble_eq_true rfl⟩) ⟨PcW_blind, va_recv hK hP (ci := 7) (q0 := 2 + 0) rfl (ix_at (lt71 (by omega)) (cX_knd (by omega))), PcW_of hP hK hD _⟩ rfl rfl hl.1 rfl (lv_room (Nat.le_of_ble_eq_true rfl)) (fk_get fk_cX7_makeVisit_0 17 rfl) ⟨Nat.zero_le _, Nat.zero_le _⟩)) (fun r h_ => kk_29 r)
    · exact vp_callSi (va_Run.run (va_runU (As := [.ref (ad i)]) (rest := []) ⟨hx, hb, hml, hown, hT⟩ (c_x8_portion l G ad S s.heap.size (2 + 1) (i) ((lt71 (by omega))) (hpk)) (tO 1 hT m3_173 m2_144 m2_142 m2_158 m2_152 m1_3 m2_153 m2_166 rfl rfl (by decide +kernel) ⟨Nat.le_of_ble_eq_true rfl, Nat.le_of_ble_eq_true rfl⟩) ⟨PcW_blind, va_recv hK hP (ci := 10) (q0 := 2 + 1) rfl (ix_at (lt71 (by omega)) (cX_knd (by omega))), PcW_of hP hK hD _⟩ rfl rfl hl.1 rfl (lv_room (Nat.le_of_ble_eq_true rfl)) (fk_get fk_cX7_makeVisit_0 17 rfl) ⟨Nat.zero_le _, Nat.zero_le _⟩)) (fun r h_ => kk_29 r)
    · exact vp_callSi (va_Run.run (va_runU (As := [.ref (ad i)]) (rest := []) ⟨hx, hb, hml, hown, hT⟩ (c_x5_portion l G ad S s.heap.size (2 + 2) (i) ((lt71 (by omega))) (hpk)) (tU 1 hT m3_173 m2_144 m2_156 m2_142 m1_2 m2_166 rfl rfl rfl (by decide +kernel) ⟨Nat.le_of_ble_eq_true rfl, Nat.le_of_ble_eq_true rfl⟩) ⟨PcW_blind, va_recv hK hP (ci := 6) (q0 := 2 + 2) rfl (ix_at (lt71 (by omega)) (cX_knd (by omega))), PcW_of hP hK hD _⟩ rfl rfl hl.1 rfl (lv_room (Nat.le_of_ble_eq_true rfl)) (fk_get fk_cX7_makeVisit_0 17 rfl) ⟨Nat.zero_le _, Nat.zero_le _⟩)) (fun r h_ => kk_29 r)
    · exact vp_callSi (va_Run.run (va_runU (As := [.ref (ad i)]) (rest := []) ⟨hx, hb, hml, hown, hT⟩ (c_x0_portion l G ad S s.heap.size (2 + 3) (i) ((lt71 (by omega))) (hpk)) (tO 1 hT m3_173 m2_144 m2_142 m2_145 m2_146 m1_5 m2_147 m2_166 rfl rfl (by decide +kernel) ⟨Nat.le_of_ble_eq_true rfl, Nat.le_of_ble_eq_true rfl⟩) ⟨PcW_blind, va_recv hK hP (ci := 2) (q0 := 2 + 3) rfl (ix_at (lt71 (by omega)) (cX_knd (by omega))), PcW_of hP hK hD _⟩ rfl rfl hl.1 rfl (lv_room (Nat.le_of_ble_eq_true rfl)) (fk_get fk_cX7_makeVisit_0 17 rfl) ⟨Nat.zero_le _, Nat.zero_le _⟩)) (fun r h_ => kk_29 r)
    · exact vp_callSi (va_Run.run (va_runU (As := [.ref (ad i)]) (rest := []) ⟨hx, hb, hml, hown, hT⟩ (c_x2_portion l G ad S s.heap.size (4) (i) ((by omega)) (hpk) (hX)) (tO 1 hT m3_173 m2_144 m2_142 m2_148 m2_149 m1_6 m2_150 m2_166 rfl rfl (by decide +kernel) ⟨Nat.le_of_ble_eq_true rfl, Nat.le_of_ble_eq_true rfl⟩) ⟨PcW_blind, va_recv hK hP (ci := 4) (q0 := 2 + 4) rfl (ix_at (lt71 (by omega)) (cX_knd (by omega))), PcW_of hP hK hD _⟩ rfl rfl hl.1 rfl (lv_room (Nat.le_of_ble_eq_true rfl)) (fk_get fk_cX7_makeVisit_0 17 rfl) ⟨Nat.zero_le _, Nat.zero_le _⟩)) (fun r h_ => kk_29 r)
    · exact vp_callSi (va_Run.run (va_runU (As := [.ref (ad i)]) (rest := []) ⟨hx, hb, hml, hown, hT⟩ (c_x5_portion l G ad S s.heap.size (2 + 5) (i) ((lt71 (by omega))) (hpk)) (tU 1 hT m3_173 m2_144 m2_157 m2_142 m1_2 m2_166 rfl rfl rfl (by decide +kernel) ⟨Nat.le_of_ble_eq_true rfl, Nat.le_of_ble_eq_true rfl⟩) ⟨PcW_blind, va_recv hK hP (ci := 8) (q0 := 2 + 5) rfl (ix_at (lt71 (by omega)) (cX_knd (by omega))), PcW_of hP hK hD _⟩ rfl rfl hl.1 rfl (lv_room (Nat.le_of_ble_eq_true rfl)) (fk_get fk_cX7_makeVisit_0 17 rfl) ⟨Nat.zero_le _, Nat.zero_le _⟩)) (fun r h_ => kk_29 r)
    · exact vp_callSi (va_Run.run (va_runU (As := [.ref (ad i)]) (rest := []) ⟨hx, hb, hml, hown, hT⟩ (c_x10_portion l G ad S s.heap.size (6) (i) ((by omega)) (hpk) (hX)) (tO 1 hT m3_173 m2_144 m2_142 m2_159 m2_160 m1_8 m2_161 m2_166 rfl rfl (by decide +kernel) ⟨Nat.le_of_ble_eq_true rfl, Nat.le_of_ble_eq_true rfl⟩) ⟨PcW_blind, va_recv hK hP (ci := 12) (q0 := 2 + 6) rfl (ix_at (lt71 (by omega)) (cX_knd (by omega))), PcW_of hP hK hD _⟩ rfl rfl hl.1 rfl (lv_room (Nat.le_of_ble_eq_true rfl)) (fk_get fk_cX7_makeVisit_0 17 rfl) ⟨Nat.zero_le _, Nat.zero_le _⟩)) (fun r h_ => kk_29 r)
  rcases kq7 bn_3 with rfl | rfl | rfl | rfl | rfl | rfl | rfl
  · exact vp_callSi (va_Run.run (va_runU (As := [.ref (ad i)]) (rest := [.int (r_1)]) ⟨hx, hb, hml, hown, hT⟩ (c_x5_patience l G ad S s.heap.size (2 + 0) (i) ((lt71 (by omega))) (hpk)) (tU 1 hT m2_192 m2_170 m2_169 m2_168 m1_2 m2_186 rfl rfl rfl (by decide +kernel) ⟨Nat.le_of_ble_eq_true rfl, Nat.le_of_ble_eq_true rfl⟩) ⟨PcW_blind, va_recv hK hP (ci := 7) (q0 := 2 + 0) rfl (ix_at (lt71 (by omega)) (cX_knd (by omega))), PcW_of hP hK hD _⟩ rfl rfl hl.1 rfl (lv_room (Nat.le_of_ble_eq_true rfl)) (fk_get fk_cX7_makeVisit_0 8 rfl) ⟨Nat.zero_le _, Nat.zero_le _⟩)) (fun r h_ => kk_12 r)
  · exact vp_callSi (va_Run.run (va_runU (As := [.ref (ad i)]) (rest := [.int (r_1)]) ⟨hx, hb, hml, hown, hT⟩ (c_x8_patience l G ad S s.heap.size (2 + 1) (i) ((lt71 (by omega))) (hpk)) (tO 1 hT m2_192 m2_170 m2_168 m2_184 m2_178 m1_3 m2_179 m2_186 rfl rfl (by decide +kernel) ⟨Nat.le_of_ble_eq_true rfl, Nat.le_of_ble_eq_true rfl⟩) ⟨PcW_blind, va_recv hK hP (ci := 10) (q0 := 2 + 1) rfl (ix_at (lt71 (by omega)) (cX_knd (by omega))), PcW_of hP hK hD _⟩ rfl rfl hl.1 rfl (lv_room (Nat.le_of_ble_eq_true rfl)) (fk_get fk_cX7_makeVisit_0 8 rfl) ⟨Nat.zero_le _, Nat.zero_le _⟩)) (fun r h_ => kk_12 r)
  · exact vp_callSi (va_Run.run (va_runU (As := [.ref (ad i)]) (rest := [.int (r_1)]) ⟨hx, hb, hml, hown, hT⟩ (c_x4_patience l G ad S s.heap.size (2 + 2) (i) ((lt71 (by omega))) (hpk)) (tO 1 hT m2_192 m2_170 m2_168 m2_180 m2_181 m1_4 m2_182 m2_186 rfl rfl (by decide +kernel) ⟨Nat.le_of_ble_eq_true rfl, Nat.le_of_ble_eq_true rfl⟩) ⟨PcW_blind, va_recv hK hP (ci := 6) (q0 := 2 + 2) rfl (ix_at (lt71 (by omega)) (cX_knd (by omega))), PcW_of hP hK hD _⟩ rfl rfl hl.1 rfl (lv_room (Nat.le_of_ble_eq_true rfl)) (fk_get fk_cX7_makeVisit_0 8 rfl) ⟨Nat.zero_le _, Nat.zero_le _⟩)) (fun r h_ => kk_12 r)
  · exact vp_callSi (va_Run.run (va_runU (As := [.ref (ad i)]) (rest := [.int (r_1)]) ⟨hx, hb, hml, hown, hT⟩ (c_x0_patience l G ad S s.heap.size (2 + 3) (i) ((lt71 (by omega))) (hpk)) (tO 1 hT m2_192 m2_170 m2_168 m2_171 m2_172 m1_5 m2_173 m2_186 rfl rfl (by decide +kernel) ⟨Nat.le_of_ble_eq_true rfl, Nat.le_of_ble_eq_true rfl⟩) ⟨PcW_blind, va_recv hK hP (ci := 2) (q0 := 2 + 3) rfl (ix_at (lt71 (by omega)) (cX_knd (by omega))), PcW_of hP hK hD _⟩ rfl rfl hl.1 rfl (lv_room (Nat.le_of_ble_eq_true rfl)) (fk_get fk_cX7_makeVisit_0 8 rfl) ⟨Nat.zero_le _, Nat.zero_le _⟩)) (fun r h_ => kk_12 r)
  · exact vp_callSi (va_Run.run (va_runU (As := [.ref (ad i)]) (rest := [.int (r_1)]) ⟨hx, hb, hml, hown, hT⟩ (c_x2_patience l G ad S s.heap.size (4) (i) ((by omega)) (hpk) (hX)) (tO 1 hT m2_192 m2_170 m2_168 m2_174 m2_175 m1_6 m2_176 m2_186 rfl rfl (by decide +kernel) ⟨Nat.le_of_ble_eq_true rfl, Nat.le_of_ble_eq_true rfl⟩) ⟨PcW_blind, va_recv hK hP (ci := 4) (q0 := 2 + 4) rfl (ix_at (lt71 (by omega)) (cX_knd (by omega))), PcW_of hP hK hD _⟩ rfl rfl hl.1 rfl (lv_room (Nat.le_of_ble_eq_true rfl)) (fk_get fk_cX7_makeVisit_0 8 rfl) ⟨Nat.zero_le _, Nat.zero_le _⟩)) (fun r h_ => kk_12 r)
  · exact vp_callSi (va_Run.run (va_runU (As := [.ref (ad i)]) (rest := [.int (r_1)]) ⟨hx, hb, hml, hown, hT⟩ (c_x4_patience l G ad S s.heap.size (2 + 5) (i) ((lt71 (by omega))) (hpk)) (tO 1 hT m2_192 m2_170 m2_168 m2_183 m2_181 m1_4 m2_182 m2_186 rfl rfl (by decide +kernel) ⟨Nat.le_of_ble_eq_true rfl, Nat.le_of_ble_eq_true rfl⟩) ⟨PcW_blind, va_recv hK hP (ci := 8) (q0 := 2 + 5) rfl (ix_at (lt71 (by omega)) (cX_knd (by omega))), PcW_of hP hK hD _⟩ rfl rfl hl.1 rfl (lv_room (Nat.le_of_ble_eq_true rfl)) (fk_get fk_cX7_makeVisit_0 8 rfl) ⟨Nat.zero_le _, Nat.zero_le _⟩)) (fun r h_ => kk_12 r)
  · exact vp_callSi (va_Run.run (va_runU (As := [.ref (ad i)]) (rest := [.int (r_1)]) ⟨hx, hb, hml, hown, hT⟩ (c_x0_patience l G ad S s.heap.size (2 + 6) (i) ((lt71 (by omega))) (hpk)) (tO 1 hT m2_192 m2_170 m2_168 m2_185 m2_172 m1_5 m2_173 m2_186 rfl rfl (by decide +kernel) ⟨Nat.le_of_ble_eq_true rfl, Nat.le_of_ble_eq_true rfl⟩) ⟨PcW_blind, va_recv hK hP (ci := 12) (q0 := 2 + 6) rfl (ix_at (lt71 (by omega)) (cX_knd (by omega))), PcW_of hP hK hD _⟩ rfl rfl hl.1 rfl (lv_room (Nat.le_of_ble_eq_true rfl)) (fk_get fk_cX7_makeVisit_0 8 rfl) ⟨Nat.zero_le _, Nat.zero_le _⟩)) (fun r h_ => kk_12 r)
