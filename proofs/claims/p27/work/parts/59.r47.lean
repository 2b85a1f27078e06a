theorem vo_1 {v : Nat} (h : v < 128) : ¬ nI v < -128 := fun q => absurd (nI_pos (n := v) (by omega)) (fun z => z (Int32.lt_trans q (by decide)))
theorem vo_2 {v : Nat} (h : v < 128) : ¬ (127 : Int32) < nI v := nI_nlt (a := 127) (b := v) (by omega) (by omega)
set_option maxHeartbeats 800000 in
set_option maxRecDepth 100000 in
theorem c_jvalueOf (l : Launch) (G : GG) (ad : Nat → Nat) (S : FS) (sz : Nat) (vz : Nat) (hv : vz < 128) (hX : XI S) : Met l yJ6_valueOf_2dffe (Cond.code yJ6_valueOf_2dffe cJ6_valueOf_2dffe 1 (some (.object "java/lang/Integer")) :: TBL) ({ frames := 2, cells := 0, slots := 0, locals := 64 } : Room) (PcE G (wX G ad S) sz [.int ((nI vz))]) (va_Sq (fun (r : Option Nat) => ∃ jb, jb < 256 ∧ jb = vz + 128 ∧ r = some (G.2.2.2 jb))) 0 0 (fun _ => False) := by
  refine va_MetF (cc := cJ6_valueOf_2dffe) (maxL := 1) (ret := (some (.object "java/lang/Integer"))) (by decide +kernel) rfl ?_
  intro p e s m args below meth c₀ s₁ B hml hv
  obtain ⟨rfl, hsz, hP, hK, hD0, hE⟩ := hv
  have hx := B.exec
  have hb := B.bytes
  have hr := B.returns
  have hT : ∀ w ∈ TBL, w.before ([.int ((nI vz))] : List Value).toArray s = true := fun w h => atoms_spec (ws := Cond.code yJ6_valueOf_2dffe cJ6_valueOf_2dffe 1 (some (.object "java/lang/Integer")) :: TBL) B.pre w (List.mem_cons_of_mem _ h)
  have hown : s.vm.findClass "java/lang/Integer" = some m.cls := findClass_of_methodNamed B.named
  have hlocks := B.notSynchronized
  have hD := hD0
  subst hsz
  have hFc : ∀ q, va_A (wX G ad S) s.heap.size q → va_A (wX G ad S) s.heap.size q := fun _ h => h
  have hS : va_S (va_A (wX G ad S) s.heap.size) s.heap s.heap [] := va_S.rf
  have hP : va_P G.1 vwCl (wX G ad S) s.heap := hP
  have hl := lv_entry ([.int ((nI vz))]) (n := 1) (Nat.le_of_ble_eq_true rfl)
  rw [lg_entry_eq]
  generalize (lg_sl ([.int ((nI vz))]) ++ List.replicate (1 - (lg_sl ([.int ((nI vz))])).length) Slot.unset).toArray = ls at hl ⊢
  have hl : lv_has ls 1 [(0, .int ((nI vz)))] := hl
  refine W_abs (fun Q hQ => ?_)
  generalize ([.int ((nI vz))] : List Value).toArray = args at hT hQ ⊢
  refine lv_iload_n hx hb (fk_get fk_cJ6_valueOf_2dffe_0 0 rfl) rfl (lv_at hl 0 rfl) ?_
  refine lv_bipush (v := (-128)) hx hb (fk_get fk_cJ6_valueOf_2dffe_0 1 rfl) (by decide) ?_
  refine lv_icmp_lt (tgt := 23) hx hb (fk_get fk_cJ6_valueOf_2dffe_0 2 rfl) (by decide) (fun c_1 => absurd c_1 (vo_1 hv)) (fun _ => ?_)
  refine lv_iload_n hx hb (fk_get fk_cJ6_valueOf_2dffe_0 3 rfl) rfl (lv_at hl 0 rfl) ?_
  refine va_gets (v := .int 127) hx hb hE.2.2.2.1.1 hS hown (hT _ m4_132) (fun _ h9 => h9) (fk_get fk_cJ6_valueOf_2dffe_0 4 rfl) ?_
  refine lv_icmp_gt (tgt := 23) hx hb (fk_get fk_cJ6_valueOf_2dffe_0 5 rfl) (by decide) (fun c_2 => absurd c_2 (vo_2 hv)) (fun _ => ?_)
  refine va_gets (v := .ref (G.2.2.2 300)) hx hb hE.2.2.2.1.2.1 hS hown (hT _ m4_134) (fun _ h9 => h9) (fk_get fk_cJ6_valueOf_2dffe_0 6 rfl) ?_
  refine lv_iload_n hx hb (fk_get fk_cJ6_valueOf_2dffe_0 7 rfl) rfl (lv_at hl 0 rfl) ?_
  refine lv_sipush (v := 128) hx hb (fk_get fk_cJ6_valueOf_2dffe_0 8 rfl) (by decide) ?_
  refine lv_iadd hx hb (fk_get fk_cJ6_valueOf_2dffe_0 9 rfl) ?_
  rw [show ((nI vz) + 128) = (nI (vz + 128)) from nI_add vz 128]
  refine vb_tq (v := .ref (G.2.2.2 ((vz + 128)))) hx hb hE.2.2.2.1.2.2.1 hS (by rw [show ((nI (vz + 128)) : Int32) = nI ((vz + 128)) from rfl]; exact vp_in_nI (by omega) (by omega)) (by rw [show ((nI (vz + 128)) : Int32) = nI ((vz + 128)) from rfl, nI_clamp (by omega)]) (fk_get fk_cJ6_valueOf_2dffe_0 10 rfl) ?_
  subst hQ
  have hpost : ∃ jb, jb < 256 ∧ jb = vz + 128 ∧ ((some (G.2.2.2 ((vz + 128)))) : Option Nat) = some (G.2.2.2 jb) := by
    exact ⟨vz + 128, by omega, rfl, rfl⟩
  exact W.aret hx hb hr (Or.inl ⟨_, rfl⟩) (Or.inr ⟨_, rfl⟩) (fun t_ ht_ hW_ => ⟨(some (G.2.2.2 ((vz + 128)))), rfl, hpost, ht_⟩) (fun q h => by cases h) (fk_get fk_cJ6_valueOf_2dffe_0 11 rfl)
set_option maxHeartbeats 800000 in
set_option maxRecDepth 100000 in
theorem c_jintValue (l : Launch) (G : GG) (ad : Nat → Nat) (S : FS) (sz : Nat) (jb : Nat) (hjb : jb < 256) (hX : XI S) : Met l yJ6_intValue_8abf5 (Cond.code yJ6_intValue_8abf5 cJ6_intValue_8abf5 1 (some .int) :: TBL) ({ frames := 2, cells := 0, slots := 0, locals := 64 } : Room) (PcE G (wX G ad S) sz [.ref (G.2.2.2 jb)]) (vp_Si (fun (r : Int32) => r = vb_c jb)) 0 0 (fun _ => False) := by
  refine va_MetF (cc := cJ6_intValue_8abf5) (maxL := 1) (ret := (some .int)) (by decide +kernel) rfl ?_
  intro p e s m args below meth c₀ s₁ B hml hv
  obtain ⟨rfl, hsz, hP, hK, hD0, hE⟩ := hv
  have hx := B.exec
  have hb := B.bytes
  have hr := B.returns
  have hT : ∀ w ∈ TBL, w.before ([.ref (G.2.2.2 jb)] : List Value).toArray s = true := fun w h => atoms_spec (ws := Cond.code yJ6_intValue_8abf5 cJ6_intValue_8abf5 1 (some .int) :: TBL) B.pre w (List.mem_cons_of_mem _ h)
  have hown : s.vm.findClass "java/lang/Integer" = some m.cls := findClass_of_methodNamed B.named
  have hlocks := B.notSynchronized
  have hD := hD0
  subst hsz
  have hFc : ∀ q, va_A (wX G ad S) s.heap.size q → va_A (wX G ad S) s.heap.size q := fun _ h => h
  have hS : va_S (va_A (wX G ad S) s.heap.size) s.heap s.heap [] := va_S.rf
  have hP : va_P G.1 vwCl (wX G ad S) s.heap := hP
  have hl := lv_entry ([.ref (G.2.2.2 jb)]) (n := 1) (Nat.le_of_ble_eq_true rfl)
  rw [lg_entry_eq]
  generalize (lg_sl ([.ref (G.2.2.2 jb)]) ++ List.replicate (1 - (lg_sl ([.ref (G.2.2.2 jb)])).length) Slot.unset).toArray = ls at hl ⊢
  have hl : lv_has ls 1 [(0, .ref (G.2.2.2 jb))] := hl
  refine W_abs (fun Q hQ => ?_)
  generalize ([.ref (G.2.2.2 jb)] : List Value).toArray = args at hT hQ ⊢
  refine lv_aload_n hx hb (fk_get fk_cJ6_intValue_8abf5_0 0 rfl) rfl (lv_at hl 0 rfl) ?_
  refine vk_getf (v := .int (vb_c jb)) hx hb (hE.2.2.2.1.2.2.2.2 jb hjb) hS hown (hT _ m4_145) (fun _ h9 => h9) (fk_get fk_cJ6_intValue_8abf5_0 1 rfl) ?_
  subst hQ
  have hpost : ((vb_c jb) : Int32) = vb_c jb := by
    rfl
  exact W.iret (v := (vb_c jb)) hx hb hr (fun t_ ht_ hW_ => ⟨(vb_c jb), rfl, hpost, ht_⟩) (fun q h => by cases h) (fk_get fk_cJ6_intValue_8abf5_0 2 rfl)
set_option maxHeartbeats 800000 in
set_option maxRecDepth 100000 in
theorem c_jnewlen (l : Launch) (z : Nat) (hz2 : 2 ≤ z) (hz40 : z ≤ 40) : Met l yJ8_newLength_cabcc (Cond.code yJ8_newLength_cabcc cJ8_newLength_cabcc 4 (some .int) :: TBL) ({ frames := 3, cells := 0, slots := 0, locals := 89 } : Room) (PcN [.int ((nI z)), .int (1), .int ((nI (z / 2)))]) (vp_Si (fun (r : Int32) => r = nI (z + z / 2))) 0 0 (fun _ => False) := by
  refine va_MetF (cc := cJ8_newLength_cabcc) (maxL := 4) (ret := (some .int)) (by decide +kernel) rfl ?_
  intro p e s m args below meth c₀ s₁ B hml hv
  obtain ⟨rfl, -⟩ := hv
  have hx := B.exec
  have hb := B.bytes
  have hr := B.returns
  have hT : ∀ w ∈ TBL, w.before ([.int ((nI z)), .int (1), .int ((nI (z / 2)))] : List Value).toArray s = true := fun w h => atoms_spec (ws := Cond.code yJ8_newLength_cabcc cJ8_newLength_cabcc 4 (some .int) :: TBL) B.pre w (List.mem_cons_of_mem _ h)
  have hown : s.vm.findClass "jdk/internal/util/ArraysSupport" = some m.cls := findClass_of_methodNamed B.named
  have hlocks := B.notSynchronized
  have hl := lv_entry ([.int ((nI z)), .int (1), .int ((nI (z / 2)))]) (n := 4) (Nat.le_of_ble_eq_true rfl)
  rw [lg_entry_eq]
  generalize (lg_sl ([.int ((nI z)), .int (1), .int ((nI (z / 2)))]) ++ List.replicate (4 - (lg_sl ([.int ((nI z)), .int (1), .int ((nI (z / 2)))])).length) Slot.unset).toArray = ls at hl ⊢
  have hl : lv_has ls 4 [(0, .int ((nI z))), (1, .int (1)), (2, .int ((nI (z / 2))))] := hl
  refine W_abs (fun Q hQ => ?_)
  generalize ([.int ((nI z)), .int (1), .int ((nI (z / 2)))] : List Value).toArray = args at hT hQ ⊢
  refine lv_iload_n hx hb (fk_get fk_cJ8_newLength_cabcc_0 0 rfl) rfl (lv_at hl 0 rfl) ?_
  refine lv_iload_n hx hb (fk_get fk_cJ8_newLength_cabcc_0 1 rfl) rfl (lv_at hl 1 rfl) ?_
  refine lv_iload_n hx hb (fk_get fk_cJ8_newLength_cabcc_0 2 rfl) rfl (lv_at hl 2 rfl) ?_
  refine vp_callSi (W.runS (As := [.int (1), .int ((nI (z / 2)))]) (rest := [.int ((nI z))]) ⟨hx, hb, hml, hown, hT⟩ (c_jmax l (1) ((nI (z / 2))) ) (tS 2 hT m4_168 m2_139 m1_18 m2_140 rfl rfl (by decide +kernel) ⟨Nat.le_of_ble_eq_true rfl, Nat.le_of_ble_eq_true rfl⟩) ⟨PcN_blind, PcN_of _ _ _⟩ rfl rfl hl.1 rfl (lv_room (Nat.le_of_ble_eq_true rfl)) (fk_get fk_cJ8_newLength_cabcc_0 3 rfl) ⟨Nat.zero_le _, Nat.zero_le _⟩) (fun r_1 hw_2 => ?_)
  try dsimp only at hw_2
  have e_ := nl_max hw_2 hz2 hz40
  subst e_
  refine lv_iadd hx hb (fk_get fk_cJ8_newLength_cabcc_0 4 rfl) ?_
  rw [show ((nI z) + (nI (z / 2))) = (nI (z + z / 2)) from nI_add z (z / 2)]
  refine lv_istore_n (lv' := [(3, .int ((nI (z + z / 2)))), (0, .int ((nI z))), (1, .int (1)), (2, .int ((nI (z / 2))))]) hx hb (fk_get fk_cJ8_newLength_cabcc_0 5 rfl) rfl hl (by decide) rfl (fun ls hl => ?_)
  refine lv_iconst (v := 0) hx hb (fk_get fk_cJ8_newLength_cabcc_0 6 rfl) (by decide) ?_
  refine lv_iload_n hx hb (fk_get fk_cJ8_newLength_cabcc_0 7 rfl) rfl (lv_at hl 0 rfl) ?_
  refine lv_icmp_ge (tgt := 21) hx hb (fk_get fk_cJ8_newLength_cabcc_0 8 rfl) (by decide) (fun c_3 => absurd c_3 ((show ¬ nI (z + z / 2) ≤ nI 0 from nI_nle (by omega) (by omega)))) (fun _ => ?_)
  refine lv_iload_n hx hb (fk_get fk_cJ8_newLength_cabcc_0 9 rfl) rfl (lv_at hl 0 rfl) ?_
  refine lv_ldc (v := 2147483639) hx hb hown (hT _ m4_169) (fk_get fk_cJ8_newLength_cabcc_0 10 rfl) ?_
  refine lv_icmp_gt (tgt := 21) hx hb (fk_get fk_cJ8_newLength_cabcc_0 11 rfl) (by decide) (fun c_4 => absurd c_4 ((show ¬ nI 2147483639 < nI (z + z / 2) from nI_nlt (by omega) (by decide)))) (fun _ => ?_)
  refine lv_iload_n hx hb (fk_get fk_cJ8_newLength_cabcc_0 12 rfl) rfl (lv_at hl 0 rfl) ?_
  subst hQ
  have hpost : ((nI (z + z / 2)) : Int32) = nI (z + z / 2) := by
    rfl
  exact W.iret (v := (nI (z + z / 2))) hx hb hr (fun t_ ht_ hW_ => ⟨(nI (z + z / 2)), rfl, hpost, ht_⟩) (fun q h => by cases h) (fk_get fk_cJ8_newLength_cabcc_0 13 rfl)
set_option maxHeartbeats 800000 in
set_option maxRecDepth 100000 in
theorem c_jcopyO3 (l : Launch) (G : GG) (ad : Nat → Nat) (S : FS) (sz : Nat) (pl z cz : Nat) (hLB : LB S pl z z) (hcz : z ≤ cz) (hc64 : cz ≤ 64) (hX : XI S) : Met l yJ7_copyOf_6403c (Cond.code yJ7_copyOf_6403c cJ7_copyOf_6403c 4 (some (.array (.object "java/lang/Object"))) :: TBL) ({ frames := 3, cells := 1, slots := 64, locals := 89 } : Room) (PcE G (wX G ad S) sz [.ref (ad pl), .int ((nI cz)), .ref (G.2.2.2 330)]) (va_Qq (fun (r : Option Nat) (u : FS × (Nat → Nat)) => XI u.1 ∧ Fr (fun j k => j = 0 ∧ j = 1) S u.1 ∧ (∀ j, j < 71 + fC S → u.2 j = ad j) ∧ ∃ pn, r = some (u.2 pn) ∧ 71 + fC S ≤ pn ∧ pn < 71 + fC u.1 ∧ fK u.1 pn = 2 ∧ fN u.1 pn = cz ∧ ∀ i, i < z → fR u.1 pn i = fR S pl i) (fun u t => BW G (va_A (wX G ad S) sz) (wX G u.2 u.1) t) (va_A (wX G ad S) sz)) 1 64 (va_A (wX G ad S) sz) := by
  refine va_MetF (cc := cJ7_copyOf_6403c) (maxL := 4) (ret := (some (.array (.object "java/lang/Object")))) (by decide +kernel) rfl ?_
  intro p e s m args below meth c₀ s₁ B hml hv
  obtain ⟨rfl, hsz, hP, hK, hD0, hE⟩ := hv
  have hx := B.exec
  have hb := B.bytes
  have hr := B.returns
  have hT : ∀ w ∈ TBL, w.before ([.ref (ad pl), .int ((nI cz)), .ref (G.2.2.2 330)] : List Value).toArray s = true := fun w h => atoms_spec (ws := Cond.code yJ7_copyOf_6403c cJ7_copyOf_6403c 4 (some (.array (.object "java/lang/Object"))) :: TBL) B.pre w (List.mem_cons_of_mem _ h)
  have hown : s.vm.findClass "java/util/Arrays" = some m.cls := findClass_of_methodNamed B.named
  have hlocks := B.notSynchronized
  subst hsz
  have hD := hD0.self (sz := s.heap.size)
  generalize hAe : va_A (wX G ad S) s.heap.size = A at hD hE ⊢
  have hA : ∀ q : Nat, s.heap.size ≤ q → A q := fun q h => by rw [← hAe]; exact Or.inr h
  have hS : va_S A s.heap s.heap [] := va_S.rf
  have hP : va_P G.1 vwCl (wX G ad S) s.heap := hP
  have hl := lv_entry ([.ref (ad pl), .int ((nI cz)), .ref (G.2.2.2 330)]) (n := 4) (Nat.le_of_ble_eq_true rfl)
  rw [lg_entry_eq]
  generalize (lg_sl ([.ref (ad pl), .int ((nI cz)), .ref (G.2.2.2 330)]) ++ List.replicate (4 - (lg_sl ([.ref (ad pl), .int ((nI cz)), .ref (G.2.2.2 330)])).length) Slot.unset).toArray = ls at hl ⊢
  have hl : lv_has ls 4 [(0, .ref (ad pl)), (1, .int ((nI cz))), (2, .ref (G.2.2.2 330))] := hl
  refine W_abs (fun Q hQ => ?_)
  generalize ([.ref (ad pl), .int ((nI cz)), .ref (G.2.2.2 330)] : List Value).toArray = args at hT hQ ⊢
  have hz2 := hLB.2.2.2.2.2.1
  refine lv_aload_n hx hb (fk_get fk_cJ7_copyOf_6403c_0 0 rfl) rfl (lv_at hl 2 rfl) ?_
  refine va_ldcM (C := "[Ljava/lang/Object;") (mi := G.2.2.2 330) hx hb hown (hT _ m4_198) hE.2.2.2.2.2.2.2.2.2.2.1 (fk_get fk_cJ7_copyOf_6403c_0 1 rfl) ?_
  refine lv_acmp_ne (rx := some (G.2.2.2 330)) (ry := some (G.2.2.2 330)) (tgt := 13) hx hb (dk_get dk_cJ7_copyOf_6403c_0 0 rfl) (by decide) (fun h => absurd rfl h) (fun _ => ?_)
  refine lv_iload_n hx hb (fk_get fk_cJ7_copyOf_6403c_0 2 rfl) rfl (lv_at hl 1 rfl) ?_
  refine r_newq (C := "java/lang/Object") (N' := cz) hx hb hown (hT _ m4_200) hE.2.2.2.2.2.2.2.2.2.1 hK hP hD hS hA 6 rfl (nI_pos (by omega)) (nI_clamp (by omega)) (by omega) (Nat.le_of_ble_eq_true rfl) (Nat.le_trans (Nat.add_le_add_left (show cz ≤ 64 by omega) _) (Nat.le_of_ble_eq_true rfl)) (fk_get fk_cJ7_copyOf_6403c_0 3 rfl) (fun q_ H hP hD hS => ?_)
  obtain ⟨ad_2, hg_1_, hq_, hPn_, hDn_⟩ := xb 2 cz (fun _ => 0) (fun _ => 0) (fun _ => none) hX (fun _ => rfl) hP hD
  subst hq_
  have hP := hPn_
  have hD := hDn_
  clear hPn_ hDn_
  obtain ⟨S_3, hS_3⟩ : ∃ T, T = gNew S 2 cz (fun _ => 0) (fun _ => 0) (fun _ => none) := ⟨_, rfl⟩
  rw [← hS_3] at hP hD
  have hX_4 : XI S_3 := by rw [hS_3]; exact XI.gnew hX (by intro h; omega)
  have hF_5_ : Fr (fun j _ => j = 0 ∧ j = 1) S S_3 := by rw [hS_3]; exact gNew_fr
  have hF_5 : Fr (fun j k => j = 0 ∧ j = 1) S S_3 := Fr.trans (Fr.rf : Fr (fun j k => j = 0 ∧ j = 1) S S) (Fr.mono hF_5_ (fun j k h => by omega))
  have hg_1 : ∀ j, j < 71 + fC S → ad_2 j = ad j := fun j hj => (hg_1_ j (Nat.lt_of_lt_of_le hj (Nat.add_le_add_left ((Fr.rf : Fr (fun j k => j = 0 ∧ j = 1) S S)).1 71))).trans ((fun _ _ => rfl) j hj)
  obtain ⟨p_6, hp_6⟩ : ∃ p, p = 71 + fC S := ⟨_, rfl⟩
  rw [← hp_6]
  have kp_6 : fK S_3 p_6 = 2 := by rw [hS_3, hp_6]; exact gNew_K _ _ _ _ _ _
  have np_6 : fN S_3 p_6 = cz := by rw [hS_3, hp_6]; exact gNew_N _ _ _ _ _ _
  have rp_6 : fR S_3 p_6 = (fun _ => none) := by rw [hS_3, hp_6]; exact gNew_R _ _ _ _ _ _
  have cp_6 : fC S_3 = fC S + 1 := by rw [hS_3]; rfl
  have lp_6 : p_6 < 71 + fC S_3 := by omega
  have ep_6 : 71 + fC S ≤ p_6 := by have hc_ := ((Fr.rf : Fr (fun j k => j = 0 ∧ j = 1) S S)).1; omega
  have hl : lv_has ls 4 [(0, .ref (ad_2 pl)), (1, .int ((nI cz))), (2, .ref (G.2.2.2 330))] := by rw [hg_1_ pl ((hLB).2.2.1)]; exact hl
  have hLg_7 := (hLB).fr0 hF_5_
  refine lv_goto (tgt := 24) hx hb (fk_get fk_cJ7_copyOf_6403c_0 4 rfl) (by decide) ?_
  refine lv_astore_n (lv' := [(3, .ref (ad_2 p_6)), (0, .ref (ad_2 pl)), (1, .int ((nI cz))), (2, .ref (G.2.2.2 330))]) hx hb (fk_get fk_cJ7_copyOf_6403c_0 5 rfl) rfl hl (by decide) rfl (fun ls hl => ?_)
  refine lv_aload_n hx hb (fk_get fk_cJ7_copyOf_6403c_0 6 rfl) rfl (lv_at hl 1 rfl) ?_
  refine lv_iconst (v := 0) hx hb (fk_get fk_cJ7_copyOf_6403c_0 7 rfl) (by decide) ?_
  refine lv_aload_n hx hb (fk_get fk_cJ7_copyOf_6403c_0 8 rfl) rfl (lv_at hl 0 rfl) ?_
  refine lv_iconst (v := 0) hx hb (fk_get fk_cJ7_copyOf_6403c_0 9 rfl) (by decide) ?_
  refine lv_aload_n hx hb (fk_get fk_cJ7_copyOf_6403c_0 10 rfl) rfl (lv_at hl 1 rfl) ?_
  refine va_alen hx hb hK hP pl 6 (ix_at (hLg_7).2.2.1 (cX_obsn (show LB S_3 pl z z from hLg_7))) rfl (v := nI z) rfl (fk_get fk_cJ7_copyOf_6403c_0 11 rfl) ?_
  refine lv_iload_n hx hb (fk_get fk_cJ7_copyOf_6403c_0 12 rfl) rfl (lv_at hl 2 rfl) ?_
  refine vp_callSi (W.runS (As := [.int ((nI z)), .int ((nI cz))]) (rest := [.int (0), .ref (ad_2 p_6), .int (0), .ref (ad_2 pl)]) ⟨hx, hb, hml, hown, hT⟩ (c_jmin l ((nI z)) ((nI cz)) ) (tS 2 hT m3_149 m3_94 m1_18 m3_95 rfl rfl (by decide +kernel) ⟨Nat.le_of_ble_eq_true rfl, Nat.le_of_ble_eq_true rfl⟩) ⟨PcN_blind, PcN_of _ _ _⟩ rfl rfl hl.1 rfl (lv_room (Nat.le_of_ble_eq_true rfl)) (fk_get fk_cJ7_copyOf_6403c_0 13 rfl) ⟨(by show (0 + 1) + 0 ≤ 1; omega), (by show (0 + cz) + 0 ≤ 64; omega)⟩) (fun r_8 hw_9 => ?_)
  try dsimp only at hw_9
  have e_ := gr_4 hw_9 hcz hc64
  subst e_
  refine va_copyM hx hb (by rw [hml]; exact hl.1.symm) hown (hT _ m3_150) (hT _ m3_152) (hT _ m3_151) (hT _ m1_24) hK hP hD hS pl p_6 6 6 (ix_at (hLg_7).2.2.1 (cX_obsn (show LB S_3 pl z z from hLg_7))) (ix_at lp_6 (cX_obs (show 71 ≤ p_6 by omega) kp_6)) rfl rfl (by decide) (by decide) (nI_pos (by omega)) (by rw [nI_clamp (by omega)]; exact Nat.le_of_eq (Nat.zero_add z)) (by rw [nI_clamp (by omega), np_6]; show 0 + z ≤ cz; omega) (obs_any hE hS hK hLg_7 (by first | exact nI_clamp (by omega) | decide)) (Nat.le_of_ble_eq_true rfl) (Nat.le_of_ble_eq_true rfl) (fk_get fk_cJ7_copyOf_6403c_0 14 rfl) (fun H locs hP hD hS => ?_)
  rw [pX_obsQ (G := G) (ad := ad_2) (S := S_3) (r := (va_cpy (fR S_3 pl) (fR S_3 p_6) (0 : Int32).toNatClampNeg (0 : Int32).toNatClampNeg ((nI z) : Int32).toNatClampNeg)) (show 71 ≤ p_6 by omega) lp_6 kp_6 rfl (fun k => cpy_map k)] at hP hD
  have hX_10 : XI (setQ S_3 p_6 (va_cpy (fR S_3 pl) (fR S_3 p_6) (0 : Int32).toNatClampNeg (0 : Int32).toNatClampNeg ((nI z) : Int32).toNatClampNeg)) := XI.q hX_4 (show 71 ≤ p_6 by omega) kp_6 (by have := (hLB).2.2.1; intro hq_; rw [show fR S_3 61 1 = some pl from (hLg_7).1] at hq_; cases hq_; omega)
  have hF_11 : Fr (fun j k => j = 0 ∧ j = 1) S (setQ S_3 p_6 (va_cpy (fR S_3 pl) (fR S_3 p_6) (0 : Int32).toNatClampNeg (0 : Int32).toNatClampNeg ((nI z) : Int32).toNatClampNeg)) := frnewQ hF_5 (by omega)
  refine lv_aload_n hx hb (fk_get fk_cJ7_copyOf_6403c_0 15 rfl) rfl (lv_at hl 0 rfl) ?_
  subst hQ
  have hpost : XI (setQ S_3 p_6 (va_cpy (fR S_3 pl) (fR S_3 p_6) (0 : Int32).toNatClampNeg (0 : Int32).toNatClampNeg ((nI z) : Int32).toNatClampNeg)) ∧ Fr (fun j k => j = 0 ∧ j = 1) S (setQ S_3 p_6 (va_cpy (fR S_3 pl) (fR S_3 p_6) (0 : Int32).toNatClampNeg (0 : Int32).toNatClampNeg ((nI z) : Int32).toNatClampNeg)) ∧ (∀ j, j < 71 + fC S → ad_2 j = ad j) ∧ ∃ pn, ((some (ad_2 p_6)) : Option Nat) = some (ad_2 pn) ∧ 71 + fC S ≤ pn ∧ pn < 71 + fC (setQ S_3 p_6 (va_cpy (fR S_3 pl) (fR S_3 p_6) (0 : Int32).toNatClampNeg (0 : Int32).toNatClampNeg ((nI z) : Int32).toNatClampNeg)) ∧ fK (setQ S_3 p_6 (va_cpy (fR S_3 pl) (fR S_3 p_6) (0 : Int32).toNatClampNeg (0 : Int32).toNatClampNeg ((nI z) : Int32).toNatClampNeg)) pn = 2 ∧ fN (setQ S_3 p_6 (va_cpy (fR S_3 pl) (fR S_3 p_6) (0 : Int32).toNatClampNeg (0 : Int32).toNatClampNeg ((nI z) : Int32).toNatClampNeg)) pn = cz ∧ ∀ i, i < z → fR (setQ S_3 p_6 (va_cpy (fR S_3 pl) (fR S_3 p_6) (0 : Int32).toNatClampNeg (0 : Int32).toNatClampNeg ((nI z) : Int32).toNatClampNeg)) pn i = fR S pl i := by
    exact ⟨hX_10, hF_11, hg_1, ⟨p_6, rfl, by omega, lp_6, kp_6, np_6, fun i hi => by rw [fR_setQ, if_pos rfl]; unfold va_cpy; rw [nI_clamp (by omega), show (0 : Int32).toNatClampNeg = 0 from rfl, if_pos (by omega), Nat.zero_add, Nat.sub_zero]; exact hF_5_.R hLB.2.2.1 (by omega)⟩⟩
  refine W.widen (k := 1) (n := 64) (by omega) (by omega) ?_
  exact W.aret hx hb hr (Or.inr ⟨_, rfl⟩) (Or.inr ⟨_, rfl⟩) (fun t_ ht_ hW_ => ⟨⟨(some (ad_2 p_6)), ((setQ S_3 p_6 (va_cpy (fR S_3 pl) (fR S_3 p_6) (0 : Int32).toNatClampNeg (0 : Int32).toNatClampNeg ((nI z) : Int32).toNatClampNeg)), ad_2), rfl, hpost, by rw [ht_]; exact hP, va_K.moved hW_.alike hK, hD⟩, hS.F ht_⟩) hS.2.2 (fk_get fk_cJ7_copyOf_6403c_0 16 rfl)
set_option maxHeartbeats 800000 in
set_option maxRecDepth 100000 in
theorem c_jcopyO (l : Launch) (G : GG) (ad : Nat → Nat) (S : FS) (sz : Nat) (pl z cz : Nat) (hLB : LB S pl z z) (hcz : z ≤ cz) (hc64 : cz ≤ 64) (hX : XI S) : Met l yJ7_copyOf_1904c (Cond.code yJ7_copyOf_1904c cJ7_copyOf_1904c 2 (some (.array (.object "java/lang/Object"))) :: TBL) ({ frames := 4, cells := 1, slots := 64, locals := 116 } : Room) (PcE G (wX G ad S) sz [.ref (ad pl), .int ((nI cz))]) (va_Qq (fun (r : Option Nat) (u : FS × (Nat → Nat)) => XI u.1 ∧ Fr (fun j k => j = 0 ∧ j = 1) S u.1 ∧ (∀ j, j < 71 + fC S → u.2 j = ad j) ∧ ∃ pn, r = some (u.2 pn) ∧ 71 + fC S ≤ pn ∧ pn < 71 + fC u.1 ∧ fK u.1 pn = 2 ∧ fN u.1 pn = cz ∧ ∀ i, i < z → fR u.1 pn i = fR S pl i) (fun u t => BW G (va_A (wX G ad S) sz) (wX G u.2 u.1) t) (va_A (wX G ad S) sz)) 1 64 (va_A (wX G ad S) sz) := by
  refine va_MetF (cc := cJ7_copyOf_1904c) (maxL := 2) (ret := (some (.array (.object "java/lang/Object")))) (by decide +kernel) rfl ?_
  intro p e s m args below meth c₀ s₁ B hml hv
  obtain ⟨rfl, hsz, hP, hK, hD0, hE⟩ := hv
  have hx := B.exec
  have hb := B.bytes
  have hr := B.returns
  have hT : ∀ w ∈ TBL, w.before ([.ref (ad pl), .int ((nI cz))] : List Value).toArray s = true := fun w h => atoms_spec (ws := Cond.code yJ7_copyOf_1904c cJ7_copyOf_1904c 2 (some (.array (.object "java/lang/Object"))) :: TBL) B.pre w (List.mem_cons_of_mem _ h)
  have hown : s.vm.findClass "java/util/Arrays" = some m.cls := findClass_of_methodNamed B.named
  have hlocks := B.notSynchronized
  subst hsz
  have hD := hD0.self (sz := s.heap.size)
  generalize hAe : va_A (wX G ad S) s.heap.size = A at hD hE ⊢
  have hA : ∀ q : Nat, s.heap.size ≤ q → A q := fun q h => by rw [← hAe]; exact Or.inr h
  have hS : va_S A s.heap s.heap [] := va_S.rf
  have hP : va_P G.1 vwCl (wX G ad S) s.heap := hP
  have hl := lv_entry ([.ref (ad pl), .int ((nI cz))]) (n := 2) (Nat.le_of_ble_eq_true rfl)
  rw [lg_entry_eq]
  generalize (lg_sl ([.ref (ad pl), .int ((nI cz))]) ++ List.replicate (2 - (lg_sl ([.ref (ad pl), .int ((nI cz))])).length) Slot.unset).toArray = ls at hl ⊢
  have hl : lv_has ls 2 [(0, .ref (ad pl)), (1, .int ((nI cz)))] := hl
  refine W_abs (fun Q hQ => ?_)
  generalize ([.ref (ad pl), .int ((nI cz))] : List Value).toArray = args at hT hQ ⊢
  refine lv_aload_n hx hb (fk_get fk_cJ7_copyOf_1904c_0 0 rfl) rfl (lv_at hl 0 rfl) ?_
  refine lv_iload_n hx hb (fk_get fk_cJ7_copyOf_1904c_0 1 rfl) rfl (lv_at hl 1 rfl) ?_
  refine lv_aload_n hx hb (fk_get fk_cJ7_copyOf_1904c_0 2 rfl) rfl (lv_at hl 0 rfl) ?_
  refine va_getC (C := "[Ljava/lang/Object;") (mi := G.2.2.2 330) hx hb (by rw [hml]; exact hl.1.symm) hown (hT _ m4_176) (va_Dc.use hE.2.2.2.2.2.2.2.2.2.2.2) (hT _ m7_211) (hT _ m4_177) (hT _ m4_194) hE.2.2.2.2.2.2.2.2.2.2.1 (obs_cell hK hP (hLB).2.1 (hLB).2.2.1 (hLB).2.2.2.1) (Nat.le_of_ble_eq_true rfl) (Nat.le_of_ble_eq_true rfl) (fk_get fk_cJ7_copyOf_1904c_0 3 rfl) ?_
  have hFc := va_self hD hS hA
  refine va_callq (va_runS (As := [.ref (ad pl), .int ((nI cz)), .ref (G.2.2.2 330)]) (rest := []) ⟨hx, hb, hml, hown, hT⟩ (c_jcopyO3 l G ad S s.heap.size (pl) (z) (cz) (hLB) (by first | assumption | omega) (by first | assumption | omega) (hX)) (tS 3 hT m4_195 m4_196 m1_16 m4_197 rfl rfl (by decide +kernel) ⟨Nat.le_of_ble_eq_true rfl, Nat.le_of_ble_eq_true rfl⟩) ⟨PcE_blind, PcE_of hP hK hD hE hS (fun q h => hFc q h) _⟩ rfl rfl hl.1 rfl (lv_room (Nat.le_of_ble_eq_true rfl)) (fk_get fk_cJ7_copyOf_1904c_0 4 rfl) ⟨Nat.le_of_ble_eq_true rfl, Nat.le_of_ble_eq_true rfl⟩) hS (fun q _ h => hFc q h) hFc (fun r_1 u_ t_ H locs ht_ hvm_ hw_2 hB_ hz_ hk_ hS => ?_)
  obtain ⟨S_3, ad_4⟩ := u_
  dsimp only at hB_ hw_2
  obtain ⟨hP, -, hD1_⟩ := hB_
  rw [ht_] at hP
  have hD : va_D A (wX G ad_4 S_3) := hD1_.weaken (fun k q _ h => hFc q.1 h)
  obtain ⟨hX_5, hF_6_, hg_7_, hw_2⟩ := hw_2
  have hg_7 : ∀ j, j < 71 + fC S → ad_4 j = ad j := fun j hj => (hg_7_ j (Nat.lt_of_lt_of_le hj (Nat.add_le_add_left ((Fr.rf : Fr (fun j k => j = 0 ∧ j = 1) S S)).1 71))).trans ((fun _ _ => rfl) j hj)
  have hF_6 : Fr (fun j k => j = 0 ∧ j = 1) S S_3 := Fr.tr (Fr.rf : Fr (fun j k => j = 0 ∧ j = 1) S S) hF_6_ (fun j k hj h => by have hc_ := ((Fr.rf : Fr (fun j k => j = 0 ∧ j = 1) S S)).1; omega)
  have hl : lv_has ls 2 [(0, .ref (ad_4 pl)), (1, .int ((nI cz)))] := by rw [hg_7_ pl ((hLB).2.2.1)]; exact hl
  have hLg_8 := (hLB).fr0 hF_6_
  obtain ⟨pn_6, rfl, gn_6, ln_6, kn_6, nn_6, en_6⟩ := hw_2
  rw [show va_rf (some (ad_4 pn_6)) = .ref (ad_4 pn_6) from rfl]
  subst hQ
  have hpost : XI S_3 ∧ Fr (fun j k => j = 0 ∧ j = 1) S S_3 ∧ (∀ j, j < 71 + fC S → ad_4 j = ad j) ∧ ∃ pn, ((some (ad_4 pn_6)) : Option Nat) = some (ad_4 pn) ∧ 71 + fC S ≤ pn ∧ pn < 71 + fC S_3 ∧ fK S_3 pn = 2 ∧ fN S_3 pn = cz ∧ ∀ i, i < z → fR S_3 pn i = fR S pl i := by
    exact ⟨hX_5, hF_6, hg_7, ⟨pn_6, rfl, gn_6, ln_6, kn_6, nn_6, en_6⟩⟩
  refine W.widen (k := 1) (n := 64) (by omega) (by omega) ?_
  exact W.aret hx hb hr (Or.inr ⟨_, rfl⟩) (Or.inr ⟨_, rfl⟩) (fun t_ ht_ hW_ => ⟨⟨(some (ad_4 pn_6)), (S_3, ad_4), rfl, hpost, by rw [ht_]; exact hP, va_K.moved hW_.alike hK, hD⟩, hS.F ht_⟩) hS.2.2 (fk_get fk_cJ7_copyOf_1904c_0 5 rfl)
set_option maxHeartbeats 800000 in
set_option maxRecDepth 100000 in
theorem c_jgrowA1 (l : Launch) (G : GG) (ad : Nat → Nat) (S : FS) (sz : Nat)  (hLA : LA S) (hX : XI S) : Met l yJx4a65c_grow_92f84 (Cond.code yJx4a65c_grow_92f84 cJx4a65c_grow_92f84 4 (some (.array (.object "java/lang/Object"))) :: TBL) ({ frames := 3, cells := 1, slots := 64, locals := 89 } : Room) (PcE G (wX G ad S) sz [.ref (ad 61), .int ((nI 1))]) (va_Qq (fun (r : Option Nat) (u : FS × (Nat → Nat)) => XI u.1 ∧ Fr (fun j k => j = 61) S u.1 ∧ (∀ j, j < 71 + fC S → u.2 j = ad j) ∧ ∃ pl' nz', r = some (u.2 pl') ∧ LB u.1 pl' nz' 0 ∧ 0 < nz' ∧ ∀ i, i < 0 → el u.1 i = el S i) (fun u t => BW G (va_A (wX G ad S) sz) (wX G u.2 u.1) t) (va_A (wX G ad S) sz)) 1 64 (va_A (wX G ad S) sz) := by
  refine va_MetF (cc := cJx4a65c_grow_92f84) (maxL := 4) (ret := (some (.array (.object "java/lang/Object")))) (by decide +kernel) rfl ?_
  intro p e s m args below meth c₀ s₁ B hml hv
  obtain ⟨rfl, hsz, hP, hK, hD0, hE⟩ := hv
  have hx := B.exec
  have hb := B.bytes
  have hr := B.returns
  have hT : ∀ w ∈ TBL, w.before ([.ref (ad 61), .int ((nI 1))] : List Value).toArray s = true := fun w h => atoms_spec (ws := Cond.code yJx4a65c_grow_92f84 cJx4a65c_grow_92f84 4 (some (.array (.object "java/lang/Object"))) :: TBL) B.pre w (List.mem_cons_of_mem _ h)
  have hown : s.vm.findClass "java/util/ArrayList" = some m.cls := findClass_of_methodNamed B.named
  have hlocks := B.notSynchronized
  subst hsz
  have hD := hD0.self (sz := s.heap.size)
  generalize hAe : va_A (wX G ad S) s.heap.size = A at hD hE ⊢
  have hA : ∀ q : Nat, s.heap.size ≤ q → A q := fun q h => by rw [← hAe]; exact Or.inr h
  have hS : va_S A s.heap s.heap [] := va_S.rf
  have hP : va_P G.1 vwCl (wX G ad S) s.heap := hP
  have hl := lv_entry ([.ref (ad 61), .int ((nI 1))]) (n := 4) (Nat.le_of_ble_eq_true rfl)
  rw [lg_entry_eq]
  generalize (lg_sl ([.ref (ad 61), .int ((nI 1))]) ++ List.replicate (4 - (lg_sl ([.ref (ad 61), .int ((nI 1))])).length) Slot.unset).toArray = ls at hl ⊢
  have hl : lv_has ls 4 [(0, .ref (ad 61)), (1, .int ((nI 1)))] := hl
  refine W_abs (fun Q hQ => ?_)
  generalize ([.ref (ad 61), .int ((nI 1))] : List Value).toArray = args at hT hQ ⊢
  refine lv_aload_n hx hb (fk_get fk_cJx4a65c_grow_92f84_0 0 rfl) rfl (lv_at hl 0 rfl) ?_
  refine va_get (D := G.1) (ci := 1) (v := .ref (G.2.2.1)) (C := RJx4a65c) (T := TJx4a65c) (N := 3) hx hb hT inJx4a65c hown hK hP 61 (ix_at (lt71 (by omega)) (cX_lstA (show fR S 61 1 = none from (hLA).1))) rfl 1 (by decide) (hT _ m2_52) (fun _ h9 => h9) rfl (fk_get fk_cJx4a65c_grow_92f84_0 1 rfl) ?_
  refine va_tlen (v := 0) hx hb hE.1.2 hS rfl (fk_get fk_cJx4a65c_grow_92f84_0 2 rfl) ?_
  refine lv_istore_n (lv' := [(2, .int (0)), (0, .ref (ad 61)), (1, .int ((nI 1)))]) hx hb (fk_get fk_cJx4a65c_grow_92f84_0 3 rfl) rfl hl (by decide) rfl (fun ls hl => ?_)
  refine lv_iload_n hx hb (fk_get fk_cJx4a65c_grow_92f84_0 4 rfl) rfl (lv_at hl 0 rfl) ?_
  refine lv_if_gt (tgt := 20) hx hb (fk_get fk_cJx4a65c_grow_92f84_0 5 rfl) (by decide) (fun c_1 => absurd c_1 ((by decide))) (fun _ => ?_)
  refine lv_aload_n hx hb (fk_get fk_cJx4a65c_grow_92f84_0 6 rfl) rfl (lv_at hl 1 rfl) ?_
  refine va_get (D := G.1) (ci := 1) (v := .ref (G.2.2.1)) (C := RJx4a65c) (T := TJx4a65c) (N := 3) hx hb hT inJx4a65c hown hK hP 61 (ix_at (lt71 (by omega)) (cX_lstA (show fR S 61 1 = none from (hLA).1))) rfl 1 (by decide) (hT _ m2_52) (fun _ h9 => h9) rfl (fk_get fk_cJx4a65c_grow_92f84_0 7 rfl) ?_
  refine va_gets (v := .ref G.2.2.1) hx hb hE.1.1 hS hown (hT _ m2_50) (fun _ h9 => h9) (fk_get fk_cJx4a65c_grow_92f84_0 8 rfl) ?_
  refine lv_acmp_eq (rx := some (G.2.2.1)) (ry := some (G.2.2.1)) (tgt := 45) hx hb (dk_get dk_cJx4a65c_grow_92f84_0 0 rfl) (by decide) (fun _ => ?_) (fun h => absurd rfl h)
  refine lv_aload_n hx hb (fk_get fk_cJx4a65c_grow_92f84_0 26 rfl) rfl (lv_at hl 1 rfl) ?_
  refine lv_bipush (v := 10) hx hb (fk_get fk_cJx4a65c_grow_92f84_0 27 rfl) (by decide) ?_
  refine lv_iload_n hx hb (fk_get fk_cJx4a65c_grow_92f84_0 28 rfl) rfl (lv_at hl 2 rfl) ?_
  refine vp_callSi (W.runS (As := [.int (10), .int ((nI 1))]) (rest := [.ref (ad 61)]) ⟨hx, hb, hml, hown, hT⟩ (c_jmax l (10) ((nI 1)) ) (tS 2 hT m4_201 m2_139 m1_18 m2_140 rfl rfl (by decide +kernel) ⟨Nat.le_of_ble_eq_true rfl, Nat.le_of_ble_eq_true rfl⟩) ⟨PcN_blind, PcN_of _ _ _⟩ rfl rfl hl.1 rfl (lv_room (Nat.le_of_ble_eq_true rfl)) (fk_get fk_cJx4a65c_grow_92f84_0 29 rfl) ⟨Nat.zero_le _, Nat.zero_le _⟩) (fun r_2 hw_3 => ?_)
  try dsimp only at hw_3
  have e_ := gr_3 hw_3
  subst e_
  refine r_newq (C := "java/lang/Object") (N' := 10) hx hb hown (hT _ m4_202) hE.2.2.2.2.2.2.2.2.2.1 hK hP hD hS hA 6 rfl (by decide) (by decide) (by decide) (Nat.le_of_ble_eq_true rfl) (Nat.le_of_ble_eq_true rfl) (fk_get fk_cJx4a65c_grow_92f84_0 30 rfl) (fun q_ H hP hD hS => ?_)
  obtain ⟨ad_5, hg_4_, hq_, hPn_, hDn_⟩ := xb 2 10 (fun _ => 0) (fun _ => 0) (fun _ => none) hX (fun _ => rfl) hP hD
  subst hq_
  have hP := hPn_
  have hD := hDn_
  clear hPn_ hDn_
  obtain ⟨S_6, hS_6⟩ : ∃ T, T = gNew S 2 10 (fun _ => 0) (fun _ => 0) (fun _ => none) := ⟨_, rfl⟩
  rw [← hS_6] at hP hD
  have hX_7 : XI S_6 := by rw [hS_6]; exact XI.gnew hX (by intro h; omega)
  have hF_8_ : Fr (fun j _ => j = 0 ∧ j = 1) S S_6 := by rw [hS_6]; exact gNew_fr
  have hF_8 : Fr (fun j k => j = 61) S S_6 := Fr.trans (Fr.rf : Fr (fun j k => j = 61) S S) (Fr.mono hF_8_ (fun j k h => by omega))
  have hg_4 : ∀ j, j < 71 + fC S → ad_5 j = ad j := fun j hj => (hg_4_ j (Nat.lt_of_lt_of_le hj (Nat.add_le_add_left ((Fr.rf : Fr (fun j k => j = 61) S S)).1 71))).trans ((fun _ _ => rfl) j hj)
  obtain ⟨p_9, hp_9⟩ : ∃ p, p = 71 + fC S := ⟨_, rfl⟩
  rw [← hp_9]
  have kp_9 : fK S_6 p_9 = 2 := by rw [hS_6, hp_9]; exact gNew_K _ _ _ _ _ _
  have np_9 : fN S_6 p_9 = 10 := by rw [hS_6, hp_9]; exact gNew_N _ _ _ _ _ _
  have rp_9 : fR S_6 p_9 = (fun _ => none) := by rw [hS_6, hp_9]; exact gNew_R _ _ _ _ _ _
  have cp_9 : fC S_6 = fC S + 1 := by rw [hS_6]; rfl
  have lp_9 : p_9 < 71 + fC S_6 := by omega
  have ep_9 : 71 + fC S ≤ p_9 := by have hc_ := ((Fr.rf : Fr (fun j k => j = 61) S S)).1; omega
  have hl : lv_has ls 4 [(2, .int (0)), (0, .ref (ad_5 61)), (1, .int ((nI 1)))] := by rw [hg_4_ 61 ((lt71 (by omega)))]; exact hl
  rw [← hg_4_ 61 ((lt71 (by omega)))]
  have hLg_10 := (hLA).fr0 hF_8_
  refine lv_dup_x1 hx hb (fk_get fk_cJx4a65c_grow_92f84_0 31 rfl) rfl rfl ?_
  refine va_put (D := G.1) (ci := 1) (v := .ref (ad_5 p_9)) (ty := (.array (.object "java/lang/Object"))) (C := RJx4a65c) (T := TJx4a65c) (N := 3) hx hb hT inJx4a65c tyJx4a65c tyJx4a65c_ok nmJx4a65c hown hK hP hD hS 61 (ix_at (lt71 (by omega)) (cX_lstA (show fR S_6 61 1 = none from (hLg_10).1))) rfl 1 (by decide) (hT _ m2_52) (fun _ h9 => h9) rfl (by decide +kernel) rfl rfl (Nat.le_of_ble_eq_true rfl) (fk_get fk_cJx4a65c_grow_92f84_1 0 rfl) (fun H locs hP hD hS => ?_)
  rw [pX_lstAE (G := G) (ad := ad_5) (S := S_6) (show fR S_6 61 1 = none from (hLg_10).1) p_9] at hP hD
  have hF_11 : Fr (fun j k => j = 61) S (setR S_6 61 1 (some p_9)) := Fr.sR hF_8 (by omega)
  subst hQ
  have hpost : XI (setR S_6 61 1 (some p_9)) ∧ Fr (fun j k => j = 61) S (setR S_6 61 1 (some p_9)) ∧ (∀ j, j < 71 + fC S → ad_5 j = ad j) ∧ ∃ pl' nz', ((some (ad_5 p_9)) : Option Nat) = some (ad_5 pl') ∧ LB (setR S_6 61 1 (some p_9)) pl' nz' 0 ∧ 0 < nz' ∧ ∀ i, i < 0 → el (setR S_6 61 1 (some p_9)) i = el S i := by
    have hL_ := hLA.grown hF_8_ (by omega) lp_9 kp_9 np_9
    exact ⟨XI.grown hX_7 hL_.li, hF_11, hg_4, p_9, 10, rfl, hL_, by omega, fun i hi => absurd hi (by omega)⟩
  refine W.widen (k := 1) (n := 64) (by omega) (by omega) ?_
  exact W.aret hx hb hr (Or.inr ⟨_, rfl⟩) (Or.inr ⟨_, rfl⟩) (fun t_ ht_ hW_ => ⟨⟨(some (ad_5 p_9)), ((setR S_6 61 1 (some p_9)), ad_5), rfl, hpost, by rw [ht_]; exact hP, va_K.moved hW_.alike hK, hD⟩, hS.F ht_⟩) hS.2.2 (fk_get fk_cJx4a65c_grow_92f84_1 1 rfl)
set_option maxHeartbeats 800000 in
set_option maxRecDepth 100000 in
theorem c_jgrowB1 (l : Launch) (G : GG) (ad : Nat → Nat) (S : FS) (sz : Nat) (pl z : Nat) (hLB : LB S pl z z) (hz40 : z ≤ 40) (hX : XI S) : Met l yJx4a65c_grow_92f84 (Cond.code yJx4a65c_grow_92f84 cJx4a65c_grow_92f84 4 (some (.array (.object "java/lang/Object"))) :: TBL) ({ frames := 5, cells := 1, slots := 64, locals := 141 } : Room) (PcE G (wX G ad S) sz [.ref (ad 61), .int ((nI (z + 1)))]) (va_Qq (fun (r : Option Nat) (u : FS × (Nat → Nat)) => XI u.1 ∧ Fr (fun j k => j = 61) S u.1 ∧ (∀ j, j < 71 + fC S → u.2 j = ad j) ∧ ∃ pl' nz', r = some (u.2 pl') ∧ LB u.1 pl' nz' z ∧ z < nz' ∧ ∀ i, i < z → el u.1 i = el S i) (fun u t => BW G (va_A (wX G ad S) sz) (wX G u.2 u.1) t) (va_A (wX G ad S) sz)) 1 64 (va_A (wX G ad S) sz) := by
  refine va_MetF (cc := cJx4a65c_grow_92f84) (maxL := 4) (ret := (some (.array (.object "java/lang/Object")))) (by decide +kernel) rfl ?_
  intro p e s m args below meth c₀ s₁ B hml hv
  obtain ⟨rfl, hsz, hP, hK, hD0, hE⟩ := hv
  have hx := B.exec
  have hb := B.bytes
  have hr := B.returns
  have hT : ∀ w ∈ TBL, w.before ([.ref (ad 61), .int ((nI (z + 1)))] : List Value).toArray s = true := fun w h => atoms_spec (ws := Cond.code yJx4a65c_grow_92f84 cJx4a65c_grow_92f84 4 (some (.array (.object "java/lang/Object"))) :: TBL) B.pre w (List.mem_cons_of_mem _ h)
  have hown : s.vm.findClass "java/util/ArrayList" = some m.cls := findClass_of_methodNamed B.named
  have hlocks := B.notSynchronized
  subst hsz
  have hD := hD0.self (sz := s.heap.size)
  generalize hAe : va_A (wX G ad S) s.heap.size = A at hD hE ⊢
  have hA : ∀ q : Nat, s.heap.size ≤ q → A q := fun q h => by rw [← hAe]; exact Or.inr h
  have hS : va_S A s.heap s.heap [] := va_S.rf
  have hP : va_P G.1 vwCl (wX G ad S) s.heap := hP
  have hl := lv_entry ([.ref (ad 61), .int ((nI (z + 1)))]) (n := 4) (Nat.le_of_ble_eq_true rfl)
  rw [lg_entry_eq]
  generalize (lg_sl ([.ref (ad 61), .int ((nI (z + 1)))]) ++ List.replicate (4 - (lg_sl ([.ref (ad 61), .int ((nI (z + 1)))])).length) Slot.unset).toArray = ls at hl ⊢
  have hl : lv_has ls 4 [(0, .ref (ad 61)), (1, .int ((nI (z + 1))))] := hl
  refine W_abs (fun Q hQ => ?_)
  generalize ([.ref (ad 61), .int ((nI (z + 1)))] : List Value).toArray = args at hT hQ ⊢
  have hz2 := hLB.2.2.2.2.2.1
  refine lv_aload_n hx hb (fk_get fk_cJx4a65c_grow_92f84_0 0 rfl) rfl (lv_at hl 0 rfl) ?_
  refine va_get (D := G.1) (ci := 1) (v := .ref (ad pl)) (C := RJx4a65c) (T := TJx4a65c) (N := 3) hx hb hT inJx4a65c hown hK hP 61 (ix_at (lt71 (by omega)) (cX_lstB (show fR S 61 1 = some pl from (hLB).1))) rfl 1 (by decide) (hT _ m2_52) (fun _ h9 => h9) rfl (fk_get fk_cJx4a65c_grow_92f84_0 1 rfl) ?_
  refine va_alen hx hb hK hP pl 6 (ix_at (hLB).2.2.1 (cX_obsn (show LB S pl z z from hLB))) rfl (v := nI z) rfl (fk_get fk_cJx4a65c_grow_92f84_0 2 rfl) ?_
  refine lv_istore_n (lv' := [(2, .int ((nI z))), (0, .ref (ad 61)), (1, .int ((nI (z + 1))))]) hx hb (fk_get fk_cJx4a65c_grow_92f84_0 3 rfl) rfl hl (by decide) rfl (fun ls hl => ?_)
  refine lv_iload_n hx hb (fk_get fk_cJx4a65c_grow_92f84_0 4 rfl) rfl (lv_at hl 0 rfl) ?_
  refine lv_if_gt (tgt := 20) hx hb (fk_get fk_cJx4a65c_grow_92f84_0 5 rfl) (by decide) (fun _ => ?_) (fun c_1 => absurd ((show nI 0 < nI z from nI_lt (by omega) (by omega))) c_1)
  refine lv_iload_n hx hb (fk_get fk_cJx4a65c_grow_92f84_0 9 rfl) rfl (lv_at hl 0 rfl) ?_
  refine lv_iload_n hx hb (fk_get fk_cJx4a65c_grow_92f84_0 10 rfl) rfl (lv_at hl 2 rfl) ?_
  refine lv_iload_n hx hb (fk_get fk_cJx4a65c_grow_92f84_0 11 rfl) rfl (lv_at hl 0 rfl) ?_
  refine lv_isub hx hb (fk_get fk_cJx4a65c_grow_92f84_0 12 rfl) ?_
  rw [show ((nI (z + 1)) - (nI z)) = 1 from gr_1 z]
  refine lv_iload_n hx hb (fk_get fk_cJx4a65c_grow_92f84_0 13 rfl) rfl (lv_at hl 0 rfl) ?_
  refine lv_iconst (v := 1) hx hb (fk_get fk_cJx4a65c_grow_92f84_0 14 rfl) (by decide) ?_
  refine lv_ishr hx hb (fk_get fk_cJx4a65c_grow_92f84_0 15 rfl) ?_
  rw [show ((nI z) >>> (1 &&& 31)) = (nI (z / 2)) from gr_2 hz40]
  refine vp_callSi (W.runS (As := [.int ((nI z)), .int (1), .int ((nI (z / 2)))]) (rest := []) ⟨hx, hb, hml, hown, hT⟩ (c_jnewlen l (z) (by first | assumption | omega) (by first | assumption | omega)) (tS 3 hT m4_165 m4_166 m1_28 m4_167 rfl rfl (by decide +kernel) ⟨Nat.le_of_ble_eq_true rfl, Nat.le_of_ble_eq_true rfl⟩) ⟨PcN_blind, PcN_of _ _ _⟩ rfl rfl hl.1 rfl (lv_room (Nat.le_of_ble_eq_true rfl)) (fk_get fk_cJx4a65c_grow_92f84_0 16 rfl) ⟨Nat.zero_le _, Nat.zero_le _⟩) (fun r_2 hw_3 => ?_)
  try dsimp only at hw_3
  subst hw_3
  refine lv_istore_n (lv' := [(3, .int ((nI (z + z / 2)))), (2, .int ((nI z))), (0, .ref (ad 61)), (1, .int ((nI (z + 1))))]) hx hb (fk_get fk_cJx4a65c_grow_92f84_0 17 rfl) rfl hl (by decide) rfl (fun ls hl => ?_)
  refine lv_aload_n hx hb (fk_get fk_cJx4a65c_grow_92f84_0 18 rfl) rfl (lv_at hl 2 rfl) ?_
  refine lv_aload_n hx hb (fk_get fk_cJx4a65c_grow_92f84_0 19 rfl) rfl (lv_at hl 2 rfl) ?_
  refine va_get (D := G.1) (ci := 1) (v := .ref (ad pl)) (C := RJx4a65c) (T := TJx4a65c) (N := 3) hx hb hT inJx4a65c hown hK hP 61 (ix_at (lt71 (by omega)) (cX_lstB (show fR S 61 1 = some pl from (hLB).1))) rfl 1 (by decide) (hT _ m2_52) (fun _ h9 => h9) rfl (fk_get fk_cJx4a65c_grow_92f84_0 20 rfl) ?_
  refine lv_iload_n hx hb (fk_get fk_cJx4a65c_grow_92f84_0 21 rfl) rfl (lv_at hl 0 rfl) ?_
  have hFc := va_self hD hS hA
  refine va_callq (va_runS (As := [.ref (ad pl), .int ((nI (z + z / 2)))]) (rest := [.ref (ad 61)]) ⟨hx, hb, hml, hown, hT⟩ (c_jcopyO l G ad S s.heap.size (pl) (z) (z + z / 2) (hLB) (by first | assumption | omega) (by first | assumption | omega) (hX)) (tS 2 hT m4_173 m4_174 m1_16 m4_175 rfl rfl (by decide +kernel) ⟨Nat.le_of_ble_eq_true rfl, Nat.le_of_ble_eq_true rfl⟩) ⟨PcE_blind, PcE_of hP hK hD hE hS (fun q h => hFc q h) _⟩ rfl rfl hl.1 rfl (lv_room (Nat.le_of_ble_eq_true rfl)) (fk_get fk_cJx4a65c_grow_92f84_0 22 rfl) ⟨Nat.le_of_ble_eq_true rfl, Nat.le_of_ble_eq_true rfl⟩) hS (fun q _ h => hFc q h) hFc (fun r_4 u_ t_ H locs ht_ hvm_ hw_5 hB_ hz_ hk_ hS => ?_)
  obtain ⟨S_6, ad_7⟩ := u_
  dsimp only at hB_ hw_5
  obtain ⟨hP, -, hD1_⟩ := hB_
  rw [ht_] at hP
  have hD : va_D A (wX G ad_7 S_6) := hD1_.weaken (fun k q _ h => hFc q.1 h)
  obtain ⟨hX_8, hF_9_, hg_10_, hw_5⟩ := hw_5
  have hg_10 : ∀ j, j < 71 + fC S → ad_7 j = ad j := fun j hj => (hg_10_ j (Nat.lt_of_lt_of_le hj (Nat.add_le_add_left ((Fr.rf : Fr (fun j k => j = 61) S S)).1 71))).trans ((fun _ _ => rfl) j hj)
  have hF_9 : Fr (fun j k => j = 61) S S_6 := Fr.tr (Fr.rf : Fr (fun j k => j = 61) S S) hF_9_ (fun j k hj h => by have hc_ := ((Fr.rf : Fr (fun j k => j = 61) S S)).1; omega)
  have hl : lv_has ls 4 [(3, .int ((nI (z + z / 2)))), (2, .int ((nI z))), (0, .ref (ad_7 61)), (1, .int ((nI (z + 1))))] := by rw [hg_10_ 61 ((lt71 (by omega)))]; exact hl
  rw [← hg_10_ 61 ((lt71 (by omega)))]
  have hLg_11 := (hLB).fr0 hF_9_
  obtain ⟨pn_37, rfl, gn_37, ln_37, kn_37, nn_37, en_37⟩ := hw_5
  rw [show va_rf (some (ad_7 pn_37)) = .ref (ad_7 pn_37) from rfl]
  refine lv_dup_x1 hx hb (fk_get fk_cJx4a65c_grow_92f84_0 23 rfl) rfl rfl ?_
  refine va_put (D := G.1) (ci := 1) (v := .ref (ad_7 pn_37)) (ty := (.array (.object "java/lang/Object"))) (C := RJx4a65c) (T := TJx4a65c) (N := 3) hx hb hT inJx4a65c tyJx4a65c tyJx4a65c_ok nmJx4a65c hown hK hP hD hS 61 (ix_at (lt71 (by omega)) (cX_lstB (show fR S_6 61 1 = some pl from (hLg_11).1))) rfl 1 (by decide) (hT _ m2_52) (fun _ h9 => h9) rfl (by decide +kernel) rfl rfl (Nat.le_of_ble_eq_true rfl) (fk_get fk_cJx4a65c_grow_92f84_0 24 rfl) (fun H locs hP hD hS => ?_)
  rw [pX_lstBE (G := G) (ad := ad_7) (S := S_6) (show fR S_6 61 1 = some pl from (hLg_11).1) pn_37] at hP hD
  have hF_12 : Fr (fun j k => j = 61) S (setR S_6 61 1 (some pn_37)) := Fr.sR hF_9 (by omega)
  subst hQ
  have hpost : XI (setR S_6 61 1 (some pn_37)) ∧ Fr (fun j k => j = 61) S (setR S_6 61 1 (some pn_37)) ∧ (∀ j, j < 71 + fC S → ad_7 j = ad j) ∧ ∃ pl' nz', ((some (ad_7 pn_37)) : Option Nat) = some (ad_7 pl') ∧ LB (setR S_6 61 1 (some pn_37)) pl' nz' z ∧ z < nz' ∧ ∀ i, i < z → el (setR S_6 61 1 (some pn_37)) i = el S i := by
    obtain ⟨hL_, hel_⟩ := hLB.grown hF_9_ (by omega) ln_37 kn_37 nn_37 (by omega) en_37
    exact ⟨XI.grown hX_8 hL_.li, hF_12, hg_10, pn_37, z + z / 2, rfl, hL_, by omega, hel_⟩
  refine W.widen (k := 1) (n := 64) (by omega) (by omega) ?_
  exact W.aret hx hb hr (Or.inr ⟨_, rfl⟩) (Or.inr ⟨_, rfl⟩) (fun t_ ht_ hW_ => ⟨⟨(some (ad_7 pn_37)), ((setR S_6 61 1 (some pn_37)), ad_7), rfl, hpost, by rw [ht_]; exact hP, va_K.moved hW_.alike hK, hD⟩, hS.F ht_⟩) hS.2.2 (fk_get fk_cJx4a65c_grow_92f84_0 25 rfl)
