set_option maxHeartbeats 1600000 in
theorem law_0 {p : Program} {l : Launch} {e : Env} {s : State} {m : MethodId} {below : List Frame} {meth : Method} {c : Code} {H : Heap} {locs : List Loc} {cells slots : Nat} {Q : State → Prop} {ls : Array Slot} {b L i : Nat} {xs : Nat → Int32} {G : GG} {aX aR : Nat → Nat} {SX SR : FS} (C0 : lw_At p s m meth c b L xs) (hK : va_K G.1 vwCl (TYS G) s) (hE : EN G (AL s) s s.heap) (hin1 : vp_in (nI i + 1) L) (hin2 : vp_in (nI i + 2) L) (hin3 : vp_in (nI i + 3) L) (hin4 : vp_in (nI i + 4) L) (hin5 : vp_in (nI i + 5) L) (hV : LV G s H locs aX aR SX SR) (hX : XI SX) (hR : RI SR) (hL : LK SX SR) (hM0 : LE SX SR)
    (hl : lv_has ls 4 [(3, .int (nI i)), (2, .ref (aR 0)), (1, .ref (aX 0)), (0, .ref b)]) (hc : cells + 12 ≤ 600000) (hs : slots + 768 ≤ 7302250)
    (kk : ∀ (aX1 : Nat → Nat) (SX1 SR1 : FS) (H1 : Heap) (locs1 : List Loc), LV G s H1 locs1 aX1 aR SX1 SR1 → XI SX1 → RI SR1 → LK SX1 SR1 → LE SX1 SR1 → aX1 0 = aX 0 → W p l e room_1 s m #[Value.ref b] below meth c H1 locs1 (cells + 12) (slots + 768) Q (F0 m 1280 ls [])) : W p l e room_1 s m #[Value.ref b] below meth c H locs cells slots Q (F0 m 192 ls []) := by
  obtain ⟨hx, hb, hr, hml, hown, hts, hXs, hbl, hlocks, hgv⟩ := id C0
  have hT : ∀ w ∈ TBL, w.before #[Value.ref b] s = true := fun w h => hts w (tbl_in w h)
  have hbA : ¬ AL s b := Nat.not_le.mpr hbl
  obtain ⟨⟨⟨hM, hN, hTL⟩, hLC⟩, hQ⟩ := hM0
  obtain ⟨n, pz, zq, K, τ, C, hU⟩ := eq_cu hQ
  obtain ⟨hn6, hn, hcf, h99, hgg, hgc, hHq⟩ := id hU
  have hgcx : ∀ d, d < n → GC 9999 (gX SX (21 + 6 * 0 + d) (K d)) := fun d hd => by rw [hgg d hd]; exact hgc d hd
  have ho : fF SX (9 + 0) 6 = fF SR 0 2 := hL.1 6 (by omega) (by omega)
  have hofx : ∃ o : Nat, o ≤ 30 ∧ fF SX (9 + 0) 6 = nI o := hQ.1.2.1
  have hofr : ∃ o : Nat, o ≤ 30 ∧ fF SR 0 2 = nI o := by rw [← ho]; exact hofx
  have hHX := hHq.hox
  have h99r := mU_99 h99
  have hg01 := gc_7 hgc
  refine lv_aload_n hx hb (fk_get fk_cL_law_0 21 rfl) rfl (lv_at hl 2 rfl) ?_
  refine lv_aload_n hx hb (fk_get fk_cL_law_0 22 rfl) rfl (lv_at hl 3 rfl) ?_
  refine lv_iload_n hx hb (fk_get fk_cL_law_0 23 rfl) rfl (lv_at hl 0 rfl) ?_
  refine lv_iconst (v := 1) hx hb (fk_get fk_cL_law_0 24 rfl) (by decide) ?_
  refine lv_iadd hx hb (fk_get fk_cL_law_0 25 rfl) ?_
  refine va_sld hx hb hXs hbl hbA hV.1 hin1 (fk_get fk_cL_law_0 26 rfl) ?_
  refine lv_aload_n hx hb (fk_get fk_cL_law_0 27 rfl) rfl (lv_at hl 3 rfl) ?_
  refine lv_iload_n hx hb (fk_get fk_cL_law_0 28 rfl) rfl (lv_at hl 0 rfl) ?_
  refine lv_iconst (v := 2) hx hb (fk_get fk_cL_law_0 29 rfl) (by decide) ?_
  refine lv_iadd hx hb (fk_get fk_cL_law_0 30 rfl) ?_
  refine va_sld hx hb hXs hbl hbA hV.1 hin2 (fk_get fk_cL_law_0 31 rfl) ?_
  refine lv_aload_n hx hb (fk_get fk_cL_law_1 0 rfl) rfl (lv_at hl 3 rfl) ?_
  refine lv_iload_n hx hb (fk_get fk_cL_law_1 1 rfl) rfl (lv_at hl 0 rfl) ?_
  refine lv_iconst (v := 3) hx hb (fk_get fk_cL_law_1 2 rfl) (by decide) ?_
  refine lv_iadd hx hb (fk_get fk_cL_law_1 3 rfl) ?_
  refine va_sld hx hb hXs hbl hbA hV.1 hin3 (fk_get fk_cL_law_1 4 rfl) ?_
  obtain ⟨hS, hPX, hDX, hPR, hDR, hdis⟩ := id hV
  refine lx_i hV (va_runV (As := [.int (xs (nI i + 1).toNatClampNeg), .int (xs (nI i + 2).toNatClampNeg), .int (xs (nI i + 3).toNatClampNeg)]) (rest := []) ⟨hx, hb, hml, hown, hT⟩ (c_x11_customer l G aX SX H.size n ((xs (nI i + 1).toNatClampNeg)) ((xs (nI i + 2).toNatClampNeg)) ((xs (nI i + 3).toNatClampNeg)) (by assumption) (by assumption) (by assumption)) (tV 3 hT m2_104 m2_105 m2_106 m1_1 m2_107 rfl rfl (by decide +kernel) ⟨Nat.le_of_ble_eq_true rfl, Nat.le_of_ble_eq_true rfl⟩) ⟨PcW_blind, va_recv hK hPX (ci := 13) (q0 := 0) rfl (ix_at (lt71 (by omega)) (cX_0 G aX SX)), PcW_of hPX hK hDX _⟩ rfl rfl hl.1 rfl (lv_room (Nat.le_of_ble_eq_true rfl)) (fk_get fk_cL_law_1 5 rfl) ⟨(by show cells + 0 ≤ 600000; omega), (by show slots + 0 ≤ 7302250; omega)⟩) (fun rX SX1 H locs hwX hV => ?_)
  try dsimp only at hwX
  have hXK : XK 3 SX SX1 := xk_e 3 hwX.2.1 (fun k h1 h2 h3 q => by omega) (fun q => by omega) (fun k h1 h2 q => by omega)
  refine lv_pop hx hb (fk_get fk_cL_law_1 6 rfl) rfl ?_
  refine lv_aload_n hx hb (fk_get fk_cL_law_1 7 rfl) rfl (lv_at hl 1 rfl) ?_
  refine lv_aload_n hx hb (fk_get fk_cL_law_1 8 rfl) rfl (lv_at hl 3 rfl) ?_
  refine lv_iload_n hx hb (fk_get fk_cL_law_1 9 rfl) rfl (lv_at hl 0 rfl) ?_
  refine lv_iconst (v := 1) hx hb (fk_get fk_cL_law_1 10 rfl) (by decide) ?_
  refine lv_iadd hx hb (fk_get fk_cL_law_1 11 rfl) ?_
  refine va_sld hx hb hXs hbl hbA hV.1 hin1 (fk_get fk_cL_law_1 12 rfl) ?_
  refine lv_aload_n hx hb (fk_get fk_cL_law_1 13 rfl) rfl (lv_at hl 3 rfl) ?_
  refine lv_iload_n hx hb (fk_get fk_cL_law_1 14 rfl) rfl (lv_at hl 0 rfl) ?_
  refine lv_iconst (v := 2) hx hb (fk_get fk_cL_law_1 15 rfl) (by decide) ?_
  refine lv_iadd hx hb (fk_get fk_cL_law_1 16 rfl) ?_
  refine va_sld hx hb hXs hbl hbA hV.1 hin2 (fk_get fk_cL_law_1 17 rfl) ?_
  refine lv_aload_n hx hb (fk_get fk_cL_law_1 18 rfl) rfl (lv_at hl 3 rfl) ?_
  refine lv_iload_n hx hb (fk_get fk_cL_law_1 19 rfl) rfl (lv_at hl 0 rfl) ?_
  refine lv_iconst (v := 3) hx hb (fk_get fk_cL_law_1 20 rfl) (by decide) ?_
  refine lv_iadd hx hb (fk_get fk_cL_law_1 21 rfl) ?_
  refine va_sld hx hb hXs hbl hbA hV.1 hin3 (fk_get fk_cL_law_1 22 rfl) ?_
  obtain ⟨hS, hPX, hDX, hPR, hDR, hdis⟩ := id hV
  obtain ⟨n', z', u', tx, tr, nc, r1, r2, rH, rV, r15, r5, r5b, r7, r7b, rc, r17, r17b, rT, r40, r40b, r20, r20b⟩ := ri_all hR
  have en_ : n = n' := (nI_eq (by omega) (by omega)).mp ((n_of_lk hn hL).symm.trans r1)
  subst en_
  refine lr_i hV (va_runV (As := [.int (xs (nI i + 1).toNatClampNeg), .int (xs (nI i + 2).toNatClampNeg), .int (xs (nI i + 3).toNatClampNeg)]) (rest := []) ⟨hx, hb, hml, hown, hT⟩ (c_customer l G aR SR H.size n ((xs (nI i + 1).toNatClampNeg)) ((xs (nI i + 2).toNatClampNeg)) ((xs (nI i + 3).toNatClampNeg)) (by assumption) (by assumption)) (tV 3 hT m6_94 m6_95 m6_96 m1_17 m6_97 rfl rfl (by decide +kernel) ⟨Nat.le_of_ble_eq_true rfl, Nat.le_of_ble_eq_true rfl⟩) ⟨PcW_blind, va_recv hK hPR (ci := 14) (q0 := 0) rfl (ix_at (by decide) (cR_0 G aR SR)), PcW_of hPR hK hDR _⟩ rfl rfl hl.1 rfl (lv_room (Nat.le_of_ble_eq_true rfl)) (fk_get fk_cL_law_1 23 rfl) ⟨(by show cells + 0 + 0 ≤ 600000; omega), (by show slots + 0 + 0 ≤ 7302250; omega)⟩) (fun rR SR1 H locs hwR hV => ?_)
  try dsimp only at hwR
  have h1 := n_of_lk hn hL
  obtain ⟨hR1, hRK⟩ := ri_cust hR r1 r2 hwR.2
  have hQ1 := eq_cust hQ hU h1 hwX.2.2 hwX.2.1 r1 r2 hwR.2
  obtain ⟨hrr, hL1⟩ := lk_cust hn hn6 hL hwX.2.2 hXK hwR.1 r1 r2 hwR.2 hRK
  have hM1 := lm_A hM hwX.2.1 (fun q => by omega) (fun q => by omega) (fun t ht => (fun q => by omega)) (rz_cust hwR.2) (ckk_cust2 hn hn6 hL hM.2.1 hwX.2.2 hwX.2.1 r1 r2 hwR.2)
  have hC1 := lc_step hLC hwX.2.1 (fun q => by omega) (fun q => by omega) (fun q => by omega) (rt_if hwR.2 (rt_if rfl (rt_if rfl (rt_if rfl rt_T (rt_af (by omega) (by omega) (by omega))) rt_T) rt_T) rt_T)
  have hN1 : LN SX1 SR1 := ⟨hM1, nu_step hN hwX.2.1 (fun c hc => (fun q => by omega)), tl_step hTL hX hwX.2.1 (fun q => by omega) (fun q => by omega) (fun p k hp => (fun q => by omega)) (ry_if hwR.2 (ry_if rfl (ry_if rfl (ry_if rfl ry_T (ry_af (by omega) (by omega))) ry_T) ry_T) ry_T)⟩
  refine lv_pop hx hb (fk_get fk_cL_law_1 24 rfl) rfl ?_
  refine lv_goto (tgt := 1280) hx hb (fk_get fk_cL_law_1 25 rfl) (by decide) ?_
  refine W.widen (k := cells + 12) (n := slots + 768) (by show cells + 0 + 0 ≤ cells + 12; omega) (by show slots + 0 + 0 ≤ slots + 768; omega) ?_
  exact kk aX SX1 SR1 H locs hV hwX.1 hR1 hL1 ⟨⟨hN1, hC1⟩, hQ1⟩ rfl
set_option maxHeartbeats 1600000 in
theorem law_1 {p : Program} {l : Launch} {e : Env} {s : State} {m : MethodId} {below : List Frame} {meth : Method} {c : Code} {H : Heap} {locs : List Loc} {cells slots : Nat} {Q : State → Prop} {ls : Array Slot} {b L i : Nat} {xs : Nat → Int32} {G : GG} {aX aR : Nat → Nat} {SX SR : FS} (C0 : lw_At p s m meth c b L xs) (hK : va_K G.1 vwCl (TYS G) s) (hE : EN G (AL s) s s.heap) (hin1 : vp_in (nI i + 1) L) (hin2 : vp_in (nI i + 2) L) (hin3 : vp_in (nI i + 3) L) (hin4 : vp_in (nI i + 4) L) (hin5 : vp_in (nI i + 5) L) (hV : LV G s H locs aX aR SX SR) (hX : XI SX) (hR : RI SR) (hL : LK SX SR) (hM0 : LE SX SR)
    (hl : lv_has ls 4 [(3, .int (nI i)), (2, .ref (aR 0)), (1, .ref (aX 0)), (0, .ref b)]) (hc : cells + 12 ≤ 600000) (hs : slots + 768 ≤ 7302250)
    (kk : ∀ (aX1 : Nat → Nat) (SX1 SR1 : FS) (H1 : Heap) (locs1 : List Loc), LV G s H1 locs1 aX1 aR SX1 SR1 → XI SX1 → RI SR1 → LK SX1 SR1 → LE SX1 SR1 → aX1 0 = aX 0 → W p l e room_1 s m #[Value.ref b] below meth c H1 locs1 (cells + 12) (slots + 768) Q (F0 m 1280 ls [])) : W p l e room_1 s m #[Value.ref b] below meth c H locs cells slots Q (F0 m 235 ls []) := by
  obtain ⟨hx, hb, hr, hml, hown, hts, hXs, hbl, hlocks, hgv⟩ := id C0
  have hT : ∀ w ∈ TBL, w.before #[Value.ref b] s = true := fun w h => hts w (tbl_in w h)
  have hbA : ¬ AL s b := Nat.not_le.mpr hbl
  obtain ⟨⟨⟨hM, hN, hTL⟩, hLC⟩, hQ⟩ := hM0
  obtain ⟨n, pz, zq, K, τ, C, hU⟩ := eq_cu hQ
  obtain ⟨hn6, hn, hcf, h99, hgg, hgc, hHq⟩ := id hU
  have hgcx : ∀ d, d < n → GC 9999 (gX SX (21 + 6 * 0 + d) (K d)) := fun d hd => by rw [hgg d hd]; exact hgc d hd
  have ho : fF SX (9 + 0) 6 = fF SR 0 2 := hL.1 6 (by omega) (by omega)
  have hofx : ∃ o : Nat, o ≤ 30 ∧ fF SX (9 + 0) 6 = nI o := hQ.1.2.1
  have hofr : ∃ o : Nat, o ≤ 30 ∧ fF SR 0 2 = nI o := by rw [← ho]; exact hofx
  have hHX := hHq.hox
  have h99r := mU_99 h99
  have hg01 := gc_7 hgc
  refine lv_aload_n hx hb (fk_get fk_cL_law_1 26 rfl) rfl (lv_at hl 2 rfl) ?_
  refine lv_aload_n hx hb (fk_get fk_cL_law_1 27 rfl) rfl (lv_at hl 3 rfl) ?_
  refine lv_iload_n hx hb (fk_get fk_cL_law_1 28 rfl) rfl (lv_at hl 0 rfl) ?_
  refine lv_iconst (v := 1) hx hb (fk_get fk_cL_law_1 29 rfl) (by decide) ?_
  refine lv_iadd hx hb (fk_get fk_cL_law_1 30 rfl) ?_
  refine va_sld hx hb hXs hbl hbA hV.1 hin1 (fk_get fk_cL_law_1 31 rfl) ?_
  refine lv_aload_n hx hb (fk_get fk_cL_law_2 0 rfl) rfl (lv_at hl 3 rfl) ?_
  refine lv_iload_n hx hb (fk_get fk_cL_law_2 1 rfl) rfl (lv_at hl 0 rfl) ?_
  refine lv_iconst (v := 2) hx hb (fk_get fk_cL_law_2 2 rfl) (by decide) ?_
  refine lv_iadd hx hb (fk_get fk_cL_law_2 3 rfl) ?_
  refine va_sld hx hb hXs hbl hbA hV.1 hin2 (fk_get fk_cL_law_2 4 rfl) ?_
  obtain ⟨hS, hPX, hDX, hPR, hDR, hdis⟩ := id hV
  refine vp_callSi (W.runV (As := [.int (xs (nI i + 1).toNatClampNeg), .int (xs (nI i + 2).toNatClampNeg)]) (rest := []) ⟨hx, hb, hml, hown, hT⟩ (c_x11_ofX l G aX SX H.size n pz K τ C ((xs (nI i + 1).toNatClampNeg)) ((xs (nI i + 2).toNatClampNeg)) (by assumption) (by assumption) (by assumption) (by assumption) (by assumption) (by assumption)) (tV 2 hT m2_116 m2_117 m2_118 m1_1 m2_119 rfl rfl (by decide +kernel) ⟨Nat.le_of_ble_eq_true rfl, Nat.le_of_ble_eq_true rfl⟩) ⟨PcW_blind, va_recv hK hPX (ci := 13) (q0 := 0) rfl (ix_at (lt71 (by omega)) (cX_0 G aX SX)), PcW_of hPX hK hDX _⟩ rfl rfl hl.1 rfl (lv_room (Nat.le_of_ble_eq_true rfl)) (fk_get fk_cL_law_2 5 rfl) ⟨(by show cells + 0 ≤ 600000; omega), (by show slots + 0 ≤ 7302250; omega)⟩) (fun rX hwX => ?_)
  have hXK : XK 0 SX SX := xk_rf
  refine lv_pop hx hb (fk_get fk_cL_law_2 6 rfl) rfl ?_
  refine lv_aload_n hx hb (fk_get fk_cL_law_2 7 rfl) rfl (lv_at hl 1 rfl) ?_
  refine lv_aload_n hx hb (fk_get fk_cL_law_2 8 rfl) rfl (lv_at hl 3 rfl) ?_
  refine lv_iload_n hx hb (fk_get fk_cL_law_2 9 rfl) rfl (lv_at hl 0 rfl) ?_
  refine lv_iconst (v := 1) hx hb (fk_get fk_cL_law_2 10 rfl) (by decide) ?_
  refine lv_iadd hx hb (fk_get fk_cL_law_2 11 rfl) ?_
  refine va_sld hx hb hXs hbl hbA hV.1 hin1 (fk_get fk_cL_law_2 12 rfl) ?_
  refine lv_aload_n hx hb (fk_get fk_cL_law_2 13 rfl) rfl (lv_at hl 3 rfl) ?_
  refine lv_iload_n hx hb (fk_get fk_cL_law_2 14 rfl) rfl (lv_at hl 0 rfl) ?_
  refine lv_iconst (v := 2) hx hb (fk_get fk_cL_law_2 15 rfl) (by decide) ?_
  refine lv_iadd hx hb (fk_get fk_cL_law_2 16 rfl) ?_
  refine va_sld hx hb hXs hbl hbA hV.1 hin2 (fk_get fk_cL_law_2 17 rfl) ?_
  obtain ⟨hS, hPX, hDX, hPR, hDR, hdis⟩ := id hV
  obtain ⟨n', z', u', tx, tr, nc, r1, r2, rH, rV, r15, r5, r5b, r7, r7b, rc, r17, r17b, rT, r40, r40b, r20, r20b⟩ := ri_all hR
  have en_ : n = n' := (nI_eq (by omega) (by omega)).mp ((n_of_lk hn hL).symm.trans r1)
  subst en_
  refine lr_i hV (va_runV (As := [.int (xs (nI i + 1).toNatClampNeg), .int (xs (nI i + 2).toNatClampNeg)]) (rest := []) ⟨hx, hb, hml, hown, hT⟩ (c_ofX l G aR SR H.size zq τ (mU C) n ((xs (nI i + 1).toNatClampNeg)) ((xs (nI i + 2).toNatClampNeg)) (by assumption) (by assumption) (by assumption) (by assumption) (by assumption) (by assumption)) (tV 2 hT m6_106 m6_107 m6_108 m1_17 m6_109 rfl rfl (by decide +kernel) ⟨Nat.le_of_ble_eq_true rfl, Nat.le_of_ble_eq_true rfl⟩) ⟨PcW_blind, va_recv hK hPR (ci := 14) (q0 := 0) rfl (ix_at (by decide) (cR_0 G aR SR)), PcW_of hPR hK hDR _⟩ rfl rfl hl.1 rfl (lv_room (Nat.le_of_ble_eq_true rfl)) (fk_get fk_cL_law_2 18 rfl) ⟨(by show cells + 0 ≤ 600000; omega), (by show slots + 0 ≤ 7302250; omega)⟩) (fun rR SR1 H locs hwR hV => ?_)
  try dsimp only at hwR
  have h1 := n_of_lk hn hL
  obtain ⟨hR1, hRK⟩ := ri_H hR hwR.1
  have hL1 := lk_step hL hXK hRK
  have hM1 := lm_step hM (Fr.rf : Fr (fun _ _ => False) SX SX) (fun q => q) (fun q => q) (fun t ht => (fun q => q)) (fun q => q) (fun q => q) (fun q => q) (fun c hc => ⟨(fun q => q), (fun q => q), (fun q => q)⟩) (rz_H hwR.1) hRK.2.2
  have hC1 := lc_step hLC (Fr.rf : Fr (fun _ _ => False) SX SX) (fun q => q) (fun q => q) (fun q => q) (rt_H hwR.1)
  have hrr := q_of ho hn6 hgg hwX hwR.2
  have hQ1 := eq_step hQ (Fr.rf : Fr (fun _ _ => False) SX SX) np_F np_F (fun q => q) (fun _ _ _ q => q) (re_H hwR.1) hRK.2.2
  have hN1 : LN SX SR1 := ⟨hM1, nu_step hN (Fr.rf : Fr (fun _ _ => False) SX SX) (fun c hc => (fun q => q)), tl_step hTL hX (Fr.rf : Fr (fun _ _ => False) SX SX) (fun q => q) (fun q => q) (fun p k hp => (fun q => q)) (ry_H hwR.1)⟩
  refine lv_pop hx hb (fk_get fk_cL_law_2 19 rfl) rfl ?_
  refine lv_goto (tgt := 1280) hx hb (fk_get fk_cL_law_2 20 rfl) (by decide) ?_
  refine W.widen (k := cells + 12) (n := slots + 768) (by show cells + 0 ≤ cells + 12; omega) (by show slots + 0 ≤ slots + 768; omega) ?_
  exact kk aX SX SR1 H locs hV hX hR1 hL1 ⟨⟨hN1, hC1⟩, hQ1⟩ rfl
set_option maxHeartbeats 1600000 in
theorem law_2 {p : Program} {l : Launch} {e : Env} {s : State} {m : MethodId} {below : List Frame} {meth : Method} {c : Code} {H : Heap} {locs : List Loc} {cells slots : Nat} {Q : State → Prop} {ls : Array Slot} {b L i : Nat} {xs : Nat → Int32} {G : GG} {aX aR : Nat → Nat} {SX SR : FS} (C0 : lw_At p s m meth c b L xs) (hK : va_K G.1 vwCl (TYS G) s) (hE : EN G (AL s) s s.heap) (hin1 : vp_in (nI i + 1) L) (hin2 : vp_in (nI i + 2) L) (hin3 : vp_in (nI i + 3) L) (hin4 : vp_in (nI i + 4) L) (hin5 : vp_in (nI i + 5) L) (hV : LV G s H locs aX aR SX SR) (hX : XI SX) (hR : RI SR) (hL : LK SX SR) (hM0 : LE SX SR)
    (hl : lv_has ls 4 [(3, .int (nI i)), (2, .ref (aR 0)), (1, .ref (aX 0)), (0, .ref b)]) (hc : cells + 12 ≤ 600000) (hs : slots + 768 ≤ 7302250)
    (kk : ∀ (aX1 : Nat → Nat) (SX1 SR1 : FS) (H1 : Heap) (locs1 : List Loc), LV G s H1 locs1 aX1 aR SX1 SR1 → XI SX1 → RI SR1 → LK SX1 SR1 → LE SX1 SR1 → aX1 0 = aX 0 → W p l e room_1 s m #[Value.ref b] below meth c H1 locs1 (cells + 12) (slots + 768) Q (F0 m 1280 ls [])) : W p l e room_1 s m #[Value.ref b] below meth c H locs cells slots Q (F0 m 268 ls []) := by
  obtain ⟨hx, hb, hr, hml, hown, hts, hXs, hbl, hlocks, hgv⟩ := id C0
  have hT : ∀ w ∈ TBL, w.before #[Value.ref b] s = true := fun w h => hts w (tbl_in w h)
  have hbA : ¬ AL s b := Nat.not_le.mpr hbl
  obtain ⟨⟨⟨hM, hN, hTL⟩, hLC⟩, hQ⟩ := hM0
  obtain ⟨n, pz, zq, K, τ, C, hU⟩ := eq_cu hQ
  obtain ⟨hn6, hn, hcf, h99, hgg, hgc, hHq⟩ := id hU
  have hgcx : ∀ d, d < n → GC 9999 (gX SX (21 + 6 * 0 + d) (K d)) := fun d hd => by rw [hgg d hd]; exact hgc d hd
  have ho : fF SX (9 + 0) 6 = fF SR 0 2 := hL.1 6 (by omega) (by omega)
  have hofx : ∃ o : Nat, o ≤ 30 ∧ fF SX (9 + 0) 6 = nI o := hQ.1.2.1
  have hofr : ∃ o : Nat, o ≤ 30 ∧ fF SR 0 2 = nI o := by rw [← ho]; exact hofx
  have hHX := hHq.hox
  have h99r := mU_99 h99
  have hg01 := gc_7 hgc
  refine lv_aload_n hx hb (fk_get fk_cL_law_2 21 rfl) rfl (lv_at hl 2 rfl) ?_
  refine lv_aload_n hx hb (fk_get fk_cL_law_2 22 rfl) rfl (lv_at hl 3 rfl) ?_
  refine lv_iload_n hx hb (fk_get fk_cL_law_2 23 rfl) rfl (lv_at hl 0 rfl) ?_
  refine lv_iconst (v := 1) hx hb (fk_get fk_cL_law_2 24 rfl) (by decide) ?_
  refine lv_iadd hx hb (fk_get fk_cL_law_2 25 rfl) ?_
  refine va_sld hx hb hXs hbl hbA hV.1 hin1 (fk_get fk_cL_law_2 26 rfl) ?_
  refine lv_aload_n hx hb (fk_get fk_cL_law_2 27 rfl) rfl (lv_at hl 3 rfl) ?_
  refine lv_iload_n hx hb (fk_get fk_cL_law_2 28 rfl) rfl (lv_at hl 0 rfl) ?_
  refine lv_iconst (v := 2) hx hb (fk_get fk_cL_law_2 29 rfl) (by decide) ?_
  refine lv_iadd hx hb (fk_get fk_cL_law_2 30 rfl) ?_
  refine va_sld hx hb hXs hbl hbA hV.1 hin2 (fk_get fk_cL_law_2 31 rfl) ?_
  refine lv_aload_n hx hb (fk_get fk_cL_law_3 0 rfl) rfl (lv_at hl 3 rfl) ?_
  refine lv_iload_n hx hb (fk_get fk_cL_law_3 1 rfl) rfl (lv_at hl 0 rfl) ?_
  refine lv_iconst (v := 3) hx hb (fk_get fk_cL_law_3 2 rfl) (by decide) ?_
  refine lv_iadd hx hb (fk_get fk_cL_law_3 3 rfl) ?_
  refine va_sld hx hb hXs hbl hbA hV.1 hin3 (fk_get fk_cL_law_3 4 rfl) ?_
  obtain ⟨hS, hPX, hDX, hPR, hDR, hdis⟩ := id hV
  refine lx_i hV (va_runV (As := [.int (xs (nI i + 1).toNatClampNeg), .int (xs (nI i + 2).toNatClampNeg), .int (xs (nI i + 3).toNatClampNeg)]) (rest := []) ⟨hx, hb, hml, hown, hT⟩ (c_x11_setX l G aX SX H.size n pz K τ C ((xs (nI i + 1).toNatClampNeg)) ((xs (nI i + 2).toNatClampNeg)) ((xs (nI i + 3).toNatClampNeg)) (by assumption) (by assumption) (by assumption) (by assumption) (by assumption) (by assumption)) (tV 3 hT m2_193 m2_194 m2_195 m1_1 m2_196 rfl rfl (by decide +kernel) ⟨Nat.le_of_ble_eq_true rfl, Nat.le_of_ble_eq_true rfl⟩) ⟨PcW_blind, va_recv hK hPX (ci := 13) (q0 := 0) rfl (ix_at (lt71 (by omega)) (cX_0 G aX SX)), PcW_of hPX hK hDX _⟩ rfl rfl hl.1 rfl (lv_room (Nat.le_of_ble_eq_true rfl)) (fk_get fk_cL_law_3 5 rfl) ⟨(by show cells + 0 ≤ 600000; omega), (by show slots + 0 ≤ 7302250; omega)⟩) (fun rX SX1 H locs hwX hV => ?_)
  try dsimp only at hwX
  have hXK : XK 0 SX SX1 := xk_fr hwX.2.1 (fun k h1 h2 q => by omega) (fun q => by omega) (fun k h1 h2 q => by omega)
  refine lv_pop hx hb (fk_get fk_cL_law_3 6 rfl) rfl ?_
  refine lv_aload_n hx hb (fk_get fk_cL_law_3 7 rfl) rfl (lv_at hl 1 rfl) ?_
  refine lv_aload_n hx hb (fk_get fk_cL_law_3 8 rfl) rfl (lv_at hl 3 rfl) ?_
  refine lv_iload_n hx hb (fk_get fk_cL_law_3 9 rfl) rfl (lv_at hl 0 rfl) ?_
  refine lv_iconst (v := 1) hx hb (fk_get fk_cL_law_3 10 rfl) (by decide) ?_
  refine lv_iadd hx hb (fk_get fk_cL_law_3 11 rfl) ?_
  refine va_sld hx hb hXs hbl hbA hV.1 hin1 (fk_get fk_cL_law_3 12 rfl) ?_
  refine lv_aload_n hx hb (fk_get fk_cL_law_3 13 rfl) rfl (lv_at hl 3 rfl) ?_
  refine lv_iload_n hx hb (fk_get fk_cL_law_3 14 rfl) rfl (lv_at hl 0 rfl) ?_
  refine lv_iconst (v := 2) hx hb (fk_get fk_cL_law_3 15 rfl) (by decide) ?_
  refine lv_iadd hx hb (fk_get fk_cL_law_3 16 rfl) ?_
  refine va_sld hx hb hXs hbl hbA hV.1 hin2 (fk_get fk_cL_law_3 17 rfl) ?_
  refine lv_aload_n hx hb (fk_get fk_cL_law_3 18 rfl) rfl (lv_at hl 3 rfl) ?_
  refine lv_iload_n hx hb (fk_get fk_cL_law_3 19 rfl) rfl (lv_at hl 0 rfl) ?_
  refine lv_iconst (v := 3) hx hb (fk_get fk_cL_law_3 20 rfl) (by decide) ?_
  refine lv_iadd hx hb (fk_get fk_cL_law_3 21 rfl) ?_
  refine va_sld hx hb hXs hbl hbA hV.1 hin3 (fk_get fk_cL_law_3 22 rfl) ?_
  obtain ⟨hS, hPX, hDX, hPR, hDR, hdis⟩ := id hV
  obtain ⟨n', z', u', tx, tr, nc, r1, r2, rH, rV, r15, r5, r5b, r7, r7b, rc, r17, r17b, rT, r40, r40b, r20, r20b⟩ := ri_all hR
  have en_ : n = n' := (nI_eq (by omega) (by omega)).mp ((n_of_lk hn hL).symm.trans r1)
  subst en_
  refine lr_i hV (va_runV (As := [.int (xs (nI i + 1).toNatClampNeg), .int (xs (nI i + 2).toNatClampNeg), .int (xs (nI i + 3).toNatClampNeg)]) (rest := []) ⟨hx, hb, hml, hown, hT⟩ (c_set l G aR SR H.size n ((xs (nI i + 1).toNatClampNeg)) ((xs (nI i + 2).toNatClampNeg)) ((xs (nI i + 3).toNatClampNeg)) (by assumption) (by assumption)) (tV 3 hT m6_158 m6_159 m6_160 m1_17 m6_161 rfl rfl (by decide +kernel) ⟨Nat.le_of_ble_eq_true rfl, Nat.le_of_ble_eq_true rfl⟩) ⟨PcW_blind, va_recv hK hPR (ci := 14) (q0 := 0) rfl (ix_at (by decide) (cR_0 G aR SR)), PcW_of hPR hK hDR _⟩ rfl rfl hl.1 rfl (lv_room (Nat.le_of_ble_eq_true rfl)) (fk_get fk_cL_law_3 23 rfl) ⟨(by show cells + 0 + 0 ≤ 600000; omega), (by show slots + 0 + 0 ≤ 7302250; omega)⟩) (fun rR SR1 H locs hwR hV => ?_)
  try dsimp only at hwR
  have h1 := n_of_lk hn hL
  obtain ⟨hR1, hRK⟩ := ri_set hR (slw_m _ _) hwR.2
  have hL1 := lk_step hL hXK hRK
  have hM1 := lm_step hM hwX.2.1 (fun q => by omega) (fun q => by omega) (fun t ht => (fun q => by omega)) (fun q => by omega) (fun q => by omega) (fun q => by omega) (fun c hc => ⟨(fun q => by omega), (fun q => by omega), (fun q => by omega)⟩) (rz_set (slw_r _ _) hwR.2) hRK.2.2
  have hC1 := lc_step hLC hwX.2.1 (fun q => by omega) (fun q => by omega) (fun q => by omega) (rt_if hwR.2 (rt_if rfl (rt_if rfl (rt_a (by omega)) rt_T) rt_T) rt_T)
  obtain ⟨hrr, hQ1⟩ := eq_set hQ hU h1 hwX.2.2 hwX.2.1 hwR.1 hwR.2
  have hN1 : LN SX1 SR1 := ⟨hM1, nu_step hN hwX.2.1 (fun c hc => (fun q => by omega)), tl_step hTL hX hwX.2.1 (fun q => by omega) (fun q => by omega) (fun p k hp => (fun q => by omega)) (ry_if hwR.2 (ry_if rfl (ry_if rfl (ry_a (by omega)) ry_T) ry_T) ry_T)⟩
  refine lv_pop hx hb (fk_get fk_cL_law_3 24 rfl) rfl ?_
  refine lv_goto (tgt := 1280) hx hb (fk_get fk_cL_law_3 25 rfl) (by decide) ?_
  refine W.widen (k := cells + 12) (n := slots + 768) (by show cells + 0 + 0 ≤ cells + 12; omega) (by show slots + 0 + 0 ≤ slots + 768; omega) ?_
  exact kk aX SX1 SR1 H locs hV hwX.1 hR1 hL1 ⟨⟨hN1, hC1⟩, hQ1⟩ rfl
set_option maxHeartbeats 1600000 in
theorem law_3 {p : Program} {l : Launch} {e : Env} {s : State} {m : MethodId} {below : List Frame} {meth : Method} {c : Code} {H : Heap} {locs : List Loc} {cells slots : Nat} {Q : State → Prop} {ls : Array Slot} {b L i : Nat} {xs : Nat → Int32} {G : GG} {aX aR : Nat → Nat} {SX SR : FS} (C0 : lw_At p s m meth c b L xs) (hK : va_K G.1 vwCl (TYS G) s) (hE : EN G (AL s) s s.heap) (hin1 : vp_in (nI i + 1) L) (hin2 : vp_in (nI i + 2) L) (hin3 : vp_in (nI i + 3) L) (hin4 : vp_in (nI i + 4) L) (hin5 : vp_in (nI i + 5) L) (hV : LV G s H locs aX aR SX SR) (hX : XI SX) (hR : RI SR) (hL : LK SX SR) (hM0 : LE SX SR)
    (hl : lv_has ls 4 [(3, .int (nI i)), (2, .ref (aR 0)), (1, .ref (aX 0)), (0, .ref b)]) (hc : cells + 12 ≤ 600000) (hs : slots + 768 ≤ 7302250)
    (kk : ∀ (aX1 : Nat → Nat) (SX1 SR1 : FS) (H1 : Heap) (locs1 : List Loc), LV G s H1 locs1 aX1 aR SX1 SR1 → XI SX1 → RI SR1 → LK SX1 SR1 → LE SX1 SR1 → aX1 0 = aX 0 → W p l e room_1 s m #[Value.ref b] below meth c H1 locs1 (cells + 12) (slots + 768) Q (F0 m 1280 ls [])) : W p l e room_1 s m #[Value.ref b] below meth c H locs cells slots Q (F0 m 311 ls []) := by
  obtain ⟨hx, hb, hr, hml, hown, hts, hXs, hbl, hlocks, hgv⟩ := id C0
  have hT : ∀ w ∈ TBL, w.before #[Value.ref b] s = true := fun w h => hts w (tbl_in w h)
  have hbA : ¬ AL s b := Nat.not_le.mpr hbl
  obtain ⟨⟨⟨hM, hN, hTL⟩, hLC⟩, hQ⟩ := hM0
  obtain ⟨n, pz, zq, K, τ, C, hU⟩ := eq_cu hQ
  obtain ⟨hn6, hn, hcf, h99, hgg, hgc, hHq⟩ := id hU
  have hgcx : ∀ d, d < n → GC 9999 (gX SX (21 + 6 * 0 + d) (K d)) := fun d hd => by rw [hgg d hd]; exact hgc d hd
  have ho : fF SX (9 + 0) 6 = fF SR 0 2 := hL.1 6 (by omega) (by omega)
  have hofx : ∃ o : Nat, o ≤ 30 ∧ fF SX (9 + 0) 6 = nI o := hQ.1.2.1
  have hofr : ∃ o : Nat, o ≤ 30 ∧ fF SR 0 2 = nI o := by rw [← ho]; exact hofx
  have hHX := hHq.hox
  have h99r := mU_99 h99
  have hg01 := gc_7 hgc
  refine lv_aload_n hx hb (fk_get fk_cL_law_3 26 rfl) rfl (lv_at hl 2 rfl) ?_
  refine lv_aload_n hx hb (fk_get fk_cL_law_3 27 rfl) rfl (lv_at hl 3 rfl) ?_
  refine lv_iload_n hx hb (fk_get fk_cL_law_3 28 rfl) rfl (lv_at hl 0 rfl) ?_
  refine lv_iconst (v := 1) hx hb (fk_get fk_cL_law_3 29 rfl) (by decide) ?_
  refine lv_iadd hx hb (fk_get fk_cL_law_3 30 rfl) ?_
  refine va_sld hx hb hXs hbl hbA hV.1 hin1 (fk_get fk_cL_law_3 31 rfl) ?_
  refine lv_aload_n hx hb (fk_get fk_cL_law_4 0 rfl) rfl (lv_at hl 3 rfl) ?_
  refine lv_iload_n hx hb (fk_get fk_cL_law_4 1 rfl) rfl (lv_at hl 0 rfl) ?_
  refine lv_iconst (v := 2) hx hb (fk_get fk_cL_law_4 2 rfl) (by decide) ?_
  refine lv_iadd hx hb (fk_get fk_cL_law_4 3 rfl) ?_
  refine va_sld hx hb hXs hbl hbA hV.1 hin2 (fk_get fk_cL_law_4 4 rfl) ?_
  refine lv_aload_n hx hb (fk_get fk_cL_law_4 5 rfl) rfl (lv_at hl 3 rfl) ?_
  refine lv_iload_n hx hb (fk_get fk_cL_law_4 6 rfl) rfl (lv_at hl 0 rfl) ?_
  refine lv_iconst (v := 3) hx hb (fk_get fk_cL_law_4 7 rfl) (by decide) ?_
  refine lv_iadd hx hb (fk_get fk_cL_law_4 8 rfl) ?_
  refine va_sld hx hb hXs hbl hbA hV.1 hin3 (fk_get fk_cL_law_4 9 rfl) ?_
  obtain ⟨hS, hPX, hDX, hPR, hDR, hdis⟩ := id hV
  have hFc := va_self hDX hS (fun q h => h)
  refine lx_i hV (va_runV (As := [.int (xs (nI i + 1).toNatClampNeg), .int (xs (nI i + 2).toNatClampNeg), .int (xs (nI i + 3).toNatClampNeg)]) (rest := []) ⟨hx, hb, hml, hown, hT⟩ (c_x11_rowE l G aX SX H.size n ((xs (nI i + 1).toNatClampNeg)) ((xs (nI i + 2).toNatClampNeg)) ((xs (nI i + 3).toNatClampNeg)) (by assumption) (by assumption) (by assumption)) (tV 3 hT m2_197 m2_198 m2_199 m1_1 m2_200 rfl rfl (by decide +kernel) ⟨Nat.le_of_ble_eq_true rfl, Nat.le_of_ble_eq_true rfl⟩) ⟨PcE_blind, va_recv hK hPX (ci := 13) (q0 := 0) rfl (ix_at (lt71 (by omega)) (cX_0 G aX SX)), PcE_of hPX hK hDX hE hS (fun q h => hFc q h) _⟩ rfl rfl hl.1 rfl (lv_room (Nat.le_of_ble_eq_true rfl)) (fk_get fk_cL_law_4 10 rfl) ⟨(by show cells + 0 ≤ 600000; omega), (by show slots + 0 ≤ 7302250; omega)⟩) (fun rX SX1 H locs hwX hV => ?_)
  try dsimp only at hwX
  have hXK : XK 0 SX SX1 := xk_fr hwX.2.1 (fun k h1 h2 q => by omega) (fun q => by omega) (fun k h1 h2 q => by omega)
  refine lv_pop hx hb (fk_get fk_cL_law_4 11 rfl) rfl ?_
  refine lv_aload_n hx hb (fk_get fk_cL_law_4 12 rfl) rfl (lv_at hl 1 rfl) ?_
  refine lv_aload_n hx hb (fk_get fk_cL_law_4 13 rfl) rfl (lv_at hl 3 rfl) ?_
  refine lv_iload_n hx hb (fk_get fk_cL_law_4 14 rfl) rfl (lv_at hl 0 rfl) ?_
  refine lv_iconst (v := 1) hx hb (fk_get fk_cL_law_4 15 rfl) (by decide) ?_
  refine lv_iadd hx hb (fk_get fk_cL_law_4 16 rfl) ?_
  refine va_sld hx hb hXs hbl hbA hV.1 hin1 (fk_get fk_cL_law_4 17 rfl) ?_
  refine lv_aload_n hx hb (fk_get fk_cL_law_4 18 rfl) rfl (lv_at hl 3 rfl) ?_
  refine lv_iload_n hx hb (fk_get fk_cL_law_4 19 rfl) rfl (lv_at hl 0 rfl) ?_
  refine lv_iconst (v := 2) hx hb (fk_get fk_cL_law_4 20 rfl) (by decide) ?_
  refine lv_iadd hx hb (fk_get fk_cL_law_4 21 rfl) ?_
  refine va_sld hx hb hXs hbl hbA hV.1 hin2 (fk_get fk_cL_law_4 22 rfl) ?_
  refine lv_aload_n hx hb (fk_get fk_cL_law_4 23 rfl) rfl (lv_at hl 3 rfl) ?_
  refine lv_iload_n hx hb (fk_get fk_cL_law_4 24 rfl) rfl (lv_at hl 0 rfl) ?_
  refine lv_iconst (v := 3) hx hb (fk_get fk_cL_law_4 25 rfl) (by decide) ?_
  refine lv_iadd hx hb (fk_get fk_cL_law_4 26 rfl) ?_
  refine va_sld hx hb hXs hbl hbA hV.1 hin3 (fk_get fk_cL_law_4 27 rfl) ?_
  obtain ⟨hS, hPX, hDX, hPR, hDR, hdis⟩ := id hV
  obtain ⟨n', z', u', tx, tr, nc, r1, r2, rH, rV, r15, r5, r5b, r7, r7b, rc, r17, r17b, rT, r40, r40b, r20, r20b⟩ := ri_all hR
  have en_ : n = n' := (nI_eq (by omega) (by omega)).mp ((n_of_lk hn hL).symm.trans r1)
  subst en_
  refine lr_i hV (va_runV (As := [.int (xs (nI i + 1).toNatClampNeg), .int (xs (nI i + 2).toNatClampNeg), .int (xs (nI i + 3).toNatClampNeg)]) (rest := []) ⟨hx, hb, hml, hown, hT⟩ (c_row l G aR SR H.size n ((xs (nI i + 1).toNatClampNeg)) ((xs (nI i + 2).toNatClampNeg)) ((xs (nI i + 3).toNatClampNeg)) (by assumption) (by assumption)) (tV 3 hT m6_167 m6_168 m6_169 m1_17 m6_170 rfl rfl (by decide +kernel) ⟨Nat.le_of_ble_eq_true rfl, Nat.le_of_ble_eq_true rfl⟩) ⟨PcW_blind, va_recv hK hPR (ci := 14) (q0 := 0) rfl (ix_at (by decide) (cR_0 G aR SR)), PcW_of hPR hK hDR _⟩ rfl rfl hl.1 rfl (lv_room (Nat.le_of_ble_eq_true rfl)) (fk_get fk_cL_law_4 28 rfl) ⟨(by show cells + 0 + 0 ≤ 600000; omega), (by show slots + 0 + 0 ≤ 7302250; omega)⟩) (fun rR SR1 H locs hwR hV => ?_)
  try dsimp only at hwR
  have h1 := n_of_lk hn hL
  obtain ⟨hR1, hRK⟩ := ri_row hR hwR.2
  have hL1 := lk_step hL hXK hRK
  have hrr := row_r h1 hn6 (hM.2.1.1 n hn hn6) hwX.2.2 hwR.1
  have hM1 := lm_A hM hwX.2.1 (fun q => by omega) (fun q => by omega) (fun t ht => (fun q => by omega)) (rz_row hwR.2) (ckk_row hn h1 hn6 hM.2.1 hwX.2.2 hwR.2)
  have hC1 := lc_step hLC hwX.2.1 (fun q => by omega) (fun q => by omega) (fun q => by omega) (rt_if hwR.2 (rt_if rfl (rt_if rfl (rt_if rfl (rt_a (by omega)) rt_T) rt_T) rt_T) rt_T)
  have hQ1 := eq_row hQ hU h1 hwX.2.2 hwX.2.1 hwR.2
  have hN1 : LN SX1 SR1 := ⟨hM1, nu_step hN hwX.2.1 (fun c hc => (fun q => by omega)), tl_step hTL hX hwX.2.1 (fun q => by omega) (fun q => by omega) (fun p k hp => (fun q => by omega)) (ry_if hwR.2 (ry_if rfl (ry_if rfl (ry_if rfl (ry_a (by omega)) ry_T) ry_T) ry_T) ry_T)⟩
  refine lv_pop hx hb (fk_get fk_cL_law_4 29 rfl) rfl ?_
  refine lv_goto (tgt := 1280) hx hb (fk_get fk_cL_law_4 30 rfl) (by decide) ?_
  refine W.widen (k := cells + 12) (n := slots + 768) (by show cells + 0 + 0 ≤ cells + 12; omega) (by show slots + 0 + 0 ≤ slots + 768; omega) ?_
  exact kk aX SX1 SR1 H locs hV hwX.1 hR1 hL1 ⟨⟨hN1, hC1⟩, hQ1⟩ rfl
set_option maxHeartbeats 1600000 in
theorem law_4 {p : Program} {l : Launch} {e : Env} {s : State} {m : MethodId} {below : List Frame} {meth : Method} {c : Code} {H : Heap} {locs : List Loc} {cells slots : Nat} {Q : State → Prop} {ls : Array Slot} {b L i : Nat} {xs : Nat → Int32} {G : GG} {aX aR : Nat → Nat} {SX SR : FS} (C0 : lw_At p s m meth c b L xs) (hK : va_K G.1 vwCl (TYS G) s) (hE : EN G (AL s) s s.heap) (hin1 : vp_in (nI i + 1) L) (hin2 : vp_in (nI i + 2) L) (hin3 : vp_in (nI i + 3) L) (hin4 : vp_in (nI i + 4) L) (hin5 : vp_in (nI i + 5) L) (hV : LV G s H locs aX aR SX SR) (hX : XI SX) (hR : RI SR) (hL : LK SX SR) (hM0 : LE SX SR)
    (hl : lv_has ls 4 [(3, .int (nI i)), (2, .ref (aR 0)), (1, .ref (aX 0)), (0, .ref b)]) (hc : cells + 12 ≤ 600000) (hs : slots + 768 ≤ 7302250)
    (kk : ∀ (aX1 : Nat → Nat) (SX1 SR1 : FS) (H1 : Heap) (locs1 : List Loc), LV G s H1 locs1 aX1 aR SX1 SR1 → XI SX1 → RI SR1 → LK SX1 SR1 → LE SX1 SR1 → aX1 0 = aX 0 → W p l e room_1 s m #[Value.ref b] below meth c H1 locs1 (cells + 12) (slots + 768) Q (F0 m 1280 ls [])) : W p l e room_1 s m #[Value.ref b] below meth c H locs cells slots Q (F0 m 354 ls []) := by
  obtain ⟨hx, hb, hr, hml, hown, hts, hXs, hbl, hlocks, hgv⟩ := id C0
  have hT : ∀ w ∈ TBL, w.before #[Value.ref b] s = true := fun w h => hts w (tbl_in w h)
  have hbA : ¬ AL s b := Nat.not_le.mpr hbl
  obtain ⟨⟨⟨hM, hN, hTL⟩, hLC⟩, hQ⟩ := hM0
  obtain ⟨n, pz, zq, K, τ, C, hU⟩ := eq_cu hQ
  obtain ⟨hn6, hn, hcf, h99, hgg, hgc, hHq⟩ := id hU
  have hgcx : ∀ d, d < n → GC 9999 (gX SX (21 + 6 * 0 + d) (K d)) := fun d hd => by rw [hgg d hd]; exact hgc d hd
  have ho : fF SX (9 + 0) 6 = fF SR 0 2 := hL.1 6 (by omega) (by omega)
  have hofx : ∃ o : Nat, o ≤ 30 ∧ fF SX (9 + 0) 6 = nI o := hQ.1.2.1
  have hofr : ∃ o : Nat, o ≤ 30 ∧ fF SR 0 2 = nI o := by rw [← ho]; exact hofx
  have hHX := hHq.hox
  have h99r := mU_99 h99
  have hg01 := gc_7 hgc
  refine lv_aload_n hx hb (fk_get fk_cL_law_4 31 rfl) rfl (lv_at hl 2 rfl) ?_
  refine lv_aload_n hx hb (fk_get fk_cL_law_5 0 rfl) rfl (lv_at hl 3 rfl) ?_
  refine lv_iload_n hx hb (fk_get fk_cL_law_5 1 rfl) rfl (lv_at hl 0 rfl) ?_
  refine lv_iconst (v := 1) hx hb (fk_get fk_cL_law_5 2 rfl) (by decide) ?_
  refine lv_iadd hx hb (fk_get fk_cL_law_5 3 rfl) ?_
  refine va_sld hx hb hXs hbl hbA hV.1 hin1 (fk_get fk_cL_law_5 4 rfl) ?_
  obtain ⟨hS, hPX, hDX, hPR, hDR, hdis⟩ := id hV
  obtain ⟨⟨t, ht, ht100⟩, -⟩ := hX.2.2.2.2.2.2.2.1
  refine lx_i hV (va_runV (As := [.int (xs (nI i + 1).toNatClampNeg)]) (rest := []) ⟨hx, hb, hml, hown, hT⟩ (c_x11_feedE l G aX SX H.size n t ((xs (nI i + 1).toNatClampNeg)) (by assumption) (by assumption) (by assumption) (by assumption) (by assumption)) (tV 1 hT m2_201 m2_202 m2_203 m1_1 m2_204 rfl rfl (by decide +kernel) ⟨Nat.le_of_ble_eq_true rfl, Nat.le_of_ble_eq_true rfl⟩) ⟨PcW_blind, va_recv hK hPX (ci := 13) (q0 := 0) rfl (ix_at (lt71 (by omega)) (cX_0 G aX SX)), PcW_of hPX hK hDX _⟩ rfl rfl hl.1 rfl (lv_room (Nat.le_of_ble_eq_true rfl)) (fk_get fk_cL_law_5 5 rfl) ⟨(by show cells + 0 ≤ 600000; omega), (by show slots + 0 ≤ 7302250; omega)⟩) (fun rX SX1 H locs hwX hV => ?_)
  try dsimp only at hwX
  have hXK : XK 0 SX SX1 := xk_fr hwX.2.1 (fun k h1 h2 q => by omega) (fun q => by omega) (fun k h1 h2 q => by omega)
  refine lv_pop hx hb (fk_get fk_cL_law_5 6 rfl) rfl ?_
  refine lv_aload_n hx hb (fk_get fk_cL_law_5 7 rfl) rfl (lv_at hl 1 rfl) ?_
  refine lv_aload_n hx hb (fk_get fk_cL_law_5 8 rfl) rfl (lv_at hl 3 rfl) ?_
  refine lv_iload_n hx hb (fk_get fk_cL_law_5 9 rfl) rfl (lv_at hl 0 rfl) ?_
  refine lv_iconst (v := 1) hx hb (fk_get fk_cL_law_5 10 rfl) (by decide) ?_
  refine lv_iadd hx hb (fk_get fk_cL_law_5 11 rfl) ?_
  refine va_sld hx hb hXs hbl hbA hV.1 hin1 (fk_get fk_cL_law_5 12 rfl) ?_
  obtain ⟨hS, hPX, hDX, hPR, hDR, hdis⟩ := id hV
  obtain ⟨n', z', u', tx, tr, nc, r1, r2, rH, rV, r15, r5, r5b, r7, r7b, rc, r17, r17b, rT, r40, r40b, r20, r20b⟩ := ri_all hR
  have en_ : n = n' := (nI_eq (by omega) (by omega)).mp ((n_of_lk hn hL).symm.trans r1)
  subst en_
  refine lr_i hV (va_runV (As := [.int (xs (nI i + 1).toNatClampNeg)]) (rest := []) ⟨hx, hb, hml, hown, hT⟩ (c_feed l G aR SR H.size tx ((xs (nI i + 1).toNatClampNeg)) (by assumption) (by assumption)) (tV 1 hT m6_26 m6_27 m6_28 m1_17 m6_29 rfl rfl (by decide +kernel) ⟨Nat.le_of_ble_eq_true rfl, Nat.le_of_ble_eq_true rfl⟩) ⟨PcW_blind, va_recv hK hPR (ci := 14) (q0 := 0) rfl (ix_at (by decide) (cR_0 G aR SR)), PcW_of hPR hK hDR _⟩ rfl rfl hl.1 rfl (lv_room (Nat.le_of_ble_eq_true rfl)) (fk_get fk_cL_law_5 13 rfl) ⟨(by show cells + 0 + 0 ≤ 600000; omega), (by show slots + 0 + 0 ≤ 7302250; omega)⟩) (fun rR SR1 H locs hwR hV => ?_)
  try dsimp only at hwR
  have h1 := n_of_lk hn hL
  obtain ⟨hR1, hRK⟩ := ri_feed hR r17 r17b hwR.2
  have hL1 := lk_step hL hXK hRK
  have hM1 := lm_step hM hwX.2.1 (fun q => by omega) (fun q => by omega) (fun t ht => (fun q => by omega)) (fun q => by omega) (fun q => by omega) (fun q => by omega) (fun c hc => ⟨(fun q => by omega), (fun q => by omega), (fun q => by omega)⟩) (rz_feed hwR.2) hRK.2.2
  obtain ⟨hrr, hC1⟩ := lk_feed hLC ht ht100 r17 r17b hwX.2.2 hwR.1 hwR.2
  have hQ1 := eq_step hQ hwX.2.1 ⟨fun c k a b d q => by omega, fun c a q => by omega, fun q => by omega, fun q => by omega, fun q => by omega, fun q => by omega⟩ ⟨fun c k a b d q => by omega, fun c a q => by omega, fun q => by omega, fun q => by omega, fun q => by omega, fun q => by omega⟩ (fun q => by omega) (fun j k a q => by omega) (re_if hwR.2 (re_if rfl re_T (re_af (fun q => absurd q (by omega)) (fun q => absurd q (by omega)) (by omega) (by omega) (by omega))) re_T) hRK.2.2
  have hN1 : LN SX1 SR1 := ⟨hM1, nu_step hN hwX.2.1 (fun c hc => (fun q => by omega)), tl_step hTL hX hwX.2.1 (fun q => by omega) (fun q => by omega) (fun p k hp => (fun q => by omega)) (ry_if hwR.2 (ry_if rfl ry_T (ry_af (by omega) (by omega))) ry_T)⟩
  refine lv_pop hx hb (fk_get fk_cL_law_5 14 rfl) rfl ?_
  refine lv_goto (tgt := 1280) hx hb (fk_get fk_cL_law_5 15 rfl) (by decide) ?_
  refine W.widen (k := cells + 12) (n := slots + 768) (by show cells + 0 + 0 ≤ cells + 12; omega) (by show slots + 0 + 0 ≤ slots + 768; omega) ?_
  exact kk aX SX1 SR1 H locs hV hwX.1 hR1 hL1 ⟨⟨hN1, hC1⟩, hQ1⟩ rfl
set_option maxHeartbeats 1600000 in
theorem law_5 {p : Program} {l : Launch} {e : Env} {s : State} {m : MethodId} {below : List Frame} {meth : Method} {c : Code} {H : Heap} {locs : List Loc} {cells slots : Nat} {Q : State → Prop} {ls : Array Slot} {b L i : Nat} {xs : Nat → Int32} {G : GG} {aX aR : Nat → Nat} {SX SR : FS} (C0 : lw_At p s m meth c b L xs) (hK : va_K G.1 vwCl (TYS G) s) (hE : EN G (AL s) s s.heap) (hin1 : vp_in (nI i + 1) L) (hin2 : vp_in (nI i + 2) L) (hin3 : vp_in (nI i + 3) L) (hin4 : vp_in (nI i + 4) L) (hin5 : vp_in (nI i + 5) L) (hV : LV G s H locs aX aR SX SR) (hX : XI SX) (hR : RI SR) (hL : LK SX SR) (hM0 : LE SX SR)
    (hl : lv_has ls 4 [(3, .int (nI i)), (2, .ref (aR 0)), (1, .ref (aX 0)), (0, .ref b)]) (hc : cells + 12 ≤ 600000) (hs : slots + 768 ≤ 7302250)
    (kk : ∀ (aX1 : Nat → Nat) (SX1 SR1 : FS) (H1 : Heap) (locs1 : List Loc), LV G s H1 locs1 aX1 aR SX1 SR1 → XI SX1 → RI SR1 → LK SX1 SR1 → LE SX1 SR1 → aX1 0 = aX 0 → W p l e room_1 s m #[Value.ref b] below meth c H1 locs1 (cells + 12) (slots + 768) Q (F0 m 1280 ls [])) : W p l e room_1 s m #[Value.ref b] below meth c H locs cells slots Q (F0 m 377 ls []) := by
  obtain ⟨hx, hb, hr, hml, hown, hts, hXs, hbl, hlocks, hgv⟩ := id C0
  have hT : ∀ w ∈ TBL, w.before #[Value.ref b] s = true := fun w h => hts w (tbl_in w h)
  have hbA : ¬ AL s b := Nat.not_le.mpr hbl
  obtain ⟨⟨⟨hM, hN, hTL⟩, hLC⟩, hQ⟩ := hM0
  obtain ⟨n, pz, zq, K, τ, C, hU⟩ := eq_cu hQ
  obtain ⟨hn6, hn, hcf, h99, hgg, hgc, hHq⟩ := id hU
  have hgcx : ∀ d, d < n → GC 9999 (gX SX (21 + 6 * 0 + d) (K d)) := fun d hd => by rw [hgg d hd]; exact hgc d hd
  have ho : fF SX (9 + 0) 6 = fF SR 0 2 := hL.1 6 (by omega) (by omega)
  have hofx : ∃ o : Nat, o ≤ 30 ∧ fF SX (9 + 0) 6 = nI o := hQ.1.2.1
  have hofr : ∃ o : Nat, o ≤ 30 ∧ fF SR 0 2 = nI o := by rw [← ho]; exact hofx
  have hHX := hHq.hox
  have h99r := mU_99 h99
  have hg01 := gc_7 hgc
  refine lv_aload_n hx hb (fk_get fk_cL_law_5 16 rfl) rfl (lv_at hl 2 rfl) ?_
  obtain ⟨hS, hPX, hDX, hPR, hDR, hdis⟩ := id hV
  obtain ⟨zt, ncx, hnc6, hTx, h17x, h9x, h20x⟩ := id hLC
  have hFc := va_self hDX hS (fun q h => h)
  refine lx_g hV (va_runV (As := []) (rest := []) ⟨hx, hb, hml, hown, hT⟩ (c_x11_counterE l G aX SX H.size n ncx zt _ (by assumption) (by assumption) (by assumption) (by assumption) (by assumption) (by assumption)) (tV 0 hT m2_205 m2_206 m2_207 m1_1 m2_208 rfl rfl (by decide +kernel) ⟨Nat.le_of_ble_eq_true rfl, Nat.le_of_ble_eq_true rfl⟩) ⟨PcE_blind, va_recv hK hPX (ci := 13) (q0 := 0) rfl (ix_at (lt71 (by omega)) (cX_0 G aX SX)), PcE_of hPX hK hDX hE hS (fun q h => hFc q h) _⟩ rfl rfl hl.1 rfl (lv_room (Nat.le_of_ble_eq_true rfl)) (fk_get fk_cL_law_5 17 rfl) ⟨(by show cells + 3 ≤ 600000; omega), (by show slots + 204 ≤ 7302250; omega)⟩) (fun rX SX1 aX1 H locs hwX hV => ?_)
  try dsimp only at hwX
  have hXK : XK 0 SX SX1 := xk_fr hwX.2.1 (fun k h1 h2 q => by omega) (fun q => by omega) (fun k h1 h2 q => by omega)
  refine lv_pop hx hb (fk_get fk_cL_law_5 18 rfl) rfl ?_
  refine lv_aload_n hx hb (fk_get fk_cL_law_5 19 rfl) rfl (lv_at hl 1 rfl) ?_
  obtain ⟨hS, hPX, hDX, hPR, hDR, hdis⟩ := id hV
  obtain ⟨n', z', u', tx, tr, nc, r1, r2, rH, rV, r15, r5, r5b, r7, r7b, rc, r17, r17b, rT, r40, r40b, r20, r20b⟩ := ri_all hR
  have en_ : n = n' := (nI_eq (by omega) (by omega)).mp ((n_of_lk hn hL).symm.trans r1)
  subst en_
  refine lr_i hV (va_runV (As := []) (rest := []) ⟨hx, hb, hml, hown, hT⟩ (c_counterX l G aR SR H.size tx nc (by assumption) (by assumption) (by assumption) (by assumption)) (tV 0 hT m6_34 m6_35 m6_36 m1_17 m6_37 rfl rfl (by decide +kernel) ⟨Nat.le_of_ble_eq_true rfl, Nat.le_of_ble_eq_true rfl⟩) ⟨PcW_blind, va_recv hK hPR (ci := 14) (q0 := 0) rfl (ix_at (by decide) (cR_0 G aR SR)), PcW_of hPR hK hDR _⟩ rfl rfl hl.1 rfl (lv_room (Nat.le_of_ble_eq_true rfl)) (fk_get fk_cL_law_5 20 rfl) ⟨(by show cells + 3 + 0 ≤ 600000; omega), (by show slots + 204 + 0 ≤ 7302250; omega)⟩) (fun rR SR1 H locs hwR hV => ?_)
  try dsimp only at hwR
  have h1 := n_of_lk hn hL
  obtain ⟨hR1, hRK⟩ := ri_cnt hR r20 r20b hwR.1
  have hL1 := lk_step hL hXK hRK
  have hM1 := lm_step hM hwX.2.1 (fun q => by omega) (fun q => by omega) (fun t ht => (fun q => by omega)) (fun q => by omega) (fun q => by omega) (fun q => by omega) (fun c hc => ⟨(fun q => by omega), (fun q => by omega), (fun q => by omega)⟩) (rz_cnt hwR.1) hRK.2.2
  obtain ⟨hrr, hC1⟩ := lk_counter hLC hTx h9x hnc6 r17 r17b r20 r20b hwX.2.2.2 hwR.2.1
  have hQ1 := eq_counter hQ hU hLC hTx h9x hnc6 r17 r17b r20 r20b hwX.2.1 hwX.2.2.2 hwR.1 hwR.2.1 hwR.2.2
  have hN1 : LN SX1 SR1 := ⟨hM1, nu_step hN hwX.2.1 (fun c hc => (fun q => by omega)), tl_step hTL hX hwX.2.1 (fun q => by omega) (fun q => by omega) (fun p k hp => (fun q => by omega)) (ry_cnt hwR.1)⟩
  refine lv_pop hx hb (fk_get fk_cL_law_5 21 rfl) rfl ?_
  refine lv_goto (tgt := 1280) hx hb (fk_get fk_cL_law_5 22 rfl) (by decide) ?_
  refine W.widen (k := cells + 12) (n := slots + 768) (by show cells + 3 + 0 ≤ cells + 12; omega) (by show slots + 204 + 0 ≤ slots + 768; omega) ?_
  exact kk aX1 SX1 SR1 H locs hV hwX.1 hR1 hL1 ⟨⟨hN1, hC1⟩, hQ1⟩ (hwX.2.2.1 0 (lt71 (by omega)))
set_option maxHeartbeats 1600000 in
theorem law_6 {p : Program} {l : Launch} {e : Env} {s : State} {m : MethodId} {below : List Frame} {meth : Method} {c : Code} {H : Heap} {locs : List Loc} {cells slots : Nat} {Q : State → Prop} {ls : Array Slot} {b L i : Nat} {xs : Nat → Int32} {G : GG} {aX aR : Nat → Nat} {SX SR : FS} (C0 : lw_At p s m meth c b L xs) (hK : va_K G.1 vwCl (TYS G) s) (hE : EN G (AL s) s s.heap) (hin1 : vp_in (nI i + 1) L) (hin2 : vp_in (nI i + 2) L) (hin3 : vp_in (nI i + 3) L) (hin4 : vp_in (nI i + 4) L) (hin5 : vp_in (nI i + 5) L) (hV : LV G s H locs aX aR SX SR) (hX : XI SX) (hR : RI SR) (hL : LK SX SR) (hM0 : LE SX SR)
    (hl : lv_has ls 4 [(3, .int (nI i)), (2, .ref (aR 0)), (1, .ref (aX 0)), (0, .ref b)]) (hc : cells + 12 ≤ 600000) (hs : slots + 768 ≤ 7302250)
    (kk : ∀ (aX1 : Nat → Nat) (SX1 SR1 : FS) (H1 : Heap) (locs1 : List Loc), LV G s H1 locs1 aX1 aR SX1 SR1 → XI SX1 → RI SR1 → LK SX1 SR1 → LE SX1 SR1 → aX1 0 = aX 0 → W p l e room_1 s m #[Value.ref b] below meth c H1 locs1 (cells + 12) (slots + 768) Q (F0 m 1280 ls [])) : W p l e room_1 s m #[Value.ref b] below meth c H locs cells slots Q (F0 m 390 ls []) := by
  obtain ⟨hx, hb, hr, hml, hown, hts, hXs, hbl, hlocks, hgv⟩ := id C0
  have hT : ∀ w ∈ TBL, w.before #[Value.ref b] s = true := fun w h => hts w (tbl_in w h)
  have hbA : ¬ AL s b := Nat.not_le.mpr hbl
  obtain ⟨⟨⟨hM, hN, hTL⟩, hLC⟩, hQ⟩ := hM0
  obtain ⟨n, pz, zq, K, τ, C, hU⟩ := eq_cu hQ
  obtain ⟨hn6, hn, hcf, h99, hgg, hgc, hHq⟩ := id hU
  have hgcx : ∀ d, d < n → GC 9999 (gX SX (21 + 6 * 0 + d) (K d)) := fun d hd => by rw [hgg d hd]; exact hgc d hd
  have ho : fF SX (9 + 0) 6 = fF SR 0 2 := hL.1 6 (by omega) (by omega)
  have hofx : ∃ o : Nat, o ≤ 30 ∧ fF SX (9 + 0) 6 = nI o := hQ.1.2.1
  have hofr : ∃ o : Nat, o ≤ 30 ∧ fF SR 0 2 = nI o := by rw [← ho]; exact hofx
  have hHX := hHq.hox
  have h99r := mU_99 h99
  have hg01 := gc_7 hgc
  refine lv_aload_n hx hb (fk_get fk_cL_law_5 23 rfl) rfl (lv_at hl 2 rfl) ?_
  refine lv_aload_n hx hb (fk_get fk_cL_law_5 24 rfl) rfl (lv_at hl 3 rfl) ?_
  refine lv_iload_n hx hb (fk_get fk_cL_law_5 25 rfl) rfl (lv_at hl 0 rfl) ?_
  refine lv_iconst (v := 1) hx hb (fk_get fk_cL_law_5 26 rfl) (by decide) ?_
  refine lv_iadd hx hb (fk_get fk_cL_law_5 27 rfl) ?_
  refine va_sld hx hb hXs hbl hbA hV.1 hin1 (fk_get fk_cL_law_5 28 rfl) ?_
  obtain ⟨hS, hPX, hDX, hPR, hDR, hdis⟩ := id hV
  refine lx_i hV (va_runV (As := [.int (xs (nI i + 1).toNatClampNeg)]) (rest := []) ⟨hx, hb, hml, hown, hT⟩ (c_x11_knife l G aX SX H.size n ((xs (nI i + 1).toNatClampNeg)) (by assumption) (by assumption) (by assumption)) (tV 1 hT m3_153 m3_154 m3_155 m1_1 m3_156 rfl rfl (by decide +kernel) ⟨Nat.le_of_ble_eq_true rfl, Nat.le_of_ble_eq_true rfl⟩) ⟨PcW_blind, va_recv hK hPX (ci := 13) (q0 := 0) rfl (ix_at (lt71 (by omega)) (cX_0 G aX SX)), PcW_of hPX hK hDX _⟩ rfl rfl hl.1 rfl (lv_room (Nat.le_of_ble_eq_true rfl)) (fk_get fk_cL_law_5 29 rfl) ⟨(by show cells + 0 ≤ 600000; omega), (by show slots + 0 ≤ 7302250; omega)⟩) (fun rX SX1 H locs hwX hV => ?_)
  try dsimp only at hwX
  have hXK : XK 6 SX SX1 := xk_e 6 hwX.2.1 (fun k h1 h2 h3 q => by omega) (fun q => by omega) (fun k h1 h2 q => by omega)
  refine lv_pop hx hb (fk_get fk_cL_law_5 30 rfl) rfl ?_
  refine lv_aload_n hx hb (fk_get fk_cL_law_5 31 rfl) rfl (lv_at hl 1 rfl) ?_
  refine lv_aload_n hx hb (fk_get fk_cL_law_6 0 rfl) rfl (lv_at hl 3 rfl) ?_
  refine lv_iload_n hx hb (fk_get fk_cL_law_6 1 rfl) rfl (lv_at hl 0 rfl) ?_
  refine lv_iconst (v := 1) hx hb (fk_get fk_cL_law_6 2 rfl) (by decide) ?_
  refine lv_iadd hx hb (fk_get fk_cL_law_6 3 rfl) ?_
  refine va_sld hx hb hXs hbl hbA hV.1 hin1 (fk_get fk_cL_law_6 4 rfl) ?_
  obtain ⟨hS, hPX, hDX, hPR, hDR, hdis⟩ := id hV
  obtain ⟨n', z', u', tx, tr, nc, r1, r2, rH, rV, r15, r5, r5b, r7, r7b, rc, r17, r17b, rT, r40, r40b, r20, r20b⟩ := ri_all hR
  have en_ : n = n' := (nI_eq (by omega) (by omega)).mp ((n_of_lk hn hL).symm.trans r1)
  subst en_
  refine lr_i hV (va_runV (As := [.int (xs (nI i + 1).toNatClampNeg)]) (rest := []) ⟨hx, hb, hml, hown, hT⟩ (c_knife l G aR SR H.size ((xs (nI i + 1).toNatClampNeg))) (tV 1 hT m6_171 m6_172 m6_173 m1_17 m6_174 rfl rfl (by decide +kernel) ⟨Nat.le_of_ble_eq_true rfl, Nat.le_of_ble_eq_true rfl⟩) ⟨PcW_blind, va_recv hK hPR (ci := 14) (q0 := 0) rfl (ix_at (by decide) (cR_0 G aR SR)), PcW_of hPR hK hDR _⟩ rfl rfl hl.1 rfl (lv_room (Nat.le_of_ble_eq_true rfl)) (fk_get fk_cL_law_6 5 rfl) ⟨(by show cells + 0 + 0 ≤ 600000; omega), (by show slots + 0 + 0 ≤ 7302250; omega)⟩) (fun rR SR1 H locs hwR hV => ?_)
  try dsimp only at hwR
  have h1 := n_of_lk hn hL
  obtain ⟨hR1, hRK⟩ := ri_knife hR hwR.2
  have hQ1 := eq_knife hQ hwX.2.2 hwR.2
  obtain ⟨hrr, hL1⟩ := lk_knife hL hwX.2.2 hXK hwR.1 hwR.2 hRK
  have hM1 := lm_step hM hwX.2.1 (fun q => by omega) (fun q => by omega) (fun t ht => (fun q => by omega)) (fun q => by omega) (fun q => by omega) (fun q => by omega) (fun c hc => ⟨(fun q => by omega), (fun q => by omega), (fun q => by omega)⟩) (rz_knife hwR.2) hRK.2.2
  have hC1 := lc_step hLC hwX.2.1 (fun q => by omega) (fun q => by omega) (fun q => by omega) (rt_if hwR.2 (rt_f (by omega) (by omega)) rt_T)
  have hN1 : LN SX1 SR1 := ⟨hM1, nu_step hN hwX.2.1 (fun c hc => (fun q => by omega)), tl_step hTL hX hwX.2.1 (fun q => by omega) (fun q => by omega) (fun p k hp => (fun q => by omega)) (ry_if hwR.2 (ry_f (by omega)) ry_T)⟩
  refine lv_pop hx hb (fk_get fk_cL_law_6 6 rfl) rfl ?_
  refine lv_goto (tgt := 1280) hx hb (fk_get fk_cL_law_6 7 rfl) (by decide) ?_
  refine W.widen (k := cells + 12) (n := slots + 768) (by show cells + 0 + 0 ≤ cells + 12; omega) (by show slots + 0 + 0 ≤ slots + 768; omega) ?_
  exact kk aX SX1 SR1 H locs hV hwX.1 hR1 hL1 ⟨⟨hN1, hC1⟩, hQ1⟩ rfl
set_option maxHeartbeats 1600000 in
theorem law_7 {p : Program} {l : Launch} {e : Env} {s : State} {m : MethodId} {below : List Frame} {meth : Method} {c : Code} {H : Heap} {locs : List Loc} {cells slots : Nat} {Q : State → Prop} {ls : Array Slot} {b L i : Nat} {xs : Nat → Int32} {G : GG} {aX aR : Nat → Nat} {SX SR : FS} (C0 : lw_At p s m meth c b L xs) (hK : va_K G.1 vwCl (TYS G) s) (hE : EN G (AL s) s s.heap) (hin1 : vp_in (nI i + 1) L) (hin2 : vp_in (nI i + 2) L) (hin3 : vp_in (nI i + 3) L) (hin4 : vp_in (nI i + 4) L) (hin5 : vp_in (nI i + 5) L) (hV : LV G s H locs aX aR SX SR) (hX : XI SX) (hR : RI SR) (hL : LK SX SR) (hM0 : LE SX SR)
    (hl : lv_has ls 4 [(3, .int (nI i)), (2, .ref (aR 0)), (1, .ref (aX 0)), (0, .ref b)]) (hc : cells + 12 ≤ 600000) (hs : slots + 768 ≤ 7302250)
    (kk : ∀ (aX1 : Nat → Nat) (SX1 SR1 : FS) (H1 : Heap) (locs1 : List Loc), LV G s H1 locs1 aX1 aR SX1 SR1 → XI SX1 → RI SR1 → LK SX1 SR1 → LE SX1 SR1 → aX1 0 = aX 0 → W p l e room_1 s m #[Value.ref b] below meth c H1 locs1 (cells + 12) (slots + 768) Q (F0 m 1280 ls [])) : W p l e room_1 s m #[Value.ref b] below meth c H locs cells slots Q (F0 m 413 ls []) := by
  obtain ⟨hx, hb, hr, hml, hown, hts, hXs, hbl, hlocks, hgv⟩ := id C0
  have hT : ∀ w ∈ TBL, w.before #[Value.ref b] s = true := fun w h => hts w (tbl_in w h)
  have hbA : ¬ AL s b := Nat.not_le.mpr hbl
  obtain ⟨⟨⟨hM, hN, hTL⟩, hLC⟩, hQ⟩ := hM0
  obtain ⟨n, pz, zq, K, τ, C, hU⟩ := eq_cu hQ
  obtain ⟨hn6, hn, hcf, h99, hgg, hgc, hHq⟩ := id hU
  have hgcx : ∀ d, d < n → GC 9999 (gX SX (21 + 6 * 0 + d) (K d)) := fun d hd => by rw [hgg d hd]; exact hgc d hd
  have ho : fF SX (9 + 0) 6 = fF SR 0 2 := hL.1 6 (by omega) (by omega)
  have hofx : ∃ o : Nat, o ≤ 30 ∧ fF SX (9 + 0) 6 = nI o := hQ.1.2.1
  have hofr : ∃ o : Nat, o ≤ 30 ∧ fF SR 0 2 = nI o := by rw [← ho]; exact hofx
  have hHX := hHq.hox
  have h99r := mU_99 h99
  have hg01 := gc_7 hgc
  refine lv_aload_n hx hb (fk_get fk_cL_law_6 8 rfl) rfl (lv_at hl 2 rfl) ?_
  refine lv_aload_n hx hb (fk_get fk_cL_law_6 9 rfl) rfl (lv_at hl 3 rfl) ?_
  refine lv_iload_n hx hb (fk_get fk_cL_law_6 10 rfl) rfl (lv_at hl 0 rfl) ?_
  refine lv_iconst (v := 1) hx hb (fk_get fk_cL_law_6 11 rfl) (by decide) ?_
  refine lv_iadd hx hb (fk_get fk_cL_law_6 12 rfl) ?_
  refine va_sld hx hb hXs hbl hbA hV.1 hin1 (fk_get fk_cL_law_6 13 rfl) ?_
  obtain ⟨hS, hPX, hDX, hPR, hDR, hdis⟩ := id hV
  refine vp_callSi (W.runV (As := [.int (xs (nI i + 1).toNatClampNeg)]) (rest := []) ⟨hx, hb, hml, hown, hT⟩ (c_x11_toldX l G aX SX H.size n pz K τ C ((xs (nI i + 1).toNatClampNeg)) (by assumption) (by assumption) (by assumption) (by assumption) (by assumption) (by assumption)) (tV 1 hT m3_157 m3_158 m3_159 m1_1 m3_160 rfl rfl (by decide +kernel) ⟨Nat.le_of_ble_eq_true rfl, Nat.le_of_ble_eq_true rfl⟩) ⟨PcW_blind, va_recv hK hPX (ci := 13) (q0 := 0) rfl (ix_at (lt71 (by omega)) (cX_0 G aX SX)), PcW_of hPX hK hDX _⟩ rfl rfl hl.1 rfl (lv_room (Nat.le_of_ble_eq_true rfl)) (fk_get fk_cL_law_6 14 rfl) ⟨(by show cells + 0 ≤ 600000; omega), (by show slots + 0 ≤ 7302250; omega)⟩) (fun rX hwX => ?_)
  have hXK : XK 0 SX SX := xk_rf
  refine lv_pop hx hb (fk_get fk_cL_law_6 15 rfl) rfl ?_
  refine lv_aload_n hx hb (fk_get fk_cL_law_6 16 rfl) rfl (lv_at hl 1 rfl) ?_
  refine lv_aload_n hx hb (fk_get fk_cL_law_6 17 rfl) rfl (lv_at hl 3 rfl) ?_
  refine lv_iload_n hx hb (fk_get fk_cL_law_6 18 rfl) rfl (lv_at hl 0 rfl) ?_
  refine lv_iconst (v := 1) hx hb (fk_get fk_cL_law_6 19 rfl) (by decide) ?_
  refine lv_iadd hx hb (fk_get fk_cL_law_6 20 rfl) ?_
  refine va_sld hx hb hXs hbl hbA hV.1 hin1 (fk_get fk_cL_law_6 21 rfl) ?_
  obtain ⟨hS, hPX, hDX, hPR, hDR, hdis⟩ := id hV
  obtain ⟨n', z', u', tx, tr, nc, r1, r2, rH, rV, r15, r5, r5b, r7, r7b, rc, r17, r17b, rT, r40, r40b, r20, r20b⟩ := ri_all hR
  have en_ : n = n' := (nI_eq (by omega) (by omega)).mp ((n_of_lk hn hL).symm.trans r1)
  subst en_
  refine lr_i hV (va_runV (As := [.int (xs (nI i + 1).toNatClampNeg)]) (rest := []) ⟨hx, hb, hml, hown, hT⟩ (c_toldX l G aR SR H.size zq τ (mU C) n ((xs (nI i + 1).toNatClampNeg)) (by assumption) (by assumption) (by assumption) (by assumption) (by assumption) (by assumption) (by assumption)) (tV 1 hT m6_176 m6_177 m6_178 m1_17 m6_179 rfl rfl (by decide +kernel) ⟨Nat.le_of_ble_eq_true rfl, Nat.le_of_ble_eq_true rfl⟩) ⟨PcW_blind, va_recv hK hPR (ci := 14) (q0 := 0) rfl (ix_at (by decide) (cR_0 G aR SR)), PcW_of hPR hK hDR _⟩ rfl rfl hl.1 rfl (lv_room (Nat.le_of_ble_eq_true rfl)) (fk_get fk_cL_law_6 22 rfl) ⟨(by show cells + 0 ≤ 600000; omega), (by show slots + 0 ≤ 7302250; omega)⟩) (fun rR SR1 H locs hwR hV => ?_)
  try dsimp only at hwR
  have h1 := n_of_lk hn hL
  obtain ⟨hR1, hRK⟩ := ri_E hR hwR.1
  have hL1 := lk_step hL hXK hRK
  have hM1 := lm_step hM (Fr.rf : Fr (fun _ _ => False) SX SX) (fun q => q) (fun q => q) (fun t ht => (fun q => q)) (fun q => q) (fun q => q) (fun q => q) (fun c hc => ⟨(fun q => q), (fun q => q), (fun q => q)⟩) (rz_E hwR.1) hRK.2.2
  have hC1 := lc_step hLC (Fr.rf : Fr (fun _ _ => False) SX SX) (fun q => q) (fun q => q) (fun q => q) (rt_E hwR.1)
  have hrr := q_told ho hn6 hgg hwX hwR.2
  have hQ1 := eq_step hQ (Fr.rf : Fr (fun _ _ => False) SX SX) np_F np_F (fun q => q) (fun _ _ _ q => q) (re_E hwR.1) hRK.2.2
  have hN1 : LN SX SR1 := ⟨hM1, nu_step hN (Fr.rf : Fr (fun _ _ => False) SX SX) (fun c hc => (fun q => q)), tl_step hTL hX (Fr.rf : Fr (fun _ _ => False) SX SX) (fun q => q) (fun q => q) (fun p k hp => (fun q => q)) (ry_E hwR.1)⟩
  refine lv_pop hx hb (fk_get fk_cL_law_6 23 rfl) rfl ?_
  refine lv_goto (tgt := 1280) hx hb (fk_get fk_cL_law_6 24 rfl) (by decide) ?_
  refine W.widen (k := cells + 12) (n := slots + 768) (by show cells + 0 ≤ cells + 12; omega) (by show slots + 0 ≤ slots + 768; omega) ?_
  exact kk aX SX SR1 H locs hV hX hR1 hL1 ⟨⟨hN1, hC1⟩, hQ1⟩ rfl
set_option maxHeartbeats 1600000 in
theorem law_8 {p : Program} {l : Launch} {e : Env} {s : State} {m : MethodId} {below : List Frame} {meth : Method} {c : Code} {H : Heap} {locs : List Loc} {cells slots : Nat} {Q : State → Prop} {ls : Array Slot} {b L i : Nat} {xs : Nat → Int32} {G : GG} {aX aR : Nat → Nat} {SX SR : FS} (C0 : lw_At p s m meth c b L xs) (hK : va_K G.1 vwCl (TYS G) s) (hE : EN G (AL s) s s.heap) (hin1 : vp_in (nI i + 1) L) (hin2 : vp_in (nI i + 2) L) (hin3 : vp_in (nI i + 3) L) (hin4 : vp_in (nI i + 4) L) (hin5 : vp_in (nI i + 5) L) (hV : LV G s H locs aX aR SX SR) (hX : XI SX) (hR : RI SR) (hL : LK SX SR) (hM0 : LE SX SR)
    (hl : lv_has ls 4 [(3, .int (nI i)), (2, .ref (aR 0)), (1, .ref (aX 0)), (0, .ref b)]) (hc : cells + 12 ≤ 600000) (hs : slots + 768 ≤ 7302250)
    (kk : ∀ (aX1 : Nat → Nat) (SX1 SR1 : FS) (H1 : Heap) (locs1 : List Loc), LV G s H1 locs1 aX1 aR SX1 SR1 → XI SX1 → RI SR1 → LK SX1 SR1 → LE SX1 SR1 → aX1 0 = aX 0 → W p l e room_1 s m #[Value.ref b] below meth c H1 locs1 (cells + 12) (slots + 768) Q (F0 m 1280 ls [])) : W p l e room_1 s m #[Value.ref b] below meth c H locs cells slots Q (F0 m 436 ls []) := by
  obtain ⟨hx, hb, hr, hml, hown, hts, hXs, hbl, hlocks, hgv⟩ := id C0
  have hT : ∀ w ∈ TBL, w.before #[Value.ref b] s = true := fun w h => hts w (tbl_in w h)
  have hbA : ¬ AL s b := Nat.not_le.mpr hbl
  obtain ⟨⟨⟨hM, hN, hTL⟩, hLC⟩, hQ⟩ := hM0
  obtain ⟨n, pz, zq, K, τ, C, hU⟩ := eq_cu hQ
  obtain ⟨hn6, hn, hcf, h99, hgg, hgc, hHq⟩ := id hU
  have hgcx : ∀ d, d < n → GC 9999 (gX SX (21 + 6 * 0 + d) (K d)) := fun d hd => by rw [hgg d hd]; exact hgc d hd
  have ho : fF SX (9 + 0) 6 = fF SR 0 2 := hL.1 6 (by omega) (by omega)
  have hofx : ∃ o : Nat, o ≤ 30 ∧ fF SX (9 + 0) 6 = nI o := hQ.1.2.1
  have hofr : ∃ o : Nat, o ≤ 30 ∧ fF SR 0 2 = nI o := by rw [← ho]; exact hofx
  have hHX := hHq.hox
  have h99r := mU_99 h99
  have hg01 := gc_7 hgc
  refine lv_aload_n hx hb (fk_get fk_cL_law_6 25 rfl) rfl (lv_at hl 2 rfl) ?_
  refine lv_aload_n hx hb (fk_get fk_cL_law_6 26 rfl) rfl (lv_at hl 3 rfl) ?_
  refine lv_iload_n hx hb (fk_get fk_cL_law_6 27 rfl) rfl (lv_at hl 0 rfl) ?_
  refine lv_iconst (v := 1) hx hb (fk_get fk_cL_law_6 28 rfl) (by decide) ?_
  refine lv_iadd hx hb (fk_get fk_cL_law_6 29 rfl) ?_
  refine va_sld hx hb hXs hbl hbA hV.1 hin1 (fk_get fk_cL_law_6 30 rfl) ?_
  obtain ⟨hS, hPX, hDX, hPR, hDR, hdis⟩ := id hV
  refine lx_i hV (va_runV (As := [.int (xs (nI i + 1).toNatClampNeg)]) (rest := []) ⟨hx, hb, hml, hown, hT⟩ (c_x11_visitX l G aX SX H.size n pz K τ C ((xs (nI i + 1).toNatClampNeg)) (by assumption) (by assumption) (by assumption) (by assumption) (by assumption) (by assumption)) (tV 1 hT m3_165 m3_166 m3_167 m1_1 m3_168 rfl rfl (by decide +kernel) ⟨Nat.le_of_ble_eq_true rfl, Nat.le_of_ble_eq_true rfl⟩) ⟨PcW_blind, va_recv hK hPX (ci := 13) (q0 := 0) rfl (ix_at (lt71 (by omega)) (cX_0 G aX SX)), PcW_of hPX hK hDX _⟩ rfl rfl hl.1 rfl (lv_room (Nat.le_of_ble_eq_true rfl)) (fk_get fk_cL_law_6 31 rfl) ⟨(by show cells + 0 ≤ 600000; omega), (by show slots + 0 ≤ 7302250; omega)⟩) (fun rX SX1 H locs hwX hV => ?_)
  try dsimp only at hwX
  have hXK : XK 0 SX SX1 := xk_fr hwX.2.1 (fun k h1 h2 q => by omega) (fun q => by omega) (fun k h1 h2 q => by omega)
  refine lv_pop hx hb (fk_get fk_cL_law_7 0 rfl) rfl ?_
  refine lv_aload_n hx hb (fk_get fk_cL_law_7 1 rfl) rfl (lv_at hl 1 rfl) ?_
  refine lv_aload_n hx hb (fk_get fk_cL_law_7 2 rfl) rfl (lv_at hl 3 rfl) ?_
  refine lv_iload_n hx hb (fk_get fk_cL_law_7 3 rfl) rfl (lv_at hl 0 rfl) ?_
  refine lv_iconst (v := 1) hx hb (fk_get fk_cL_law_7 4 rfl) (by decide) ?_
  refine lv_iadd hx hb (fk_get fk_cL_law_7 5 rfl) ?_
  refine va_sld hx hb hXs hbl hbA hV.1 hin1 (fk_get fk_cL_law_7 6 rfl) ?_
  obtain ⟨hS, hPX, hDX, hPR, hDR, hdis⟩ := id hV
  obtain ⟨n', z', u', tx, tr, nc, r1, r2, rH, rV, r15, r5, r5b, r7, r7b, rc, r17, r17b, rT, r40, r40b, r20, r20b⟩ := ri_all hR
  have en_ : n = n' := (nI_eq (by omega) (by omega)).mp ((n_of_lk hn hL).symm.trans r1)
  subst en_
  refine lr_i hV (va_runV (As := [.int (xs (nI i + 1).toNatClampNeg)]) (rest := []) ⟨hx, hb, hml, hown, hT⟩ (c_visitX l G aR SR H.size zq τ (mU C) n ((xs (nI i + 1).toNatClampNeg)) (by assumption) (by assumption) (by assumption) (by assumption) (by assumption) (by assumption)) (tV 1 hT m6_188 m6_189 m6_190 m1_17 m6_191 rfl rfl (by decide +kernel) ⟨Nat.le_of_ble_eq_true rfl, Nat.le_of_ble_eq_true rfl⟩) ⟨PcW_blind, va_recv hK hPR (ci := 14) (q0 := 0) rfl (ix_at (by decide) (cR_0 G aR SR)), PcW_of hPR hK hDR _⟩ rfl rfl hl.1 rfl (lv_room (Nat.le_of_ble_eq_true rfl)) (fk_get fk_cL_law_7 7 rfl) ⟨(by show cells + 0 + 0 ≤ 600000; omega), (by show slots + 0 + 0 ≤ 7302250; omega)⟩) (fun rR SR1 H locs hwR hV => ?_)
  try dsimp only at hwR
  have h1 := n_of_lk hn hL
  obtain ⟨hR1, hRK⟩ := ri_M hR hwR.2.1
  have hL1 := lk_step hL hXK hRK
  have hM1 := lm_step hM hwX.2.1 (fun q => by omega) (fun q => by omega) (fun t ht => (fun q => by omega)) (fun q => by omega) (fun q => by omega) (fun q => by omega) (fun c hc => ⟨(fun q => by omega), (fun q => by omega), (fun q => by omega)⟩) (rz_M hwR.2.1) hRK.2.2
  have hC1 := lc_step hLC hwX.2.1 (fun q => by omega) (fun q => by omega) (fun q => by omega) (rt_M hwR.2.1)
  obtain ⟨hrr, hQ1⟩ := q_visit hQ hU ho hwX.2.1 hwX.2.2 hwR hRK.2.2
  have hN1 : LN SX1 SR1 := ⟨hM1, nu_step hN hwX.2.1 (fun c hc => (fun q => by omega)), tl_step hTL hX hwX.2.1 (fun q => by omega) (fun q => by omega) (fun p k hp => (fun q => by omega)) (ry_M hwR.2.1)⟩
  refine lv_pop hx hb (fk_get fk_cL_law_7 8 rfl) rfl ?_
  refine lv_goto (tgt := 1280) hx hb (fk_get fk_cL_law_7 9 rfl) (by decide) ?_
  refine W.widen (k := cells + 12) (n := slots + 768) (by show cells + 0 + 0 ≤ cells + 12; omega) (by show slots + 0 + 0 ≤ slots + 768; omega) ?_
  exact kk aX SX1 SR1 H locs hV hwX.1 hR1 hL1 ⟨⟨hN1, hC1⟩, hQ1⟩ rfl
set_option maxHeartbeats 1600000 in
theorem law_9 {p : Program} {l : Launch} {e : Env} {s : State} {m : MethodId} {below : List Frame} {meth : Method} {c : Code} {H : Heap} {locs : List Loc} {cells slots : Nat} {Q : State → Prop} {ls : Array Slot} {b L i : Nat} {xs : Nat → Int32} {G : GG} {aX aR : Nat → Nat} {SX SR : FS} (C0 : lw_At p s m meth c b L xs) (hK : va_K G.1 vwCl (TYS G) s) (hE : EN G (AL s) s s.heap) (hin1 : vp_in (nI i + 1) L) (hin2 : vp_in (nI i + 2) L) (hin3 : vp_in (nI i + 3) L) (hin4 : vp_in (nI i + 4) L) (hin5 : vp_in (nI i + 5) L) (hV : LV G s H locs aX aR SX SR) (hX : XI SX) (hR : RI SR) (hL : LK SX SR) (hM0 : LE SX SR)
    (hl : lv_has ls 4 [(3, .int (nI i)), (2, .ref (aR 0)), (1, .ref (aX 0)), (0, .ref b)]) (hc : cells + 12 ≤ 600000) (hs : slots + 768 ≤ 7302250)
    (kk : ∀ (aX1 : Nat → Nat) (SX1 SR1 : FS) (H1 : Heap) (locs1 : List Loc), LV G s H1 locs1 aX1 aR SX1 SR1 → XI SX1 → RI SR1 → LK SX1 SR1 → LE SX1 SR1 → aX1 0 = aX 0 → W p l e room_1 s m #[Value.ref b] below meth c H1 locs1 (cells + 12) (slots + 768) Q (F0 m 1280 ls [])) : W p l e room_1 s m #[Value.ref b] below meth c H locs cells slots Q (F0 m 459 ls []) := by
  obtain ⟨hx, hb, hr, hml, hown, hts, hXs, hbl, hlocks, hgv⟩ := id C0
  have hT : ∀ w ∈ TBL, w.before #[Value.ref b] s = true := fun w h => hts w (tbl_in w h)
  have hbA : ¬ AL s b := Nat.not_le.mpr hbl
  obtain ⟨⟨⟨hM, hN, hTL⟩, hLC⟩, hQ⟩ := hM0
  obtain ⟨n, pz, zq, K, τ, C, hU⟩ := eq_cu hQ
  obtain ⟨hn6, hn, hcf, h99, hgg, hgc, hHq⟩ := id hU
  have hgcx : ∀ d, d < n → GC 9999 (gX SX (21 + 6 * 0 + d) (K d)) := fun d hd => by rw [hgg d hd]; exact hgc d hd
  have ho : fF SX (9 + 0) 6 = fF SR 0 2 := hL.1 6 (by omega) (by omega)
  have hofx : ∃ o : Nat, o ≤ 30 ∧ fF SX (9 + 0) 6 = nI o := hQ.1.2.1
  have hofr : ∃ o : Nat, o ≤ 30 ∧ fF SR 0 2 = nI o := by rw [← ho]; exact hofx
  have hHX := hHq.hox
  have h99r := mU_99 h99
  have hg01 := gc_7 hgc
  refine lv_aload_n hx hb (fk_get fk_cL_law_7 10 rfl) rfl (lv_at hl 2 rfl) ?_
  obtain ⟨hS, hPX, hDX, hPR, hDR, hdis⟩ := id hV
  refine lx_i hV (va_runV (As := []) (rest := []) ⟨hx, hb, hml, hown, hT⟩ (c_x11_saturdayX l G aX SX H.size n pz K τ C (by assumption) (by assumption) (by assumption) (by assumption) (by assumption) (by assumption)) (tV 0 hT m3_198 m3_199 m3_200 m1_1 m3_201 rfl rfl (by decide +kernel) ⟨Nat.le_of_ble_eq_true rfl, Nat.le_of_ble_eq_true rfl⟩) ⟨PcW_blind, va_recv hK hPX (ci := 13) (q0 := 0) rfl (ix_at (lt71 (by omega)) (cX_0 G aX SX)), PcW_of hPX hK hDX _⟩ rfl rfl hl.1 rfl (lv_room (Nat.le_of_ble_eq_true rfl)) (fk_get fk_cL_law_7 11 rfl) ⟨(by show cells + 0 ≤ 600000; omega), (by show slots + 0 ≤ 7302250; omega)⟩) (fun rX SX1 H locs hwX hV => ?_)
  try dsimp only at hwX
  have hXK : XK 0 SX SX1 := xk_fr hwX.2.1 (fun k h1 h2 q => by omega) (fun q => by omega) (fun k h1 h2 q => by omega)
  refine lv_pop hx hb (fk_get fk_cL_law_7 12 rfl) rfl ?_
  refine lv_aload_n hx hb (fk_get fk_cL_law_7 13 rfl) rfl (lv_at hl 1 rfl) ?_
  obtain ⟨hS, hPX, hDX, hPR, hDR, hdis⟩ := id hV
  obtain ⟨n', z', u', tx, tr, nc, r1, r2, rH, rV, r15, r5, r5b, r7, r7b, rc, r17, r17b, rT, r40, r40b, r20, r20b⟩ := ri_all hR
  have en_ : n = n' := (nI_eq (by omega) (by omega)).mp ((n_of_lk hn hL).symm.trans r1)
  subst en_
  refine lr_i hV (va_runV (As := []) (rest := []) ⟨hx, hb, hml, hown, hT⟩ (c_saturdayX l G aR SR H.size zq τ (mU C) n (by assumption) (by assumption) (by assumption) (by assumption) (by assumption) (by assumption)) (tV 0 hT m6_200 m6_201 m6_202 m1_17 m6_203 rfl rfl (by decide +kernel) ⟨Nat.le_of_ble_eq_true rfl, Nat.le_of_ble_eq_true rfl⟩) ⟨PcW_blind, va_recv hK hPR (ci := 14) (q0 := 0) rfl (ix_at (by decide) (cR_0 G aR SR)), PcW_of hPR hK hDR _⟩ rfl rfl hl.1 rfl (lv_room (Nat.le_of_ble_eq_true rfl)) (fk_get fk_cL_law_7 14 rfl) ⟨(by show cells + 0 + 0 ≤ 600000; omega), (by show slots + 0 + 0 ≤ 7302250; omega)⟩) (fun rR SR1 H locs hwR hV => ?_)
  try dsimp only at hwR
  have h1 := n_of_lk hn hL
  obtain ⟨hR1, hRK⟩ := ri_M hR hwR.2.1
  have hL1 := lk_step hL hXK hRK
  have hM1 := lm_step hM hwX.2.1 (fun q => by omega) (fun q => by omega) (fun t ht => (fun q => by omega)) (fun q => by omega) (fun q => by omega) (fun q => by omega) (fun c hc => ⟨(fun q => by omega), (fun q => by omega), (fun q => by omega)⟩) (rz_M hwR.2.1) hRK.2.2
  have hC1 := lc_step hLC hwX.2.1 (fun q => by omega) (fun q => by omega) (fun q => by omega) (rt_M hwR.2.1)
  obtain ⟨hrr, hQ1⟩ := q_saturday hQ hU ho hwX.2.1 hwX.2.2 hwR hRK.2.2
  have hN1 : LN SX1 SR1 := ⟨hM1, nu_step hN hwX.2.1 (fun c hc => (fun q => by omega)), tl_step hTL hX hwX.2.1 (fun q => by omega) (fun q => by omega) (fun p k hp => (fun q => by omega)) (ry_M hwR.2.1)⟩
  refine lv_pop hx hb (fk_get fk_cL_law_7 15 rfl) rfl ?_
  refine lv_goto (tgt := 1280) hx hb (fk_get fk_cL_law_7 16 rfl) (by decide) ?_
  refine W.widen (k := cells + 12) (n := slots + 768) (by show cells + 0 + 0 ≤ cells + 12; omega) (by show slots + 0 + 0 ≤ slots + 768; omega) ?_
  exact kk aX SX1 SR1 H locs hV hwX.1 hR1 hL1 ⟨⟨hN1, hC1⟩, hQ1⟩ rfl
