set_option maxHeartbeats 1600000 in
theorem law_10 {p : Program} {l : Launch} {e : Env} {s : State} {m : MethodId} {below : List Frame} {meth : Method} {c : Code} {H : Heap} {locs : List Loc} {cells slots : Nat} {Q : State → Prop} {ls : Array Slot} {b L i : Nat} {xs : Nat → Int32} {G : GG} {aX aR : Nat → Nat} {SX SR : FS} (C0 : lw_At p s m meth c b L xs) (hK : va_K G.1 vwCl (TYS G) s) (hE : EN G (AL s) s s.heap) (hin1 : vp_in (nI i + 1) L) (hin2 : vp_in (nI i + 2) L) (hin3 : vp_in (nI i + 3) L) (hin4 : vp_in (nI i + 4) L) (hin5 : vp_in (nI i + 5) L) (hV : LV G s H locs aX aR SX SR) (hX : XI SX) (hR : RI SR) (hL : LK SX SR) (hM0 : LE SX SR)
    (hl : lv_has ls 4 [(3, .int (nI i)), (2, .ref (aR 0)), (1, .ref (aX 0)), (0, .ref b)]) (hc : cells + 12 ≤ 600000) (hs : slots + 768 ≤ 7302250)
    (kk : ∀ (aX1 : Nat → Nat) (SX1 SR1 : FS) (H1 : Heap) (locs1 : List Loc), LV G s H1 locs1 aX1 aR SX1 SR1 → XI SX1 → RI SR1 → LK SX1 SR1 → LE SX1 SR1 → aX1 0 = aX 0 → W p l e room_1 s m #[Value.ref b] below meth c H1 locs1 (cells + 12) (slots + 768) Q (F0 m 1280 ls [])) : W p l e room_1 s m #[Value.ref b] below meth c H locs cells slots Q (F0 m 472 ls []) := by
  obtain ⟨hx, hb, hr, hml, hown, hts, hXs, hbl, hlocks, hgv⟩ := id C0
  have hT : ∀ w ∈ TBL, w.before #[Value.ref b] s = true := fun w h => hts w (tbl_in w h)
  have hbA : ¬ AL s b := Nat.not_le.mpr hbl
  obtain ⟨⟨⟨hM, hN, hTL⟩, hLC⟩, hQ⟩ := hM0
  obtain ⟨n, pz, zq, K, τ, C, hU⟩ := eq_cu hQ
  obtain ⟨hn6, hn, hcf, h99, hgg, hgc, hHq⟩ := id hU
  have hgcx : ∀ d, d < n → GC 9999 (gX SX (21 + 6 * 0 + d) (K d)) := fun d hd => by rw [hgg d hd]; exact hgc d hd
  have ho : fF SX (9 + 0) 6 = fF SR 0 2 := hL.1 6 (by omega) (by omega)
  have hofx : ∃ o : Nat, o ≤ 30 ∧ fF SX (9 + 0) 6 = nI o := hQ.1.2.1
  have hofr : ∃ o : Nat, o ≤ 30 ∧ fF SR 0 2 = nI o := by rw [← ho]; exact hofx
  have hHX := hHq.hox
  have h99r := mU_99 h99
  have hg01 := gc_7 hgc
  refine lv_aload_n hx hb (fk_get fk_cL_law_7 17 rfl) rfl (lv_at hl 2 rfl) ?_
  refine lv_aload_n hx hb (fk_get fk_cL_law_7 18 rfl) rfl (lv_at hl 3 rfl) ?_
  refine lv_iload_n hx hb (fk_get fk_cL_law_7 19 rfl) rfl (lv_at hl 0 rfl) ?_
  refine lv_iconst (v := 1) hx hb (fk_get fk_cL_law_7 20 rfl) (by decide) ?_
  refine lv_iadd hx hb (fk_get fk_cL_law_7 21 rfl) ?_
  refine va_sld hx hb hXs hbl hbA hV.1 hin1 (fk_get fk_cL_law_7 22 rfl) ?_
  refine lv_aload_n hx hb (fk_get fk_cL_law_7 23 rfl) rfl (lv_at hl 3 rfl) ?_
  refine lv_iload_n hx hb (fk_get fk_cL_law_7 24 rfl) rfl (lv_at hl 0 rfl) ?_
  refine lv_iconst (v := 2) hx hb (fk_get fk_cL_law_7 25 rfl) (by decide) ?_
  refine lv_iadd hx hb (fk_get fk_cL_law_7 26 rfl) ?_
  refine va_sld hx hb hXs hbl hbA hV.1 hin2 (fk_get fk_cL_law_7 27 rfl) ?_
  refine lv_aload_n hx hb (fk_get fk_cL_law_7 28 rfl) rfl (lv_at hl 3 rfl) ?_
  refine lv_iload_n hx hb (fk_get fk_cL_law_7 29 rfl) rfl (lv_at hl 0 rfl) ?_
  refine lv_iconst (v := 3) hx hb (fk_get fk_cL_law_7 30 rfl) (by decide) ?_
  refine lv_iadd hx hb (fk_get fk_cL_law_7 31 rfl) ?_
  refine va_sld hx hb hXs hbl hbA hV.1 hin3 (fk_get fk_cL_law_8 0 rfl) ?_
  obtain ⟨hS, hPX, hDX, hPR, hDR, hdis⟩ := id hV
  refine lx_i hV (va_runV (As := [.int (xs (nI i + 1).toNatClampNeg), .int (xs (nI i + 2).toNatClampNeg), .int (xs (nI i + 3).toNatClampNeg)]) (rest := []) ⟨hx, hb, hml, hown, hT⟩ (c_x11_onX l G aX SX H.size n pz K τ C ((xs (nI i + 1).toNatClampNeg)) ((xs (nI i + 2).toNatClampNeg)) ((xs (nI i + 3).toNatClampNeg)) (by assumption) (by assumption) (by assumption) (by assumption) (by assumption) (by assumption)) (tV 3 hT m3_207 m3_208 m3_209 m1_1 m3_210 rfl rfl (by decide +kernel) ⟨Nat.le_of_ble_eq_true rfl, Nat.le_of_ble_eq_true rfl⟩) ⟨PcW_blind, va_recv hK hPX (ci := 13) (q0 := 0) rfl (ix_at (lt71 (by omega)) (cX_0 G aX SX)), PcW_of hPX hK hDX _⟩ rfl rfl hl.1 rfl (lv_room (Nat.le_of_ble_eq_true rfl)) (fk_get fk_cL_law_8 1 rfl) ⟨(by show cells + 0 ≤ 600000; omega), (by show slots + 0 ≤ 7302250; omega)⟩) (fun rX SX1 H locs hwX hV => ?_)
  try dsimp only at hwX
  have hXK : XK 0 SX SX1 := xk_fr hwX.2.1 (fun k h1 h2 q => by omega) (fun q => by omega) (fun k h1 h2 q => by omega)
  refine lv_pop hx hb (fk_get fk_cL_law_8 2 rfl) rfl ?_
  refine lv_aload_n hx hb (fk_get fk_cL_law_8 3 rfl) rfl (lv_at hl 1 rfl) ?_
  refine lv_aload_n hx hb (fk_get fk_cL_law_8 4 rfl) rfl (lv_at hl 3 rfl) ?_
  refine lv_iload_n hx hb (fk_get fk_cL_law_8 5 rfl) rfl (lv_at hl 0 rfl) ?_
  refine lv_iconst (v := 1) hx hb (fk_get fk_cL_law_8 6 rfl) (by decide) ?_
  refine lv_iadd hx hb (fk_get fk_cL_law_8 7 rfl) ?_
  refine va_sld hx hb hXs hbl hbA hV.1 hin1 (fk_get fk_cL_law_8 8 rfl) ?_
  refine lv_aload_n hx hb (fk_get fk_cL_law_8 9 rfl) rfl (lv_at hl 3 rfl) ?_
  refine lv_iload_n hx hb (fk_get fk_cL_law_8 10 rfl) rfl (lv_at hl 0 rfl) ?_
  refine lv_iconst (v := 2) hx hb (fk_get fk_cL_law_8 11 rfl) (by decide) ?_
  refine lv_iadd hx hb (fk_get fk_cL_law_8 12 rfl) ?_
  refine va_sld hx hb hXs hbl hbA hV.1 hin2 (fk_get fk_cL_law_8 13 rfl) ?_
  refine lv_aload_n hx hb (fk_get fk_cL_law_8 14 rfl) rfl (lv_at hl 3 rfl) ?_
  refine lv_iload_n hx hb (fk_get fk_cL_law_8 15 rfl) rfl (lv_at hl 0 rfl) ?_
  refine lv_iconst (v := 3) hx hb (fk_get fk_cL_law_8 16 rfl) (by decide) ?_
  refine lv_iadd hx hb (fk_get fk_cL_law_8 17 rfl) ?_
  refine va_sld hx hb hXs hbl hbA hV.1 hin3 (fk_get fk_cL_law_8 18 rfl) ?_
  obtain ⟨hS, hPX, hDX, hPR, hDR, hdis⟩ := id hV
  obtain ⟨n', z', u', tx, tr, nc, r1, r2, rH, rV, r15, r5, r5b, r7, r7b, rc, r17, r17b, rT, r40, r40b, r20, r20b⟩ := ri_all hR
  have en_ : n = n' := (nI_eq (by omega) (by omega)).mp ((n_of_lk hn hL).symm.trans r1)
  subst en_
  refine lr_i hV (va_runV (As := [.int (xs (nI i + 1).toNatClampNeg), .int (xs (nI i + 2).toNatClampNeg), .int (xs (nI i + 3).toNatClampNeg)]) (rest := []) ⟨hx, hb, hml, hown, hT⟩ (c_onX l G aR SR H.size zq τ (mU C) n ((xs (nI i + 1).toNatClampNeg)) ((xs (nI i + 2).toNatClampNeg)) ((xs (nI i + 3).toNatClampNeg)) (by assumption) (by assumption) (by assumption) (by assumption) (by assumption) (by assumption)) (tV 3 hT m6_212 m6_213 m6_214 m1_17 m6_215 rfl rfl (by decide +kernel) ⟨Nat.le_of_ble_eq_true rfl, Nat.le_of_ble_eq_true rfl⟩) ⟨PcW_blind, va_recv hK hPR (ci := 14) (q0 := 0) rfl (ix_at (by decide) (cR_0 G aR SR)), PcW_of hPR hK hDR _⟩ rfl rfl hl.1 rfl (lv_room (Nat.le_of_ble_eq_true rfl)) (fk_get fk_cL_law_8 19 rfl) ⟨(by show cells + 0 + 0 ≤ 600000; omega), (by show slots + 0 + 0 ≤ 7302250; omega)⟩) (fun rR SR1 H locs hwR hV => ?_)
  try dsimp only at hwR
  have h1 := n_of_lk hn hL
  obtain ⟨hR1, hRK⟩ := ri_Q hR hwR.1
  have hL1 := lk_step hL hXK hRK
  have hM1 := lm_step hM hwX.2.1 (fun q => by omega) (fun q => by omega) (fun t ht => (fun q => by omega)) (fun q => by omega) (fun q => by omega) (fun q => by omega) (fun c hc => ⟨(fun q => by omega), (fun q => by omega), (fun q => by omega)⟩) (rz_Q hwR.1) hRK.2.2
  have hC1 := lc_step hLC hwX.2.1 (fun q => by omega) (fun q => by omega) (fun q => by omega) (rt_Q hwR.1)
  have hrr := q_on ho hn6 hgg hwX.2.2 hwR.2
  have hQ1 := eq_step hQ hwX.2.1 ⟨fun c k a b d q => by omega, fun c a q => by omega, fun q => by omega, fun q => by omega, fun q => by omega, fun q => by omega⟩ ⟨fun c k a b d q => by omega, fun c a q => by omega, fun q => by omega, fun q => by omega, fun q => by omega, fun q => by omega⟩ (fun q => by omega) (fun j k a q => by omega) (re_Q hwR.1) hRK.2.2
  have hN1 : LN SX1 SR1 := ⟨hM1, nu_step hN hwX.2.1 (fun c hc => (fun q => by omega)), tl_step hTL hX hwX.2.1 (fun q => by omega) (fun q => by omega) (fun p k hp => (fun q => by omega)) (ry_Q hwR.1)⟩
  refine lv_pop hx hb (fk_get fk_cL_law_8 20 rfl) rfl ?_
  refine lv_goto (tgt := 1280) hx hb (fk_get fk_cL_law_8 21 rfl) (by decide) ?_
  refine W.widen (k := cells + 12) (n := slots + 768) (by show cells + 0 + 0 ≤ cells + 12; omega) (by show slots + 0 + 0 ≤ slots + 768; omega) ?_
  exact kk aX SX1 SR1 H locs hV hwX.1 hR1 hL1 ⟨⟨hN1, hC1⟩, hQ1⟩ rfl
set_option maxHeartbeats 1600000 in
theorem law_11 {p : Program} {l : Launch} {e : Env} {s : State} {m : MethodId} {below : List Frame} {meth : Method} {c : Code} {H : Heap} {locs : List Loc} {cells slots : Nat} {Q : State → Prop} {ls : Array Slot} {b L i : Nat} {xs : Nat → Int32} {G : GG} {aX aR : Nat → Nat} {SX SR : FS} (C0 : lw_At p s m meth c b L xs) (hK : va_K G.1 vwCl (TYS G) s) (hE : EN G (AL s) s s.heap) (hin1 : vp_in (nI i + 1) L) (hin2 : vp_in (nI i + 2) L) (hin3 : vp_in (nI i + 3) L) (hin4 : vp_in (nI i + 4) L) (hin5 : vp_in (nI i + 5) L) (hV : LV G s H locs aX aR SX SR) (hX : XI SX) (hR : RI SR) (hL : LK SX SR) (hM0 : LE SX SR)
    (hl : lv_has ls 4 [(3, .int (nI i)), (2, .ref (aR 0)), (1, .ref (aX 0)), (0, .ref b)]) (hc : cells + 12 ≤ 600000) (hs : slots + 768 ≤ 7302250)
    (kk : ∀ (aX1 : Nat → Nat) (SX1 SR1 : FS) (H1 : Heap) (locs1 : List Loc), LV G s H1 locs1 aX1 aR SX1 SR1 → XI SX1 → RI SR1 → LK SX1 SR1 → LE SX1 SR1 → aX1 0 = aX 0 → W p l e room_1 s m #[Value.ref b] below meth c H1 locs1 (cells + 12) (slots + 768) Q (F0 m 1280 ls [])) : W p l e room_1 s m #[Value.ref b] below meth c H locs cells slots Q (F0 m 515 ls []) := by
  obtain ⟨hx, hb, hr, hml, hown, hts, hXs, hbl, hlocks, hgv⟩ := id C0
  have hT : ∀ w ∈ TBL, w.before #[Value.ref b] s = true := fun w h => hts w (tbl_in w h)
  have hbA : ¬ AL s b := Nat.not_le.mpr hbl
  obtain ⟨⟨⟨hM, hN, hTL⟩, hLC⟩, hQ⟩ := hM0
  obtain ⟨n, pz, zq, K, τ, C, hU⟩ := eq_cu hQ
  obtain ⟨hn6, hn, hcf, h99, hgg, hgc, hHq⟩ := id hU
  have hgcx : ∀ d, d < n → GC 9999 (gX SX (21 + 6 * 0 + d) (K d)) := fun d hd => by rw [hgg d hd]; exact hgc d hd
  have ho : fF SX (9 + 0) 6 = fF SR 0 2 := hL.1 6 (by omega) (by omega)
  have hofx : ∃ o : Nat, o ≤ 30 ∧ fF SX (9 + 0) 6 = nI o := hQ.1.2.1
  have hofr : ∃ o : Nat, o ≤ 30 ∧ fF SR 0 2 = nI o := by rw [← ho]; exact hofx
  have hHX := hHq.hox
  have h99r := mU_99 h99
  have hg01 := gc_7 hgc
  refine lv_aload_n hx hb (fk_get fk_cL_law_8 22 rfl) rfl (lv_at hl 2 rfl) ?_
  refine lv_aload_n hx hb (fk_get fk_cL_law_8 23 rfl) rfl (lv_at hl 3 rfl) ?_
  refine lv_iload_n hx hb (fk_get fk_cL_law_8 24 rfl) rfl (lv_at hl 0 rfl) ?_
  refine lv_iconst (v := 1) hx hb (fk_get fk_cL_law_8 25 rfl) (by decide) ?_
  refine lv_iadd hx hb (fk_get fk_cL_law_8 26 rfl) ?_
  refine va_sld hx hb hXs hbl hbA hV.1 hin1 (fk_get fk_cL_law_8 27 rfl) ?_
  refine lv_aload_n hx hb (fk_get fk_cL_law_8 28 rfl) rfl (lv_at hl 3 rfl) ?_
  refine lv_iload_n hx hb (fk_get fk_cL_law_8 29 rfl) rfl (lv_at hl 0 rfl) ?_
  refine lv_iconst (v := 2) hx hb (fk_get fk_cL_law_8 30 rfl) (by decide) ?_
  refine lv_iadd hx hb (fk_get fk_cL_law_8 31 rfl) ?_
  refine va_sld hx hb hXs hbl hbA hV.1 hin2 (fk_get fk_cL_law_9 0 rfl) ?_
  obtain ⟨hS, hPX, hDX, hPR, hDR, hdis⟩ := id hV
  refine vp_callSi (W.runV (As := [.int (xs (nI i + 1).toNatClampNeg), .int (xs (nI i + 2).toNatClampNeg)]) (rest := []) ⟨hx, hb, hml, hown, hT⟩ (c_x11_askedX l G aX SX H.size n pz K τ C ((xs (nI i + 1).toNatClampNeg)) ((xs (nI i + 2).toNatClampNeg)) (by assumption) (by assumption) (by assumption) (by assumption) (by assumption) (by assumption)) (tV 2 hT m3_229 m3_230 m3_231 m1_1 m3_232 rfl rfl (by decide +kernel) ⟨Nat.le_of_ble_eq_true rfl, Nat.le_of_ble_eq_true rfl⟩) ⟨PcW_blind, va_recv hK hPX (ci := 13) (q0 := 0) rfl (ix_at (lt71 (by omega)) (cX_0 G aX SX)), PcW_of hPX hK hDX _⟩ rfl rfl hl.1 rfl (lv_room (Nat.le_of_ble_eq_true rfl)) (fk_get fk_cL_law_9 1 rfl) ⟨(by show cells + 0 ≤ 600000; omega), (by show slots + 0 ≤ 7302250; omega)⟩) (fun rX hwX => ?_)
  have hXK : XK 0 SX SX := xk_rf
  refine lv_pop hx hb (fk_get fk_cL_law_9 2 rfl) rfl ?_
  refine lv_aload_n hx hb (fk_get fk_cL_law_9 3 rfl) rfl (lv_at hl 1 rfl) ?_
  refine lv_aload_n hx hb (fk_get fk_cL_law_9 4 rfl) rfl (lv_at hl 3 rfl) ?_
  refine lv_iload_n hx hb (fk_get fk_cL_law_9 5 rfl) rfl (lv_at hl 0 rfl) ?_
  refine lv_iconst (v := 1) hx hb (fk_get fk_cL_law_9 6 rfl) (by decide) ?_
  refine lv_iadd hx hb (fk_get fk_cL_law_9 7 rfl) ?_
  refine va_sld hx hb hXs hbl hbA hV.1 hin1 (fk_get fk_cL_law_9 8 rfl) ?_
  refine lv_aload_n hx hb (fk_get fk_cL_law_9 9 rfl) rfl (lv_at hl 3 rfl) ?_
  refine lv_iload_n hx hb (fk_get fk_cL_law_9 10 rfl) rfl (lv_at hl 0 rfl) ?_
  refine lv_iconst (v := 2) hx hb (fk_get fk_cL_law_9 11 rfl) (by decide) ?_
  refine lv_iadd hx hb (fk_get fk_cL_law_9 12 rfl) ?_
  refine va_sld hx hb hXs hbl hbA hV.1 hin2 (fk_get fk_cL_law_9 13 rfl) ?_
  obtain ⟨hS, hPX, hDX, hPR, hDR, hdis⟩ := id hV
  obtain ⟨n', z', u', tx, tr, nc, r1, r2, rH, rV, r15, r5, r5b, r7, r7b, rc, r17, r17b, rT, r40, r40b, r20, r20b⟩ := ri_all hR
  have en_ : n = n' := (nI_eq (by omega) (by omega)).mp ((n_of_lk hn hL).symm.trans r1)
  subst en_
  refine lr_i hV (va_runV (As := [.int (xs (nI i + 1).toNatClampNeg), .int (xs (nI i + 2).toNatClampNeg)]) (rest := []) ⟨hx, hb, hml, hown, hT⟩ (c_askedX l G aR SR H.size zq τ (mU C) n ((xs (nI i + 1).toNatClampNeg)) ((xs (nI i + 2).toNatClampNeg)) (by assumption) (by assumption) (by assumption) (by assumption) (by assumption) (by assumption) (by assumption) (by assumption) (by assumption)) (tV 2 hT m6_230 m6_231 m6_232 m1_17 m6_233 rfl rfl (by decide +kernel) ⟨Nat.le_of_ble_eq_true rfl, Nat.le_of_ble_eq_true rfl⟩) ⟨PcW_blind, va_recv hK hPR (ci := 14) (q0 := 0) rfl (ix_at (by decide) (cR_0 G aR SR)), PcW_of hPR hK hDR _⟩ rfl rfl hl.1 rfl (lv_room (Nat.le_of_ble_eq_true rfl)) (fk_get fk_cL_law_9 14 rfl) ⟨(by show cells + 0 ≤ 600000; omega), (by show slots + 0 ≤ 7302250; omega)⟩) (fun rR SR1 H locs hwR hV => ?_)
  try dsimp only at hwR
  have h1 := n_of_lk hn hL
  obtain ⟨hR1, hRK⟩ := ri_H hR hwR.1
  have hL1 := lk_step hL hXK hRK
  have hM1 := lm_step hM (Fr.rf : Fr (fun _ _ => False) SX SX) (fun q => q) (fun q => q) (fun t ht => (fun q => q)) (fun q => q) (fun q => q) (fun q => q) (fun c hc => ⟨(fun q => q), (fun q => q), (fun q => q)⟩) (rz_H hwR.1) hRK.2.2
  have hC1 := lc_step hLC (Fr.rf : Fr (fun _ _ => False) SX SX) (fun q => q) (fun q => q) (fun q => q) (rt_H hwR.1)
  have hrr := q_asked ho hn6 hgg hwX hwR.2
  have hQ1 := eq_step hQ (Fr.rf : Fr (fun _ _ => False) SX SX) np_F np_F (fun q => q) (fun _ _ _ q => q) (re_H hwR.1) hRK.2.2
  have hN1 : LN SX SR1 := ⟨hM1, nu_step hN (Fr.rf : Fr (fun _ _ => False) SX SX) (fun c hc => (fun q => q)), tl_step hTL hX (Fr.rf : Fr (fun _ _ => False) SX SX) (fun q => q) (fun q => q) (fun p k hp => (fun q => q)) (ry_H hwR.1)⟩
  refine lv_pop hx hb (fk_get fk_cL_law_9 15 rfl) rfl ?_
  refine lv_goto (tgt := 1280) hx hb (fk_get fk_cL_law_9 16 rfl) (by decide) ?_
  refine W.widen (k := cells + 12) (n := slots + 768) (by show cells + 0 ≤ cells + 12; omega) (by show slots + 0 ≤ slots + 768; omega) ?_
  exact kk aX SX SR1 H locs hV hX hR1 hL1 ⟨⟨hN1, hC1⟩, hQ1⟩ rfl
set_option maxHeartbeats 1600000 in
theorem law_12 {p : Program} {l : Launch} {e : Env} {s : State} {m : MethodId} {below : List Frame} {meth : Method} {c : Code} {H : Heap} {locs : List Loc} {cells slots : Nat} {Q : State → Prop} {ls : Array Slot} {b L i : Nat} {xs : Nat → Int32} {G : GG} {aX aR : Nat → Nat} {SX SR : FS} (C0 : lw_At p s m meth c b L xs) (hK : va_K G.1 vwCl (TYS G) s) (hE : EN G (AL s) s s.heap) (hin1 : vp_in (nI i + 1) L) (hin2 : vp_in (nI i + 2) L) (hin3 : vp_in (nI i + 3) L) (hin4 : vp_in (nI i + 4) L) (hin5 : vp_in (nI i + 5) L) (hV : LV G s H locs aX aR SX SR) (hX : XI SX) (hR : RI SR) (hL : LK SX SR) (hM0 : LE SX SR)
    (hl : lv_has ls 4 [(3, .int (nI i)), (2, .ref (aR 0)), (1, .ref (aX 0)), (0, .ref b)]) (hc : cells + 12 ≤ 600000) (hs : slots + 768 ≤ 7302250)
    (kk : ∀ (aX1 : Nat → Nat) (SX1 SR1 : FS) (H1 : Heap) (locs1 : List Loc), LV G s H1 locs1 aX1 aR SX1 SR1 → XI SX1 → RI SR1 → LK SX1 SR1 → LE SX1 SR1 → aX1 0 = aX 0 → W p l e room_1 s m #[Value.ref b] below meth c H1 locs1 (cells + 12) (slots + 768) Q (F0 m 1280 ls [])) : W p l e room_1 s m #[Value.ref b] below meth c H locs cells slots Q (F0 m 548 ls []) := by
  obtain ⟨hx, hb, hr, hml, hown, hts, hXs, hbl, hlocks, hgv⟩ := id C0
  have hT : ∀ w ∈ TBL, w.before #[Value.ref b] s = true := fun w h => hts w (tbl_in w h)
  have hbA : ¬ AL s b := Nat.not_le.mpr hbl
  obtain ⟨⟨⟨hM, hN, hTL⟩, hLC⟩, hQ⟩ := hM0
  obtain ⟨n, pz, zq, K, τ, C, hU⟩ := eq_cu hQ
  obtain ⟨hn6, hn, hcf, h99, hgg, hgc, hHq⟩ := id hU
  have hgcx : ∀ d, d < n → GC 9999 (gX SX (21 + 6 * 0 + d) (K d)) := fun d hd => by rw [hgg d hd]; exact hgc d hd
  have ho : fF SX (9 + 0) 6 = fF SR 0 2 := hL.1 6 (by omega) (by omega)
  have hofx : ∃ o : Nat, o ≤ 30 ∧ fF SX (9 + 0) 6 = nI o := hQ.1.2.1
  have hofr : ∃ o : Nat, o ≤ 30 ∧ fF SR 0 2 = nI o := by rw [← ho]; exact hofx
  have hHX := hHq.hox
  have h99r := mU_99 h99
  have hg01 := gc_7 hgc
  refine lv_aload_n hx hb (fk_get fk_cL_law_9 17 rfl) rfl (lv_at hl 2 rfl) ?_
  refine lv_aload_n hx hb (fk_get fk_cL_law_9 18 rfl) rfl (lv_at hl 3 rfl) ?_
  refine lv_iload_n hx hb (fk_get fk_cL_law_9 19 rfl) rfl (lv_at hl 0 rfl) ?_
  refine lv_iconst (v := 1) hx hb (fk_get fk_cL_law_9 20 rfl) (by decide) ?_
  refine lv_iadd hx hb (fk_get fk_cL_law_9 21 rfl) ?_
  refine va_sld hx hb hXs hbl hbA hV.1 hin1 (fk_get fk_cL_law_9 22 rfl) ?_
  refine lv_aload_n hx hb (fk_get fk_cL_law_9 23 rfl) rfl (lv_at hl 3 rfl) ?_
  refine lv_iload_n hx hb (fk_get fk_cL_law_9 24 rfl) rfl (lv_at hl 0 rfl) ?_
  refine lv_iconst (v := 2) hx hb (fk_get fk_cL_law_9 25 rfl) (by decide) ?_
  refine lv_iadd hx hb (fk_get fk_cL_law_9 26 rfl) ?_
  refine va_sld hx hb hXs hbl hbA hV.1 hin2 (fk_get fk_cL_law_9 27 rfl) ?_
  obtain ⟨hS, hPX, hDX, hPR, hDR, hdis⟩ := id hV
  refine lx_i hV (va_runV (As := [.int (xs (nI i + 1).toNatClampNeg), .int (xs (nI i + 2).toNatClampNeg)]) (rest := []) ⟨hx, hb, hml, hown, hT⟩ (c_x11_dareX l G aX SX H.size n pz K τ C ((xs (nI i + 1).toNatClampNeg)) ((xs (nI i + 2).toNatClampNeg)) (by assumption) (by assumption) (by assumption) (by assumption) (by assumption) (by assumption)) (tV 2 hT m3_238 m3_239 m4_0 m1_1 m4_1 rfl rfl (by decide +kernel) ⟨Nat.le_of_ble_eq_true rfl, Nat.le_of_ble_eq_true rfl⟩) ⟨PcW_blind, va_recv hK hPX (ci := 13) (q0 := 0) rfl (ix_at (lt71 (by omega)) (cX_0 G aX SX)), PcW_of hPX hK hDX _⟩ rfl rfl hl.1 rfl (lv_room (Nat.le_of_ble_eq_true rfl)) (fk_get fk_cL_law_9 28 rfl) ⟨(by show cells + 0 ≤ 600000; omega), (by show slots + 0 ≤ 7302250; omega)⟩) (fun rX SX1 H locs hwX hV => ?_)
  try dsimp only at hwX
  have hXK : XK 0 SX SX1 := xk_fr hwX.2.1 (fun k h1 h2 q => by omega) (fun q => by omega) (fun k h1 h2 q => by omega)
  refine lv_pop hx hb (fk_get fk_cL_law_9 29 rfl) rfl ?_
  refine lv_aload_n hx hb (fk_get fk_cL_law_9 30 rfl) rfl (lv_at hl 1 rfl) ?_
  refine lv_aload_n hx hb (fk_get fk_cL_law_9 31 rfl) rfl (lv_at hl 3 rfl) ?_
  refine lv_iload_n hx hb (fk_get fk_cL_law_10 0 rfl) rfl (lv_at hl 0 rfl) ?_
  refine lv_iconst (v := 1) hx hb (fk_get fk_cL_law_10 1 rfl) (by decide) ?_
  refine lv_iadd hx hb (fk_get fk_cL_law_10 2 rfl) ?_
  refine va_sld hx hb hXs hbl hbA hV.1 hin1 (fk_get fk_cL_law_10 3 rfl) ?_
  refine lv_aload_n hx hb (fk_get fk_cL_law_10 4 rfl) rfl (lv_at hl 3 rfl) ?_
  refine lv_iload_n hx hb (fk_get fk_cL_law_10 5 rfl) rfl (lv_at hl 0 rfl) ?_
  refine lv_iconst (v := 2) hx hb (fk_get fk_cL_law_10 6 rfl) (by decide) ?_
  refine lv_iadd hx hb (fk_get fk_cL_law_10 7 rfl) ?_
  refine va_sld hx hb hXs hbl hbA hV.1 hin2 (fk_get fk_cL_law_10 8 rfl) ?_
  obtain ⟨hS, hPX, hDX, hPR, hDR, hdis⟩ := id hV
  obtain ⟨n', z', u', tx, tr, nc, r1, r2, rH, rV, r15, r5, r5b, r7, r7b, rc, r17, r17b, rT, r40, r40b, r20, r20b⟩ := ri_all hR
  have en_ : n = n' := (nI_eq (by omega) (by omega)).mp ((n_of_lk hn hL).symm.trans r1)
  subst en_
  refine lr_i hV (va_runV (As := [.int (xs (nI i + 1).toNatClampNeg), .int (xs (nI i + 2).toNatClampNeg)]) (rest := []) ⟨hx, hb, hml, hown, hT⟩ (c_dareX l G aR SR H.size zq τ (mU C) n ((xs (nI i + 1).toNatClampNeg)) ((xs (nI i + 2).toNatClampNeg)) (by assumption) (by assumption) (by assumption) (by assumption) (by assumption) (by assumption)) (tV 2 hT m6_237 m6_238 m6_239 m1_17 m7_0 rfl rfl (by decide +kernel) ⟨Nat.le_of_ble_eq_true rfl, Nat.le_of_ble_eq_true rfl⟩) ⟨PcW_blind, va_recv hK hPR (ci := 14) (q0 := 0) rfl (ix_at (by decide) (cR_0 G aR SR)), PcW_of hPR hK hDR _⟩ rfl rfl hl.1 rfl (lv_room (Nat.le_of_ble_eq_true rfl)) (fk_get fk_cL_law_10 9 rfl) ⟨(by show cells + 0 + 0 ≤ 600000; omega), (by show slots + 0 + 0 ≤ 7302250; omega)⟩) (fun rR SR1 H locs hwR hV => ?_)
  try dsimp only at hwR
  have h1 := n_of_lk hn hL
  obtain ⟨hR1, hRK⟩ := ri_Q hR hwR.1
  have hL1 := lk_step hL hXK hRK
  have hM1 := lm_step hM hwX.2.1 (fun q => by omega) (fun q => by omega) (fun t ht => (fun q => by omega)) (fun q => by omega) (fun q => by omega) (fun q => by omega) (fun c hc => ⟨(fun q => by omega), (fun q => by omega), (fun q => by omega)⟩) (rz_Q hwR.1) hRK.2.2
  have hC1 := lc_step hLC hwX.2.1 (fun q => by omega) (fun q => by omega) (fun q => by omega) (rt_Q hwR.1)
  have hrr := q_dare ho hn6 hgg hwX.2.2 hwR.2
  have hQ1 := eq_step hQ hwX.2.1 ⟨fun c k a b d q => by omega, fun c a q => by omega, fun q => by omega, fun q => by omega, fun q => by omega, fun q => by omega⟩ ⟨fun c k a b d q => by omega, fun c a q => by omega, fun q => by omega, fun q => by omega, fun q => by omega, fun q => by omega⟩ (fun q => by omega) (fun j k a q => by omega) (re_Q hwR.1) hRK.2.2
  have hN1 : LN SX1 SR1 := ⟨hM1, nu_step hN hwX.2.1 (fun c hc => (fun q => by omega)), tl_step hTL hX hwX.2.1 (fun q => by omega) (fun q => by omega) (fun p k hp => (fun q => by omega)) (ry_Q hwR.1)⟩
  refine lv_pop hx hb (fk_get fk_cL_law_10 10 rfl) rfl ?_
  refine lv_goto (tgt := 1280) hx hb (fk_get fk_cL_law_10 11 rfl) (by decide) ?_
  refine W.widen (k := cells + 12) (n := slots + 768) (by show cells + 0 + 0 ≤ cells + 12; omega) (by show slots + 0 + 0 ≤ slots + 768; omega) ?_
  exact kk aX SX1 SR1 H locs hV hwX.1 hR1 hL1 ⟨⟨hN1, hC1⟩, hQ1⟩ rfl
set_option maxHeartbeats 1600000 in
theorem law_13 {p : Program} {l : Launch} {e : Env} {s : State} {m : MethodId} {below : List Frame} {meth : Method} {c : Code} {H : Heap} {locs : List Loc} {cells slots : Nat} {Q : State → Prop} {ls : Array Slot} {b L i : Nat} {xs : Nat → Int32} {G : GG} {aX aR : Nat → Nat} {SX SR : FS} (C0 : lw_At p s m meth c b L xs) (hK : va_K G.1 vwCl (TYS G) s) (hE : EN G (AL s) s s.heap) (hin1 : vp_in (nI i + 1) L) (hin2 : vp_in (nI i + 2) L) (hin3 : vp_in (nI i + 3) L) (hin4 : vp_in (nI i + 4) L) (hin5 : vp_in (nI i + 5) L) (hV : LV G s H locs aX aR SX SR) (hX : XI SX) (hR : RI SR) (hL : LK SX SR) (hM0 : LE SX SR)
    (hl : lv_has ls 4 [(3, .int (nI i)), (2, .ref (aR 0)), (1, .ref (aX 0)), (0, .ref b)]) (hc : cells + 12 ≤ 600000) (hs : slots + 768 ≤ 7302250)
    (kk : ∀ (aX1 : Nat → Nat) (SX1 SR1 : FS) (H1 : Heap) (locs1 : List Loc), LV G s H1 locs1 aX1 aR SX1 SR1 → XI SX1 → RI SR1 → LK SX1 SR1 → LE SX1 SR1 → aX1 0 = aX 0 → W p l e room_1 s m #[Value.ref b] below meth c H1 locs1 (cells + 12) (slots + 768) Q (F0 m 1280 ls [])) : W p l e room_1 s m #[Value.ref b] below meth c H locs cells slots Q (F0 m 581 ls []) := by
  obtain ⟨hx, hb, hr, hml, hown, hts, hXs, hbl, hlocks, hgv⟩ := id C0
  have hT : ∀ w ∈ TBL, w.before #[Value.ref b] s = true := fun w h => hts w (tbl_in w h)
  have hbA : ¬ AL s b := Nat.not_le.mpr hbl
  obtain ⟨⟨⟨hM, hN, hTL⟩, hLC⟩, hQ⟩ := hM0
  obtain ⟨n, pz, zq, K, τ, C, hU⟩ := eq_cu hQ
  obtain ⟨hn6, hn, hcf, h99, hgg, hgc, hHq⟩ := id hU
  have hgcx : ∀ d, d < n → GC 9999 (gX SX (21 + 6 * 0 + d) (K d)) := fun d hd => by rw [hgg d hd]; exact hgc d hd
  have ho : fF SX (9 + 0) 6 = fF SR 0 2 := hL.1 6 (by omega) (by omega)
  have hofx : ∃ o : Nat, o ≤ 30 ∧ fF SX (9 + 0) 6 = nI o := hQ.1.2.1
  have hofr : ∃ o : Nat, o ≤ 30 ∧ fF SR 0 2 = nI o := by rw [← ho]; exact hofx
  have hHX := hHq.hox
  have h99r := mU_99 h99
  have hg01 := gc_7 hgc
  refine lv_aload_n hx hb (fk_get fk_cL_law_10 12 rfl) rfl (lv_at hl 2 rfl) ?_
  refine lv_aload_n hx hb (fk_get fk_cL_law_10 13 rfl) rfl (lv_at hl 3 rfl) ?_
  refine lv_iload_n hx hb (fk_get fk_cL_law_10 14 rfl) rfl (lv_at hl 0 rfl) ?_
  refine lv_iconst (v := 1) hx hb (fk_get fk_cL_law_10 15 rfl) (by decide) ?_
  refine lv_iadd hx hb (fk_get fk_cL_law_10 16 rfl) ?_
  refine va_sld hx hb hXs hbl hbA hV.1 hin1 (fk_get fk_cL_law_10 17 rfl) ?_
  refine lv_aload_n hx hb (fk_get fk_cL_law_10 18 rfl) rfl (lv_at hl 3 rfl) ?_
  refine lv_iload_n hx hb (fk_get fk_cL_law_10 19 rfl) rfl (lv_at hl 0 rfl) ?_
  refine lv_iconst (v := 2) hx hb (fk_get fk_cL_law_10 20 rfl) (by decide) ?_
  refine lv_iadd hx hb (fk_get fk_cL_law_10 21 rfl) ?_
  refine va_sld hx hb hXs hbl hbA hV.1 hin2 (fk_get fk_cL_law_10 22 rfl) ?_
  obtain ⟨hS, hPX, hDX, hPR, hDR, hdis⟩ := id hV
  refine lx_i hV (va_runV (As := [.int (xs (nI i + 1).toNatClampNeg), .int (xs (nI i + 2).toNatClampNeg)]) (rest := []) ⟨hx, hb, hml, hown, hT⟩ (c_x11_learntX l G aX SX H.size n pz K τ C ((xs (nI i + 1).toNatClampNeg)) ((xs (nI i + 2).toNatClampNeg)) (by assumption) (by assumption) (by assumption) (by assumption) (by assumption) (by assumption)) (tV 2 hT m4_6 m4_7 m4_8 m1_1 m4_9 rfl rfl (by decide +kernel) ⟨Nat.le_of_ble_eq_true rfl, Nat.le_of_ble_eq_true rfl⟩) ⟨PcW_blind, va_recv hK hPX (ci := 13) (q0 := 0) rfl (ix_at (lt71 (by omega)) (cX_0 G aX SX)), PcW_of hPX hK hDX _⟩ rfl rfl hl.1 rfl (lv_room (Nat.le_of_ble_eq_true rfl)) (fk_get fk_cL_law_10 23 rfl) ⟨(by show cells + 0 ≤ 600000; omega), (by show slots + 0 ≤ 7302250; omega)⟩) (fun rX SX1 H locs hwX hV => ?_)
  try dsimp only at hwX
  have hXK : XK 0 SX SX1 := xk_fr hwX.2.1 (fun k h1 h2 q => by omega) (fun q => by omega) (fun k h1 h2 q => by omega)
  refine lv_pop hx hb (fk_get fk_cL_law_10 24 rfl) rfl ?_
  refine lv_aload_n hx hb (fk_get fk_cL_law_10 25 rfl) rfl (lv_at hl 1 rfl) ?_
  refine lv_aload_n hx hb (fk_get fk_cL_law_10 26 rfl) rfl (lv_at hl 3 rfl) ?_
  refine lv_iload_n hx hb (fk_get fk_cL_law_10 27 rfl) rfl (lv_at hl 0 rfl) ?_
  refine lv_iconst (v := 1) hx hb (fk_get fk_cL_law_10 28 rfl) (by decide) ?_
  refine lv_iadd hx hb (fk_get fk_cL_law_10 29 rfl) ?_
  refine va_sld hx hb hXs hbl hbA hV.1 hin1 (fk_get fk_cL_law_10 30 rfl) ?_
  refine lv_aload_n hx hb (fk_get fk_cL_law_10 31 rfl) rfl (lv_at hl 3 rfl) ?_
  refine lv_iload_n hx hb (fk_get fk_cL_law_11 0 rfl) rfl (lv_at hl 0 rfl) ?_
  refine lv_iconst (v := 2) hx hb (fk_get fk_cL_law_11 1 rfl) (by decide) ?_
  refine lv_iadd hx hb (fk_get fk_cL_law_11 2 rfl) ?_
  refine va_sld hx hb hXs hbl hbA hV.1 hin2 (fk_get fk_cL_law_11 3 rfl) ?_
  obtain ⟨hS, hPX, hDX, hPR, hDR, hdis⟩ := id hV
  obtain ⟨n', z', u', tx, tr, nc, r1, r2, rH, rV, r15, r5, r5b, r7, r7b, rc, r17, r17b, rT, r40, r40b, r20, r20b⟩ := ri_all hR
  have en_ : n = n' := (nI_eq (by omega) (by omega)).mp ((n_of_lk hn hL).symm.trans r1)
  subst en_
  refine lr_i hV (va_runV (As := [.int (xs (nI i + 1).toNatClampNeg), .int (xs (nI i + 2).toNatClampNeg)]) (rest := []) ⟨hx, hb, hml, hown, hT⟩ (c_learntX l G aR SR H.size zq τ (mU C) n ((xs (nI i + 1).toNatClampNeg)) ((xs (nI i + 2).toNatClampNeg)) (by assumption) (by assumption) (by assumption) (by assumption) (by assumption) (by assumption)) (tV 2 hT m7_5 m7_6 m7_7 m1_17 m7_8 rfl rfl (by decide +kernel) ⟨Nat.le_of_ble_eq_true rfl, Nat.le_of_ble_eq_true rfl⟩) ⟨PcW_blind, va_recv hK hPR (ci := 14) (q0 := 0) rfl (ix_at (by decide) (cR_0 G aR SR)), PcW_of hPR hK hDR _⟩ rfl rfl hl.1 rfl (lv_room (Nat.le_of_ble_eq_true rfl)) (fk_get fk_cL_law_11 4 rfl) ⟨(by show cells + 0 + 0 ≤ 600000; omega), (by show slots + 0 + 0 ≤ 7302250; omega)⟩) (fun rR SR1 H locs hwR hV => ?_)
  try dsimp only at hwR
  have h1 := n_of_lk hn hL
  obtain ⟨hR1, hRK⟩ := ri_Q hR hwR.1
  have hL1 := lk_step hL hXK hRK
  have hM1 := lm_step hM hwX.2.1 (fun q => by omega) (fun q => by omega) (fun t ht => (fun q => by omega)) (fun q => by omega) (fun q => by omega) (fun q => by omega) (fun c hc => ⟨(fun q => by omega), (fun q => by omega), (fun q => by omega)⟩) (rz_Q hwR.1) hRK.2.2
  have hC1 := lc_step hLC hwX.2.1 (fun q => by omega) (fun q => by omega) (fun q => by omega) (rt_Q hwR.1)
  have hrr := q_learnt ho hn6 hgg hwX.2.2 hwR.2
  have hQ1 := eq_step hQ hwX.2.1 ⟨fun c k a b d q => by omega, fun c a q => by omega, fun q => by omega, fun q => by omega, fun q => by omega, fun q => by omega⟩ ⟨fun c k a b d q => by omega, fun c a q => by omega, fun q => by omega, fun q => by omega, fun q => by omega, fun q => by omega⟩ (fun q => by omega) (fun j k a q => by omega) (re_Q hwR.1) hRK.2.2
  have hN1 : LN SX1 SR1 := ⟨hM1, nu_step hN hwX.2.1 (fun c hc => (fun q => by omega)), tl_step hTL hX hwX.2.1 (fun q => by omega) (fun q => by omega) (fun p k hp => (fun q => by omega)) (ry_Q hwR.1)⟩
  refine lv_pop hx hb (fk_get fk_cL_law_11 5 rfl) rfl ?_
  refine lv_goto (tgt := 1280) hx hb (fk_get fk_cL_law_11 6 rfl) (by decide) ?_
  refine W.widen (k := cells + 12) (n := slots + 768) (by show cells + 0 + 0 ≤ cells + 12; omega) (by show slots + 0 + 0 ≤ slots + 768; omega) ?_
  exact kk aX SX1 SR1 H locs hV hwX.1 hR1 hL1 ⟨⟨hN1, hC1⟩, hQ1⟩ rfl
set_option maxHeartbeats 1600000 in
theorem law_14 {p : Program} {l : Launch} {e : Env} {s : State} {m : MethodId} {below : List Frame} {meth : Method} {c : Code} {H : Heap} {locs : List Loc} {cells slots : Nat} {Q : State → Prop} {ls : Array Slot} {b L i : Nat} {xs : Nat → Int32} {G : GG} {aX aR : Nat → Nat} {SX SR : FS} (C0 : lw_At p s m meth c b L xs) (hK : va_K G.1 vwCl (TYS G) s) (hE : EN G (AL s) s s.heap) (hin1 : vp_in (nI i + 1) L) (hin2 : vp_in (nI i + 2) L) (hin3 : vp_in (nI i + 3) L) (hin4 : vp_in (nI i + 4) L) (hin5 : vp_in (nI i + 5) L) (hV : LV G s H locs aX aR SX SR) (hX : XI SX) (hR : RI SR) (hL : LK SX SR) (hM0 : LE SX SR)
    (hl : lv_has ls 4 [(3, .int (nI i)), (2, .ref (aR 0)), (1, .ref (aX 0)), (0, .ref b)]) (hc : cells + 12 ≤ 600000) (hs : slots + 768 ≤ 7302250)
    (kk : ∀ (aX1 : Nat → Nat) (SX1 SR1 : FS) (H1 : Heap) (locs1 : List Loc), LV G s H1 locs1 aX1 aR SX1 SR1 → XI SX1 → RI SR1 → LK SX1 SR1 → LE SX1 SR1 → aX1 0 = aX 0 → W p l e room_1 s m #[Value.ref b] below meth c H1 locs1 (cells + 12) (slots + 768) Q (F0 m 1280 ls [])) : W p l e room_1 s m #[Value.ref b] below meth c H locs cells slots Q (F0 m 614 ls []) := by
  obtain ⟨hx, hb, hr, hml, hown, hts, hXs, hbl, hlocks, hgv⟩ := id C0
  have hT : ∀ w ∈ TBL, w.before #[Value.ref b] s = true := fun w h => hts w (tbl_in w h)
  have hbA : ¬ AL s b := Nat.not_le.mpr hbl
  obtain ⟨⟨⟨hM, hN, hTL⟩, hLC⟩, hQ⟩ := hM0
  obtain ⟨n, pz, zq, K, τ, C, hU⟩ := eq_cu hQ
  obtain ⟨hn6, hn, hcf, h99, hgg, hgc, hHq⟩ := id hU
  have hgcx : ∀ d, d < n → GC 9999 (gX SX (21 + 6 * 0 + d) (K d)) := fun d hd => by rw [hgg d hd]; exact hgc d hd
  have ho : fF SX (9 + 0) 6 = fF SR 0 2 := hL.1 6 (by omega) (by omega)
  have hofx : ∃ o : Nat, o ≤ 30 ∧ fF SX (9 + 0) 6 = nI o := hQ.1.2.1
  have hofr : ∃ o : Nat, o ≤ 30 ∧ fF SR 0 2 = nI o := by rw [← ho]; exact hofx
  have hHX := hHq.hox
  have h99r := mU_99 h99
  have hg01 := gc_7 hgc
  refine lv_aload_n hx hb (fk_get fk_cL_law_11 7 rfl) rfl (lv_at hl 2 rfl) ?_
  obtain ⟨hS, hPX, hDX, hPR, hDR, hdis⟩ := id hV
  refine lx_i hV (va_runV (As := []) (rest := []) ⟨hx, hb, hml, hown, hT⟩ (c_x11_nobodyX l G aX SX H.size n pz K τ C (by assumption) (by assumption) (by assumption) (by assumption) (by assumption) (by assumption)) (tV 0 hT m4_10 m4_11 m4_12 m1_1 m4_13 rfl rfl (by decide +kernel) ⟨Nat.le_of_ble_eq_true rfl, Nat.le_of_ble_eq_true rfl⟩) ⟨PcW_blind, va_recv hK hPX (ci := 13) (q0 := 0) rfl (ix_at (lt71 (by omega)) (cX_0 G aX SX)), PcW_of hPX hK hDX _⟩ rfl rfl hl.1 rfl (lv_room (Nat.le_of_ble_eq_true rfl)) (fk_get fk_cL_law_11 8 rfl) ⟨(by show cells + 0 ≤ 600000; omega), (by show slots + 0 ≤ 7302250; omega)⟩) (fun rX SX1 H locs hwX hV => ?_)
  try dsimp only at hwX
  have hXK : XK 0 SX SX1 := xk_fr hwX.2.1 (fun k h1 h2 q => by omega) (fun q => by omega) (fun k h1 h2 q => by omega)
  refine lv_pop hx hb (fk_get fk_cL_law_11 9 rfl) rfl ?_
  refine lv_aload_n hx hb (fk_get fk_cL_law_11 10 rfl) rfl (lv_at hl 1 rfl) ?_
  obtain ⟨hS, hPX, hDX, hPR, hDR, hdis⟩ := id hV
  obtain ⟨n', z', u', tx, tr, nc, r1, r2, rH, rV, r15, r5, r5b, r7, r7b, rc, r17, r17b, rT, r40, r40b, r20, r20b⟩ := ri_all hR
  have en_ : n = n' := (nI_eq (by omega) (by omega)).mp ((n_of_lk hn hL).symm.trans r1)
  subst en_
  refine lr_i hV (va_runV (As := []) (rest := []) ⟨hx, hb, hml, hown, hT⟩ (c_nobodyX l G aR SR H.size zq τ (mU C) n (by assumption) (by assumption) (by assumption) (by assumption) (by assumption) (by assumption)) (tV 0 hT m7_9 m7_10 m7_11 m1_17 m7_12 rfl rfl (by decide +kernel) ⟨Nat.le_of_ble_eq_true rfl, Nat.le_of_ble_eq_true rfl⟩) ⟨PcW_blind, va_recv hK hPR (ci := 14) (q0 := 0) rfl (ix_at (by decide) (cR_0 G aR SR)), PcW_of hPR hK hDR _⟩ rfl rfl hl.1 rfl (lv_room (Nat.le_of_ble_eq_true rfl)) (fk_get fk_cL_law_11 11 rfl) ⟨(by show cells + 0 + 0 ≤ 600000; omega), (by show slots + 0 + 0 ≤ 7302250; omega)⟩) (fun rR SR1 H locs hwR hV => ?_)
  try dsimp only at hwR
  have h1 := n_of_lk hn hL
  obtain ⟨hR1, hRK⟩ := ri_Q hR hwR.1
  have hL1 := lk_step hL hXK hRK
  have hM1 := lm_step hM hwX.2.1 (fun q => by omega) (fun q => by omega) (fun t ht => (fun q => by omega)) (fun q => by omega) (fun q => by omega) (fun q => by omega) (fun c hc => ⟨(fun q => by omega), (fun q => by omega), (fun q => by omega)⟩) (rz_Q hwR.1) hRK.2.2
  have hC1 := lc_step hLC hwX.2.1 (fun q => by omega) (fun q => by omega) (fun q => by omega) (rt_Q hwR.1)
  have hrr := q_nobody ho hn6 hgg hwX.2.2 hwR.2
  have hQ1 := eq_step hQ hwX.2.1 ⟨fun c k a b d q => by omega, fun c a q => by omega, fun q => by omega, fun q => by omega, fun q => by omega, fun q => by omega⟩ ⟨fun c k a b d q => by omega, fun c a q => by omega, fun q => by omega, fun q => by omega, fun q => by omega, fun q => by omega⟩ (fun q => by omega) (fun j k a q => by omega) (re_Q hwR.1) hRK.2.2
  have hN1 : LN SX1 SR1 := ⟨hM1, nu_step hN hwX.2.1 (fun c hc => (fun q => by omega)), tl_step hTL hX hwX.2.1 (fun q => by omega) (fun q => by omega) (fun p k hp => (fun q => by omega)) (ry_Q hwR.1)⟩
  refine lv_pop hx hb (fk_get fk_cL_law_11 12 rfl) rfl ?_
  refine lv_goto (tgt := 1280) hx hb (fk_get fk_cL_law_11 13 rfl) (by decide) ?_
  refine W.widen (k := cells + 12) (n := slots + 768) (by show cells + 0 + 0 ≤ cells + 12; omega) (by show slots + 0 + 0 ≤ slots + 768; omega) ?_
  exact kk aX SX1 SR1 H locs hV hwX.1 hR1 hL1 ⟨⟨hN1, hC1⟩, hQ1⟩ rfl
set_option maxHeartbeats 1600000 in
theorem law_15 {p : Program} {l : Launch} {e : Env} {s : State} {m : MethodId} {below : List Frame} {meth : Method} {c : Code} {H : Heap} {locs : List Loc} {cells slots : Nat} {Q : State → Prop} {ls : Array Slot} {b L i : Nat} {xs : Nat → Int32} {G : GG} {aX aR : Nat → Nat} {SX SR : FS} (C0 : lw_At p s m meth c b L xs) (hK : va_K G.1 vwCl (TYS G) s) (hE : EN G (AL s) s s.heap) (hin1 : vp_in (nI i + 1) L) (hin2 : vp_in (nI i + 2) L) (hin3 : vp_in (nI i + 3) L) (hin4 : vp_in (nI i + 4) L) (hin5 : vp_in (nI i + 5) L) (hV : LV G s H locs aX aR SX SR) (hX : XI SX) (hR : RI SR) (hL : LK SX SR) (hM0 : LE SX SR)
    (hl : lv_has ls 4 [(3, .int (nI i)), (2, .ref (aR 0)), (1, .ref (aX 0)), (0, .ref b)]) (hc : cells + 12 ≤ 600000) (hs : slots + 768 ≤ 7302250)
    (kk : ∀ (aX1 : Nat → Nat) (SX1 SR1 : FS) (H1 : Heap) (locs1 : List Loc), LV G s H1 locs1 aX1 aR SX1 SR1 → XI SX1 → RI SR1 → LK SX1 SR1 → LE SX1 SR1 → aX1 0 = aX 0 → W p l e room_1 s m #[Value.ref b] below meth c H1 locs1 (cells + 12) (slots + 768) Q (F0 m 1280 ls [])) : W p l e room_1 s m #[Value.ref b] below meth c H locs cells slots Q (F0 m 627 ls []) := by
  obtain ⟨hx, hb, hr, hml, hown, hts, hXs, hbl, hlocks, hgv⟩ := id C0
  have hT : ∀ w ∈ TBL, w.before #[Value.ref b] s = true := fun w h => hts w (tbl_in w h)
  have hbA : ¬ AL s b := Nat.not_le.mpr hbl
  obtain ⟨⟨⟨hM, hN, hTL⟩, hLC⟩, hQ⟩ := hM0
  obtain ⟨n, pz, zq, K, τ, C, hU⟩ := eq_cu hQ
  obtain ⟨hn6, hn, hcf, h99, hgg, hgc, hHq⟩ := id hU
  have hgcx : ∀ d, d < n → GC 9999 (gX SX (21 + 6 * 0 + d) (K d)) := fun d hd => by rw [hgg d hd]; exact hgc d hd
  have ho : fF SX (9 + 0) 6 = fF SR 0 2 := hL.1 6 (by omega) (by omega)
  have hofx : ∃ o : Nat, o ≤ 30 ∧ fF SX (9 + 0) 6 = nI o := hQ.1.2.1
  have hofr : ∃ o : Nat, o ≤ 30 ∧ fF SR 0 2 = nI o := by rw [← ho]; exact hofx
  have hHX := hHq.hox
  have h99r := mU_99 h99
  have hg01 := gc_7 hgc
  refine lv_aload_n hx hb (fk_get fk_cL_law_11 14 rfl) rfl (lv_at hl 2 rfl) ?_
  refine lv_aload_n hx hb (fk_get fk_cL_law_11 15 rfl) rfl (lv_at hl 3 rfl) ?_
  refine lv_iload_n hx hb (fk_get fk_cL_law_11 16 rfl) rfl (lv_at hl 0 rfl) ?_
  refine lv_iconst (v := 1) hx hb (fk_get fk_cL_law_11 17 rfl) (by decide) ?_
  refine lv_iadd hx hb (fk_get fk_cL_law_11 18 rfl) ?_
  refine va_sld hx hb hXs hbl hbA hV.1 hin1 (fk_get fk_cL_law_11 19 rfl) ?_
  obtain ⟨hS, hPX, hDX, hPR, hDR, hdis⟩ := id hV
  refine lx_i hV (va_runV (As := [.int (xs (nI i + 1).toNatClampNeg)]) (rest := []) ⟨hx, hb, hml, hown, hT⟩ (c_x11_lostX l G aX SX H.size n pz K τ C ((xs (nI i + 1).toNatClampNeg)) (by assumption) (by assumption) (by assumption) (by assumption) (by assumption) (by assumption)) (tV 1 hT m4_19 m4_20 m4_21 m1_1 m4_22 rfl rfl (by decide +kernel) ⟨Nat.le_of_ble_eq_true rfl, Nat.le_of_ble_eq_true rfl⟩) ⟨PcW_blind, va_recv hK hPX (ci := 13) (q0 := 0) rfl (ix_at (lt71 (by omega)) (cX_0 G aX SX)), PcW_of hPX hK hDX _⟩ rfl rfl hl.1 rfl (lv_room (Nat.le_of_ble_eq_true rfl)) (fk_get fk_cL_law_11 20 rfl) ⟨(by show cells + 0 ≤ 600000; omega), (by show slots + 0 ≤ 7302250; omega)⟩) (fun rX SX1 H locs hwX hV => ?_)
  try dsimp only at hwX
  have hXK : XK 0 SX SX1 := xk_fr hwX.2.1 (fun k h1 h2 q => by omega) (fun q => by omega) (fun k h1 h2 q => by omega)
  refine lv_pop hx hb (fk_get fk_cL_law_11 21 rfl) rfl ?_
  refine lv_aload_n hx hb (fk_get fk_cL_law_11 22 rfl) rfl (lv_at hl 1 rfl) ?_
  refine lv_aload_n hx hb (fk_get fk_cL_law_11 23 rfl) rfl (lv_at hl 3 rfl) ?_
  refine lv_iload_n hx hb (fk_get fk_cL_law_11 24 rfl) rfl (lv_at hl 0 rfl) ?_
  refine lv_iconst (v := 1) hx hb (fk_get fk_cL_law_11 25 rfl) (by decide) ?_
  refine lv_iadd hx hb (fk_get fk_cL_law_11 26 rfl) ?_
  refine va_sld hx hb hXs hbl hbA hV.1 hin1 (fk_get fk_cL_law_11 27 rfl) ?_
  obtain ⟨hS, hPX, hDX, hPR, hDR, hdis⟩ := id hV
  obtain ⟨n', z', u', tx, tr, nc, r1, r2, rH, rV, r15, r5, r5b, r7, r7b, rc, r17, r17b, rT, r40, r40b, r20, r20b⟩ := ri_all hR
  have en_ : n = n' := (nI_eq (by omega) (by omega)).mp ((n_of_lk hn hL).symm.trans r1)
  subst en_
  refine lr_i hV (va_runV (As := [.int (xs (nI i + 1).toNatClampNeg)]) (rest := []) ⟨hx, hb, hml, hown, hT⟩ (c_lostX l G aR SR H.size zq τ (mU C) n ((xs (nI i + 1).toNatClampNeg)) (by assumption) (by assumption) (by assumption) (by assumption) (by assumption) (by assumption) (by assumption)) (tV 1 hT m7_17 m7_18 m7_19 m1_17 m7_20 rfl rfl (by decide +kernel) ⟨Nat.le_of_ble_eq_true rfl, Nat.le_of_ble_eq_true rfl⟩) ⟨PcW_blind, va_recv hK hPR (ci := 14) (q0 := 0) rfl (ix_at (by decide) (cR_0 G aR SR)), PcW_of hPR hK hDR _⟩ rfl rfl hl.1 rfl (lv_room (Nat.le_of_ble_eq_true rfl)) (fk_get fk_cL_law_11 28 rfl) ⟨(by show cells + 0 + 0 ≤ 600000; omega), (by show slots + 0 + 0 ≤ 7302250; omega)⟩) (fun rR SR1 H locs hwR hV => ?_)
  try dsimp only at hwR
  have h1 := n_of_lk hn hL
  obtain ⟨hR1, hRK⟩ := ri_Q hR hwR.1
  have hL1 := lk_step hL hXK hRK
  have hM1 := lm_step hM hwX.2.1 (fun q => by omega) (fun q => by omega) (fun t ht => (fun q => by omega)) (fun q => by omega) (fun q => by omega) (fun q => by omega) (fun c hc => ⟨(fun q => by omega), (fun q => by omega), (fun q => by omega)⟩) (rz_Q hwR.1) hRK.2.2
  have hC1 := lc_step hLC hwX.2.1 (fun q => by omega) (fun q => by omega) (fun q => by omega) (rt_Q hwR.1)
  have hrr := q_lost ho hn6 hgg hwX.2.2 hwR.2
  have hQ1 := eq_step hQ hwX.2.1 ⟨fun c k a b d q => by omega, fun c a q => by omega, fun q => by omega, fun q => by omega, fun q => by omega, fun q => by omega⟩ ⟨fun c k a b d q => by omega, fun c a q => by omega, fun q => by omega, fun q => by omega, fun q => by omega, fun q => by omega⟩ (fun q => by omega) (fun j k a q => by omega) (re_Q hwR.1) hRK.2.2
  have hN1 : LN SX1 SR1 := ⟨hM1, nu_step hN hwX.2.1 (fun c hc => (fun q => by omega)), tl_step hTL hX hwX.2.1 (fun q => by omega) (fun q => by omega) (fun p k hp => (fun q => by omega)) (ry_Q hwR.1)⟩
  refine lv_pop hx hb (fk_get fk_cL_law_11 29 rfl) rfl ?_
  refine lv_goto (tgt := 1280) hx hb (fk_get fk_cL_law_11 30 rfl) (by decide) ?_
  refine W.widen (k := cells + 12) (n := slots + 768) (by show cells + 0 + 0 ≤ cells + 12; omega) (by show slots + 0 + 0 ≤ slots + 768; omega) ?_
  exact kk aX SX1 SR1 H locs hV hwX.1 hR1 hL1 ⟨⟨hN1, hC1⟩, hQ1⟩ rfl
set_option maxHeartbeats 1600000 in
theorem law_16 {p : Program} {l : Launch} {e : Env} {s : State} {m : MethodId} {below : List Frame} {meth : Method} {c : Code} {H : Heap} {locs : List Loc} {cells slots : Nat} {Q : State → Prop} {ls : Array Slot} {b L i : Nat} {xs : Nat → Int32} {G : GG} {aX aR : Nat → Nat} {SX SR : FS} (C0 : lw_At p s m meth c b L xs) (hK : va_K G.1 vwCl (TYS G) s) (hE : EN G (AL s) s s.heap) (hin1 : vp_in (nI i + 1) L) (hin2 : vp_in (nI i + 2) L) (hin3 : vp_in (nI i + 3) L) (hin4 : vp_in (nI i + 4) L) (hin5 : vp_in (nI i + 5) L) (hV : LV G s H locs aX aR SX SR) (hX : XI SX) (hR : RI SR) (hL : LK SX SR) (hM0 : LE SX SR)
    (hl : lv_has ls 4 [(3, .int (nI i)), (2, .ref (aR 0)), (1, .ref (aX 0)), (0, .ref b)]) (hc : cells + 12 ≤ 600000) (hs : slots + 768 ≤ 7302250)
    (kk : ∀ (aX1 : Nat → Nat) (SX1 SR1 : FS) (H1 : Heap) (locs1 : List Loc), LV G s H1 locs1 aX1 aR SX1 SR1 → XI SX1 → RI SR1 → LK SX1 SR1 → LE SX1 SR1 → aX1 0 = aX 0 → W p l e room_1 s m #[Value.ref b] below meth c H1 locs1 (cells + 12) (slots + 768) Q (F0 m 1280 ls [])) : W p l e room_1 s m #[Value.ref b] below meth c H locs cells slots Q (F0 m 650 ls []) := by
  obtain ⟨hx, hb, hr, hml, hown, hts, hXs, hbl, hlocks, hgv⟩ := id C0
  have hT : ∀ w ∈ TBL, w.before #[Value.ref b] s = true := fun w h => hts w (tbl_in w h)
  have hbA : ¬ AL s b := Nat.not_le.mpr hbl
  obtain ⟨⟨⟨hM, hN, hTL⟩, hLC⟩, hQ⟩ := hM0
  obtain ⟨n, pz, zq, K, τ, C, hU⟩ := eq_cu hQ
  obtain ⟨hn6, hn, hcf, h99, hgg, hgc, hHq⟩ := id hU
  have hgcx : ∀ d, d < n → GC 9999 (gX SX (21 + 6 * 0 + d) (K d)) := fun d hd => by rw [hgg d hd]; exact hgc d hd
  have ho : fF SX (9 + 0) 6 = fF SR 0 2 := hL.1 6 (by omega) (by omega)
  have hofx : ∃ o : Nat, o ≤ 30 ∧ fF SX (9 + 0) 6 = nI o := hQ.1.2.1
  have hofr : ∃ o : Nat, o ≤ 30 ∧ fF SR 0 2 = nI o := by rw [← ho]; exact hofx
  have hHX := hHq.hox
  have h99r := mU_99 h99
  have hg01 := gc_7 hgc
  refine lv_aload_n hx hb (fk_get fk_cL_law_11 31 rfl) rfl (lv_at hl 2 rfl) ?_
  refine lv_aload_n hx hb (fk_get fk_cL_law_12 0 rfl) rfl (lv_at hl 3 rfl) ?_
  refine lv_iload_n hx hb (fk_get fk_cL_law_12 1 rfl) rfl (lv_at hl 0 rfl) ?_
  refine lv_iconst (v := 1) hx hb (fk_get fk_cL_law_12 2 rfl) (by decide) ?_
  refine lv_iadd hx hb (fk_get fk_cL_law_12 3 rfl) ?_
  refine va_sld hx hb hXs hbl hbA hV.1 hin1 (fk_get fk_cL_law_12 4 rfl) ?_
  refine lv_aload_n hx hb (fk_get fk_cL_law_12 5 rfl) rfl (lv_at hl 3 rfl) ?_
  refine lv_iload_n hx hb (fk_get fk_cL_law_12 6 rfl) rfl (lv_at hl 0 rfl) ?_
  refine lv_iconst (v := 2) hx hb (fk_get fk_cL_law_12 7 rfl) (by decide) ?_
  refine lv_iadd hx hb (fk_get fk_cL_law_12 8 rfl) ?_
  refine va_sld hx hb hXs hbl hbA hV.1 hin2 (fk_get fk_cL_law_12 9 rfl) ?_
  refine lv_aload_n hx hb (fk_get fk_cL_law_12 10 rfl) rfl (lv_at hl 3 rfl) ?_
  refine lv_iload_n hx hb (fk_get fk_cL_law_12 11 rfl) rfl (lv_at hl 0 rfl) ?_
  refine lv_iconst (v := 3) hx hb (fk_get fk_cL_law_12 12 rfl) (by decide) ?_
  refine lv_iadd hx hb (fk_get fk_cL_law_12 13 rfl) ?_
  refine va_sld hx hb hXs hbl hbA hV.1 hin3 (fk_get fk_cL_law_12 14 rfl) ?_
  obtain ⟨hS, hPX, hDX, hPR, hDR, hdis⟩ := id hV
  refine lx_i hV (va_runV (As := [.int (xs (nI i + 1).toNatClampNeg), .int (xs (nI i + 2).toNatClampNeg), .int (xs (nI i + 3).toNatClampNeg)]) (rest := []) ⟨hx, hb, hml, hown, hT⟩ (c_x11_overX l G aX SX H.size n pz K τ C ((xs (nI i + 1).toNatClampNeg)) ((xs (nI i + 2).toNatClampNeg)) ((xs (nI i + 3).toNatClampNeg)) (by assumption) (by assumption) (by assumption) (by assumption) (by assumption) (by assumption)) (tV 3 hT m4_27 m4_28 m4_29 m1_1 m4_30 rfl rfl (by decide +kernel) ⟨Nat.le_of_ble_eq_true rfl, Nat.le_of_ble_eq_true rfl⟩) ⟨PcW_blind, va_recv hK hPX (ci := 13) (q0 := 0) rfl (ix_at (lt71 (by omega)) (cX_0 G aX SX)), PcW_of hPX hK hDX _⟩ rfl rfl hl.1 rfl (lv_room (Nat.le_of_ble_eq_true rfl)) (fk_get fk_cL_law_12 15 rfl) ⟨(by show cells + 0 ≤ 600000; omega), (by show slots + 0 ≤ 7302250; omega)⟩) (fun rX SX1 H locs hwX hV => ?_)
  try dsimp only at hwX
  have hXK : XK 0 SX SX1 := xk_fr hwX.2.1 (fun k h1 h2 q => by omega) (fun q => by omega) (fun k h1 h2 q => by omega)
  refine lv_pop hx hb (fk_get fk_cL_law_12 16 rfl) rfl ?_
  refine lv_aload_n hx hb (fk_get fk_cL_law_12 17 rfl) rfl (lv_at hl 1 rfl) ?_
  refine lv_aload_n hx hb (fk_get fk_cL_law_12 18 rfl) rfl (lv_at hl 3 rfl) ?_
  refine lv_iload_n hx hb (fk_get fk_cL_law_12 19 rfl) rfl (lv_at hl 0 rfl) ?_
  refine lv_iconst (v := 1) hx hb (fk_get fk_cL_law_12 20 rfl) (by decide) ?_
  refine lv_iadd hx hb (fk_get fk_cL_law_12 21 rfl) ?_
  refine va_sld hx hb hXs hbl hbA hV.1 hin1 (fk_get fk_cL_law_12 22 rfl) ?_
  refine lv_aload_n hx hb (fk_get fk_cL_law_12 23 rfl) rfl (lv_at hl 3 rfl) ?_
  refine lv_iload_n hx hb (fk_get fk_cL_law_12 24 rfl) rfl (lv_at hl 0 rfl) ?_
  refine lv_iconst (v := 2) hx hb (fk_get fk_cL_law_12 25 rfl) (by decide) ?_
  refine lv_iadd hx hb (fk_get fk_cL_law_12 26 rfl) ?_
  refine va_sld hx hb hXs hbl hbA hV.1 hin2 (fk_get fk_cL_law_12 27 rfl) ?_
  refine lv_aload_n hx hb (fk_get fk_cL_law_12 28 rfl) rfl (lv_at hl 3 rfl) ?_
  refine lv_iload_n hx hb (fk_get fk_cL_law_12 29 rfl) rfl (lv_at hl 0 rfl) ?_
  refine lv_iconst (v := 3) hx hb (fk_get fk_cL_law_12 30 rfl) (by decide) ?_
  refine lv_iadd hx hb (fk_get fk_cL_law_12 31 rfl) ?_
  refine va_sld hx hb hXs hbl hbA hV.1 hin3 (fk_get fk_cL_law_13 0 rfl) ?_
  obtain ⟨hS, hPX, hDX, hPR, hDR, hdis⟩ := id hV
  obtain ⟨n', z', u', tx, tr, nc, r1, r2, rH, rV, r15, r5, r5b, r7, r7b, rc, r17, r17b, rT, r40, r40b, r20, r20b⟩ := ri_all hR
  have en_ : n = n' := (nI_eq (by omega) (by omega)).mp ((n_of_lk hn hL).symm.trans r1)
  subst en_
  refine lr_i hV (va_runV (As := [.int (xs (nI i + 1).toNatClampNeg), .int (xs (nI i + 2).toNatClampNeg), .int (xs (nI i + 3).toNatClampNeg)]) (rest := []) ⟨hx, hb, hml, hown, hT⟩ (c_overX l G aR SR H.size zq τ (mU C) n ((xs (nI i + 1).toNatClampNeg)) ((xs (nI i + 2).toNatClampNeg)) ((xs (nI i + 3).toNatClampNeg)) (by assumption) (by assumption) (by assumption) (by assumption) (by assumption) (by assumption)) (tV 3 hT m7_21 m7_22 m7_23 m1_17 m7_24 rfl rfl (by decide +kernel) ⟨Nat.le_of_ble_eq_true rfl, Nat.le_of_ble_eq_true rfl⟩) ⟨PcW_blind, va_recv hK hPR (ci := 14) (q0 := 0) rfl (ix_at (by decide) (cR_0 G aR SR)), PcW_of hPR hK hDR _⟩ rfl rfl hl.1 rfl (lv_room (Nat.le_of_ble_eq_true rfl)) (fk_get fk_cL_law_13 1 rfl) ⟨(by show cells + 0 + 0 ≤ 600000; omega), (by show slots + 0 + 0 ≤ 7302250; omega)⟩) (fun rR SR1 H locs hwR hV => ?_)
  try dsimp only at hwR
  have h1 := n_of_lk hn hL
  obtain ⟨hR1, hRK⟩ := ri_Q hR hwR.1
  have hL1 := lk_step hL hXK hRK
  have hM1 := lm_step hM hwX.2.1 (fun q => by omega) (fun q => by omega) (fun t ht => (fun q => by omega)) (fun q => by omega) (fun q => by omega) (fun q => by omega) (fun c hc => ⟨(fun q => by omega), (fun q => by omega), (fun q => by omega)⟩) (rz_Q hwR.1) hRK.2.2
  have hC1 := lc_step hLC hwX.2.1 (fun q => by omega) (fun q => by omega) (fun q => by omega) (rt_Q hwR.1)
  have hrr := q_over ho hn6 hgg hwX.2.2 hwR.2
  have hQ1 := eq_step hQ hwX.2.1 ⟨fun c k a b d q => by omega, fun c a q => by omega, fun q => by omega, fun q => by omega, fun q => by omega, fun q => by omega⟩ ⟨fun c k a b d q => by omega, fun c a q => by omega, fun q => by omega, fun q => by omega, fun q => by omega, fun q => by omega⟩ (fun q => by omega) (fun j k a q => by omega) (re_Q hwR.1) hRK.2.2
  have hN1 : LN SX1 SR1 := ⟨hM1, nu_step hN hwX.2.1 (fun c hc => (fun q => by omega)), tl_step hTL hX hwX.2.1 (fun q => by omega) (fun q => by omega) (fun p k hp => (fun q => by omega)) (ry_Q hwR.1)⟩
  refine lv_pop hx hb (fk_get fk_cL_law_13 2 rfl) rfl ?_
  refine lv_goto (tgt := 1280) hx hb (fk_get fk_cL_law_13 3 rfl) (by decide) ?_
  refine W.widen (k := cells + 12) (n := slots + 768) (by show cells + 0 + 0 ≤ cells + 12; omega) (by show slots + 0 + 0 ≤ slots + 768; omega) ?_
  exact kk aX SX1 SR1 H locs hV hwX.1 hR1 hL1 ⟨⟨hN1, hC1⟩, hQ1⟩ rfl
set_option maxHeartbeats 1600000 in
theorem law_17 {p : Program} {l : Launch} {e : Env} {s : State} {m : MethodId} {below : List Frame} {meth : Method} {c : Code} {H : Heap} {locs : List Loc} {cells slots : Nat} {Q : State → Prop} {ls : Array Slot} {b L i : Nat} {xs : Nat → Int32} {G : GG} {aX aR : Nat → Nat} {SX SR : FS} (C0 : lw_At p s m meth c b L xs) (hK : va_K G.1 vwCl (TYS G) s) (hE : EN G (AL s) s s.heap) (hin1 : vp_in (nI i + 1) L) (hin2 : vp_in (nI i + 2) L) (hin3 : vp_in (nI i + 3) L) (hin4 : vp_in (nI i + 4) L) (hin5 : vp_in (nI i + 5) L) (hV : LV G s H locs aX aR SX SR) (hX : XI SX) (hR : RI SR) (hL : LK SX SR) (hM0 : LE SX SR)
    (hl : lv_has ls 4 [(3, .int (nI i)), (2, .ref (aR 0)), (1, .ref (aX 0)), (0, .ref b)]) (hc : cells + 12 ≤ 600000) (hs : slots + 768 ≤ 7302250)
    (kk : ∀ (aX1 : Nat → Nat) (SX1 SR1 : FS) (H1 : Heap) (locs1 : List Loc), LV G s H1 locs1 aX1 aR SX1 SR1 → XI SX1 → RI SR1 → LK SX1 SR1 → LE SX1 SR1 → aX1 0 = aX 0 → W p l e room_1 s m #[Value.ref b] below meth c H1 locs1 (cells + 12) (slots + 768) Q (F0 m 1280 ls [])) : W p l e room_1 s m #[Value.ref b] below meth c H locs cells slots Q (F0 m 693 ls []) := by
  obtain ⟨hx, hb, hr, hml, hown, hts, hXs, hbl, hlocks, hgv⟩ := id C0
  have hT : ∀ w ∈ TBL, w.before #[Value.ref b] s = true := fun w h => hts w (tbl_in w h)
  have hbA : ¬ AL s b := Nat.not_le.mpr hbl
  obtain ⟨⟨⟨hM, hN, hTL⟩, hLC⟩, hQ⟩ := hM0
  obtain ⟨n, pz, zq, K, τ, C, hU⟩ := eq_cu hQ
  obtain ⟨hn6, hn, hcf, h99, hgg, hgc, hHq⟩ := id hU
  have hgcx : ∀ d, d < n → GC 9999 (gX SX (21 + 6 * 0 + d) (K d)) := fun d hd => by rw [hgg d hd]; exact hgc d hd
  have ho : fF SX (9 + 0) 6 = fF SR 0 2 := hL.1 6 (by omega) (by omega)
  have hofx : ∃ o : Nat, o ≤ 30 ∧ fF SX (9 + 0) 6 = nI o := hQ.1.2.1
  have hofr : ∃ o : Nat, o ≤ 30 ∧ fF SR 0 2 = nI o := by rw [← ho]; exact hofx
  have hHX := hHq.hox
  have h99r := mU_99 h99
  have hg01 := gc_7 hgc
  refine lv_aload_n hx hb (fk_get fk_cL_law_13 4 rfl) rfl (lv_at hl 2 rfl) ?_
  refine lv_aload_n hx hb (fk_get fk_cL_law_13 5 rfl) rfl (lv_at hl 3 rfl) ?_
  refine lv_iload_n hx hb (fk_get fk_cL_law_13 6 rfl) rfl (lv_at hl 0 rfl) ?_
  refine lv_iconst (v := 1) hx hb (fk_get fk_cL_law_13 7 rfl) (by decide) ?_
  refine lv_iadd hx hb (fk_get fk_cL_law_13 8 rfl) ?_
  refine va_sld hx hb hXs hbl hbA hV.1 hin1 (fk_get fk_cL_law_13 9 rfl) ?_
  obtain ⟨hS, hPX, hDX, hPR, hDR, hdis⟩ := id hV
  refine lx_i hV (va_runV (As := [.int (xs (nI i + 1).toNatClampNeg)]) (rest := []) ⟨hx, hb, hml, hown, hT⟩ (c_x11_nearestX l G aX SX H.size n pz K τ C ((xs (nI i + 1).toNatClampNeg)) (by assumption) (by assumption) (by assumption) (by assumption) (by assumption) (by assumption)) (tV 1 hT m4_33 m4_34 m4_35 m1_1 m4_36 rfl rfl (by decide +kernel) ⟨Nat.le_of_ble_eq_true rfl, Nat.le_of_ble_eq_true rfl⟩) ⟨PcW_blind, va_recv hK hPX (ci := 13) (q0 := 0) rfl (ix_at (lt71 (by omega)) (cX_0 G aX SX)), PcW_of hPX hK hDX _⟩ rfl rfl hl.1 rfl (lv_room (Nat.le_of_ble_eq_true rfl)) (fk_get fk_cL_law_13 10 rfl) ⟨(by show cells + 0 ≤ 600000; omega), (by show slots + 0 ≤ 7302250; omega)⟩) (fun rX SX1 H locs hwX hV => ?_)
  try dsimp only at hwX
  have hXK : XK 0 SX SX1 := xk_fr hwX.2.1 (fun k h1 h2 q => by omega) (fun q => by omega) (fun k h1 h2 q => by omega)
  refine lv_pop hx hb (fk_get fk_cL_law_13 11 rfl) rfl ?_
  refine lv_aload_n hx hb (fk_get fk_cL_law_13 12 rfl) rfl (lv_at hl 1 rfl) ?_
  refine lv_aload_n hx hb (fk_get fk_cL_law_13 13 rfl) rfl (lv_at hl 3 rfl) ?_
  refine lv_iload_n hx hb (fk_get fk_cL_law_13 14 rfl) rfl (lv_at hl 0 rfl) ?_
  refine lv_iconst (v := 1) hx hb (fk_get fk_cL_law_13 15 rfl) (by decide) ?_
  refine lv_iadd hx hb (fk_get fk_cL_law_13 16 rfl) ?_
  refine va_sld hx hb hXs hbl hbA hV.1 hin1 (fk_get fk_cL_law_13 17 rfl) ?_
  obtain ⟨hS, hPX, hDX, hPR, hDR, hdis⟩ := id hV
  obtain ⟨n', z', u', tx, tr, nc, r1, r2, rH, rV, r15, r5, r5b, r7, r7b, rc, r17, r17b, rT, r40, r40b, r20, r20b⟩ := ri_all hR
  have en_ : n = n' := (nI_eq (by omega) (by omega)).mp ((n_of_lk hn hL).symm.trans r1)
  subst en_
  refine lr_i hV (va_runV (As := [.int (xs (nI i + 1).toNatClampNeg)]) (rest := []) ⟨hx, hb, hml, hown, hT⟩ (c_nearestX l G aR SR H.size zq τ (mU C) n ((xs (nI i + 1).toNatClampNeg)) (by assumption) (by assumption) (by assumption) (by assumption) (by assumption) (by assumption)) (tV 1 hT m7_27 m7_28 m7_29 m1_17 m7_30 rfl rfl (by decide +kernel) ⟨Nat.le_of_ble_eq_true rfl, Nat.le_of_ble_eq_true rfl⟩) ⟨PcW_blind, va_recv hK hPR (ci := 14) (q0 := 0) rfl (ix_at (by decide) (cR_0 G aR SR)), PcW_of hPR hK hDR _⟩ rfl rfl hl.1 rfl (lv_room (Nat.le_of_ble_eq_true rfl)) (fk_get fk_cL_law_13 18 rfl) ⟨(by show cells + 0 + 0 ≤ 600000; omega), (by show slots + 0 + 0 ≤ 7302250; omega)⟩) (fun rR SR1 H locs hwR hV => ?_)
  try dsimp only at hwR
  have h1 := n_of_lk hn hL
  obtain ⟨hR1, hRK⟩ := ri_Q hR hwR.1
  have hL1 := lk_step hL hXK hRK
  have hM1 := lm_step hM hwX.2.1 (fun q => by omega) (fun q => by omega) (fun t ht => (fun q => by omega)) (fun q => by omega) (fun q => by omega) (fun q => by omega) (fun c hc => ⟨(fun q => by omega), (fun q => by omega), (fun q => by omega)⟩) (rz_Q hwR.1) hRK.2.2
  have hC1 := lc_step hLC hwX.2.1 (fun q => by omega) (fun q => by omega) (fun q => by omega) (rt_Q hwR.1)
  have hrr := q_nearest ho hn6 hgg hwX.2.2 hwR.2
  have hQ1 := eq_step hQ hwX.2.1 ⟨fun c k a b d q => by omega, fun c a q => by omega, fun q => by omega, fun q => by omega, fun q => by omega, fun q => by omega⟩ ⟨fun c k a b d q => by omega, fun c a q => by omega, fun q => by omega, fun q => by omega, fun q => by omega, fun q => by omega⟩ (fun q => by omega) (fun j k a q => by omega) (re_Q hwR.1) hRK.2.2
  have hN1 : LN SX1 SR1 := ⟨hM1, nu_step hN hwX.2.1 (fun c hc => (fun q => by omega)), tl_step hTL hX hwX.2.1 (fun q => by omega) (fun q => by omega) (fun p k hp => (fun q => by omega)) (ry_Q hwR.1)⟩
  refine lv_pop hx hb (fk_get fk_cL_law_13 19 rfl) rfl ?_
  refine lv_goto (tgt := 1280) hx hb (fk_get fk_cL_law_13 20 rfl) (by decide) ?_
  refine W.widen (k := cells + 12) (n := slots + 768) (by show cells + 0 + 0 ≤ cells + 12; omega) (by show slots + 0 + 0 ≤ slots + 768; omega) ?_
  exact kk aX SX1 SR1 H locs hV hwX.1 hR1 hL1 ⟨⟨hN1, hC1⟩, hQ1⟩ rfl
set_option maxHeartbeats 1600000 in
theorem law_18 {p : Program} {l : Launch} {e : Env} {s : State} {m : MethodId} {below : List Frame} {meth : Method} {c : Code} {H : Heap} {locs : List Loc} {cells slots : Nat} {Q : State → Prop} {ls : Array Slot} {b L i : Nat} {xs : Nat → Int32} {G : GG} {aX aR : Nat → Nat} {SX SR : FS} (C0 : lw_At p s m meth c b L xs) (hK : va_K G.1 vwCl (TYS G) s) (hE : EN G (AL s) s s.heap) (hin1 : vp_in (nI i + 1) L) (hin2 : vp_in (nI i + 2) L) (hin3 : vp_in (nI i + 3) L) (hin4 : vp_in (nI i + 4) L) (hin5 : vp_in (nI i + 5) L) (hV : LV G s H locs aX aR SX SR) (hX : XI SX) (hR : RI SR) (hL : LK SX SR) (hM0 : LE SX SR)
    (hl : lv_has ls 4 [(3, .int (nI i)), (2, .ref (aR 0)), (1, .ref (aX 0)), (0, .ref b)]) (hc : cells + 12 ≤ 600000) (hs : slots + 768 ≤ 7302250)
    (kk : ∀ (aX1 : Nat → Nat) (SX1 SR1 : FS) (H1 : Heap) (locs1 : List Loc), LV G s H1 locs1 aX1 aR SX1 SR1 → XI SX1 → RI SR1 → LK SX1 SR1 → LE SX1 SR1 → aX1 0 = aX 0 → W p l e room_1 s m #[Value.ref b] below meth c H1 locs1 (cells + 12) (slots + 768) Q (F0 m 1280 ls [])) : W p l e room_1 s m #[Value.ref b] below meth c H locs cells slots Q (F0 m 716 ls []) := by
  obtain ⟨hx, hb, hr, hml, hown, hts, hXs, hbl, hlocks, hgv⟩ := id C0
  have hT : ∀ w ∈ TBL, w.before #[Value.ref b] s = true := fun w h => hts w (tbl_in w h)
  have hbA : ¬ AL s b := Nat.not_le.mpr hbl
  obtain ⟨⟨⟨hM, hN, hTL⟩, hLC⟩, hQ⟩ := hM0
  obtain ⟨n, pz, zq, K, τ, C, hU⟩ := eq_cu hQ
  obtain ⟨hn6, hn, hcf, h99, hgg, hgc, hHq⟩ := id hU
  have hgcx : ∀ d, d < n → GC 9999 (gX SX (21 + 6 * 0 + d) (K d)) := fun d hd => by rw [hgg d hd]; exact hgc d hd
  have ho : fF SX (9 + 0) 6 = fF SR 0 2 := hL.1 6 (by omega) (by omega)
  have hofx : ∃ o : Nat, o ≤ 30 ∧ fF SX (9 + 0) 6 = nI o := hQ.1.2.1
  have hofr : ∃ o : Nat, o ≤ 30 ∧ fF SR 0 2 = nI o := by rw [← ho]; exact hofx
  have hHX := hHq.hox
  have h99r := mU_99 h99
  have hg01 := gc_7 hgc
  refine lv_aload_n hx hb (fk_get fk_cL_law_13 21 rfl) rfl (lv_at hl 2 rfl) ?_
  refine lv_aload_n hx hb (fk_get fk_cL_law_13 22 rfl) rfl (lv_at hl 3 rfl) ?_
  refine lv_iload_n hx hb (fk_get fk_cL_law_13 23 rfl) rfl (lv_at hl 0 rfl) ?_
  refine lv_iconst (v := 1) hx hb (fk_get fk_cL_law_13 24 rfl) (by decide) ?_
  refine lv_iadd hx hb (fk_get fk_cL_law_13 25 rfl) ?_
  refine va_sld hx hb hXs hbl hbA hV.1 hin1 (fk_get fk_cL_law_13 26 rfl) ?_
  obtain ⟨hS, hPX, hDX, hPR, hDR, hdis⟩ := id hV
  obtain ⟨z, hz, hz4⟩ := hX.2.1 0 (by decide)
  refine lx_i hV (va_runV (As := [.int (xs (nI i + 1).toNatClampNeg)]) (rest := []) ⟨hx, hb, hml, hown, hT⟩ (c_x11_see l G aX SX H.size n z ((xs (nI i + 1).toNatClampNeg)) (by assumption) (by assumption) (by assumption) (by assumption) (by assumption)) (tV 1 hT m4_40 m4_41 m4_42 m1_1 m4_43 rfl rfl (by decide +kernel) ⟨Nat.le_of_ble_eq_true rfl, Nat.le_of_ble_eq_true rfl⟩) ⟨PcW_blind, va_recv hK hPX (ci := 13) (q0 := 0) rfl (ix_at (lt71 (by omega)) (cX_0 G aX SX)), PcW_of hPX hK hDX _⟩ rfl rfl hl.1 rfl (lv_room (Nat.le_of_ble_eq_true rfl)) (fk_get fk_cL_law_13 27 rfl) ⟨(by show cells + 0 ≤ 600000; omega), (by show slots + 0 ≤ 7302250; omega)⟩) (fun rX SX1 H locs hwX hV => ?_)
  try dsimp only at hwX
  have hXK : XK 4 SX SX1 := xk_e 4 hwX.2.1 (fun k h1 h2 h3 q => by omega) (fun q => by omega) (fun k h1 h2 q => by omega)
  refine lv_pop hx hb (fk_get fk_cL_law_13 28 rfl) rfl ?_
  refine lv_aload_n hx hb (fk_get fk_cL_law_13 29 rfl) rfl (lv_at hl 1 rfl) ?_
  refine lv_aload_n hx hb (fk_get fk_cL_law_13 30 rfl) rfl (lv_at hl 3 rfl) ?_
  refine lv_iload_n hx hb (fk_get fk_cL_law_13 31 rfl) rfl (lv_at hl 0 rfl) ?_
  refine lv_iconst (v := 1) hx hb (fk_get fk_cL_law_14 0 rfl) (by decide) ?_
  refine lv_iadd hx hb (fk_get fk_cL_law_14 1 rfl) ?_
  refine va_sld hx hb hXs hbl hbA hV.1 hin1 (fk_get fk_cL_law_14 2 rfl) ?_
  obtain ⟨hS, hPX, hDX, hPR, hDR, hdis⟩ := id hV
  obtain ⟨n', z', u', tx, tr, nc, r1, r2, rH, rV, r15, r5, r5b, r7, r7b, rc, r17, r17b, rT, r40, r40b, r20, r20b⟩ := ri_all hR
  have en_ : n = n' := (nI_eq (by omega) (by omega)).mp ((n_of_lk hn hL).symm.trans r1)
  subst en_
  refine lr_i hV (va_runV (As := [.int (xs (nI i + 1).toNatClampNeg)]) (rest := []) ⟨hx, hb, hml, hown, hT⟩ (c_see l G aR SR H.size z' ((xs (nI i + 1).toNatClampNeg)) (by assumption) (by assumption)) (tV 1 hT m7_31 m7_32 m7_33 m1_17 m7_34 rfl rfl (by decide +kernel) ⟨Nat.le_of_ble_eq_true rfl, Nat.le_of_ble_eq_true rfl⟩) ⟨PcW_blind, va_recv hK hPR (ci := 14) (q0 := 0) rfl (ix_at (by decide) (cR_0 G aR SR)), PcW_of hPR hK hDR _⟩ rfl rfl hl.1 rfl (lv_room (Nat.le_of_ble_eq_true rfl)) (fk_get fk_cL_law_14 3 rfl) ⟨(by show cells + 0 + 0 ≤ 600000; omega), (by show slots + 0 + 0 ≤ 7302250; omega)⟩) (fun rR SR1 H locs hwR hV => ?_)
  try dsimp only at hwR
  have h1 := n_of_lk hn hL
  obtain ⟨hR1, hRK⟩ := ri_see hR r5 r5b hwR.2
  have hQ1 := eq_see2 hQ hz hz4 r5 r5b (hL.1 4 (by omega) (by omega)) hwX.2.2 hwR.2
  obtain ⟨hrr, hL1⟩ := lk_see hz hz4 hL hwX.2.2 hXK hwR.1 hwR.2 hRK
  have hM1 := lm_step hM hwX.2.1 (fun q => by omega) (fun q => by omega) (fun t ht => (fun q => by omega)) (fun q => by omega) (fun q => by omega) (fun q => by omega) (fun c hc => ⟨(fun q => by omega), (fun q => by omega), (fun q => by omega)⟩) (rz_sb (Or.inl rfl) hwR.2) hRK.2.2
  have hC1 := lc_step hLC hwX.2.1 (fun q => by omega) (fun q => by omega) (fun q => by omega) (rt_if hwR.2 (rt_f (by omega) (by omega)) (rt_if rfl (rt_if rfl rt_T (rt_af (by omega) (by omega) (by omega))) rt_T))
  have hN1 : LN SX1 SR1 := ⟨hM1, nu_step hN hwX.2.1 (fun c hc => (fun q => by omega)), tl_step hTL hX hwX.2.1 (fun q => by omega) (fun q => by omega) (fun p k hp => (fun q => by omega)) (ry_if hwR.2 (ry_f (by omega)) (ry_if rfl (ry_if rfl ry_T (ry_af (by omega) (by omega))) ry_T))⟩
  refine lv_pop hx hb (fk_get fk_cL_law_14 4 rfl) rfl ?_
  refine lv_goto (tgt := 1280) hx hb (fk_get fk_cL_law_14 5 rfl) (by decide) ?_
  refine W.widen (k := cells + 12) (n := slots + 768) (by show cells + 0 + 0 ≤ cells + 12; omega) (by show slots + 0 + 0 ≤ slots + 768; omega) ?_
  exact kk aX SX1 SR1 H locs hV hwX.1 hR1 hL1 ⟨⟨hN1, hC1⟩, hQ1⟩ rfl
set_option maxHeartbeats 1600000 in
theorem law_19 {p : Program} {l : Launch} {e : Env} {s : State} {m : MethodId} {below : List Frame} {meth : Method} {c : Code} {H : Heap} {locs : List Loc} {cells slots : Nat} {Q : State → Prop} {ls : Array Slot} {b L i : Nat} {xs : Nat → Int32} {G : GG} {aX aR : Nat → Nat} {SX SR : FS} (C0 : lw_At p s m meth c b L xs) (hK : va_K G.1 vwCl (TYS G) s) (hE : EN G (AL s) s s.heap) (hin1 : vp_in (nI i + 1) L) (hin2 : vp_in (nI i + 2) L) (hin3 : vp_in (nI i + 3) L) (hin4 : vp_in (nI i + 4) L) (hin5 : vp_in (nI i + 5) L) (hV : LV G s H locs aX aR SX SR) (hX : XI SX) (hR : RI SR) (hL : LK SX SR) (hM0 : LE SX SR)
    (hl : lv_has ls 4 [(3, .int (nI i)), (2, .ref (aR 0)), (1, .ref (aX 0)), (0, .ref b)]) (hc : cells + 12 ≤ 600000) (hs : slots + 768 ≤ 7302250)
    (kk : ∀ (aX1 : Nat → Nat) (SX1 SR1 : FS) (H1 : Heap) (locs1 : List Loc), LV G s H1 locs1 aX1 aR SX1 SR1 → XI SX1 → RI SR1 → LK SX1 SR1 → LE SX1 SR1 → aX1 0 = aX 0 → W p l e room_1 s m #[Value.ref b] below meth c H1 locs1 (cells + 12) (slots + 768) Q (F0 m 1280 ls [])) : W p l e room_1 s m #[Value.ref b] below meth c H locs cells slots Q (F0 m 739 ls []) := by
  obtain ⟨hx, hb, hr, hml, hown, hts, hXs, hbl, hlocks, hgv⟩ := id C0
  have hT : ∀ w ∈ TBL, w.before #[Value.ref b] s = true := fun w h => hts w (tbl_in w h)
  have hbA : ¬ AL s b := Nat.not_le.mpr hbl
  obtain ⟨⟨⟨hM, hN, hTL⟩, hLC⟩, hQ⟩ := hM0
  obtain ⟨n, pz, zq, K, τ, C, hU⟩ := eq_cu hQ
  obtain ⟨hn6, hn, hcf, h99, hgg, hgc, hHq⟩ := id hU
  have hgcx : ∀ d, d < n → GC 9999 (gX SX (21 + 6 * 0 + d) (K d)) := fun d hd => by rw [hgg d hd]; exact hgc d hd
  have ho : fF SX (9 + 0) 6 = fF SR 0 2 := hL.1 6 (by omega) (by omega)
  have hofx : ∃ o : Nat, o ≤ 30 ∧ fF SX (9 + 0) 6 = nI o := hQ.1.2.1
  have hofr : ∃ o : Nat, o ≤ 30 ∧ fF SR 0 2 = nI o := by rw [← ho]; exact hofx
  have hHX := hHq.hox
  have h99r := mU_99 h99
  have hg01 := gc_7 hgc
  refine lv_aload_n hx hb (fk_get fk_cL_law_14 6 rfl) rfl (lv_at hl 2 rfl) ?_
  obtain ⟨hS, hPX, hDX, hPR, hDR, hdis⟩ := id hV
  obtain ⟨z, hz, hz4⟩ := hX.2.1 0 (by decide)
  refine lx_i hV (va_runV (As := []) (rest := []) ⟨hx, hb, hml, hown, hT⟩ (c_x11_whoX l G aX SX H.size n pz K τ C z (by assumption) (by assumption) (by assumption) (by assumption) (by assumption) (by assumption) (by assumption) (by assumption)) (tV 0 hT m4_44 m4_45 m4_46 m1_1 m4_47 rfl rfl (by decide +kernel) ⟨Nat.le_of_ble_eq_true rfl, Nat.le_of_ble_eq_true rfl⟩) ⟨PcW_blind, va_recv hK hPX (ci := 13) (q0 := 0) rfl (ix_at (lt71 (by omega)) (cX_0 G aX SX)), PcW_of hPX hK hDX _⟩ rfl rfl hl.1 rfl (lv_room (Nat.le_of_ble_eq_true rfl)) (fk_get fk_cL_law_14 7 rfl) ⟨(by show cells + 0 ≤ 600000; omega), (by show slots + 0 ≤ 7302250; omega)⟩) (fun rX SX1 H locs hwX hV => ?_)
  try dsimp only at hwX
  have hXK : XK 0 SX SX1 := xk_fr hwX.2.1 (fun k h1 h2 q => by omega) (fun q => by omega) (fun k h1 h2 q => by omega)
  refine lv_pop hx hb (fk_get fk_cL_law_14 8 rfl) rfl ?_
  refine lv_aload_n hx hb (fk_get fk_cL_law_14 9 rfl) rfl (lv_at hl 1 rfl) ?_
  obtain ⟨hS, hPX, hDX, hPR, hDR, hdis⟩ := id hV
  obtain ⟨n', z', u', tx, tr, nc, r1, r2, rH, rV, r15, r5, r5b, r7, r7b, rc, r17, r17b, rT, r40, r40b, r20, r20b⟩ := ri_all hR
  have en_ : n = n' := (nI_eq (by omega) (by omega)).mp ((n_of_lk hn hL).symm.trans r1)
  subst en_
  have ez_ : z = z' := (nI_eq (by omega) (by omega)).mp (hz.symm.trans ((hL.1 4 (by omega) (by omega)).trans r5))
  subst ez_
  refine lr_i hV (va_runV (As := []) (rest := []) ⟨hx, hb, hml, hown, hT⟩ (c_whoX l G aR SR H.size zq τ (mU C) n z (by assumption) (by assumption) (by assumption) (by assumption) (by assumption) (by assumption) (by assumption) (by assumption)) (tV 0 hT m7_36 m7_37 m7_38 m1_17 m7_39 rfl rfl (by decide +kernel) ⟨Nat.le_of_ble_eq_true rfl, Nat.le_of_ble_eq_true rfl⟩) ⟨PcW_blind, va_recv hK hPR (ci := 14) (q0 := 0) rfl (ix_at (by decide) (cR_0 G aR SR)), PcW_of hPR hK hDR _⟩ rfl rfl hl.1 rfl (lv_room (Nat.le_of_ble_eq_true rfl)) (fk_get fk_cL_law_14 10 rfl) ⟨(by show cells + 0 + 0 ≤ 600000; omega), (by show slots + 0 + 0 ≤ 7302250; omega)⟩) (fun rR SR1 H locs hwR hV => ?_)
  try dsimp only at hwR
  have h1 := n_of_lk hn hL
  obtain ⟨hR1, hRK⟩ := ri_Q hR hwR.1
  have hL1 := lk_step hL hXK hRK
  have hM1 := lm_step hM hwX.2.1 (fun q => by omega) (fun q => by omega) (fun t ht => (fun q => by omega)) (fun q => by omega) (fun q => by omega) (fun q => by omega) (fun c hc => ⟨(fun q => by omega), (fun q => by omega), (fun q => by omega)⟩) (rz_Q hwR.1) hRK.2.2
  have hC1 := lc_step hLC hwX.2.1 (fun q => by omega) (fun q => by omega) (fun q => by omega) (rt_Q hwR.1)
  have hrr := q_who ho hn6 hgg (fun i hi => eq_seen hQ i (by omega)) hwX.2.2 hwR.2
  have hQ1 := eq_step hQ hwX.2.1 ⟨fun c k a b d q => by omega, fun c a q => by omega, fun q => by omega, fun q => by omega, fun q => by omega, fun q => by omega⟩ ⟨fun c k a b d q => by omega, fun c a q => by omega, fun q => by omega, fun q => by omega, fun q => by omega, fun q => by omega⟩ (fun q => by omega) (fun j k a q => by omega) (re_Q hwR.1) hRK.2.2
  have hN1 : LN SX1 SR1 := ⟨hM1, nu_step hN hwX.2.1 (fun c hc => (fun q => by omega)), tl_step hTL hX hwX.2.1 (fun q => by omega) (fun q => by omega) (fun p k hp => (fun q => by omega)) (ry_Q hwR.1)⟩
  refine lv_pop hx hb (fk_get fk_cL_law_14 11 rfl) rfl ?_
  refine lv_goto (tgt := 1280) hx hb (fk_get fk_cL_law_14 12 rfl) (by decide) ?_
  refine W.widen (k := cells + 12) (n := slots + 768) (by show cells + 0 + 0 ≤ cells + 12; omega) (by show slots + 0 + 0 ≤ slots + 768; omega) ?_
  exact kk aX SX1 SR1 H locs hV hwX.1 hR1 hL1 ⟨⟨hN1, hC1⟩, hQ1⟩ rfl
