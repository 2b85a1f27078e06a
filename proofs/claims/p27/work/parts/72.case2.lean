set_option maxHeartbeats 1600000 in
theorem law_20 {p : Program} {l : Launch} {e : Env} {s : State} {m : MethodId} {below : List Frame} {meth : Method} {c : Code} {H : Heap} {locs : List Loc} {cells slots : Nat} {Q : State → Prop} {ls : Array Slot} {b L i : Nat} {xs : Nat → Int32} {G : GG} {aX aR : Nat → Nat} {SX SR : FS} (C0 : lw_At p s m meth c b L xs) (hK : va_K G.1 vwCl (TYS G) s) (hE : EN G (AL s) s s.heap) (hin1 : vp_in (nI i + 1) L) (hin2 : vp_in (nI i + 2) L) (hin3 : vp_in (nI i + 3) L) (hin4 : vp_in (nI i + 4) L) (hin5 : vp_in (nI i + 5) L) (hV : LV G s H locs aX aR SX SR) (hX : XI SX) (hR : RI SR) (hL : LK SX SR) (hM0 : LE SX SR)
    (hl : lv_has ls 4 [(3, .int (nI i)), (2, .ref (aR 0)), (1, .ref (aX 0)), (0, .ref b)]) (hc : cells + 12 ≤ 600000) (hs : slots + 768 ≤ 7302250)
    (kk : ∀ (aX1 : Nat → Nat) (SX1 SR1 : FS) (H1 : Heap) (locs1 : List Loc), LV G s H1 locs1 aX1 aR SX1 SR1 → XI SX1 → RI SR1 → LK SX1 SR1 → LE SX1 SR1 → aX1 0 = aX 0 → W p l e room_1 s m #[Value.ref b] below meth c H1 locs1 (cells + 12) (slots + 768) Q (F0 m 1280 ls [])) : W p l e room_1 s m #[Value.ref b] below meth c H locs cells slots Q (F0 m 752 ls []) := by
  obtain ⟨hx, hb, hr, hml, hown, hts, hXs, hbl, hlocks, hgv⟩ := id C0
  have hT : ∀ w ∈ TBL, w.before #[Value.ref b] s = true := fun w h => hts w (tbl_in w h)
  have hbA : ¬ AL s b := Nat.not_le.mpr hbl
  obtain ⟨⟨⟨hM, hN, hTL⟩, hLC⟩, hQ⟩ := hM0
  obtain ⟨n, pz, zq, K, τ, C, hU⟩ := eq_cu hQ
  obtain ⟨hn6, hn, hcf, h99, hgg, hgc, hHq⟩ := id hU
  have hgcx : ∀ d, d < n → GC 9999 (gX SX (21 + 6 * 0 + d) (K d)) := fun d hd => by rw [hgg d hd]; exact hgc d hd
  have ho : fF SX (9 + 0) 6 = fF SR 0 2 := hL.1 6 (by omega) (by omega)
  have hofx : ∃ o : Nat, o ≤ 30 ∧ fF SX (9 + 0) 6 = nI o := hQ.1.2.1
  have hofr : ∃ o : Nat, o ≤ 30 ∧ fF SR 0 2 = nI o := by rw [← ho]; exact hofx
  have hHX := hHq.hox
  have h99r := mU_99 h99
  have hg01 := gc_7 hgc
  refine lv_aload_n hx hb (fk_get fk_cL_law_14 13 rfl) rfl (lv_at hl 2 rfl) ?_
  refine lv_aload_n hx hb (fk_get fk_cL_law_14 14 rfl) rfl (lv_at hl 3 rfl) ?_
  refine lv_iload_n hx hb (fk_get fk_cL_law_14 15 rfl) rfl (lv_at hl 0 rfl) ?_
  refine lv_iconst (v := 1) hx hb (fk_get fk_cL_law_14 16 rfl) (by decide) ?_
  refine lv_iadd hx hb (fk_get fk_cL_law_14 17 rfl) ?_
  refine va_sld hx hb hXs hbl hbA hV.1 hin1 (fk_get fk_cL_law_14 18 rfl) ?_
  refine lv_aload_n hx hb (fk_get fk_cL_law_14 19 rfl) rfl (lv_at hl 3 rfl) ?_
  refine lv_iload_n hx hb (fk_get fk_cL_law_14 20 rfl) rfl (lv_at hl 0 rfl) ?_
  refine lv_iconst (v := 2) hx hb (fk_get fk_cL_law_14 21 rfl) (by decide) ?_
  refine lv_iadd hx hb (fk_get fk_cL_law_14 22 rfl) ?_
  refine va_sld hx hb hXs hbl hbA hV.1 hin2 (fk_get fk_cL_law_14 23 rfl) ?_
  obtain ⟨hS, hPX, hDX, hPR, hDR, hdis⟩ := id hV
  obtain ⟨z, hz, hz4⟩ := hX.2.1 0 (by decide)
  refine lx_i hV (va_runV (As := [.int (xs (nI i + 1).toNatClampNeg), .int (xs (nI i + 2).toNatClampNeg)]) (rest := []) ⟨hx, hb, hml, hown, hT⟩ (c_x11_offsX l G aX SX H.size n pz K τ C z ((xs (nI i + 1).toNatClampNeg)) ((xs (nI i + 2).toNatClampNeg)) (by assumption) (by assumption) (by assumption) (by assumption) (by assumption) (by assumption) (by assumption) (by assumption)) (tV 2 hT m4_52 m4_53 m4_54 m1_1 m4_55 rfl rfl (by decide +kernel) ⟨Nat.le_of_ble_eq_true rfl, Nat.le_of_ble_eq_true rfl⟩) ⟨PcW_blind, va_recv hK hPX (ci := 13) (q0 := 0) rfl (ix_at (lt71 (by omega)) (cX_0 G aX SX)), PcW_of hPX hK hDX _⟩ rfl rfl hl.1 rfl (lv_room (Nat.le_of_ble_eq_true rfl)) (fk_get fk_cL_law_14 24 rfl) ⟨(by show cells + 0 ≤ 600000; omega), (by show slots + 0 ≤ 7302250; omega)⟩) (fun rX SX1 H locs hwX hV => ?_)
  try dsimp only at hwX
  have hXK : XK 0 SX SX1 := xk_fr hwX.2.1 (fun k h1 h2 q => by omega) (fun q => by omega) (fun k h1 h2 q => by omega)
  refine lv_pop hx hb (fk_get fk_cL_law_14 25 rfl) rfl ?_
  refine lv_aload_n hx hb (fk_get fk_cL_law_14 26 rfl) rfl (lv_at hl 1 rfl) ?_
  refine lv_aload_n hx hb (fk_get fk_cL_law_14 27 rfl) rfl (lv_at hl 3 rfl) ?_
  refine lv_iload_n hx hb (fk_get fk_cL_law_14 28 rfl) rfl (lv_at hl 0 rfl) ?_
  refine lv_iconst (v := 1) hx hb (fk_get fk_cL_law_14 29 rfl) (by decide) ?_
  refine lv_iadd hx hb (fk_get fk_cL_law_14 30 rfl) ?_
  refine va_sld hx hb hXs hbl hbA hV.1 hin1 (fk_get fk_cL_law_14 31 rfl) ?_
  refine lv_aload_n hx hb (fk_get fk_cL_law_15 0 rfl) rfl (lv_at hl 3 rfl) ?_
  refine lv_iload_n hx hb (fk_get fk_cL_law_15 1 rfl) rfl (lv_at hl 0 rfl) ?_
  refine lv_iconst (v := 2) hx hb (fk_get fk_cL_law_15 2 rfl) (by decide) ?_
  refine lv_iadd hx hb (fk_get fk_cL_law_15 3 rfl) ?_
  refine va_sld hx hb hXs hbl hbA hV.1 hin2 (fk_get fk_cL_law_15 4 rfl) ?_
  obtain ⟨hS, hPX, hDX, hPR, hDR, hdis⟩ := id hV
  obtain ⟨n', z', u', tx, tr, nc, r1, r2, rH, rV, r15, r5, r5b, r7, r7b, rc, r17, r17b, rT, r40, r40b, r20, r20b⟩ := ri_all hR
  have en_ : n = n' := (nI_eq (by omega) (by omega)).mp ((n_of_lk hn hL).symm.trans r1)
  subst en_
  have ez_ : z = z' := (nI_eq (by omega) (by omega)).mp (hz.symm.trans ((hL.1 4 (by omega) (by omega)).trans r5))
  subst ez_
  refine lr_i hV (va_runV (As := [.int (xs (nI i + 1).toNatClampNeg), .int (xs (nI i + 2).toNatClampNeg)]) (rest := []) ⟨hx, hb, hml, hown, hT⟩ (c_offsX l G aR SR H.size zq τ (mU C) n z ((xs (nI i + 1).toNatClampNeg)) ((xs (nI i + 2).toNatClampNeg)) (by assumption) (by assumption) (by assumption) (by assumption) (by assumption) (by assumption) (by assumption) (by assumption)) (tV 2 hT m7_44 m7_45 m7_46 m1_17 m7_47 rfl rfl (by decide +kernel) ⟨Nat.le_of_ble_eq_true rfl, Nat.le_of_ble_eq_true rfl⟩) ⟨PcW_blind, va_recv hK hPR (ci := 14) (q0 := 0) rfl (ix_at (by decide) (cR_0 G aR SR)), PcW_of hPR hK hDR _⟩ rfl rfl hl.1 rfl (lv_room (Nat.le_of_ble_eq_true rfl)) (fk_get fk_cL_law_15 5 rfl) ⟨(by show cells + 0 + 0 ≤ 600000; omega), (by show slots + 0 + 0 ≤ 7302250; omega)⟩) (fun rR SR1 H locs hwR hV => ?_)
  try dsimp only at hwR
  have h1 := n_of_lk hn hL
  obtain ⟨hR1, hRK⟩ := ri_Q hR hwR.1
  have hL1 := lk_step hL hXK hRK
  have hM1 := lm_step hM hwX.2.1 (fun q => by omega) (fun q => by omega) (fun t ht => (fun q => by omega)) (fun q => by omega) (fun q => by omega) (fun q => by omega) (fun c hc => ⟨(fun q => by omega), (fun q => by omega), (fun q => by omega)⟩) (rz_Q hwR.1) hRK.2.2
  have hC1 := lc_step hLC hwX.2.1 (fun q => by omega) (fun q => by omega) (fun q => by omega) (rt_Q hwR.1)
  have hrr := q_offs ho hn6 hgg (fun i hi => eq_seen hQ i (by omega)) hwX.2.2 hwR.2
  have hQ1 := eq_step hQ hwX.2.1 ⟨fun c k a b d q => by omega, fun c a q => by omega, fun q => by omega, fun q => by omega, fun q => by omega, fun q => by omega⟩ ⟨fun c k a b d q => by omega, fun c a q => by omega, fun q => by omega, fun q => by omega, fun q => by omega, fun q => by omega⟩ (fun q => by omega) (fun j k a q => by omega) (re_Q hwR.1) hRK.2.2
  have hN1 : LN SX1 SR1 := ⟨hM1, nu_step hN hwX.2.1 (fun c hc => (fun q => by omega)), tl_step hTL hX hwX.2.1 (fun q => by omega) (fun q => by omega) (fun p k hp => (fun q => by omega)) (ry_Q hwR.1)⟩
  refine lv_pop hx hb (fk_get fk_cL_law_15 6 rfl) rfl ?_
  refine lv_goto (tgt := 1280) hx hb (fk_get fk_cL_law_15 7 rfl) (by decide) ?_
  refine W.widen (k := cells + 12) (n := slots + 768) (by show cells + 0 + 0 ≤ cells + 12; omega) (by show slots + 0 + 0 ≤ slots + 768; omega) ?_
  exact kk aX SX1 SR1 H locs hV hwX.1 hR1 hL1 ⟨⟨hN1, hC1⟩, hQ1⟩ rfl
set_option maxHeartbeats 1600000 in
theorem law_21 {p : Program} {l : Launch} {e : Env} {s : State} {m : MethodId} {below : List Frame} {meth : Method} {c : Code} {H : Heap} {locs : List Loc} {cells slots : Nat} {Q : State → Prop} {ls : Array Slot} {b L i : Nat} {xs : Nat → Int32} {G : GG} {aX aR : Nat → Nat} {SX SR : FS} (C0 : lw_At p s m meth c b L xs) (hK : va_K G.1 vwCl (TYS G) s) (hE : EN G (AL s) s s.heap) (hin1 : vp_in (nI i + 1) L) (hin2 : vp_in (nI i + 2) L) (hin3 : vp_in (nI i + 3) L) (hin4 : vp_in (nI i + 4) L) (hin5 : vp_in (nI i + 5) L) (hV : LV G s H locs aX aR SX SR) (hX : XI SX) (hR : RI SR) (hL : LK SX SR) (hM0 : LE SX SR)
    (hl : lv_has ls 4 [(3, .int (nI i)), (2, .ref (aR 0)), (1, .ref (aX 0)), (0, .ref b)]) (hc : cells + 12 ≤ 600000) (hs : slots + 768 ≤ 7302250)
    (kk : ∀ (aX1 : Nat → Nat) (SX1 SR1 : FS) (H1 : Heap) (locs1 : List Loc), LV G s H1 locs1 aX1 aR SX1 SR1 → XI SX1 → RI SR1 → LK SX1 SR1 → LE SX1 SR1 → aX1 0 = aX 0 → W p l e room_1 s m #[Value.ref b] below meth c H1 locs1 (cells + 12) (slots + 768) Q (F0 m 1280 ls [])) : W p l e room_1 s m #[Value.ref b] below meth c H locs cells slots Q (F0 m 785 ls []) := by
  obtain ⟨hx, hb, hr, hml, hown, hts, hXs, hbl, hlocks, hgv⟩ := id C0
  have hT : ∀ w ∈ TBL, w.before #[Value.ref b] s = true := fun w h => hts w (tbl_in w h)
  have hbA : ¬ AL s b := Nat.not_le.mpr hbl
  obtain ⟨⟨⟨hM, hN, hTL⟩, hLC⟩, hQ⟩ := hM0
  obtain ⟨n, pz, zq, K, τ, C, hU⟩ := eq_cu hQ
  obtain ⟨hn6, hn, hcf, h99, hgg, hgc, hHq⟩ := id hU
  have hgcx : ∀ d, d < n → GC 9999 (gX SX (21 + 6 * 0 + d) (K d)) := fun d hd => by rw [hgg d hd]; exact hgc d hd
  have ho : fF SX (9 + 0) 6 = fF SR 0 2 := hL.1 6 (by omega) (by omega)
  have hofx : ∃ o : Nat, o ≤ 30 ∧ fF SX (9 + 0) 6 = nI o := hQ.1.2.1
  have hofr : ∃ o : Nat, o ≤ 30 ∧ fF SR 0 2 = nI o := by rw [← ho]; exact hofx
  have hHX := hHq.hox
  have h99r := mU_99 h99
  have hg01 := gc_7 hgc
  refine lv_aload_n hx hb (fk_get fk_cL_law_15 8 rfl) rfl (lv_at hl 2 rfl) ?_
  refine lv_aload_n hx hb (fk_get fk_cL_law_15 9 rfl) rfl (lv_at hl 3 rfl) ?_
  refine lv_iload_n hx hb (fk_get fk_cL_law_15 10 rfl) rfl (lv_at hl 0 rfl) ?_
  refine lv_iconst (v := 1) hx hb (fk_get fk_cL_law_15 11 rfl) (by decide) ?_
  refine lv_iadd hx hb (fk_get fk_cL_law_15 12 rfl) ?_
  refine va_sld hx hb hXs hbl hbA hV.1 hin1 (fk_get fk_cL_law_15 13 rfl) ?_
  refine lv_aload_n hx hb (fk_get fk_cL_law_15 14 rfl) rfl (lv_at hl 3 rfl) ?_
  refine lv_iload_n hx hb (fk_get fk_cL_law_15 15 rfl) rfl (lv_at hl 0 rfl) ?_
  refine lv_iconst (v := 2) hx hb (fk_get fk_cL_law_15 16 rfl) (by decide) ?_
  refine lv_iadd hx hb (fk_get fk_cL_law_15 17 rfl) ?_
  refine va_sld hx hb hXs hbl hbA hV.1 hin2 (fk_get fk_cL_law_15 18 rfl) ?_
  obtain ⟨hS, hPX, hDX, hPR, hDR, hdis⟩ := id hV
  refine lx_l hV (va_runV (As := [.int (xs (nI i + 1).toNatClampNeg), .int (xs (nI i + 2).toNatClampNeg)]) (rest := []) ⟨hx, hb, hml, hown, hT⟩ (c_x11_oddsX l G aX SX H.size n pz K τ C ((xs (nI i + 1).toNatClampNeg)) ((xs (nI i + 2).toNatClampNeg)) (by assumption) (by assumption) (by assumption) (by assumption) (by assumption) (by assumption)) (tV 2 hT m4_60 m4_61 m4_62 m1_1 m4_63 rfl rfl (by decide +kernel) ⟨Nat.le_of_ble_eq_true rfl, Nat.le_of_ble_eq_true rfl⟩) ⟨PcW_blind, va_recv hK hPX (ci := 13) (q0 := 0) rfl (ix_at (lt71 (by omega)) (cX_0 G aX SX)), PcW_of hPX hK hDX _⟩ rfl rfl hl.1 rfl (lv_room (Nat.le_of_ble_eq_true rfl)) (fk_get fk_cL_law_15 19 rfl) ⟨(by show cells + 0 ≤ 600000; omega), (by show slots + 0 ≤ 7302250; omega)⟩) (fun rX SX1 H locs hwX hV => ?_)
  try dsimp only at hwX
  have hXK : XK 0 SX SX1 := xk_fr hwX.2.1 (fun k h1 h2 q => by omega) (fun q => by omega) (fun k h1 h2 q => by omega)
  refine lv_pop2_2 hx hb (fk_get fk_cL_law_15 20 rfl) rfl ?_
  refine lv_aload_n hx hb (fk_get fk_cL_law_15 21 rfl) rfl (lv_at hl 1 rfl) ?_
  refine lv_aload_n hx hb (fk_get fk_cL_law_15 22 rfl) rfl (lv_at hl 3 rfl) ?_
  refine lv_iload_n hx hb (fk_get fk_cL_law_15 23 rfl) rfl (lv_at hl 0 rfl) ?_
  refine lv_iconst (v := 1) hx hb (fk_get fk_cL_law_15 24 rfl) (by decide) ?_
  refine lv_iadd hx hb (fk_get fk_cL_law_15 25 rfl) ?_
  refine va_sld hx hb hXs hbl hbA hV.1 hin1 (fk_get fk_cL_law_15 26 rfl) ?_
  refine lv_aload_n hx hb (fk_get fk_cL_law_15 27 rfl) rfl (lv_at hl 3 rfl) ?_
  refine lv_iload_n hx hb (fk_get fk_cL_law_15 28 rfl) rfl (lv_at hl 0 rfl) ?_
  refine lv_iconst (v := 2) hx hb (fk_get fk_cL_law_15 29 rfl) (by decide) ?_
  refine lv_iadd hx hb (fk_get fk_cL_law_15 30 rfl) ?_
  refine va_sld hx hb hXs hbl hbA hV.1 hin2 (fk_get fk_cL_law_15 31 rfl) ?_
  obtain ⟨hS, hPX, hDX, hPR, hDR, hdis⟩ := id hV
  obtain ⟨n', z', u', tx, tr, nc, r1, r2, rH, rV, r15, r5, r5b, r7, r7b, rc, r17, r17b, rT, r40, r40b, r20, r20b⟩ := ri_all hR
  have en_ : n = n' := (nI_eq (by omega) (by omega)).mp ((n_of_lk hn hL).symm.trans r1)
  subst en_
  refine lr_l hV (va_runV (As := [.int (xs (nI i + 1).toNatClampNeg), .int (xs (nI i + 2).toNatClampNeg)]) (rest := []) ⟨hx, hb, hml, hown, hT⟩ (c_oddsX l G aR SR H.size zq τ (mU C) n ((xs (nI i + 1).toNatClampNeg)) ((xs (nI i + 2).toNatClampNeg)) (by assumption) (by assumption) (by assumption) (by assumption) (by assumption) (by assumption)) (tV 2 hT m7_48 m7_49 m7_50 m1_17 m7_51 rfl rfl (by decide +kernel) ⟨Nat.le_of_ble_eq_true rfl, Nat.le_of_ble_eq_true rfl⟩) ⟨PcW_blind, va_recv hK hPR (ci := 14) (q0 := 0) rfl (ix_at (by decide) (cR_0 G aR SR)), PcW_of hPR hK hDR _⟩ rfl rfl hl.1 rfl (lv_room (Nat.le_of_ble_eq_true rfl)) (fk_get fk_cL_law_16 0 rfl) ⟨(by show cells + 0 + 0 ≤ 600000; omega), (by show slots + 0 + 0 ≤ 7302250; omega)⟩) (fun rR SR1 H locs hwR hV => ?_)
  try dsimp only at hwR
  have h1 := n_of_lk hn hL
  obtain ⟨hR1, hRK⟩ := ri_Q hR hwR.1
  have hL1 := lk_step hL hXK hRK
  have hM1 := lm_step hM hwX.2.1 (fun q => by omega) (fun q => by omega) (fun t ht => (fun q => by omega)) (fun q => by omega) (fun q => by omega) (fun q => by omega) (fun c hc => ⟨(fun q => by omega), (fun q => by omega), (fun q => by omega)⟩) (rz_Q hwR.1) hRK.2.2
  have hC1 := lc_step hLC hwX.2.1 (fun q => by omega) (fun q => by omega) (fun q => by omega) (rt_Q hwR.1)
  have hrr := q_odds ho hn6 hgg hwX.2.2 hwR.2
  have hQ1 := eq_step hQ hwX.2.1 ⟨fun c k a b d q => by omega, fun c a q => by omega, fun q => by omega, fun q => by omega, fun q => by omega, fun q => by omega⟩ ⟨fun c k a b d q => by omega, fun c a q => by omega, fun q => by omega, fun q => by omega, fun q => by omega, fun q => by omega⟩ (fun q => by omega) (fun j k a q => by omega) (re_Q hwR.1) hRK.2.2
  have hN1 : LN SX1 SR1 := ⟨hM1, nu_step hN hwX.2.1 (fun c hc => (fun q => by omega)), tl_step hTL hX hwX.2.1 (fun q => by omega) (fun q => by omega) (fun p k hp => (fun q => by omega)) (ry_Q hwR.1)⟩
  refine lv_pop2_2 hx hb (fk_get fk_cL_law_16 1 rfl) rfl ?_
  refine lv_goto (tgt := 1280) hx hb (fk_get fk_cL_law_16 2 rfl) (by decide) ?_
  refine W.widen (k := cells + 12) (n := slots + 768) (by show cells + 0 + 0 ≤ cells + 12; omega) (by show slots + 0 + 0 ≤ slots + 768; omega) ?_
  exact kk aX SX1 SR1 H locs hV hwX.1 hR1 hL1 ⟨⟨hN1, hC1⟩, hQ1⟩ rfl
set_option maxHeartbeats 1600000 in
theorem law_22 {p : Program} {l : Launch} {e : Env} {s : State} {m : MethodId} {below : List Frame} {meth : Method} {c : Code} {H : Heap} {locs : List Loc} {cells slots : Nat} {Q : State → Prop} {ls : Array Slot} {b L i : Nat} {xs : Nat → Int32} {G : GG} {aX aR : Nat → Nat} {SX SR : FS} (C0 : lw_At p s m meth c b L xs) (hK : va_K G.1 vwCl (TYS G) s) (hE : EN G (AL s) s s.heap) (hin1 : vp_in (nI i + 1) L) (hin2 : vp_in (nI i + 2) L) (hin3 : vp_in (nI i + 3) L) (hin4 : vp_in (nI i + 4) L) (hin5 : vp_in (nI i + 5) L) (hV : LV G s H locs aX aR SX SR) (hX : XI SX) (hR : RI SR) (hL : LK SX SR) (hM0 : LE SX SR)
    (hl : lv_has ls 4 [(3, .int (nI i)), (2, .ref (aR 0)), (1, .ref (aX 0)), (0, .ref b)]) (hc : cells + 12 ≤ 600000) (hs : slots + 768 ≤ 7302250)
    (kk : ∀ (aX1 : Nat → Nat) (SX1 SR1 : FS) (H1 : Heap) (locs1 : List Loc), LV G s H1 locs1 aX1 aR SX1 SR1 → XI SX1 → RI SR1 → LK SX1 SR1 → LE SX1 SR1 → aX1 0 = aX 0 → W p l e room_1 s m #[Value.ref b] below meth c H1 locs1 (cells + 12) (slots + 768) Q (F0 m 1280 ls [])) : W p l e room_1 s m #[Value.ref b] below meth c H locs cells slots Q (F0 m 818 ls []) := by
  obtain ⟨hx, hb, hr, hml, hown, hts, hXs, hbl, hlocks, hgv⟩ := id C0
  have hT : ∀ w ∈ TBL, w.before #[Value.ref b] s = true := fun w h => hts w (tbl_in w h)
  have hbA : ¬ AL s b := Nat.not_le.mpr hbl
  obtain ⟨⟨⟨hM, hN, hTL⟩, hLC⟩, hQ⟩ := hM0
  obtain ⟨n, pz, zq, K, τ, C, hU⟩ := eq_cu hQ
  obtain ⟨hn6, hn, hcf, h99, hgg, hgc, hHq⟩ := id hU
  have hgcx : ∀ d, d < n → GC 9999 (gX SX (21 + 6 * 0 + d) (K d)) := fun d hd => by rw [hgg d hd]; exact hgc d hd
  have ho : fF SX (9 + 0) 6 = fF SR 0 2 := hL.1 6 (by omega) (by omega)
  have hofx : ∃ o : Nat, o ≤ 30 ∧ fF SX (9 + 0) 6 = nI o := hQ.1.2.1
  have hofr : ∃ o : Nat, o ≤ 30 ∧ fF SR 0 2 = nI o := by rw [← ho]; exact hofx
  have hHX := hHq.hox
  have h99r := mU_99 h99
  have hg01 := gc_7 hgc
  refine lv_aload_n hx hb (fk_get fk_cL_law_16 3 rfl) rfl (lv_at hl 2 rfl) ?_
  refine lv_aload_n hx hb (fk_get fk_cL_law_16 4 rfl) rfl (lv_at hl 3 rfl) ?_
  refine lv_iload_n hx hb (fk_get fk_cL_law_16 5 rfl) rfl (lv_at hl 0 rfl) ?_
  refine lv_iconst (v := 1) hx hb (fk_get fk_cL_law_16 6 rfl) (by decide) ?_
  refine lv_iadd hx hb (fk_get fk_cL_law_16 7 rfl) ?_
  refine va_sld hx hb hXs hbl hbA hV.1 hin1 (fk_get fk_cL_law_16 8 rfl) ?_
  refine lv_aload_n hx hb (fk_get fk_cL_law_16 9 rfl) rfl (lv_at hl 3 rfl) ?_
  refine lv_iload_n hx hb (fk_get fk_cL_law_16 10 rfl) rfl (lv_at hl 0 rfl) ?_
  refine lv_iconst (v := 2) hx hb (fk_get fk_cL_law_16 11 rfl) (by decide) ?_
  refine lv_iadd hx hb (fk_get fk_cL_law_16 12 rfl) ?_
  refine va_sld hx hb hXs hbl hbA hV.1 hin2 (fk_get fk_cL_law_16 13 rfl) ?_
  obtain ⟨hS, hPX, hDX, hPR, hDR, hdis⟩ := id hV
  refine lx_l hV (va_runV (As := [.int (xs (nI i + 1).toNatClampNeg), .int (xs (nI i + 2).toNatClampNeg)]) (rest := []) ⟨hx, hb, hml, hown, hT⟩ (c_x11_meanX l G aX SX H.size n pz K τ C ((xs (nI i + 1).toNatClampNeg)) ((xs (nI i + 2).toNatClampNeg)) (by assumption) (by assumption) (by assumption) (by assumption) (by assumption) (by assumption) (by assumption)) (tV 2 hT m4_82 m4_83 m4_84 m1_1 m4_85 rfl rfl (by decide +kernel) ⟨Nat.le_of_ble_eq_true rfl, Nat.le_of_ble_eq_true rfl⟩) ⟨PcW_blind, va_recv hK hPX (ci := 13) (q0 := 0) rfl (ix_at (lt71 (by omega)) (cX_0 G aX SX)), PcW_of hPX hK hDX _⟩ rfl rfl hl.1 rfl (lv_room (Nat.le_of_ble_eq_true rfl)) (fk_get fk_cL_law_16 14 rfl) ⟨(by show cells + 0 ≤ 600000; omega), (by show slots + 0 ≤ 7302250; omega)⟩) (fun rX SX1 H locs hwX hV => ?_)
  try dsimp only at hwX
  have hXK : XK 0 SX SX1 := xk_fr hwX.2.1 (fun k h1 h2 q => by omega) (fun q => by omega) (fun k h1 h2 q => by omega)
  refine lv_pop2_2 hx hb (fk_get fk_cL_law_16 15 rfl) rfl ?_
  refine lv_aload_n hx hb (fk_get fk_cL_law_16 16 rfl) rfl (lv_at hl 1 rfl) ?_
  refine lv_aload_n hx hb (fk_get fk_cL_law_16 17 rfl) rfl (lv_at hl 3 rfl) ?_
  refine lv_iload_n hx hb (fk_get fk_cL_law_16 18 rfl) rfl (lv_at hl 0 rfl) ?_
  refine lv_iconst (v := 1) hx hb (fk_get fk_cL_law_16 19 rfl) (by decide) ?_
  refine lv_iadd hx hb (fk_get fk_cL_law_16 20 rfl) ?_
  refine va_sld hx hb hXs hbl hbA hV.1 hin1 (fk_get fk_cL_law_16 21 rfl) ?_
  refine lv_aload_n hx hb (fk_get fk_cL_law_16 22 rfl) rfl (lv_at hl 3 rfl) ?_
  refine lv_iload_n hx hb (fk_get fk_cL_law_16 23 rfl) rfl (lv_at hl 0 rfl) ?_
  refine lv_iconst (v := 2) hx hb (fk_get fk_cL_law_16 24 rfl) (by decide) ?_
  refine lv_iadd hx hb (fk_get fk_cL_law_16 25 rfl) ?_
  refine va_sld hx hb hXs hbl hbA hV.1 hin2 (fk_get fk_cL_law_16 26 rfl) ?_
  obtain ⟨hS, hPX, hDX, hPR, hDR, hdis⟩ := id hV
  obtain ⟨n', z', u', tx, tr, nc, r1, r2, rH, rV, r15, r5, r5b, r7, r7b, rc, r17, r17b, rT, r40, r40b, r20, r20b⟩ := ri_all hR
  have en_ : n = n' := (nI_eq (by omega) (by omega)).mp ((n_of_lk hn hL).symm.trans r1)
  subst en_
  refine lr_l hV (va_runV (As := [.int (xs (nI i + 1).toNatClampNeg), .int (xs (nI i + 2).toNatClampNeg)]) (rest := []) ⟨hx, hb, hml, hown, hT⟩ (c_meanX l G aR SR H.size zq τ (mU C) n ((xs (nI i + 1).toNatClampNeg)) ((xs (nI i + 2).toNatClampNeg)) (by assumption) (by assumption) (by assumption) (by assumption) (by assumption) (by assumption) (by assumption) (by assumption) (by assumption)) (tV 2 hT m7_59 m7_60 m7_61 m1_17 m7_62 rfl rfl (by decide +kernel) ⟨Nat.le_of_ble_eq_true rfl, Nat.le_of_ble_eq_true rfl⟩) ⟨PcW_blind, va_recv hK hPR (ci := 14) (q0 := 0) rfl (ix_at (by decide) (cR_0 G aR SR)), PcW_of hPR hK hDR _⟩ rfl rfl hl.1 rfl (lv_room (Nat.le_of_ble_eq_true rfl)) (fk_get fk_cL_law_16 27 rfl) ⟨(by show cells + 0 + 0 ≤ 600000; omega), (by show slots + 0 + 0 ≤ 7302250; omega)⟩) (fun rR SR1 H locs hwR hV => ?_)
  try dsimp only at hwR
  have h1 := n_of_lk hn hL
  obtain ⟨hR1, hRK⟩ := ri_Q hR hwR.1
  have hL1 := lk_step hL hXK hRK
  have hM1 := lm_step hM hwX.2.1 (fun q => by omega) (fun q => by omega) (fun t ht => (fun q => by omega)) (fun q => by omega) (fun q => by omega) (fun q => by omega) (fun c hc => ⟨(fun q => by omega), (fun q => by omega), (fun q => by omega)⟩) (rz_Q hwR.1) hRK.2.2
  have hC1 := lc_step hLC hwX.2.1 (fun q => by omega) (fun q => by omega) (fun q => by omega) (rt_Q hwR.1)
  have hrr := q_mean ho hn6 hgg hwX.2.2 hwR.2
  have hQ1 := eq_step hQ hwX.2.1 ⟨fun c k a b d q => by omega, fun c a q => by omega, fun q => by omega, fun q => by omega, fun q => by omega, fun q => by omega⟩ ⟨fun c k a b d q => by omega, fun c a q => by omega, fun q => by omega, fun q => by omega, fun q => by omega, fun q => by omega⟩ (fun q => by omega) (fun j k a q => by omega) (re_Q hwR.1) hRK.2.2
  have hN1 : LN SX1 SR1 := ⟨hM1, nu_step hN hwX.2.1 (fun c hc => (fun q => by omega)), tl_step hTL hX hwX.2.1 (fun q => by omega) (fun q => by omega) (fun p k hp => (fun q => by omega)) (ry_Q hwR.1)⟩
  refine lv_pop2_2 hx hb (fk_get fk_cL_law_16 28 rfl) rfl ?_
  refine lv_goto (tgt := 1280) hx hb (fk_get fk_cL_law_16 29 rfl) (by decide) ?_
  refine W.widen (k := cells + 12) (n := slots + 768) (by show cells + 0 + 0 ≤ cells + 12; omega) (by show slots + 0 + 0 ≤ slots + 768; omega) ?_
  exact kk aX SX1 SR1 H locs hV hwX.1 hR1 hL1 ⟨⟨hN1, hC1⟩, hQ1⟩ rfl
set_option maxHeartbeats 1600000 in
theorem law_23 {p : Program} {l : Launch} {e : Env} {s : State} {m : MethodId} {below : List Frame} {meth : Method} {c : Code} {H : Heap} {locs : List Loc} {cells slots : Nat} {Q : State → Prop} {ls : Array Slot} {b L i : Nat} {xs : Nat → Int32} {G : GG} {aX aR : Nat → Nat} {SX SR : FS} (C0 : lw_At p s m meth c b L xs) (hK : va_K G.1 vwCl (TYS G) s) (hE : EN G (AL s) s s.heap) (hin1 : vp_in (nI i + 1) L) (hin2 : vp_in (nI i + 2) L) (hin3 : vp_in (nI i + 3) L) (hin4 : vp_in (nI i + 4) L) (hin5 : vp_in (nI i + 5) L) (hV : LV G s H locs aX aR SX SR) (hX : XI SX) (hR : RI SR) (hL : LK SX SR) (hM0 : LE SX SR)
    (hl : lv_has ls 4 [(3, .int (nI i)), (2, .ref (aR 0)), (1, .ref (aX 0)), (0, .ref b)]) (hc : cells + 12 ≤ 600000) (hs : slots + 768 ≤ 7302250)
    (kk : ∀ (aX1 : Nat → Nat) (SX1 SR1 : FS) (H1 : Heap) (locs1 : List Loc), LV G s H1 locs1 aX1 aR SX1 SR1 → XI SX1 → RI SR1 → LK SX1 SR1 → LE SX1 SR1 → aX1 0 = aX 0 → W p l e room_1 s m #[Value.ref b] below meth c H1 locs1 (cells + 12) (slots + 768) Q (F0 m 1280 ls [])) : W p l e room_1 s m #[Value.ref b] below meth c H locs cells slots Q (F0 m 851 ls []) := by
  obtain ⟨hx, hb, hr, hml, hown, hts, hXs, hbl, hlocks, hgv⟩ := id C0
  have hT : ∀ w ∈ TBL, w.before #[Value.ref b] s = true := fun w h => hts w (tbl_in w h)
  have hbA : ¬ AL s b := Nat.not_le.mpr hbl
  obtain ⟨⟨⟨hM, hN, hTL⟩, hLC⟩, hQ⟩ := hM0
  obtain ⟨n, pz, zq, K, τ, C, hU⟩ := eq_cu hQ
  obtain ⟨hn6, hn, hcf, h99, hgg, hgc, hHq⟩ := id hU
  have hgcx : ∀ d, d < n → GC 9999 (gX SX (21 + 6 * 0 + d) (K d)) := fun d hd => by rw [hgg d hd]; exact hgc d hd
  have ho : fF SX (9 + 0) 6 = fF SR 0 2 := hL.1 6 (by omega) (by omega)
  have hofx : ∃ o : Nat, o ≤ 30 ∧ fF SX (9 + 0) 6 = nI o := hQ.1.2.1
  have hofr : ∃ o : Nat, o ≤ 30 ∧ fF SR 0 2 = nI o := by rw [← ho]; exact hofx
  have hHX := hHq.hox
  have h99r := mU_99 h99
  have hg01 := gc_7 hgc
  refine lv_aload_n hx hb (fk_get fk_cL_law_16 30 rfl) rfl (lv_at hl 2 rfl) ?_
  refine lv_aload_n hx hb (fk_get fk_cL_law_16 31 rfl) rfl (lv_at hl 3 rfl) ?_
  refine lv_iload_n hx hb (fk_get fk_cL_law_17 0 rfl) rfl (lv_at hl 0 rfl) ?_
  refine lv_iconst (v := 1) hx hb (fk_get fk_cL_law_17 1 rfl) (by decide) ?_
  refine lv_iadd hx hb (fk_get fk_cL_law_17 2 rfl) ?_
  refine va_sld hx hb hXs hbl hbA hV.1 hin1 (fk_get fk_cL_law_17 3 rfl) ?_
  obtain ⟨hS, hPX, hDX, hPR, hDR, hdis⟩ := id hV
  obtain ⟨u, hu, hu8⟩ := hX.2.2.1 0 (by decide)
  refine lx_i hV (va_runV (As := [.int (xs (nI i + 1).toNatClampNeg)]) (rest := []) ⟨hx, hb, hml, hown, hT⟩ (c_x11_book l G aX SX H.size n u ((xs (nI i + 1).toNatClampNeg)) (by assumption) (by assumption) (by assumption) (by assumption) (by assumption)) (tV 1 hT m4_90 m4_91 m4_92 m1_1 m4_93 rfl rfl (by decide +kernel) ⟨Nat.le_of_ble_eq_true rfl, Nat.le_of_ble_eq_true rfl⟩) ⟨PcW_blind, va_recv hK hPX (ci := 13) (q0 := 0) rfl (ix_at (lt71 (by omega)) (cX_0 G aX SX)), PcW_of hPX hK hDX _⟩ rfl rfl hl.1 rfl (lv_room (Nat.le_of_ble_eq_true rfl)) (fk_get fk_cL_law_17 4 rfl) ⟨(by show cells + 0 ≤ 600000; omega), (by show slots + 0 ≤ 7302250; omega)⟩) (fun rX SX1 H locs hwX hV => ?_)
  try dsimp only at hwX
  have hXK : XK 5 SX SX1 := xk_e 5 hwX.2.1 (fun k h1 h2 h3 q => by omega) (fun q => by omega) (fun k h1 h2 q => by omega)
  refine lv_pop hx hb (fk_get fk_cL_law_17 5 rfl) rfl ?_
  refine lv_aload_n hx hb (fk_get fk_cL_law_17 6 rfl) rfl (lv_at hl 1 rfl) ?_
  refine lv_aload_n hx hb (fk_get fk_cL_law_17 7 rfl) rfl (lv_at hl 3 rfl) ?_
  refine lv_iload_n hx hb (fk_get fk_cL_law_17 8 rfl) rfl (lv_at hl 0 rfl) ?_
  refine lv_iconst (v := 1) hx hb (fk_get fk_cL_law_17 9 rfl) (by decide) ?_
  refine lv_iadd hx hb (fk_get fk_cL_law_17 10 rfl) ?_
  refine va_sld hx hb hXs hbl hbA hV.1 hin1 (fk_get fk_cL_law_17 11 rfl) ?_
  obtain ⟨hS, hPX, hDX, hPR, hDR, hdis⟩ := id hV
  obtain ⟨n', z', u', tx, tr, nc, r1, r2, rH, rV, r15, r5, r5b, r7, r7b, rc, r17, r17b, rT, r40, r40b, r20, r20b⟩ := ri_all hR
  have en_ : n = n' := (nI_eq (by omega) (by omega)).mp ((n_of_lk hn hL).symm.trans r1)
  subst en_
  refine lr_i hV (va_runV (As := [.int (xs (nI i + 1).toNatClampNeg)]) (rest := []) ⟨hx, hb, hml, hown, hT⟩ (c_book l G aR SR H.size n u' ((xs (nI i + 1).toNatClampNeg)) (by assumption) (by assumption) (by assumption) (by assumption)) (tV 1 hT m7_63 m7_64 m7_65 m1_17 m7_66 rfl rfl (by decide +kernel) ⟨Nat.le_of_ble_eq_true rfl, Nat.le_of_ble_eq_true rfl⟩) ⟨PcW_blind, va_recv hK hPR (ci := 14) (q0 := 0) rfl (ix_at (by decide) (cR_0 G aR SR)), PcW_of hPR hK hDR _⟩ rfl rfl hl.1 rfl (lv_room (Nat.le_of_ble_eq_true rfl)) (fk_get fk_cL_law_17 12 rfl) ⟨(by show cells + 0 + 0 ≤ 600000; omega), (by show slots + 0 + 0 ≤ 7302250; omega)⟩) (fun rR SR1 H locs hwR hV => ?_)
  try dsimp only at hwR
  have h1 := n_of_lk hn hL
  obtain ⟨hR1, hRK⟩ := ri_book hR r1 r2 r7 r7b hwR.2
  obtain ⟨hrr, hL1⟩ := lk_book hn hn6 hu hu8 hL hwX.2.2 hXK hwR.1 hwR.2 hRK
  have hM1 := lm_step hM hwX.2.1 (fun q => by omega) (fun q => by omega) (fun t ht => (fun q => by omega)) (fun q => by omega) (fun q => by omega) (fun q => by omega) (fun c hc => ⟨(fun q => by omega), (fun q => by omega), (fun q => by omega)⟩) (rz_sb (Or.inr rfl) hwR.2) hRK.2.2
  have hC1 := lc_step hLC hwX.2.1 (fun q => by omega) (fun q => by omega) (fun q => by omega) (rt_if hwR.2 (rt_f (by omega) (by omega)) (rt_if rfl (rt_if rfl rt_T (rt_af (by omega) (by omega) (by omega))) rt_T))
  have hQ1 := eq_step hQ hwX.2.1 ⟨fun c k a b d q => by omega, fun c a q => by omega, fun q => by omega, fun q => by omega, fun q => by omega, fun q => by omega⟩ ⟨fun c k a b d q => by omega, fun c a q => by omega, fun q => by omega, fun q => by omega, fun q => by omega, fun q => by omega⟩ (fun q => by omega) (fun j k a q => by omega) (re_if hwR.2 (re_f (by omega) (by omega)) (re_if rfl (re_if rfl re_T (re_af (fun q => absurd q (by omega)) (fun q => absurd q (by omega)) (by omega) (by omega) (by omega))) re_T)) hRK.2.2
  have hN1 : LN SX1 SR1 := ⟨hM1, nu_step hN hwX.2.1 (fun c hc => (fun q => by omega)), tl_step hTL hX hwX.2.1 (fun q => by omega) (fun q => by omega) (fun p k hp => (fun q => by omega)) (ry_if hwR.2 (ry_f (by omega)) (ry_if rfl (ry_if rfl ry_T (ry_af (by omega) (by omega))) ry_T))⟩
  refine lv_pop hx hb (fk_get fk_cL_law_17 13 rfl) rfl ?_
  refine lv_goto (tgt := 1280) hx hb (fk_get fk_cL_law_17 14 rfl) (by decide) ?_
  refine W.widen (k := cells + 12) (n := slots + 768) (by show cells + 0 + 0 ≤ cells + 12; omega) (by show slots + 0 + 0 ≤ slots + 768; omega) ?_
  exact kk aX SX1 SR1 H locs hV hwX.1 hR1 hL1 ⟨⟨hN1, hC1⟩, hQ1⟩ rfl
set_option maxHeartbeats 1600000 in
theorem law_24 {p : Program} {l : Launch} {e : Env} {s : State} {m : MethodId} {below : List Frame} {meth : Method} {c : Code} {H : Heap} {locs : List Loc} {cells slots : Nat} {Q : State → Prop} {ls : Array Slot} {b L i : Nat} {xs : Nat → Int32} {G : GG} {aX aR : Nat → Nat} {SX SR : FS} (C0 : lw_At p s m meth c b L xs) (hK : va_K G.1 vwCl (TYS G) s) (hE : EN G (AL s) s s.heap) (hin1 : vp_in (nI i + 1) L) (hin2 : vp_in (nI i + 2) L) (hin3 : vp_in (nI i + 3) L) (hin4 : vp_in (nI i + 4) L) (hin5 : vp_in (nI i + 5) L) (hV : LV G s H locs aX aR SX SR) (hX : XI SX) (hR : RI SR) (hL : LK SX SR) (hM0 : LE SX SR)
    (hl : lv_has ls 4 [(3, .int (nI i)), (2, .ref (aR 0)), (1, .ref (aX 0)), (0, .ref b)]) (hc : cells + 12 ≤ 600000) (hs : slots + 768 ≤ 7302250)
    (kk : ∀ (aX1 : Nat → Nat) (SX1 SR1 : FS) (H1 : Heap) (locs1 : List Loc), LV G s H1 locs1 aX1 aR SX1 SR1 → XI SX1 → RI SR1 → LK SX1 SR1 → LE SX1 SR1 → aX1 0 = aX 0 → W p l e room_1 s m #[Value.ref b] below meth c H1 locs1 (cells + 12) (slots + 768) Q (F0 m 1280 ls [])) : W p l e room_1 s m #[Value.ref b] below meth c H locs cells slots Q (F0 m 874 ls []) := by
  obtain ⟨hx, hb, hr, hml, hown, hts, hXs, hbl, hlocks, hgv⟩ := id C0
  have hT : ∀ w ∈ TBL, w.before #[Value.ref b] s = true := fun w h => hts w (tbl_in w h)
  have hbA : ¬ AL s b := Nat.not_le.mpr hbl
  obtain ⟨⟨⟨hM, hN, hTL⟩, hLC⟩, hQ⟩ := hM0
  obtain ⟨n, pz, zq, K, τ, C, hU⟩ := eq_cu hQ
  obtain ⟨hn6, hn, hcf, h99, hgg, hgc, hHq⟩ := id hU
  have hgcx : ∀ d, d < n → GC 9999 (gX SX (21 + 6 * 0 + d) (K d)) := fun d hd => by rw [hgg d hd]; exact hgc d hd
  have ho : fF SX (9 + 0) 6 = fF SR 0 2 := hL.1 6 (by omega) (by omega)
  have hofx : ∃ o : Nat, o ≤ 30 ∧ fF SX (9 + 0) 6 = nI o := hQ.1.2.1
  have hofr : ∃ o : Nat, o ≤ 30 ∧ fF SR 0 2 = nI o := by rw [← ho]; exact hofx
  have hHX := hHq.hox
  have h99r := mU_99 h99
  have hg01 := gc_7 hgc
  refine lv_aload_n hx hb (fk_get fk_cL_law_17 15 rfl) rfl (lv_at hl 2 rfl) ?_
  obtain ⟨hS, hPX, hDX, hPR, hDR, hdis⟩ := id hV
  refine lx_i hV (va_runV (As := []) (rest := []) ⟨hx, hb, hml, hown, hT⟩ (c_x11_looked l G aX SX H.size n (by assumption) (by assumption) (by assumption)) (tV 0 hT m4_94 m4_95 m4_96 m1_1 m4_97 rfl rfl (by decide +kernel) ⟨Nat.le_of_ble_eq_true rfl, Nat.le_of_ble_eq_true rfl⟩) ⟨PcW_blind, va_recv hK hPX (ci := 13) (q0 := 0) rfl (ix_at (lt71 (by omega)) (cX_0 G aX SX)), PcW_of hPX hK hDX _⟩ rfl rfl hl.1 rfl (lv_room (Nat.le_of_ble_eq_true rfl)) (fk_get fk_cL_law_17 16 rfl) ⟨(by show cells + 0 ≤ 600000; omega), (by show slots + 0 ≤ 7302250; omega)⟩) (fun rX SX1 H locs hwX hV => ?_)
  try dsimp only at hwX
  have hXK : XK 0 SX SX1 := xk_fr hwX.2.1 (fun k h1 h2 q => by omega) (fun q => by omega) (fun k h1 h2 q => by omega)
  refine lv_pop hx hb (fk_get fk_cL_law_17 17 rfl) rfl ?_
  refine lv_aload_n hx hb (fk_get fk_cL_law_17 18 rfl) rfl (lv_at hl 1 rfl) ?_
  obtain ⟨hS, hPX, hDX, hPR, hDR, hdis⟩ := id hV
  obtain ⟨n', z', u', tx, tr, nc, r1, r2, rH, rV, r15, r5, r5b, r7, r7b, rc, r17, r17b, rT, r40, r40b, r20, r20b⟩ := ri_all hR
  have en_ : n = n' := (nI_eq (by omega) (by omega)).mp ((n_of_lk hn hL).symm.trans r1)
  subst en_
  refine lr_i hV (va_runV (As := []) (rest := []) ⟨hx, hb, hml, hown, hT⟩ (c_looked l G aR SR H.size n u' (by assumption) (by assumption) (by assumption) (by assumption) (by assumption) (by assumption) (by assumption) (by assumption)) (tV 0 hT m7_67 m7_68 m7_69 m1_17 m7_70 rfl rfl (by decide +kernel) ⟨Nat.le_of_ble_eq_true rfl, Nat.le_of_ble_eq_true rfl⟩) ⟨PcW_blind, va_recv hK hPR (ci := 14) (q0 := 0) rfl (ix_at (by decide) (cR_0 G aR SR)), PcW_of hPR hK hDR _⟩ rfl rfl hl.1 rfl (lv_room (Nat.le_of_ble_eq_true rfl)) (fk_get fk_cL_law_17 19 rfl) ⟨(by show cells + 0 + 0 ≤ 600000; omega), (by show slots + 0 + 0 ≤ 7302250; omega)⟩) (fun rR SR1 H locs hwR hV => ?_)
  try dsimp only at hwR
  have h1 := n_of_lk hn hL
  obtain ⟨hR1, hRK⟩ := ri_Q hR hwR
  have hL1 := lk_step hL hXK hRK
  have hM1 := lm_step hM hwX.2.1 (fun q => by omega) (fun q => by omega) (fun t ht => (fun q => by omega)) (fun q => by omega) (fun q => by omega) (fun q => by omega) (fun c hc => ⟨(fun q => by omega), (fun q => by omega), (fun q => by omega)⟩) (rz_Q hwR) hRK.2.2
  have hC1 := lc_step hLC hwX.2.1 (fun q => by omega) (fun q => by omega) (fun q => by omega) (rt_Q hwR)
  have hQ1 := eq_step hQ hwX.2.1 ⟨fun c k a b d q => by omega, fun c a q => by omega, fun q => by omega, fun q => by omega, fun q => by omega, fun q => by omega⟩ ⟨fun c k a b d q => by omega, fun c a q => by omega, fun q => by omega, fun q => by omega, fun q => by omega, fun q => by omega⟩ (fun q => by omega) (fun j k a q => by omega) (re_Q hwR) hRK.2.2
  have hN1 : LN SX1 SR1 := ⟨hM1, nu_step hN hwX.2.1 (fun c hc => (fun q => by omega)), tl_step hTL hX hwX.2.1 (fun q => by omega) (fun q => by omega) (fun p k hp => (fun q => by omega)) (ry_Q hwR)⟩
  refine lv_pop hx hb (fk_get fk_cL_law_17 20 rfl) rfl ?_
  refine lv_goto (tgt := 1280) hx hb (fk_get fk_cL_law_17 21 rfl) (by decide) ?_
  refine W.widen (k := cells + 12) (n := slots + 768) (by show cells + 0 + 0 ≤ cells + 12; omega) (by show slots + 0 + 0 ≤ slots + 768; omega) ?_
  exact kk aX SX1 SR1 H locs hV hwX.1 hR1 hL1 ⟨⟨hN1, hC1⟩, hQ1⟩ rfl
set_option maxHeartbeats 1600000 in
theorem law_25 {p : Program} {l : Launch} {e : Env} {s : State} {m : MethodId} {below : List Frame} {meth : Method} {c : Code} {H : Heap} {locs : List Loc} {cells slots : Nat} {Q : State → Prop} {ls : Array Slot} {b L i : Nat} {xs : Nat → Int32} {G : GG} {aX aR : Nat → Nat} {SX SR : FS} (C0 : lw_At p s m meth c b L xs) (hK : va_K G.1 vwCl (TYS G) s) (hE : EN G (AL s) s s.heap) (hin1 : vp_in (nI i + 1) L) (hin2 : vp_in (nI i + 2) L) (hin3 : vp_in (nI i + 3) L) (hin4 : vp_in (nI i + 4) L) (hin5 : vp_in (nI i + 5) L) (hV : LV G s H locs aX aR SX SR) (hX : XI SX) (hR : RI SR) (hL : LK SX SR) (hM0 : LE SX SR)
    (hl : lv_has ls 4 [(3, .int (nI i)), (2, .ref (aR 0)), (1, .ref (aX 0)), (0, .ref b)]) (hc : cells + 12 ≤ 600000) (hs : slots + 768 ≤ 7302250)
    (kk : ∀ (aX1 : Nat → Nat) (SX1 SR1 : FS) (H1 : Heap) (locs1 : List Loc), LV G s H1 locs1 aX1 aR SX1 SR1 → XI SX1 → RI SR1 → LK SX1 SR1 → LE SX1 SR1 → aX1 0 = aX 0 → W p l e room_1 s m #[Value.ref b] below meth c H1 locs1 (cells + 12) (slots + 768) Q (F0 m 1280 ls [])) : W p l e room_1 s m #[Value.ref b] below meth c H locs cells slots Q (F0 m 887 ls []) := by
  obtain ⟨hx, hb, hr, hml, hown, hts, hXs, hbl, hlocks, hgv⟩ := id C0
  have hT : ∀ w ∈ TBL, w.before #[Value.ref b] s = true := fun w h => hts w (tbl_in w h)
  have hbA : ¬ AL s b := Nat.not_le.mpr hbl
  obtain ⟨⟨⟨hM, hN, hTL⟩, hLC⟩, hQ⟩ := hM0
  obtain ⟨n, pz, zq, K, τ, C, hU⟩ := eq_cu hQ
  obtain ⟨hn6, hn, hcf, h99, hgg, hgc, hHq⟩ := id hU
  have hgcx : ∀ d, d < n → GC 9999 (gX SX (21 + 6 * 0 + d) (K d)) := fun d hd => by rw [hgg d hd]; exact hgc d hd
  have ho : fF SX (9 + 0) 6 = fF SR 0 2 := hL.1 6 (by omega) (by omega)
  have hofx : ∃ o : Nat, o ≤ 30 ∧ fF SX (9 + 0) 6 = nI o := hQ.1.2.1
  have hofr : ∃ o : Nat, o ≤ 30 ∧ fF SR 0 2 = nI o := by rw [← ho]; exact hofx
  have hHX := hHq.hox
  have h99r := mU_99 h99
  have hg01 := gc_7 hgc
  refine lv_aload_n hx hb (fk_get fk_cL_law_17 22 rfl) rfl (lv_at hl 2 rfl) ?_
  refine lv_aload_n hx hb (fk_get fk_cL_law_17 23 rfl) rfl (lv_at hl 3 rfl) ?_
  refine lv_iload_n hx hb (fk_get fk_cL_law_17 24 rfl) rfl (lv_at hl 0 rfl) ?_
  refine lv_iconst (v := 1) hx hb (fk_get fk_cL_law_17 25 rfl) (by decide) ?_
  refine lv_iadd hx hb (fk_get fk_cL_law_17 26 rfl) ?_
  refine va_sld hx hb hXs hbl hbA hV.1 hin1 (fk_get fk_cL_law_17 27 rfl) ?_
  refine lv_aload_n hx hb (fk_get fk_cL_law_17 28 rfl) rfl (lv_at hl 3 rfl) ?_
  refine lv_iload_n hx hb (fk_get fk_cL_law_17 29 rfl) rfl (lv_at hl 0 rfl) ?_
  refine lv_iconst (v := 2) hx hb (fk_get fk_cL_law_17 30 rfl) (by decide) ?_
  refine lv_iadd hx hb (fk_get fk_cL_law_17 31 rfl) ?_
  refine va_sld hx hb hXs hbl hbA hV.1 hin2 (fk_get fk_cL_law_18 0 rfl) ?_
  obtain ⟨hS, hPX, hDX, hPR, hDR, hdis⟩ := id hV
  refine vp_callSi (W.runV (As := [.int (xs (nI i + 1).toNatClampNeg), .int (xs (nI i + 2).toNatClampNeg)]) (rest := []) ⟨hx, hb, hml, hown, hT⟩ (c_x11_judgeX l G aX SX H.size n pz K τ C ((xs (nI i + 1).toNatClampNeg)) ((xs (nI i + 2).toNatClampNeg)) (by assumption) (by assumption) (by assumption) (by assumption) (by assumption) (by assumption)) (tV 2 hT m4_98 m4_99 m4_100 m1_1 m4_101 rfl rfl (by decide +kernel) ⟨Nat.le_of_ble_eq_true rfl, Nat.le_of_ble_eq_true rfl⟩) ⟨PcW_blind, va_recv hK hPX (ci := 13) (q0 := 0) rfl (ix_at (lt71 (by omega)) (cX_0 G aX SX)), PcW_of hPX hK hDX _⟩ rfl rfl hl.1 rfl (lv_room (Nat.le_of_ble_eq_true rfl)) (fk_get fk_cL_law_18 1 rfl) ⟨(by show cells + 0 ≤ 600000; omega), (by show slots + 0 ≤ 7302250; omega)⟩) (fun rX hwX => ?_)
  have hXK : XK 0 SX SX := xk_rf
  refine lv_aload_n hx hb (fk_get fk_cL_law_18 2 rfl) rfl (lv_at hl 1 rfl) ?_
  refine lv_aload_n hx hb (fk_get fk_cL_law_18 3 rfl) rfl (lv_at hl 3 rfl) ?_
  refine lv_iload_n hx hb (fk_get fk_cL_law_18 4 rfl) rfl (lv_at hl 0 rfl) ?_
  refine lv_iconst (v := 1) hx hb (fk_get fk_cL_law_18 5 rfl) (by decide) ?_
  refine lv_iadd hx hb (fk_get fk_cL_law_18 6 rfl) ?_
  refine va_sld hx hb hXs hbl hbA hV.1 hin1 (fk_get fk_cL_law_18 7 rfl) ?_
  refine lv_aload_n hx hb (fk_get fk_cL_law_18 8 rfl) rfl (lv_at hl 3 rfl) ?_
  refine lv_iload_n hx hb (fk_get fk_cL_law_18 9 rfl) rfl (lv_at hl 0 rfl) ?_
  refine lv_iconst (v := 2) hx hb (fk_get fk_cL_law_18 10 rfl) (by decide) ?_
  refine lv_iadd hx hb (fk_get fk_cL_law_18 11 rfl) ?_
  refine va_sld hx hb hXs hbl hbA hV.1 hin2 (fk_get fk_cL_law_18 12 rfl) ?_
  obtain ⟨hS, hPX, hDX, hPR, hDR, hdis⟩ := id hV
  obtain ⟨n', z', u', tx, tr, nc, r1, r2, rH, rV, r15, r5, r5b, r7, r7b, rc, r17, r17b, rT, r40, r40b, r20, r20b⟩ := ri_all hR
  have en_ : n = n' := (nI_eq (by omega) (by omega)).mp ((n_of_lk hn hL).symm.trans r1)
  subst en_
  refine lr_i hV (va_runV (As := [.int (xs (nI i + 1).toNatClampNeg), .int (xs (nI i + 2).toNatClampNeg)]) (rest := [.int rX]) ⟨hx, hb, hml, hown, hT⟩ (c_judgeX l G aR SR H.size n ((xs (nI i + 1).toNatClampNeg)) ((xs (nI i + 2).toNatClampNeg)) (by assumption) (by assumption) (by assumption)) (tV 2 hT m7_176 m7_177 m7_178 m1_17 m7_179 rfl rfl (by decide +kernel) ⟨Nat.le_of_ble_eq_true rfl, Nat.le_of_ble_eq_true rfl⟩) ⟨PcW_blind, va_recv hK hPR (ci := 14) (q0 := 0) rfl (ix_at (by decide) (cR_0 G aR SR)), PcW_of hPR hK hDR _⟩ rfl rfl hl.1 rfl (lv_room (Nat.le_of_ble_eq_true rfl)) (fk_get fk_cL_law_18 13 rfl) ⟨(by show cells + 0 ≤ 600000; omega), (by show slots + 0 ≤ 7302250; omega)⟩) (fun rR SR1 H locs hwR hV => ?_)
  try dsimp only at hwR
  have h1 := n_of_lk hn hL
  obtain ⟨hR1, hRK⟩ := ri_E hR hwR.1
  have hL1 := lk_step hL hXK hRK
  have hM1 := lm_step hM (Fr.rf : Fr (fun _ _ => False) SX SX) (fun q => q) (fun q => q) (fun t ht => (fun q => q)) (fun q => q) (fun q => q) (fun q => q) (fun c hc => ⟨(fun q => q), (fun q => q), (fun q => q)⟩) (rz_E hwR.1) hRK.2.2
  have hC1 := lc_step hLC (Fr.rf : Fr (fun _ _ => False) SX SX) (fun q => q) (fun q => q) (fun q => q) (rt_E hwR.1)
  have hrr := judge_r hX hM.1 hM.2.2.2 hM.2.2.1 hgg hwX hwR.2
  have hQ1 := eq_step hQ (Fr.rf : Fr (fun _ _ => False) SX SX) np_F np_F (fun q => q) (fun _ _ _ q => q) (re_E hwR.1) hRK.2.2
  have hN1 : LN SX SR1 := ⟨hM1, nu_step hN (Fr.rf : Fr (fun _ _ => False) SX SX) (fun c hc => (fun q => q)), tl_step hTL hX (Fr.rf : Fr (fun _ _ => False) SX SX) (fun q => q) (fun q => q) (fun p k hp => (fun q => q)) (ry_E hwR.1)⟩
  refine lv_icmp_eq (tgt := 1280) hx hb (fk_get fk_cL_law_18 14 rfl) (by decide) (fun _ => ?_) (fun q => absurd hrr q)
  refine W.widen (k := cells + 12) (n := slots + 768) (by show cells + 0 ≤ cells + 12; omega) (by show slots + 0 ≤ slots + 768; omega) ?_
  exact kk aX SX SR1 H locs hV hX hR1 hL1 ⟨⟨hN1, hC1⟩, hQ1⟩ rfl
set_option maxHeartbeats 1600000 in
theorem law_26 {p : Program} {l : Launch} {e : Env} {s : State} {m : MethodId} {below : List Frame} {meth : Method} {c : Code} {H : Heap} {locs : List Loc} {cells slots : Nat} {Q : State → Prop} {ls : Array Slot} {b L i : Nat} {xs : Nat → Int32} {G : GG} {aX aR : Nat → Nat} {SX SR : FS} (C0 : lw_At p s m meth c b L xs) (hK : va_K G.1 vwCl (TYS G) s) (hE : EN G (AL s) s s.heap) (hin1 : vp_in (nI i + 1) L) (hin2 : vp_in (nI i + 2) L) (hin3 : vp_in (nI i + 3) L) (hin4 : vp_in (nI i + 4) L) (hin5 : vp_in (nI i + 5) L) (hV : LV G s H locs aX aR SX SR) (hX : XI SX) (hR : RI SR) (hL : LK SX SR) (hM0 : LE SX SR)
    (hl : lv_has ls 4 [(3, .int (nI i)), (2, .ref (aR 0)), (1, .ref (aX 0)), (0, .ref b)]) (hc : cells + 12 ≤ 600000) (hs : slots + 768 ≤ 7302250)
    (kk : ∀ (aX1 : Nat → Nat) (SX1 SR1 : FS) (H1 : Heap) (locs1 : List Loc), LV G s H1 locs1 aX1 aR SX1 SR1 → XI SX1 → RI SR1 → LK SX1 SR1 → LE SX1 SR1 → aX1 0 = aX 0 → W p l e room_1 s m #[Value.ref b] below meth c H1 locs1 (cells + 12) (slots + 768) Q (F0 m 1280 ls [])) : W p l e room_1 s m #[Value.ref b] below meth c H locs cells slots Q (F0 m 920 ls []) := by
  obtain ⟨hx, hb, hr, hml, hown, hts, hXs, hbl, hlocks, hgv⟩ := id C0
  have hT : ∀ w ∈ TBL, w.before #[Value.ref b] s = true := fun w h => hts w (tbl_in w h)
  have hbA : ¬ AL s b := Nat.not_le.mpr hbl
  obtain ⟨⟨⟨hM, hN, hTL⟩, hLC⟩, hQ⟩ := hM0
  obtain ⟨n, pz, zq, K, τ, C, hU⟩ := eq_cu hQ
  obtain ⟨hn6, hn, hcf, h99, hgg, hgc, hHq⟩ := id hU
  have hgcx : ∀ d, d < n → GC 9999 (gX SX (21 + 6 * 0 + d) (K d)) := fun d hd => by rw [hgg d hd]; exact hgc d hd
  have ho : fF SX (9 + 0) 6 = fF SR 0 2 := hL.1 6 (by omega) (by omega)
  have hofx : ∃ o : Nat, o ≤ 30 ∧ fF SX (9 + 0) 6 = nI o := hQ.1.2.1
  have hofr : ∃ o : Nat, o ≤ 30 ∧ fF SR 0 2 = nI o := by rw [← ho]; exact hofx
  have hHX := hHq.hox
  have h99r := mU_99 h99
  have hg01 := gc_7 hgc
  refine lv_aload_n hx hb (fk_get fk_cL_law_18 15 rfl) rfl (lv_at hl 2 rfl) ?_
  obtain ⟨hS, hPX, hDX, hPR, hDR, hdis⟩ := id hV
  refine lx_i hV (va_runV (As := []) (rest := []) ⟨hx, hb, hml, hown, hT⟩ (c_x11_imageX l G aX SX H.size n (by assumption) (by assumption) (by assumption)) (tV 0 hT m4_105 m4_106 m4_107 m1_1 m4_108 rfl rfl (by decide +kernel) ⟨Nat.le_of_ble_eq_true rfl, Nat.le_of_ble_eq_true rfl⟩) ⟨PcW_blind, va_recv hK hPX (ci := 13) (q0 := 0) rfl (ix_at (lt71 (by omega)) (cX_0 G aX SX)), PcW_of hPX hK hDX _⟩ rfl rfl hl.1 rfl (lv_room (Nat.le_of_ble_eq_true rfl)) (fk_get fk_cL_law_18 16 rfl) ⟨(by show cells + 0 ≤ 600000; omega), (by show slots + 0 ≤ 7302250; omega)⟩) (fun rX SX1 H locs hwX hV => ?_)
  try dsimp only at hwX
  refine lv_pop hx hb (fk_get fk_cL_law_18 17 rfl) rfl ?_
  refine lv_aload_n hx hb (fk_get fk_cL_law_18 18 rfl) rfl (lv_at hl 1 rfl) ?_
  obtain ⟨hS, hPX, hDX, hPR, hDR, hdis⟩ := id hV
  obtain ⟨n', z', u', tx, tr, nc, r1, r2, rH, rV, r15, r5, r5b, r7, r7b, rc, r17, r17b, rT, r40, r40b, r20, r20b⟩ := ri_all hR
  have en_ : n = n' := (nI_eq (by omega) (by omega)).mp ((n_of_lk hn hL).symm.trans r1)
  subst en_
  refine lr_i hV (va_runV (As := []) (rest := []) ⟨hx, hb, hml, hown, hT⟩ (c_image l G aR SR H.size ) (tV 0 hT m6_10 m6_11 m6_12 m1_17 m6_13 rfl rfl (by decide +kernel) ⟨Nat.le_of_ble_eq_true rfl, Nat.le_of_ble_eq_true rfl⟩) ⟨PcW_blind, va_recv hK hPR (ci := 14) (q0 := 0) rfl (ix_at (by decide) (cR_0 G aR SR)), PcW_of hPR hK hDR _⟩ rfl rfl hl.1 rfl (lv_room (Nat.le_of_ble_eq_true rfl)) (fk_get fk_cL_law_18 19 rfl) ⟨(by show cells + 0 + 0 ≤ 600000; omega), (by show slots + 0 + 0 ≤ 7302250; omega)⟩) (fun rR SR1 H locs hwR hV => ?_)
  try dsimp only at hwR
  have h1 := n_of_lk hn hL
  obtain ⟨hR1, hk⟩ := ri_image hR hwR.1
  obtain ⟨hrr, hL1⟩ := lk_image hn hL hwX.2.1 (fun k h1 h2 q => by omega) ⟨hwX.2.2.1, hwX.2.2.2.1, hwX.2.2.2.2.1⟩ hk hwR.2
  have hQ1 := eq_image hn hn6 hQ hwX.2.1 ⟨fun c k a b d q => by omega, fun c a q => by omega, fun q => by omega, fun q => by omega, fun q => by omega, fun q => by omega⟩ (fun j k a q => by omega) hwX.2.2.2.2.1 hwX.2.2.2.2.2 hk.1 hk.2.2 (kr_CA hwR.1 rfl (by rw [fF_setF, if_neg (by omega), fF_setF, if_neg (by omega)]) (fun _ _ _ => rfl))
  have hz := rz_CA (A := True) (T := False) (L := False) hwR.1 rfl ⟨rfl, fun _ => rfl⟩
  have hM1 := lm_A hM hwX.2.1 (fun q => by omega) (fun q => by omega) (fun t ht => (fun q => by omega)) ⟨fun q => absurd trivial q, fun _ => hz.1, fun _ => hz.2⟩ (ckk_image hn hn6 hM.2.1 hwX.2.1 (fun q => by omega) (fun c hc => ⟨(fun q => by omega), (fun q => by omega), (fun q => by omega)⟩) hwX.2.2.2.2.1 hk.1 hk.2.2)
  have hC1 := lc_step hLC hwX.2.1 (fun q => by omega) (fun q => by omega) (fun q => by omega) (rt_CA hwR.1 rfl (rt_f (by omega) (by omega)))
  have hN1 : LN SX1 SR1 := ⟨hM1, nu_step hN hwX.2.1 (fun c hc => (fun q => by omega)), tl_step hTL hX hwX.2.1 (fun q => by omega) (fun q => by omega) (fun p k hp => (fun q => by omega)) (ry_CA hwR.1 rfl ⟨by rw [fF_setF, if_neg (by omega), fF_setF, if_neg (by omega)], rfl⟩)⟩
  refine lv_pop hx hb (fk_get fk_cL_law_18 20 rfl) rfl ?_
  refine lv_goto (tgt := 1280) hx hb (fk_get fk_cL_law_18 21 rfl) (by decide) ?_
  refine W.widen (k := cells + 12) (n := slots + 768) (by show cells + 0 + 0 ≤ cells + 12; omega) (by show slots + 0 + 0 ≤ slots + 768; omega) ?_
  exact kk aX SX1 SR1 H locs hV hwX.1 hR1 hL1 ⟨⟨hN1, hC1⟩, hQ1⟩ rfl
set_option maxHeartbeats 1600000 in
theorem law_27 {p : Program} {l : Launch} {e : Env} {s : State} {m : MethodId} {below : List Frame} {meth : Method} {c : Code} {H : Heap} {locs : List Loc} {cells slots : Nat} {Q : State → Prop} {ls : Array Slot} {b L i : Nat} {xs : Nat → Int32} {G : GG} {aX aR : Nat → Nat} {SX SR : FS} (C0 : lw_At p s m meth c b L xs) (hK : va_K G.1 vwCl (TYS G) s) (hE : EN G (AL s) s s.heap) (hin1 : vp_in (nI i + 1) L) (hin2 : vp_in (nI i + 2) L) (hin3 : vp_in (nI i + 3) L) (hin4 : vp_in (nI i + 4) L) (hin5 : vp_in (nI i + 5) L) (hV : LV G s H locs aX aR SX SR) (hX : XI SX) (hR : RI SR) (hL : LK SX SR) (hM0 : LE SX SR)
    (hl : lv_has ls 4 [(3, .int (nI i)), (2, .ref (aR 0)), (1, .ref (aX 0)), (0, .ref b)]) (hc : cells + 12 ≤ 600000) (hs : slots + 768 ≤ 7302250)
    (kk : ∀ (aX1 : Nat → Nat) (SX1 SR1 : FS) (H1 : Heap) (locs1 : List Loc), LV G s H1 locs1 aX1 aR SX1 SR1 → XI SX1 → RI SR1 → LK SX1 SR1 → LE SX1 SR1 → aX1 0 = aX 0 → W p l e room_1 s m #[Value.ref b] below meth c H1 locs1 (cells + 12) (slots + 768) Q (F0 m 1280 ls [])) : W p l e room_1 s m #[Value.ref b] below meth c H locs cells slots Q (F0 m 933 ls []) := by
  obtain ⟨hx, hb, hr, hml, hown, hts, hXs, hbl, hlocks, hgv⟩ := id C0
  have hT : ∀ w ∈ TBL, w.before #[Value.ref b] s = true := fun w h => hts w (tbl_in w h)
  have hbA : ¬ AL s b := Nat.not_le.mpr hbl
  obtain ⟨⟨⟨hM, hN, hTL⟩, hLC⟩, hQ⟩ := hM0
  obtain ⟨n, pz, zq, K, τ, C, hU⟩ := eq_cu hQ
  obtain ⟨hn6, hn, hcf, h99, hgg, hgc, hHq⟩ := id hU
  have hgcx : ∀ d, d < n → GC 9999 (gX SX (21 + 6 * 0 + d) (K d)) := fun d hd => by rw [hgg d hd]; exact hgc d hd
  have ho : fF SX (9 + 0) 6 = fF SR 0 2 := hL.1 6 (by omega) (by omega)
  have hofx : ∃ o : Nat, o ≤ 30 ∧ fF SX (9 + 0) 6 = nI o := hQ.1.2.1
  have hofr : ∃ o : Nat, o ≤ 30 ∧ fF SR 0 2 = nI o := by rw [← ho]; exact hofx
  have hHX := hHq.hox
  have h99r := mU_99 h99
  have hg01 := gc_7 hgc
  refine lv_aload_n hx hb (fk_get fk_cL_law_18 22 rfl) rfl (lv_at hl 2 rfl) ?_
  obtain ⟨hS, hPX, hDX, hPR, hDR, hdis⟩ := id hV
  obtain ⟨mz, hm, hm6⟩ := hX.1 1 (by decide)
  refine lx_i hV (va_runV (As := []) (rest := []) ⟨hx, hb, hml, hown, hT⟩ (c_x11_undoX l G aX SX H.size n mz (by assumption) (by assumption) (by assumption) (by assumption) (by assumption)) (tV 0 hT m4_109 m4_110 m4_111 m1_1 m4_112 rfl rfl (by decide +kernel) ⟨Nat.le_of_ble_eq_true rfl, Nat.le_of_ble_eq_true rfl⟩) ⟨PcW_blind, va_recv hK hPX (ci := 13) (q0 := 0) rfl (ix_at (lt71 (by omega)) (cX_0 G aX SX)), PcW_of hPX hK hDX _⟩ rfl rfl hl.1 rfl (lv_room (Nat.le_of_ble_eq_true rfl)) (fk_get fk_cL_law_18 23 rfl) ⟨(by show cells + 0 ≤ 600000; omega), (by show slots + 0 ≤ 7302250; omega)⟩) (fun rX SX1 H locs hwX hV => ?_)
  try dsimp only at hwX
  refine lv_pop hx hb (fk_get fk_cL_law_18 24 rfl) rfl ?_
  refine lv_aload_n hx hb (fk_get fk_cL_law_18 25 rfl) rfl (lv_at hl 1 rfl) ?_
  obtain ⟨hS, hPX, hDX, hPR, hDR, hdis⟩ := id hV
  obtain ⟨n', z', u', tx, tr, nc, r1, r2, rH, rV, r15, r5, r5b, r7, r7b, rc, r17, r17b, rT, r40, r40b, r20, r20b⟩ := ri_all hR
  have en_ : n = n' := (nI_eq (by omega) (by omega)).mp ((n_of_lk hn hL).symm.trans r1)
  subst en_
  refine lr_i hV (va_runV (As := []) (rest := []) ⟨hx, hb, hml, hown, hT⟩ (c_undo l G aR SR H.size ) (tV 0 hT m6_22 m6_23 m6_24 m1_17 m6_25 rfl rfl (by decide +kernel) ⟨Nat.le_of_ble_eq_true rfl, Nat.le_of_ble_eq_true rfl⟩) ⟨PcW_blind, va_recv hK hPR (ci := 14) (q0 := 0) rfl (ix_at (by decide) (cR_0 G aR SR)), PcW_of hPR hK hDR _⟩ rfl rfl hl.1 rfl (lv_room (Nat.le_of_ble_eq_true rfl)) (fk_get fk_cL_law_18 26 rfl) ⟨(by show cells + 0 + 0 ≤ 600000; omega), (by show slots + 0 + 0 ≤ 7302250; omega)⟩) (fun rR SR1 H locs hwR hV => ?_)
  try dsimp only at hwR
  have h1 := n_of_lk hn hL
  have hRL : rX = rR ∧ RI SR1 ∧ LK SX1 SR1 ∧ LM SX1 SR1 ∧ RY SR SR1 ∧ RWt SR SR1 ∧ EQ SX1 SR1 := by
    rcases hwX.2.2 with ⟨c1, c3, c2⟩ | ⟨c1, c3, c2⟩
    · rcases hwR with ⟨d1, d3, d2⟩ | ⟨d1, -⟩
      · obtain ⟨g1, g2⟩ := ri_E hR d2
        exact ⟨c3.trans d3.symm, g1, lk_step hL (by rw [c2]; exact xk_rf) g2, lm_same hM c2 d2, ry_E d2, rt_E d2, eq_same hQ c2 d2⟩
      · exact absurd (hL.2.1.mp c1) d1
    · rcases hwR with ⟨d1, -⟩ | ⟨d1, d2, d3⟩
      · exact absurd (hL.2.1.mpr d1) c1
      · obtain ⟨g1, g2⟩ := ri_undo hR d1 d2
        obtain ⟨g3, g4⟩ := lk_undo hm hL hwX.2.1 (fun q => by omega) (fun k h1 h2 q => by omega) c2.1 c3 c1 g2 d3
        have hz := rz_CA (A := True) (T := False) (L := False) d2 rfl ⟨rfl, fun _ => rfl⟩
        exact ⟨g3, g1, g4, lm_A hM hwX.2.1 (fun q => by omega) (fun q => by omega) (fun t ht => (fun q => by omega)) ⟨fun q => absurd trivial q, fun _ => hz.1, fun _ => hz.2⟩ (ckk_undo hm hm6 c1 hM.2.1 hwX.2.1 (fun q => by omega) (fun q => by omega) (fun c hc => ⟨(fun q => by omega), (fun q => by omega), (fun q => by omega)⟩) c2.1 g2.1 g2.2.2), ry_CA d2 rfl ⟨by rw [fF_setF, if_neg (by omega)], rfl⟩, rt_CA d2 rfl rt_T, eq_undo hm hm6 c1 hQ hwX.2.1 ⟨fun c k a b d q => by omega, fun c a q => by omega, fun q => by omega, fun q => by omega, fun q => by omega, fun q => by omega⟩ (fun j k a q => by omega) c2.1 c2.2 g2.1 g2.2.2 (kr_CA d2 rfl (by rw [fF_setF, if_neg (by omega)]) (fun _ _ _ => rfl))⟩
  obtain ⟨hrr, hR1, hL1, hM1, hY, hW, hQ1⟩ := hRL
  have hC1 := lc_step hLC hwX.2.1 (fun q => by omega) (fun q => by omega) (fun q => by omega) (hW)
  have hN1 : LN SX1 SR1 := ⟨hM1, nu_step hN hwX.2.1 (fun c hc => (fun q => by omega)), tl_step hTL hX hwX.2.1 (fun q => by omega) (fun q => by omega) (fun p k hp => (fun q => by omega)) (hY)⟩
  refine lv_pop hx hb (fk_get fk_cL_law_18 27 rfl) rfl ?_
  refine lv_goto (tgt := 1280) hx hb (fk_get fk_cL_law_18 28 rfl) (by decide) ?_
  refine W.widen (k := cells + 12) (n := slots + 768) (by show cells + 0 + 0 ≤ cells + 12; omega) (by show slots + 0 + 0 ≤ slots + 768; omega) ?_
  exact kk aX SX1 SR1 H locs hV hwX.1 hR1 hL1 ⟨⟨hN1, hC1⟩, hQ1⟩ rfl
