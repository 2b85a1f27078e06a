set_option maxHeartbeats 1600000 in
theorem law_28 {p : Program} {l : Launch} {e : Env} {s : State} {m : MethodId} {below : List Frame} {meth : Method} {c : Code} {H : Heap} {locs : List Loc} {cells slots : Nat} {Q : State → Prop} {ls : Array Slot} {b L i : Nat} {xs : Nat → Int32} {G : GG} {aX aR : Nat → Nat} {SX SR : FS} (C0 : lw_At p s m meth c b L xs) (hK : va_K G.1 vwCl (TYS G) s) (hE : EN G (AL s) s s.heap) (hin1 : vp_in (nI i + 1) L) (hin2 : vp_in (nI i + 2) L) (hin3 : vp_in (nI i + 3) L) (hin4 : vp_in (nI i + 4) L) (hin5 : vp_in (nI i + 5) L) (hV : LV G s H locs aX aR SX SR) (hX : XI SX) (hR : RI SR) (hL : LK SX SR) (hM0 : LE SX SR)
    (hl : lv_has ls 4 [(3, .int (nI i)), (2, .ref (aR 0)), (1, .ref (aX 0)), (0, .ref b)]) (hc : cells + 12 ≤ 600000) (hs : slots + 768 ≤ 7302250)
    (kk : ∀ (aX1 : Nat → Nat) (SX1 SR1 : FS) (H1 : Heap) (locs1 : List Loc), LV G s H1 locs1 aX1 aR SX1 SR1 → XI SX1 → RI SR1 → LK SX1 SR1 → LE SX1 SR1 → aX1 0 = aX 0 → W p l e room_1 s m #[Value.ref b] below meth c H1 locs1 (cells + 12) (slots + 768) Q (F0 m 1280 ls [])) : W p l e room_1 s m #[Value.ref b] below meth c H locs cells slots Q (F0 m 946 ls []) := by
  obtain ⟨hx, hb, hr, hml, hown, hts, hXs, hbl, hlocks, hgv⟩ := id C0
  have hT : ∀ w ∈ TBL, w.before #[Value.ref b] s = true := fun w h => hts w (tbl_in w h)
  have hbA : ¬ AL s b := Nat.not_le.mpr hbl
  obtain ⟨⟨⟨hM, hN, hTL⟩, hLC⟩, hQ⟩ := hM0
  obtain ⟨n, pz, zq, K, τ, C, hU⟩ := eq_cu hQ
  obtain ⟨hn6, hn, hcf, h99, hgg, hgc, hHq⟩ := id hU
  have hgcx : ∀ d, d < n → GC 9999 (gX SX (21 + 6 * 0 + d) (K d)) := fun d hd => by rw [hgg d hd]; exact hgc d hd
  have ho : fF SX (9 + 0) 6 = fF SR 0 2 := hL.1 6 (by omega) (by omega)
  have hofx : ∃ o : Nat, o ≤ 30 ∧ fF SX (9 + 0) 6 = nI o := hQ.1.2.1
  have hofr : ∃ o : Nat, o ≤ 30 ∧ fF SR 0 2 = nI o := by rw [← ho]; exact hofx
  have hHX := hHq.hox
  have h99r := mU_99 h99
  have hg01 := gc_7 hgc
  refine lv_aload_n hx hb (fk_get fk_cL_law_18 29 rfl) rfl (lv_at hl 2 rfl) ?_
  refine lv_aload_n hx hb (fk_get fk_cL_law_18 30 rfl) rfl (lv_at hl 3 rfl) ?_
  refine lv_iload_n hx hb (fk_get fk_cL_law_18 31 rfl) rfl (lv_at hl 0 rfl) ?_
  refine lv_iconst (v := 1) hx hb (fk_get fk_cL_law_19 0 rfl) (by decide) ?_
  refine lv_iadd hx hb (fk_get fk_cL_law_19 1 rfl) ?_
  refine va_sld hx hb hXs hbl hbA hV.1 hin1 (fk_get fk_cL_law_19 2 rfl) ?_
  refine lv_aload_n hx hb (fk_get fk_cL_law_19 3 rfl) rfl (lv_at hl 3 rfl) ?_
  refine lv_iload_n hx hb (fk_get fk_cL_law_19 4 rfl) rfl (lv_at hl 0 rfl) ?_
  refine lv_iconst (v := 2) hx hb (fk_get fk_cL_law_19 5 rfl) (by decide) ?_
  refine lv_iadd hx hb (fk_get fk_cL_law_19 6 rfl) ?_
  refine va_sld hx hb hXs hbl hbA hV.1 hin2 (fk_get fk_cL_law_19 7 rfl) ?_
  refine lv_aload_n hx hb (fk_get fk_cL_law_19 8 rfl) rfl (lv_at hl 3 rfl) ?_
  refine lv_iload_n hx hb (fk_get fk_cL_law_19 9 rfl) rfl (lv_at hl 0 rfl) ?_
  refine lv_iconst (v := 3) hx hb (fk_get fk_cL_law_19 10 rfl) (by decide) ?_
  refine lv_iadd hx hb (fk_get fk_cL_law_19 11 rfl) ?_
  refine va_sld hx hb hXs hbl hbA hV.1 hin3 (fk_get fk_cL_law_19 12 rfl) ?_
  obtain ⟨hS, hPX, hDX, hPR, hDR, hdis⟩ := id hV
  have hFc := va_self hDX hS (fun q h => h)
  refine lx_g hV (va_runV (As := [.int (xs (nI i + 1).toNatClampNeg), .int (xs (nI i + 2).toNatClampNeg), .int (xs (nI i + 3).toNatClampNeg)]) (rest := []) ⟨hx, hb, hml, hown, hT⟩ (c_x11_actE l G aX SX H.size n ((xs (nI i + 1).toNatClampNeg)) ((xs (nI i + 2).toNatClampNeg)) ((xs (nI i + 3).toNatClampNeg)) (by assumption) (by assumption) (by assumption)) (tV 3 hT m4_113 m4_114 m4_115 m1_1 m4_116 rfl rfl (by decide +kernel) ⟨Nat.le_of_ble_eq_true rfl, Nat.le_of_ble_eq_true rfl⟩) ⟨PcE_blind, va_recv hK hPX (ci := 13) (q0 := 0) rfl (ix_at (lt71 (by omega)) (cX_0 G aX SX)), PcE_of hPX hK hDX hE hS (fun q h => hFc q h) _⟩ rfl rfl hl.1 rfl (lv_room (Nat.le_of_ble_eq_true rfl)) (fk_get fk_cL_law_19 13 rfl) ⟨(by show cells + 12 ≤ 600000; omega), (by show slots + 768 ≤ 7302250; omega)⟩) (fun rX SX1 aX1 H locs hwX hV => ?_)
  try dsimp only at hwX
  have hXK : XK 0 SX SX1 := xk_fr hwX.2.1 (fun k h1 h2 q => by omega) (fun q => by omega) (fun k h1 h2 q => by omega)
  refine lv_pop hx hb (fk_get fk_cL_law_19 14 rfl) rfl ?_
  refine lv_aload_n hx hb (fk_get fk_cL_law_19 15 rfl) rfl (lv_at hl 1 rfl) ?_
  refine lv_aload_n hx hb (fk_get fk_cL_law_19 16 rfl) rfl (lv_at hl 3 rfl) ?_
  refine lv_iload_n hx hb (fk_get fk_cL_law_19 17 rfl) rfl (lv_at hl 0 rfl) ?_
  refine lv_iconst (v := 1) hx hb (fk_get fk_cL_law_19 18 rfl) (by decide) ?_
  refine lv_iadd hx hb (fk_get fk_cL_law_19 19 rfl) ?_
  refine va_sld hx hb hXs hbl hbA hV.1 hin1 (fk_get fk_cL_law_19 20 rfl) ?_
  refine lv_aload_n hx hb (fk_get fk_cL_law_19 21 rfl) rfl (lv_at hl 3 rfl) ?_
  refine lv_iload_n hx hb (fk_get fk_cL_law_19 22 rfl) rfl (lv_at hl 0 rfl) ?_
  refine lv_iconst (v := 2) hx hb (fk_get fk_cL_law_19 23 rfl) (by decide) ?_
  refine lv_iadd hx hb (fk_get fk_cL_law_19 24 rfl) ?_
  refine va_sld hx hb hXs hbl hbA hV.1 hin2 (fk_get fk_cL_law_19 25 rfl) ?_
  refine lv_aload_n hx hb (fk_get fk_cL_law_19 26 rfl) rfl (lv_at hl 3 rfl) ?_
  refine lv_iload_n hx hb (fk_get fk_cL_law_19 27 rfl) rfl (lv_at hl 0 rfl) ?_
  refine lv_iconst (v := 3) hx hb (fk_get fk_cL_law_19 28 rfl) (by decide) ?_
  refine lv_iadd hx hb (fk_get fk_cL_law_19 29 rfl) ?_
  refine va_sld hx hb hXs hbl hbA hV.1 hin3 (fk_get fk_cL_law_19 30 rfl) ?_
  obtain ⟨hS, hPX, hDX, hPR, hDR, hdis⟩ := id hV
  obtain ⟨n', z', u', tx, tr, nc, r1, r2, rH, rV, r15, r5, r5b, r7, r7b, rc, r17, r17b, rT, r40, r40b, r20, r20b⟩ := ri_all hR
  have en_ : n = n' := (nI_eq (by omega) (by omega)).mp ((n_of_lk hn hL).symm.trans r1)
  subst en_
  refine lr_i hV (va_runV (As := [.int (xs (nI i + 1).toNatClampNeg), .int (xs (nI i + 2).toNatClampNeg), .int (xs (nI i + 3).toNatClampNeg)]) (rest := []) ⟨hx, hb, hml, hown, hT⟩ (c_act l G aR SR H.size n ((xs (nI i + 1).toNatClampNeg)) ((xs (nI i + 2).toNatClampNeg)) ((xs (nI i + 3).toNatClampNeg)) (by assumption) (by assumption)) (tV 3 hT m7_71 m7_72 m7_73 m1_17 m7_74 rfl rfl (by decide +kernel) ⟨Nat.le_of_ble_eq_true rfl, Nat.le_of_ble_eq_true rfl⟩) ⟨PcW_blind, va_recv hK hPR (ci := 14) (q0 := 0) rfl (ix_at (by decide) (cR_0 G aR SR)), PcW_of hPR hK hDR _⟩ rfl rfl hl.1 rfl (lv_room (Nat.le_of_ble_eq_true rfl)) (fk_get fk_cL_law_19 31 rfl) ⟨(by show cells + 12 + 0 ≤ 600000; omega), (by show slots + 768 + 0 ≤ 7302250; omega)⟩) (fun rR SR1 H locs hwR hV => ?_)
  try dsimp only at hwR
  have h1 := n_of_lk hn hL
  obtain ⟨hR1, hRK⟩ := ri_act hR (act_len _ _) (hwR.imp (fun q => ⟨q.1, q.2.2⟩) (fun q => ⟨q.1, q.2.2⟩))
  have hL1 := lk_step hL hXK hRK
  have hM1 := lm_step hM hwX.2.1 (fun q => by omega) (fun q => by omega) (fun t ht => (fun q => by omega)) (fun q => by omega) (fun q => by omega) (fun q => by omega) (fun c hc => ⟨(fun q => by omega), (fun q => by omega), (fun q => by omega)⟩) (rz_act (hwR.imp (fun q => ⟨q.1, q.2.2⟩) (fun q => ⟨q.1, q.2.2⟩))) hRK.2.2
  obtain ⟨hrr, hTL1⟩ := lk_act h1 hn6 (hM.2.1.1 n hn hn6) hN hwX.2.2.2.2 hwR
  have hC1 := lc_step hLC hwX.2.1 (fun q => by omega) (fun q => by omega) (fun q => by omega) (rt_act (hwR.imp (fun q => ⟨q.1, q.2.2⟩) (fun q => ⟨q.1, q.2.2⟩)))
  have hQ1 := eq_step2 hQ hwX.2.1 ⟨fun c k a b d q => by omega, fun c a q => by omega, fun q => by omega, fun q => by omega, fun q => by omega, fun q => by omega⟩ ⟨fun c k a b d q => by omega, fun c a q => by omega, fun q => by omega, fun q => by omega, fun q => by omega, fun q => by omega⟩ (fun q => by omega) (fun j k a b c q => by omega) (re_act (hwR.imp (fun q => ⟨q.1, q.2.2⟩) (fun q => ⟨q.1, q.2.2⟩))) hRK.2.2
  have hN1 : LN SX1 SR1 := ⟨hM1, nu_step hN hwX.2.1 (fun c hc => (fun q => by omega)), hTL1⟩
  refine lv_pop hx hb (fk_get fk_cL_law_20 0 rfl) rfl ?_
  refine lv_goto (tgt := 1280) hx hb (fk_get fk_cL_law_20 1 rfl) (by decide) ?_
  refine W.widen (k := cells + 12) (n := slots + 768) (by show cells + 12 + 0 ≤ cells + 12; omega) (by show slots + 768 + 0 ≤ slots + 768; omega) ?_
  exact kk aX1 SX1 SR1 H locs hV hwX.1 hR1 hL1 ⟨⟨hN1, hC1⟩, hQ1⟩ (hwX.2.2.1 0 (lt71 (by omega)))
set_option maxHeartbeats 1600000 in
theorem law_29 {p : Program} {l : Launch} {e : Env} {s : State} {m : MethodId} {below : List Frame} {meth : Method} {c : Code} {H : Heap} {locs : List Loc} {cells slots : Nat} {Q : State → Prop} {ls : Array Slot} {b L i : Nat} {xs : Nat → Int32} {G : GG} {aX aR : Nat → Nat} {SX SR : FS} (C0 : lw_At p s m meth c b L xs) (hK : va_K G.1 vwCl (TYS G) s) (hE : EN G (AL s) s s.heap) (hin1 : vp_in (nI i + 1) L) (hin2 : vp_in (nI i + 2) L) (hin3 : vp_in (nI i + 3) L) (hin4 : vp_in (nI i + 4) L) (hin5 : vp_in (nI i + 5) L) (hV : LV G s H locs aX aR SX SR) (hX : XI SX) (hR : RI SR) (hL : LK SX SR) (hM0 : LE SX SR)
    (hl : lv_has ls 4 [(3, .int (nI i)), (2, .ref (aR 0)), (1, .ref (aX 0)), (0, .ref b)]) (hc : cells + 12 ≤ 600000) (hs : slots + 768 ≤ 7302250)
    (kk : ∀ (aX1 : Nat → Nat) (SX1 SR1 : FS) (H1 : Heap) (locs1 : List Loc), LV G s H1 locs1 aX1 aR SX1 SR1 → XI SX1 → RI SR1 → LK SX1 SR1 → LE SX1 SR1 → aX1 0 = aX 0 → W p l e room_1 s m #[Value.ref b] below meth c H1 locs1 (cells + 12) (slots + 768) Q (F0 m 1280 ls [])) : W p l e room_1 s m #[Value.ref b] below meth c H locs cells slots Q (F0 m 989 ls []) := by
  obtain ⟨hx, hb, hr, hml, hown, hts, hXs, hbl, hlocks, hgv⟩ := id C0
  have hT : ∀ w ∈ TBL, w.before #[Value.ref b] s = true := fun w h => hts w (tbl_in w h)
  have hbA : ¬ AL s b := Nat.not_le.mpr hbl
  obtain ⟨⟨⟨hM, hN, hTL⟩, hLC⟩, hQ⟩ := hM0
  obtain ⟨n, pz, zq, K, τ, C, hU⟩ := eq_cu hQ
  obtain ⟨hn6, hn, hcf, h99, hgg, hgc, hHq⟩ := id hU
  have hgcx : ∀ d, d < n → GC 9999 (gX SX (21 + 6 * 0 + d) (K d)) := fun d hd => by rw [hgg d hd]; exact hgc d hd
  have ho : fF SX (9 + 0) 6 = fF SR 0 2 := hL.1 6 (by omega) (by omega)
  have hofx : ∃ o : Nat, o ≤ 30 ∧ fF SX (9 + 0) 6 = nI o := hQ.1.2.1
  have hofr : ∃ o : Nat, o ≤ 30 ∧ fF SR 0 2 = nI o := by rw [← ho]; exact hofx
  have hHX := hHq.hox
  have h99r := mU_99 h99
  have hg01 := gc_7 hgc
  refine lv_aload_n hx hb (fk_get fk_cL_law_20 2 rfl) rfl (lv_at hl 2 rfl) ?_
  refine lv_aload_n hx hb (fk_get fk_cL_law_20 3 rfl) rfl (lv_at hl 3 rfl) ?_
  refine lv_iload_n hx hb (fk_get fk_cL_law_20 4 rfl) rfl (lv_at hl 0 rfl) ?_
  refine lv_iconst (v := 1) hx hb (fk_get fk_cL_law_20 5 rfl) (by decide) ?_
  refine lv_iadd hx hb (fk_get fk_cL_law_20 6 rfl) ?_
  refine va_sld hx hb hXs hbl hbA hV.1 hin1 (fk_get fk_cL_law_20 7 rfl) ?_
  obtain ⟨hS, hPX, hDX, hPR, hDR, hdis⟩ := id hV
  obtain ⟨z, hzz, hzc⟩ := hX.2.2.2.2.2.2.2.2.2
  have hz64 : z ≤ 64 := by
    rcases hzc with ⟨_, h⟩ | ⟨_, _, _, _, _, _, h1, h2, _⟩ <;> omega
  have hFc := va_self hDX hS (fun q h => h)
  refine vp_callSi (W.runV (As := [.int (xs (nI i + 1).toNatClampNeg)]) (rest := []) ⟨hx, hb, hml, hown, hT⟩ (c_x11_trace l G aX SX H.size z ((xs (nI i + 1).toNatClampNeg)) (by assumption) (by assumption) (by assumption)) (tV 1 hT m5_36 m5_37 m5_38 m1_1 m5_39 rfl rfl (by decide +kernel) ⟨Nat.le_of_ble_eq_true rfl, Nat.le_of_ble_eq_true rfl⟩) ⟨PcE_blind, va_recv hK hPX (ci := 13) (q0 := 0) rfl (ix_at (lt71 (by omega)) (cX_0 G aX SX)), PcE_of hPX hK hDX hE hS (fun q h => hFc q h) _⟩ rfl rfl hl.1 rfl (lv_room (Nat.le_of_ble_eq_true rfl)) (fk_get fk_cL_law_20 8 rfl) ⟨(by show cells + 0 ≤ 600000; omega), (by show slots + 0 ≤ 7302250; omega)⟩) (fun rX hwX => ?_)
  have hXK : XK 0 SX SX := xk_rf
  refine lv_pop hx hb (fk_get fk_cL_law_20 9 rfl) rfl ?_
  refine lv_aload_n hx hb (fk_get fk_cL_law_20 10 rfl) rfl (lv_at hl 1 rfl) ?_
  refine lv_aload_n hx hb (fk_get fk_cL_law_20 11 rfl) rfl (lv_at hl 3 rfl) ?_
  refine lv_iload_n hx hb (fk_get fk_cL_law_20 12 rfl) rfl (lv_at hl 0 rfl) ?_
  refine lv_iconst (v := 1) hx hb (fk_get fk_cL_law_20 13 rfl) (by decide) ?_
  refine lv_iadd hx hb (fk_get fk_cL_law_20 14 rfl) ?_
  refine va_sld hx hb hXs hbl hbA hV.1 hin1 (fk_get fk_cL_law_20 15 rfl) ?_
  obtain ⟨hS, hPX, hDX, hPR, hDR, hdis⟩ := id hV
  obtain ⟨n', z', u', tx, tr, nc, r1, r2, rH, rV, r15, r5, r5b, r7, r7b, rc, r17, r17b, rT, r40, r40b, r20, r20b⟩ := ri_all hR
  have en_ : n = n' := (nI_eq (by omega) (by omega)).mp ((n_of_lk hn hL).symm.trans r1)
  subst en_
  refine lr_i hV (va_runV (As := [.int (xs (nI i + 1).toNatClampNeg)]) (rest := []) ⟨hx, hb, hml, hown, hT⟩ (c_traceE l G aR SR H.size tr ((xs (nI i + 1).toNatClampNeg)) (by assumption) (by assumption)) (tV 1 hT m7_136 m7_137 m7_138 m1_17 m7_139 rfl rfl (by decide +kernel) ⟨Nat.le_of_ble_eq_true rfl, Nat.le_of_ble_eq_true rfl⟩) ⟨PcW_blind, va_recv hK hPR (ci := 14) (q0 := 0) rfl (ix_at (by decide) (cR_0 G aR SR)), PcW_of hPR hK hDR _⟩ rfl rfl hl.1 rfl (lv_room (Nat.le_of_ble_eq_true rfl)) (fk_get fk_cL_law_20 16 rfl) ⟨(by show cells + 0 ≤ 600000; omega), (by show slots + 0 ≤ 7302250; omega)⟩) (fun rR SR1 H locs hwR hV => ?_)
  try dsimp only at hwR
  have h1 := n_of_lk hn hL
  obtain ⟨hR1, hRK⟩ := ri_E hR hwR.2
  have hL1 := lk_step hL hXK hRK
  have hM1 := lm_step hM (Fr.rf : Fr (fun _ _ => False) SX SX) (fun q => q) (fun q => q) (fun t ht => (fun q => q)) (fun q => q) (fun q => q) (fun q => q) (fun c hc => ⟨(fun q => q), (fun q => q), (fun q => q)⟩) (rz_E hwR.2) hRK.2.2
  have hrr := trace_r hTL hzz hz64 r40 r40b hwX hwR.1
  have hC1 := lc_step hLC (Fr.rf : Fr (fun _ _ => False) SX SX) (fun q => q) (fun q => q) (fun q => q) (rt_E hwR.2)
  have hQ1 := eq_step hQ (Fr.rf : Fr (fun _ _ => False) SX SX) np_F np_F (fun q => q) (fun _ _ _ q => q) (re_E hwR.2) hRK.2.2
  have hN1 : LN SX SR1 := ⟨hM1, nu_step hN (Fr.rf : Fr (fun _ _ => False) SX SX) (fun c hc => (fun q => q)), tl_step hTL hX (Fr.rf : Fr (fun _ _ => False) SX SX) (fun q => q) (fun q => q) (fun p k hp => (fun q => q)) (ry_E hwR.2)⟩
  refine lv_pop hx hb (fk_get fk_cL_law_20 17 rfl) rfl ?_
  refine lv_goto (tgt := 1280) hx hb (fk_get fk_cL_law_20 18 rfl) (by decide) ?_
  refine W.widen (k := cells + 12) (n := slots + 768) (by show cells + 0 ≤ cells + 12; omega) (by show slots + 0 ≤ slots + 768; omega) ?_
  exact kk aX SX SR1 H locs hV hX hR1 hL1 ⟨⟨hN1, hC1⟩, hQ1⟩ rfl
set_option maxHeartbeats 1600000 in
theorem law_30 {p : Program} {l : Launch} {e : Env} {s : State} {m : MethodId} {below : List Frame} {meth : Method} {c : Code} {H : Heap} {locs : List Loc} {cells slots : Nat} {Q : State → Prop} {ls : Array Slot} {b L i : Nat} {xs : Nat → Int32} {G : GG} {aX aR : Nat → Nat} {SX SR : FS} (C0 : lw_At p s m meth c b L xs) (hK : va_K G.1 vwCl (TYS G) s) (hE : EN G (AL s) s s.heap) (hin1 : vp_in (nI i + 1) L) (hin2 : vp_in (nI i + 2) L) (hin3 : vp_in (nI i + 3) L) (hin4 : vp_in (nI i + 4) L) (hin5 : vp_in (nI i + 5) L) (hV : LV G s H locs aX aR SX SR) (hX : XI SX) (hR : RI SR) (hL : LK SX SR) (hM0 : LE SX SR)
    (hl : lv_has ls 4 [(3, .int (nI i)), (2, .ref (aR 0)), (1, .ref (aX 0)), (0, .ref b)]) (hc : cells + 12 ≤ 600000) (hs : slots + 768 ≤ 7302250)
    (kk : ∀ (aX1 : Nat → Nat) (SX1 SR1 : FS) (H1 : Heap) (locs1 : List Loc), LV G s H1 locs1 aX1 aR SX1 SR1 → XI SX1 → RI SR1 → LK SX1 SR1 → LE SX1 SR1 → aX1 0 = aX 0 → W p l e room_1 s m #[Value.ref b] below meth c H1 locs1 (cells + 12) (slots + 768) Q (F0 m 1280 ls [])) : W p l e room_1 s m #[Value.ref b] below meth c H locs cells slots Q (F0 m 1012 ls []) := by
  obtain ⟨hx, hb, hr, hml, hown, hts, hXs, hbl, hlocks, hgv⟩ := id C0
  have hT : ∀ w ∈ TBL, w.before #[Value.ref b] s = true := fun w h => hts w (tbl_in w h)
  have hbA : ¬ AL s b := Nat.not_le.mpr hbl
  obtain ⟨⟨⟨hM, hN, hTL⟩, hLC⟩, hQ⟩ := hM0
  obtain ⟨n, pz, zq, K, τ, C, hU⟩ := eq_cu hQ
  obtain ⟨hn6, hn, hcf, h99, hgg, hgc, hHq⟩ := id hU
  have hgcx : ∀ d, d < n → GC 9999 (gX SX (21 + 6 * 0 + d) (K d)) := fun d hd => by rw [hgg d hd]; exact hgc d hd
  have ho : fF SX (9 + 0) 6 = fF SR 0 2 := hL.1 6 (by omega) (by omega)
  have hofx : ∃ o : Nat, o ≤ 30 ∧ fF SX (9 + 0) 6 = nI o := hQ.1.2.1
  have hofr : ∃ o : Nat, o ≤ 30 ∧ fF SR 0 2 = nI o := by rw [← ho]; exact hofx
  have hHX := hHq.hox
  have h99r := mU_99 h99
  have hg01 := gc_7 hgc
  refine lv_aload_n hx hb (fk_get fk_cL_law_20 19 rfl) rfl (lv_at hl 2 rfl) ?_
  refine lv_aload_n hx hb (fk_get fk_cL_law_20 20 rfl) rfl (lv_at hl 3 rfl) ?_
  refine lv_iload_n hx hb (fk_get fk_cL_law_20 21 rfl) rfl (lv_at hl 0 rfl) ?_
  refine lv_iconst (v := 1) hx hb (fk_get fk_cL_law_20 22 rfl) (by decide) ?_
  refine lv_iadd hx hb (fk_get fk_cL_law_20 23 rfl) ?_
  refine va_sld hx hb hXs hbl hbA hV.1 hin1 (fk_get fk_cL_law_20 24 rfl) ?_
  refine lv_aload_n hx hb (fk_get fk_cL_law_20 25 rfl) rfl (lv_at hl 3 rfl) ?_
  refine lv_iload_n hx hb (fk_get fk_cL_law_20 26 rfl) rfl (lv_at hl 0 rfl) ?_
  refine lv_iconst (v := 2) hx hb (fk_get fk_cL_law_20 27 rfl) (by decide) ?_
  refine lv_iadd hx hb (fk_get fk_cL_law_20 28 rfl) ?_
  refine va_sld hx hb hXs hbl hbA hV.1 hin2 (fk_get fk_cL_law_20 29 rfl) ?_
  obtain ⟨hS, hPX, hDX, hPR, hDR, hdis⟩ := id hV
  have hFc := va_self hDX hS (fun q h => h)
  refine vp_callSi (W.runV (As := [.int (xs (nI i + 1).toNatClampNeg), .int (xs (nI i + 2).toNatClampNeg)]) (rest := []) ⟨hx, hb, hml, hown, hT⟩ (c_x11_takenE l G aX SX H.size n ((xs (nI i + 1).toNatClampNeg)) ((xs (nI i + 2).toNatClampNeg)) (by assumption) (by assumption) (by assumption)) (tV 2 hT m5_61 m5_62 m5_63 m1_1 m5_64 rfl rfl (by decide +kernel) ⟨Nat.le_of_ble_eq_true rfl, Nat.le_of_ble_eq_true rfl⟩) ⟨PcE_blind, va_recv hK hPX (ci := 13) (q0 := 0) rfl (ix_at (lt71 (by omega)) (cX_0 G aX SX)), PcE_of hPX hK hDX hE hS (fun q h => hFc q h) _⟩ rfl rfl hl.1 rfl (lv_room (Nat.le_of_ble_eq_true rfl)) (fk_get fk_cL_law_20 30 rfl) ⟨(by show cells + 0 ≤ 600000; omega), (by show slots + 0 ≤ 7302250; omega)⟩) (fun rX hwX => ?_)
  have hXK : XK 0 SX SX := xk_rf
  refine lv_pop hx hb (fk_get fk_cL_law_20 31 rfl) rfl ?_
  refine lv_aload_n hx hb (fk_get fk_cL_law_21 0 rfl) rfl (lv_at hl 1 rfl) ?_
  refine lv_aload_n hx hb (fk_get fk_cL_law_21 1 rfl) rfl (lv_at hl 3 rfl) ?_
  refine lv_iload_n hx hb (fk_get fk_cL_law_21 2 rfl) rfl (lv_at hl 0 rfl) ?_
  refine lv_iconst (v := 1) hx hb (fk_get fk_cL_law_21 3 rfl) (by decide) ?_
  refine lv_iadd hx hb (fk_get fk_cL_law_21 4 rfl) ?_
  refine va_sld hx hb hXs hbl hbA hV.1 hin1 (fk_get fk_cL_law_21 5 rfl) ?_
  refine lv_aload_n hx hb (fk_get fk_cL_law_21 6 rfl) rfl (lv_at hl 3 rfl) ?_
  refine lv_iload_n hx hb (fk_get fk_cL_law_21 7 rfl) rfl (lv_at hl 0 rfl) ?_
  refine lv_iconst (v := 2) hx hb (fk_get fk_cL_law_21 8 rfl) (by decide) ?_
  refine lv_iadd hx hb (fk_get fk_cL_law_21 9 rfl) ?_
  refine va_sld hx hb hXs hbl hbA hV.1 hin2 (fk_get fk_cL_law_21 10 rfl) ?_
  obtain ⟨hS, hPX, hDX, hPR, hDR, hdis⟩ := id hV
  obtain ⟨n', z', u', tx, tr, nc, r1, r2, rH, rV, r15, r5, r5b, r7, r7b, rc, r17, r17b, rT, r40, r40b, r20, r20b⟩ := ri_all hR
  have en_ : n = n' := (nI_eq (by omega) (by omega)).mp ((n_of_lk hn hL).symm.trans r1)
  subst en_
  refine lr_i hV (va_runV (As := [.int (xs (nI i + 1).toNatClampNeg), .int (xs (nI i + 2).toNatClampNeg)]) (rest := []) ⟨hx, hb, hml, hown, hT⟩ (c_taken l G aR SR H.size n ((xs (nI i + 1).toNatClampNeg)) ((xs (nI i + 2).toNatClampNeg)) (by assumption) (by assumption)) (tV 2 hT m7_140 m7_141 m7_142 m1_17 m7_143 rfl rfl (by decide +kernel) ⟨Nat.le_of_ble_eq_true rfl, Nat.le_of_ble_eq_true rfl⟩) ⟨PcW_blind, va_recv hK hPR (ci := 14) (q0 := 0) rfl (ix_at (by decide) (cR_0 G aR SR)), PcW_of hPR hK hDR _⟩ rfl rfl hl.1 rfl (lv_room (Nat.le_of_ble_eq_true rfl)) (fk_get fk_cL_law_21 11 rfl) ⟨(by show cells + 0 ≤ 600000; omega), (by show slots + 0 ≤ 7302250; omega)⟩) (fun rR SR1 H locs hwR hV => ?_)
  try dsimp only at hwR
  have h1 := n_of_lk hn hL
  obtain ⟨hR1, hRK⟩ := ri_E hR hwR.1
  have hL1 := lk_step hL hXK hRK
  have hrr := taken_r h1 hn6 (hM.2.1.1 n hn hn6) hwX hwR.2
  have hM1 := lm_step hM (Fr.rf : Fr (fun _ _ => False) SX SX) (fun q => q) (fun q => q) (fun t ht => (fun q => q)) (fun q => q) (fun q => q) (fun q => q) (fun c hc => ⟨(fun q => q), (fun q => q), (fun q => q)⟩) (rz_E hwR.1) hRK.2.2
  have hC1 := lc_step hLC (Fr.rf : Fr (fun _ _ => False) SX SX) (fun q => q) (fun q => q) (fun q => q) (rt_E hwR.1)
  have hQ1 := eq_step hQ (Fr.rf : Fr (fun _ _ => False) SX SX) np_F np_F (fun q => q) (fun _ _ _ q => q) (re_E hwR.1) hRK.2.2
  have hN1 : LN SX SR1 := ⟨hM1, nu_step hN (Fr.rf : Fr (fun _ _ => False) SX SX) (fun c hc => (fun q => q)), tl_step hTL hX (Fr.rf : Fr (fun _ _ => False) SX SX) (fun q => q) (fun q => q) (fun p k hp => (fun q => q)) (ry_E hwR.1)⟩
  refine lv_pop hx hb (fk_get fk_cL_law_21 12 rfl) rfl ?_
  refine lv_goto (tgt := 1280) hx hb (fk_get fk_cL_law_21 13 rfl) (by decide) ?_
  refine W.widen (k := cells + 12) (n := slots + 768) (by show cells + 0 ≤ cells + 12; omega) (by show slots + 0 ≤ slots + 768; omega) ?_
  exact kk aX SX SR1 H locs hV hX hR1 hL1 ⟨⟨hN1, hC1⟩, hQ1⟩ rfl
set_option maxHeartbeats 1600000 in
theorem law_31 {p : Program} {l : Launch} {e : Env} {s : State} {m : MethodId} {below : List Frame} {meth : Method} {c : Code} {H : Heap} {locs : List Loc} {cells slots : Nat} {Q : State → Prop} {ls : Array Slot} {b L i : Nat} {xs : Nat → Int32} {G : GG} {aX aR : Nat → Nat} {SX SR : FS} (C0 : lw_At p s m meth c b L xs) (hK : va_K G.1 vwCl (TYS G) s) (hE : EN G (AL s) s s.heap) (hin1 : vp_in (nI i + 1) L) (hin2 : vp_in (nI i + 2) L) (hin3 : vp_in (nI i + 3) L) (hin4 : vp_in (nI i + 4) L) (hin5 : vp_in (nI i + 5) L) (hV : LV G s H locs aX aR SX SR) (hX : XI SX) (hR : RI SR) (hL : LK SX SR) (hM0 : LE SX SR)
    (hl : lv_has ls 4 [(3, .int (nI i)), (2, .ref (aR 0)), (1, .ref (aX 0)), (0, .ref b)]) (hc : cells + 12 ≤ 600000) (hs : slots + 768 ≤ 7302250)
    (kk : ∀ (aX1 : Nat → Nat) (SX1 SR1 : FS) (H1 : Heap) (locs1 : List Loc), LV G s H1 locs1 aX1 aR SX1 SR1 → XI SX1 → RI SR1 → LK SX1 SR1 → LE SX1 SR1 → aX1 0 = aX 0 → W p l e room_1 s m #[Value.ref b] below meth c H1 locs1 (cells + 12) (slots + 768) Q (F0 m 1280 ls [])) : W p l e room_1 s m #[Value.ref b] below meth c H locs cells slots Q (F0 m 1045 ls []) := by
  obtain ⟨hx, hb, hr, hml, hown, hts, hXs, hbl, hlocks, hgv⟩ := id C0
  have hT : ∀ w ∈ TBL, w.before #[Value.ref b] s = true := fun w h => hts w (tbl_in w h)
  have hbA : ¬ AL s b := Nat.not_le.mpr hbl
  obtain ⟨⟨⟨hM, hN, hTL⟩, hLC⟩, hQ⟩ := hM0
  obtain ⟨n, pz, zq, K, τ, C, hU⟩ := eq_cu hQ
  obtain ⟨hn6, hn, hcf, h99, hgg, hgc, hHq⟩ := id hU
  have hgcx : ∀ d, d < n → GC 9999 (gX SX (21 + 6 * 0 + d) (K d)) := fun d hd => by rw [hgg d hd]; exact hgc d hd
  have ho : fF SX (9 + 0) 6 = fF SR 0 2 := hL.1 6 (by omega) (by omega)
  have hofx : ∃ o : Nat, o ≤ 30 ∧ fF SX (9 + 0) 6 = nI o := hQ.1.2.1
  have hofr : ∃ o : Nat, o ≤ 30 ∧ fF SR 0 2 = nI o := by rw [← ho]; exact hofx
  have hHX := hHq.hox
  have h99r := mU_99 h99
  have hg01 := gc_7 hgc
  refine lv_aload_n hx hb (fk_get fk_cL_law_21 14 rfl) rfl (lv_at hl 2 rfl) ?_
  refine lv_aload_n hx hb (fk_get fk_cL_law_21 15 rfl) rfl (lv_at hl 3 rfl) ?_
  refine lv_iload_n hx hb (fk_get fk_cL_law_21 16 rfl) rfl (lv_at hl 0 rfl) ?_
  refine lv_iconst (v := 1) hx hb (fk_get fk_cL_law_21 17 rfl) (by decide) ?_
  refine lv_iadd hx hb (fk_get fk_cL_law_21 18 rfl) ?_
  refine va_sld hx hb hXs hbl hbA hV.1 hin1 (fk_get fk_cL_law_21 19 rfl) ?_
  obtain ⟨hS, hPX, hDX, hPR, hDR, hdis⟩ := id hV
  refine vp_callSi (W.runV (As := [.int (xs (nI i + 1).toNatClampNeg)]) (rest := []) ⟨hx, hb, hml, hown, hT⟩ (c_x11_countE l G aX SX H.size n ((xs (nI i + 1).toNatClampNeg)) (by assumption) (by assumption) (by assumption)) (tV 1 hT m5_68 m5_69 m5_70 m1_1 m5_71 rfl rfl (by decide +kernel) ⟨Nat.le_of_ble_eq_true rfl, Nat.le_of_ble_eq_true rfl⟩) ⟨PcW_blind, va_recv hK hPX (ci := 13) (q0 := 0) rfl (ix_at (lt71 (by omega)) (cX_0 G aX SX)), PcW_of hPX hK hDX _⟩ rfl rfl hl.1 rfl (lv_room (Nat.le_of_ble_eq_true rfl)) (fk_get fk_cL_law_21 20 rfl) ⟨(by show cells + 0 ≤ 600000; omega), (by show slots + 0 ≤ 7302250; omega)⟩) (fun rX hwX => ?_)
  have hXK : XK 0 SX SX := xk_rf
  refine lv_pop hx hb (fk_get fk_cL_law_21 21 rfl) rfl ?_
  refine lv_aload_n hx hb (fk_get fk_cL_law_21 22 rfl) rfl (lv_at hl 1 rfl) ?_
  refine lv_aload_n hx hb (fk_get fk_cL_law_21 23 rfl) rfl (lv_at hl 3 rfl) ?_
  refine lv_iload_n hx hb (fk_get fk_cL_law_21 24 rfl) rfl (lv_at hl 0 rfl) ?_
  refine lv_iconst (v := 1) hx hb (fk_get fk_cL_law_21 25 rfl) (by decide) ?_
  refine lv_iadd hx hb (fk_get fk_cL_law_21 26 rfl) ?_
  refine va_sld hx hb hXs hbl hbA hV.1 hin1 (fk_get fk_cL_law_21 27 rfl) ?_
  obtain ⟨hS, hPX, hDX, hPR, hDR, hdis⟩ := id hV
  obtain ⟨n', z', u', tx, tr, nc, r1, r2, rH, rV, r15, r5, r5b, r7, r7b, rc, r17, r17b, rT, r40, r40b, r20, r20b⟩ := ri_all hR
  have en_ : n = n' := (nI_eq (by omega) (by omega)).mp ((n_of_lk hn hL).symm.trans r1)
  subst en_
  refine lr_i hV (va_runV (As := [.int (xs (nI i + 1).toNatClampNeg)]) (rest := []) ⟨hx, hb, hml, hown, hT⟩ (c_count l G aR SR H.size ((xs (nI i + 1).toNatClampNeg))) (tV 1 hT m7_147 m7_148 m7_149 m1_17 m7_150 rfl rfl (by decide +kernel) ⟨Nat.le_of_ble_eq_true rfl, Nat.le_of_ble_eq_true rfl⟩) ⟨PcW_blind, va_recv hK hPR (ci := 14) (q0 := 0) rfl (ix_at (by decide) (cR_0 G aR SR)), PcW_of hPR hK hDR _⟩ rfl rfl hl.1 rfl (lv_room (Nat.le_of_ble_eq_true rfl)) (fk_get fk_cL_law_21 28 rfl) ⟨(by show cells + 0 ≤ 600000; omega), (by show slots + 0 ≤ 7302250; omega)⟩) (fun rR SR1 H locs hwR hV => ?_)
  try dsimp only at hwR
  have h1 := n_of_lk hn hL
  obtain ⟨hR1, hRK⟩ := ri_E hR hwR.1
  have hL1 := lk_step hL hXK hRK
  have hM1 := lm_step hM (Fr.rf : Fr (fun _ _ => False) SX SX) (fun q => q) (fun q => q) (fun t ht => (fun q => q)) (fun q => q) (fun q => q) (fun q => q) (fun c hc => ⟨(fun q => q), (fun q => q), (fun q => q)⟩) (rz_E hwR.1) hRK.2.2
  have hC1 := lc_step hLC (Fr.rf : Fr (fun _ _ => False) SX SX) (fun q => q) (fun q => q) (fun q => q) (rt_E hwR.1)
  have hrr := count_r hL hTL hLC hwX hwR.2
  have hQ1 := eq_step hQ (Fr.rf : Fr (fun _ _ => False) SX SX) np_F np_F (fun q => q) (fun _ _ _ q => q) (re_E hwR.1) hRK.2.2
  have hN1 : LN SX SR1 := ⟨hM1, nu_step hN (Fr.rf : Fr (fun _ _ => False) SX SX) (fun c hc => (fun q => q)), tl_step hTL hX (Fr.rf : Fr (fun _ _ => False) SX SX) (fun q => q) (fun q => q) (fun p k hp => (fun q => q)) (ry_E hwR.1)⟩
  refine lv_pop hx hb (fk_get fk_cL_law_21 29 rfl) rfl ?_
  refine lv_goto (tgt := 1280) hx hb (fk_get fk_cL_law_21 30 rfl) (by decide) ?_
  refine W.widen (k := cells + 12) (n := slots + 768) (by show cells + 0 ≤ cells + 12; omega) (by show slots + 0 ≤ slots + 768; omega) ?_
  exact kk aX SX SR1 H locs hV hX hR1 hL1 ⟨⟨hN1, hC1⟩, hQ1⟩ rfl
set_option maxHeartbeats 1600000 in
theorem law_32 {p : Program} {l : Launch} {e : Env} {s : State} {m : MethodId} {below : List Frame} {meth : Method} {c : Code} {H : Heap} {locs : List Loc} {cells slots : Nat} {Q : State → Prop} {ls : Array Slot} {b L i : Nat} {xs : Nat → Int32} {G : GG} {aX aR : Nat → Nat} {SX SR : FS} (C0 : lw_At p s m meth c b L xs) (hK : va_K G.1 vwCl (TYS G) s) (hE : EN G (AL s) s s.heap) (hin1 : vp_in (nI i + 1) L) (hin2 : vp_in (nI i + 2) L) (hin3 : vp_in (nI i + 3) L) (hin4 : vp_in (nI i + 4) L) (hin5 : vp_in (nI i + 5) L) (hV : LV G s H locs aX aR SX SR) (hX : XI SX) (hR : RI SR) (hL : LK SX SR) (hM0 : LE SX SR)
    (hl : lv_has ls 4 [(3, .int (nI i)), (2, .ref (aR 0)), (1, .ref (aX 0)), (0, .ref b)]) (hc : cells + 12 ≤ 600000) (hs : slots + 768 ≤ 7302250)
    (kk : ∀ (aX1 : Nat → Nat) (SX1 SR1 : FS) (H1 : Heap) (locs1 : List Loc), LV G s H1 locs1 aX1 aR SX1 SR1 → XI SX1 → RI SR1 → LK SX1 SR1 → LE SX1 SR1 → aX1 0 = aX 0 → W p l e room_1 s m #[Value.ref b] below meth c H1 locs1 (cells + 12) (slots + 768) Q (F0 m 1280 ls [])) : W p l e room_1 s m #[Value.ref b] below meth c H locs cells slots Q (F0 m 1068 ls []) := by
  obtain ⟨hx, hb, hr, hml, hown, hts, hXs, hbl, hlocks, hgv⟩ := id C0
  have hT : ∀ w ∈ TBL, w.before #[Value.ref b] s = true := fun w h => hts w (tbl_in w h)
  have hbA : ¬ AL s b := Nat.not_le.mpr hbl
  obtain ⟨⟨⟨hM, hN, hTL⟩, hLC⟩, hQ⟩ := hM0
  obtain ⟨n, pz, zq, K, τ, C, hU⟩ := eq_cu hQ
  obtain ⟨hn6, hn, hcf, h99, hgg, hgc, hHq⟩ := id hU
  have hgcx : ∀ d, d < n → GC 9999 (gX SX (21 + 6 * 0 + d) (K d)) := fun d hd => by rw [hgg d hd]; exact hgc d hd
  have ho : fF SX (9 + 0) 6 = fF SR 0 2 := hL.1 6 (by omega) (by omega)
  have hofx : ∃ o : Nat, o ≤ 30 ∧ fF SX (9 + 0) 6 = nI o := hQ.1.2.1
  have hofr : ∃ o : Nat, o ≤ 30 ∧ fF SR 0 2 = nI o := by rw [← ho]; exact hofx
  have hHX := hHq.hox
  have h99r := mU_99 h99
  have hg01 := gc_7 hgc
  refine lv_aload_n hx hb (fk_get fk_cL_law_21 31 rfl) rfl (lv_at hl 2 rfl) ?_
  refine lv_aload_n hx hb (fk_get fk_cL_law_22 0 rfl) rfl (lv_at hl 3 rfl) ?_
  refine lv_iload_n hx hb (fk_get fk_cL_law_22 1 rfl) rfl (lv_at hl 0 rfl) ?_
  refine lv_iconst (v := 1) hx hb (fk_get fk_cL_law_22 2 rfl) (by decide) ?_
  refine lv_iadd hx hb (fk_get fk_cL_law_22 3 rfl) ?_
  refine va_sld hx hb hXs hbl hbA hV.1 hin1 (fk_get fk_cL_law_22 4 rfl) ?_
  refine lv_aload_n hx hb (fk_get fk_cL_law_22 5 rfl) rfl (lv_at hl 3 rfl) ?_
  refine lv_iload_n hx hb (fk_get fk_cL_law_22 6 rfl) rfl (lv_at hl 0 rfl) ?_
  refine lv_iconst (v := 2) hx hb (fk_get fk_cL_law_22 7 rfl) (by decide) ?_
  refine lv_iadd hx hb (fk_get fk_cL_law_22 8 rfl) ?_
  refine va_sld hx hb hXs hbl hbA hV.1 hin2 (fk_get fk_cL_law_22 9 rfl) ?_
  refine lv_aload_n hx hb (fk_get fk_cL_law_22 10 rfl) rfl (lv_at hl 3 rfl) ?_
  refine lv_iload_n hx hb (fk_get fk_cL_law_22 11 rfl) rfl (lv_at hl 0 rfl) ?_
  refine lv_iconst (v := 3) hx hb (fk_get fk_cL_law_22 12 rfl) (by decide) ?_
  refine lv_iadd hx hb (fk_get fk_cL_law_22 13 rfl) ?_
  refine va_sld hx hb hXs hbl hbA hV.1 hin3 (fk_get fk_cL_law_22 14 rfl) ?_
  obtain ⟨hS, hPX, hDX, hPR, hDR, hdis⟩ := id hV
  refine lx_i hV (va_runV (As := [.int (xs (nI i + 1).toNatClampNeg), .int (xs (nI i + 2).toNatClampNeg), .int (xs (nI i + 3).toNatClampNeg)]) (rest := []) ⟨hx, hb, hml, hown, hT⟩ (c_x11_tapeE l G aX SX H.size n ((xs (nI i + 1).toNatClampNeg)) ((xs (nI i + 2).toNatClampNeg)) ((xs (nI i + 3).toNatClampNeg)) (by assumption) (by assumption) (by assumption)) (tV 3 hT m5_72 m5_73 m5_74 m1_1 m5_75 rfl rfl (by decide +kernel) ⟨Nat.le_of_ble_eq_true rfl, Nat.le_of_ble_eq_true rfl⟩) ⟨PcW_blind, va_recv hK hPX (ci := 13) (q0 := 0) rfl (ix_at (lt71 (by omega)) (cX_0 G aX SX)), PcW_of hPX hK hDX _⟩ rfl rfl hl.1 rfl (lv_room (Nat.le_of_ble_eq_true rfl)) (fk_get fk_cL_law_22 15 rfl) ⟨(by show cells + 0 ≤ 600000; omega), (by show slots + 0 ≤ 7302250; omega)⟩) (fun rX SX1 H locs hwX hV => ?_)
  try dsimp only at hwX
  have hXK : XK 0 SX SX1 := xk_fr hwX.2.1 (fun k h1 h2 q => by omega) (fun q => by omega) (fun k h1 h2 q => by omega)
  refine lv_pop hx hb (fk_get fk_cL_law_22 16 rfl) rfl ?_
  refine lv_aload_n hx hb (fk_get fk_cL_law_22 17 rfl) rfl (lv_at hl 1 rfl) ?_
  refine lv_aload_n hx hb (fk_get fk_cL_law_22 18 rfl) rfl (lv_at hl 3 rfl) ?_
  refine lv_iload_n hx hb (fk_get fk_cL_law_22 19 rfl) rfl (lv_at hl 0 rfl) ?_
  refine lv_iconst (v := 1) hx hb (fk_get fk_cL_law_22 20 rfl) (by decide) ?_
  refine lv_iadd hx hb (fk_get fk_cL_law_22 21 rfl) ?_
  refine va_sld hx hb hXs hbl hbA hV.1 hin1 (fk_get fk_cL_law_22 22 rfl) ?_
  refine lv_aload_n hx hb (fk_get fk_cL_law_22 23 rfl) rfl (lv_at hl 3 rfl) ?_
  refine lv_iload_n hx hb (fk_get fk_cL_law_22 24 rfl) rfl (lv_at hl 0 rfl) ?_
  refine lv_iconst (v := 2) hx hb (fk_get fk_cL_law_22 25 rfl) (by decide) ?_
  refine lv_iadd hx hb (fk_get fk_cL_law_22 26 rfl) ?_
  refine va_sld hx hb hXs hbl hbA hV.1 hin2 (fk_get fk_cL_law_22 27 rfl) ?_
  refine lv_aload_n hx hb (fk_get fk_cL_law_22 28 rfl) rfl (lv_at hl 3 rfl) ?_
  refine lv_iload_n hx hb (fk_get fk_cL_law_22 29 rfl) rfl (lv_at hl 0 rfl) ?_
  refine lv_iconst (v := 3) hx hb (fk_get fk_cL_law_22 30 rfl) (by decide) ?_
  refine lv_iadd hx hb (fk_get fk_cL_law_22 31 rfl) ?_
  refine va_sld hx hb hXs hbl hbA hV.1 hin3 (fk_get fk_cL_law_23 0 rfl) ?_
  obtain ⟨hS, hPX, hDX, hPR, hDR, hdis⟩ := id hV
  obtain ⟨n', z', u', tx, tr, nc, r1, r2, rH, rV, r15, r5, r5b, r7, r7b, rc, r17, r17b, rT, r40, r40b, r20, r20b⟩ := ri_all hR
  have en_ : n = n' := (nI_eq (by omega) (by omega)).mp ((n_of_lk hn hL).symm.trans r1)
  subst en_
  refine lr_i hV (va_runV (As := [.int (xs (nI i + 1).toNatClampNeg), .int (xs (nI i + 2).toNatClampNeg), .int (xs (nI i + 3).toNatClampNeg)]) (rest := []) ⟨hx, hb, hml, hown, hT⟩ (c_tape l G aR SR H.size ((xs (nI i + 1).toNatClampNeg)) ((xs (nI i + 2).toNatClampNeg)) ((xs (nI i + 3).toNatClampNeg))) (tV 3 hT m7_151 m7_152 m7_153 m1_17 m7_154 rfl rfl (by decide +kernel) ⟨Nat.le_of_ble_eq_true rfl, Nat.le_of_ble_eq_true rfl⟩) ⟨PcW_blind, va_recv hK hPR (ci := 14) (q0 := 0) rfl (ix_at (by decide) (cR_0 G aR SR)), PcW_of hPR hK hDR _⟩ rfl rfl hl.1 rfl (lv_room (Nat.le_of_ble_eq_true rfl)) (fk_get fk_cL_law_23 1 rfl) ⟨(by show cells + 0 + 0 ≤ 600000; omega), (by show slots + 0 + 0 ≤ 7302250; omega)⟩) (fun rR SR1 H locs hwR hV => ?_)
  try dsimp only at hwR
  have h1 := n_of_lk hn hL
  obtain ⟨hR1, hRK⟩ := ri_tape hR hwR.2
  have hL1 := lk_step hL hXK hRK
  obtain ⟨hrr, hT1⟩ := lk_tape hM.1 hwX.2.2 hwR.1 hwR.2
  have hM1 := lm_T hM hwX.2.1 (fun q => by omega) (fun q => by omega) (fun q => by omega) (fun c hc => ⟨(fun q => by omega), (fun q => by omega), (fun q => by omega)⟩) (rz_tape hwR.2) hRK.2.2 hT1 (it_tape hM.2.2.1 hwX.2.2 hwR.2) (nt_tape hM.2.2.2 hwX.2.2)
  have hC1 := lc_step hLC hwX.2.1 (fun q => by omega) (fun q => by omega) (fun q => by omega) (rt_if hwR.2 (rt_if rfl (rt_if rfl rt_4 (rt_if rfl (rt_if rfl rt_T rt_4) rt_T)) rt_T) rt_T)
  have hQ1 := eq_step hQ hwX.2.1 ⟨fun c k a b d q => by omega, fun c a q => by omega, fun q => by omega, fun q => by omega, fun q => by omega, fun q => by omega⟩ ⟨fun c k a b d q => by omega, fun c a q => by omega, fun q => by omega, fun q => by omega, fun q => by omega, fun q => by omega⟩ (fun q => by omega) (fun j k a q => by omega) (re_if hwR.2 (re_if rfl (re_if rfl re_4 (re_if rfl (re_if rfl re_T re_4) re_T)) re_T) re_T) hRK.2.2
  have hN1 : LN SX1 SR1 := ⟨hM1, nu_step hN hwX.2.1 (fun c hc => (fun q => by omega)), tl_step hTL hX hwX.2.1 (fun q => by omega) (fun q => by omega) (fun p k hp => (fun q => by omega)) (ry_if hwR.2 (ry_if rfl (ry_if rfl ry_4 (ry_if rfl (ry_if rfl ry_T ry_4) ry_T)) ry_T) ry_T)⟩
  refine lv_pop hx hb (fk_get fk_cL_law_23 2 rfl) rfl ?_
  refine lv_goto (tgt := 1280) hx hb (fk_get fk_cL_law_23 3 rfl) (by decide) ?_
  refine W.widen (k := cells + 12) (n := slots + 768) (by show cells + 0 + 0 ≤ cells + 12; omega) (by show slots + 0 + 0 ≤ slots + 768; omega) ?_
  exact kk aX SX1 SR1 H locs hV hwX.1 hR1 hL1 ⟨⟨hN1, hC1⟩, hQ1⟩ rfl
set_option maxHeartbeats 1600000 in
theorem law_33 {p : Program} {l : Launch} {e : Env} {s : State} {m : MethodId} {below : List Frame} {meth : Method} {c : Code} {H : Heap} {locs : List Loc} {cells slots : Nat} {Q : State → Prop} {ls : Array Slot} {b L i : Nat} {xs : Nat → Int32} {G : GG} {aX aR : Nat → Nat} {SX SR : FS} (C0 : lw_At p s m meth c b L xs) (hK : va_K G.1 vwCl (TYS G) s) (hE : EN G (AL s) s s.heap) (hin1 : vp_in (nI i + 1) L) (hin2 : vp_in (nI i + 2) L) (hin3 : vp_in (nI i + 3) L) (hin4 : vp_in (nI i + 4) L) (hin5 : vp_in (nI i + 5) L) (hV : LV G s H locs aX aR SX SR) (hX : XI SX) (hR : RI SR) (hL : LK SX SR) (hM0 : LE SX SR)
    (hl : lv_has ls 4 [(3, .int (nI i)), (2, .ref (aR 0)), (1, .ref (aX 0)), (0, .ref b)]) (hc : cells + 12 ≤ 600000) (hs : slots + 768 ≤ 7302250)
    (kk : ∀ (aX1 : Nat → Nat) (SX1 SR1 : FS) (H1 : Heap) (locs1 : List Loc), LV G s H1 locs1 aX1 aR SX1 SR1 → XI SX1 → RI SR1 → LK SX1 SR1 → LE SX1 SR1 → aX1 0 = aX 0 → W p l e room_1 s m #[Value.ref b] below meth c H1 locs1 (cells + 12) (slots + 768) Q (F0 m 1280 ls [])) : W p l e room_1 s m #[Value.ref b] below meth c H locs cells slots Q (F0 m 1111 ls []) := by
  obtain ⟨hx, hb, hr, hml, hown, hts, hXs, hbl, hlocks, hgv⟩ := id C0
  have hT : ∀ w ∈ TBL, w.before #[Value.ref b] s = true := fun w h => hts w (tbl_in w h)
  have hbA : ¬ AL s b := Nat.not_le.mpr hbl
  obtain ⟨⟨⟨hM, hN, hTL⟩, hLC⟩, hQ⟩ := hM0
  obtain ⟨n, pz, zq, K, τ, C, hU⟩ := eq_cu hQ
  obtain ⟨hn6, hn, hcf, h99, hgg, hgc, hHq⟩ := id hU
  have hgcx : ∀ d, d < n → GC 9999 (gX SX (21 + 6 * 0 + d) (K d)) := fun d hd => by rw [hgg d hd]; exact hgc d hd
  have ho : fF SX (9 + 0) 6 = fF SR 0 2 := hL.1 6 (by omega) (by omega)
  have hofx : ∃ o : Nat, o ≤ 30 ∧ fF SX (9 + 0) 6 = nI o := hQ.1.2.1
  have hofr : ∃ o : Nat, o ≤ 30 ∧ fF SR 0 2 = nI o := by rw [← ho]; exact hofx
  have hHX := hHq.hox
  have h99r := mU_99 h99
  have hg01 := gc_7 hgc
  refine lv_aload_n hx hb (fk_get fk_cL_law_23 4 rfl) rfl (lv_at hl 2 rfl) ?_
  refine lv_aload_n hx hb (fk_get fk_cL_law_23 5 rfl) rfl (lv_at hl 3 rfl) ?_
  refine lv_iload_n hx hb (fk_get fk_cL_law_23 6 rfl) rfl (lv_at hl 0 rfl) ?_
  refine lv_iconst (v := 1) hx hb (fk_get fk_cL_law_23 7 rfl) (by decide) ?_
  refine lv_iadd hx hb (fk_get fk_cL_law_23 8 rfl) ?_
  refine va_sld hx hb hXs hbl hbA hV.1 hin1 (fk_get fk_cL_law_23 9 rfl) ?_
  refine lv_aload_n hx hb (fk_get fk_cL_law_23 10 rfl) rfl (lv_at hl 3 rfl) ?_
  refine lv_iload_n hx hb (fk_get fk_cL_law_23 11 rfl) rfl (lv_at hl 0 rfl) ?_
  refine lv_iconst (v := 2) hx hb (fk_get fk_cL_law_23 12 rfl) (by decide) ?_
  refine lv_iadd hx hb (fk_get fk_cL_law_23 13 rfl) ?_
  refine va_sld hx hb hXs hbl hbA hV.1 hin2 (fk_get fk_cL_law_23 14 rfl) ?_
  refine lv_aload_n hx hb (fk_get fk_cL_law_23 15 rfl) rfl (lv_at hl 3 rfl) ?_
  refine lv_iload_n hx hb (fk_get fk_cL_law_23 16 rfl) rfl (lv_at hl 0 rfl) ?_
  refine lv_iconst (v := 3) hx hb (fk_get fk_cL_law_23 17 rfl) (by decide) ?_
  refine lv_iadd hx hb (fk_get fk_cL_law_23 18 rfl) ?_
  refine va_sld hx hb hXs hbl hbA hV.1 hin3 (fk_get fk_cL_law_23 19 rfl) ?_
  refine lv_i2l (v := (xs (nI i + 3).toNatClampNeg).toInt64) hx hb (fk_get fk_cL_law_23 20 rfl) rfl ?_
  refine lv_bipush (v := 32) hx hb (fk_get fk_cL_law_23 21 rfl) (by decide) ?_
  refine lv_lshl (v := ((xs (nI i + 3).toNatClampNeg).toInt64) <<< ((32 : Int32).toInt64 &&& 63)) hx hb (dk_get dk_cL_law_0 1 rfl) rfl ?_
  refine lv_aload_n hx hb (fk_get fk_cL_law_23 22 rfl) rfl (lv_at hl 3 rfl) ?_
  refine lv_iload_n hx hb (fk_get fk_cL_law_23 23 rfl) rfl (lv_at hl 0 rfl) ?_
  refine lv_iconst (v := 4) hx hb (fk_get fk_cL_law_23 24 rfl) (by decide) ?_
  refine lv_iadd hx hb (fk_get fk_cL_law_23 25 rfl) ?_
  refine va_sld hx hb hXs hbl hbA hV.1 hin4 (fk_get fk_cL_law_23 26 rfl) ?_
  refine lv_i2l (v := (xs (nI i + 4).toNatClampNeg).toInt64) hx hb (fk_get fk_cL_law_23 27 rfl) rfl ?_
  refine lv_ldc2 hx hb hown (hT _ m7_180) (fk_get fk_cL_law_23 28 rfl) ?_
  refine lv_land hx hb (dk_get dk_cL_law_0 2 rfl) ?_
  refine lv_lor hx hb (dk_get dk_cL_law_0 3 rfl) ?_
  obtain ⟨hS, hPX, hDX, hPR, hDR, hdis⟩ := id hV
  refine lx_i hV (va_runV (As := [.int (xs (nI i + 1).toNatClampNeg), .int (xs (nI i + 2).toNatClampNeg), .long ((((xs (nI i + 3).toNatClampNeg).toInt64) <<< ((32 : Int32).toInt64 &&& 63)) ||| (((xs (nI i + 4).toNatClampNeg).toInt64) &&& 4294967295))]) (rest := []) ⟨hx, hb, hml, hown, hT⟩ (c_x11_itemE l G aX SX H.size n ((xs (nI i + 1).toNatClampNeg)) ((xs (nI i + 2).toNatClampNeg)) (((((xs (nI i + 3).toNatClampNeg).toInt64) <<< ((32 : Int32).toInt64 &&& 63)) ||| (((xs (nI i + 4).toNatClampNeg).toInt64) &&& 4294967295))) (by assumption) (by assumption) (by assumption)) (tV 3 hT m5_79 m5_80 m5_81 m1_1 m5_82 rfl rfl (by decide +kernel) ⟨Nat.le_of_ble_eq_true rfl, Nat.le_of_ble_eq_true rfl⟩) ⟨PcW_blind, va_recv hK hPX (ci := 13) (q0 := 0) rfl (ix_at (lt71 (by omega)) (cX_0 G aX SX)), PcW_of hPX hK hDX _⟩ rfl rfl hl.1 rfl (lv_room (Nat.le_of_ble_eq_true rfl)) (fk_get fk_cL_law_23 29 rfl) ⟨(by show cells + 0 ≤ 600000; omega), (by show slots + 0 ≤ 7302250; omega)⟩) (fun rX SX1 H locs hwX hV => ?_)
  try dsimp only at hwX
  have hXK : XK 0 SX SX1 := xk_fr hwX.2.1 (fun k h1 h2 q => by omega) (fun q => by omega) (fun k h1 h2 q => by omega)
  refine lv_pop hx hb (fk_get fk_cL_law_23 30 rfl) rfl ?_
  refine lv_aload_n hx hb (fk_get fk_cL_law_23 31 rfl) rfl (lv_at hl 1 rfl) ?_
  refine lv_aload_n hx hb (fk_get fk_cL_law_24 0 rfl) rfl (lv_at hl 3 rfl) ?_
  refine lv_iload_n hx hb (fk_get fk_cL_law_24 1 rfl) rfl (lv_at hl 0 rfl) ?_
  refine lv_iconst (v := 1) hx hb (fk_get fk_cL_law_24 2 rfl) (by decide) ?_
  refine lv_iadd hx hb (fk_get fk_cL_law_24 3 rfl) ?_
  refine va_sld hx hb hXs hbl hbA hV.1 hin1 (fk_get fk_cL_law_24 4 rfl) ?_
  refine lv_aload_n hx hb (fk_get fk_cL_law_24 5 rfl) rfl (lv_at hl 3 rfl) ?_
  refine lv_iload_n hx hb (fk_get fk_cL_law_24 6 rfl) rfl (lv_at hl 0 rfl) ?_
  refine lv_iconst (v := 2) hx hb (fk_get fk_cL_law_24 7 rfl) (by decide) ?_
  refine lv_iadd hx hb (fk_get fk_cL_law_24 8 rfl) ?_
  refine va_sld hx hb hXs hbl hbA hV.1 hin2 (fk_get fk_cL_law_24 9 rfl) ?_
  refine lv_aload_n hx hb (fk_get fk_cL_law_24 10 rfl) rfl (lv_at hl 3 rfl) ?_
  refine lv_iload_n hx hb (fk_get fk_cL_law_24 11 rfl) rfl (lv_at hl 0 rfl) ?_
  refine lv_iconst (v := 3) hx hb (fk_get fk_cL_law_24 12 rfl) (by decide) ?_
  refine lv_iadd hx hb (fk_get fk_cL_law_24 13 rfl) ?_
  refine va_sld hx hb hXs hbl hbA hV.1 hin3 (fk_get fk_cL_law_24 14 rfl) ?_
  refine lv_i2l (v := (xs (nI i + 3).toNatClampNeg).toInt64) hx hb (fk_get fk_cL_law_24 15 rfl) rfl ?_
  refine lv_bipush (v := 32) hx hb (fk_get fk_cL_law_24 16 rfl) (by decide) ?_
  refine lv_lshl (v := ((xs (nI i + 3).toNatClampNeg).toInt64) <<< ((32 : Int32).toInt64 &&& 63)) hx hb (dk_get dk_cL_law_0 4 rfl) rfl ?_
  refine lv_aload_n hx hb (fk_get fk_cL_law_24 17 rfl) rfl (lv_at hl 3 rfl) ?_
  refine lv_iload_n hx hb (fk_get fk_cL_law_24 18 rfl) rfl (lv_at hl 0 rfl) ?_
  refine lv_iconst (v := 4) hx hb (fk_get fk_cL_law_24 19 rfl) (by decide) ?_
  refine lv_iadd hx hb (fk_get fk_cL_law_24 20 rfl) ?_
  refine va_sld hx hb hXs hbl hbA hV.1 hin4 (fk_get fk_cL_law_24 21 rfl) ?_
  refine lv_i2l (v := (xs (nI i + 4).toNatClampNeg).toInt64) hx hb (fk_get fk_cL_law_24 22 rfl) rfl ?_
  refine lv_ldc2 hx hb hown (hT _ m7_180) (fk_get fk_cL_law_24 23 rfl) ?_
  refine lv_land hx hb (dk_get dk_cL_law_0 5 rfl) ?_
  refine lv_lor hx hb (dk_get dk_cL_law_0 6 rfl) ?_
  obtain ⟨hS, hPX, hDX, hPR, hDR, hdis⟩ := id hV
  obtain ⟨n', z', u', tx, tr, nc, r1, r2, rH, rV, r15, r5, r5b, r7, r7b, rc, r17, r17b, rT, r40, r40b, r20, r20b⟩ := ri_all hR
  have en_ : n = n' := (nI_eq (by omega) (by omega)).mp ((n_of_lk hn hL).symm.trans r1)
  subst en_
  refine lr_i hV (va_runV (As := [.int (xs (nI i + 1).toNatClampNeg), .int (xs (nI i + 2).toNatClampNeg), .long ((((xs (nI i + 3).toNatClampNeg).toInt64) <<< ((32 : Int32).toInt64 &&& 63)) ||| (((xs (nI i + 4).toNatClampNeg).toInt64) &&& 4294967295))]) (rest := []) ⟨hx, hb, hml, hown, hT⟩ (c_item l G aR SR H.size ((xs (nI i + 1).toNatClampNeg)) ((xs (nI i + 2).toNatClampNeg)) (((((xs (nI i + 3).toNatClampNeg).toInt64) <<< ((32 : Int32).toInt64 &&& 63)) ||| (((xs (nI i + 4).toNatClampNeg).toInt64) &&& 4294967295))) (by assumption)) (tV 3 hT m7_161 m7_162 m7_163 m1_17 m7_164 rfl rfl (by decide +kernel) ⟨Nat.le_of_ble_eq_true rfl, Nat.le_of_ble_eq_true rfl⟩) ⟨PcW_blind, va_recv hK hPR (ci := 14) (q0 := 0) rfl (ix_at (by decide) (cR_0 G aR SR)), PcW_of hPR hK hDR _⟩ rfl rfl hl.1 rfl (lv_room (Nat.le_of_ble_eq_true rfl)) (fk_get fk_cL_law_24 24 rfl) ⟨(by show cells + 0 + 0 ≤ 600000; omega), (by show slots + 0 + 0 ≤ 7302250; omega)⟩) (fun rR SR1 H locs hwR hV => ?_)
  try dsimp only at hwR
  have h1 := n_of_lk hn hL
  obtain ⟨hR1, hRK⟩ := ri_item hR hwR.2
  have hL1 := lk_step hL hXK hRK
  have hz := rz_item hwR.2
  obtain ⟨hrr, hT1⟩ := lk_item hM.1 hwX.2.2 hwX.2.1 (fun q => by omega) (fun q => by omega) hwR.1 hz
  have hM1 := lm_L hM hwX.2.1 (fun q => by omega) (fun q => by omega) (fun q => by omega) (fun q => by omega) (fun q => by omega) (fun c hc => ⟨(fun q => by omega), (fun q => by omega), (fun q => by omega)⟩) hz hRK.2.2 hT1 (it_item hM.1 hM.2.2.2 hM.2.2.1 hwX.2.2 hwR.2)
  have hC1 := lc_step hLC hwX.2.1 (fun q => by omega) (fun q => by omega) (fun q => by omega) (rt_if hwR.2 (rt_if rfl rt_T (rt_if rfl rt_l rt_T)) rt_T)
  have hQ1 := eq_step hQ hwX.2.1 ⟨fun c k a b d q => by omega, fun c a q => by omega, fun q => by omega, fun q => by omega, fun q => by omega, fun q => by omega⟩ ⟨fun c k a b d q => by omega, fun c a q => by omega, fun q => by omega, fun q => by omega, fun q => by omega, fun q => by omega⟩ (fun q => by omega) (fun j k a q => by omega) (re_if hwR.2 (re_if rfl re_T (re_if rfl re_l re_T)) re_T) hRK.2.2
  have hN1 : LN SX1 SR1 := ⟨hM1, nu_step hN hwX.2.1 (fun c hc => (fun q => by omega)), tl_step hTL hX hwX.2.1 (fun q => by omega) (fun q => by omega) (fun p k hp => (fun q => by omega)) (ry_if hwR.2 (ry_if rfl ry_T (ry_if rfl ry_l ry_T)) ry_T)⟩
  refine lv_pop hx hb (fk_get fk_cL_law_24 25 rfl) rfl ?_
  refine lv_goto (tgt := 1280) hx hb (fk_get fk_cL_law_24 26 rfl) (by decide) ?_
  refine W.widen (k := cells + 12) (n := slots + 768) (by show cells + 0 + 0 ≤ cells + 12; omega) (by show slots + 0 + 0 ≤ slots + 768; omega) ?_
  exact kk aX SX1 SR1 H locs hV hwX.1 hR1 hL1 ⟨⟨hN1, hC1⟩, hQ1⟩ rfl
set_option maxHeartbeats 1600000 in
theorem law_34 {p : Program} {l : Launch} {e : Env} {s : State} {m : MethodId} {below : List Frame} {meth : Method} {c : Code} {H : Heap} {locs : List Loc} {cells slots : Nat} {Q : State → Prop} {ls : Array Slot} {b L i : Nat} {xs : Nat → Int32} {G : GG} {aX aR : Nat → Nat} {SX SR : FS} (C0 : lw_At p s m meth c b L xs) (hK : va_K G.1 vwCl (TYS G) s) (hE : EN G (AL s) s s.heap) (hin1 : vp_in (nI i + 1) L) (hin2 : vp_in (nI i + 2) L) (hin3 : vp_in (nI i + 3) L) (hin4 : vp_in (nI i + 4) L) (hin5 : vp_in (nI i + 5) L) (hV : LV G s H locs aX aR SX SR) (hX : XI SX) (hR : RI SR) (hL : LK SX SR) (hM0 : LE SX SR)
    (hl : lv_has ls 4 [(3, .int (nI i)), (2, .ref (aR 0)), (1, .ref (aX 0)), (0, .ref b)]) (hc : cells + 12 ≤ 600000) (hs : slots + 768 ≤ 7302250)
    (kk : ∀ (aX1 : Nat → Nat) (SX1 SR1 : FS) (H1 : Heap) (locs1 : List Loc), LV G s H1 locs1 aX1 aR SX1 SR1 → XI SX1 → RI SR1 → LK SX1 SR1 → LE SX1 SR1 → aX1 0 = aX 0 → W p l e room_1 s m #[Value.ref b] below meth c H1 locs1 (cells + 12) (slots + 768) Q (F0 m 1280 ls [])) : W p l e room_1 s m #[Value.ref b] below meth c H locs cells slots Q (F0 m 1184 ls []) := by
  obtain ⟨hx, hb, hr, hml, hown, hts, hXs, hbl, hlocks, hgv⟩ := id C0
  have hT : ∀ w ∈ TBL, w.before #[Value.ref b] s = true := fun w h => hts w (tbl_in w h)
  have hbA : ¬ AL s b := Nat.not_le.mpr hbl
  obtain ⟨⟨⟨hM, hN, hTL⟩, hLC⟩, hQ⟩ := hM0
  obtain ⟨n, pz, zq, K, τ, C, hU⟩ := eq_cu hQ
  obtain ⟨hn6, hn, hcf, h99, hgg, hgc, hHq⟩ := id hU
  have hgcx : ∀ d, d < n → GC 9999 (gX SX (21 + 6 * 0 + d) (K d)) := fun d hd => by rw [hgg d hd]; exact hgc d hd
  have ho : fF SX (9 + 0) 6 = fF SR 0 2 := hL.1 6 (by omega) (by omega)
  have hofx : ∃ o : Nat, o ≤ 30 ∧ fF SX (9 + 0) 6 = nI o := hQ.1.2.1
  have hofr : ∃ o : Nat, o ≤ 30 ∧ fF SR 0 2 = nI o := by rw [← ho]; exact hofx
  have hHX := hHq.hox
  have h99r := mU_99 h99
  have hg01 := gc_7 hgc
  refine lv_aload_n hx hb (fk_get fk_cL_law_24 27 rfl) rfl (lv_at hl 2 rfl) ?_
  refine lv_aload_n hx hb (fk_get fk_cL_law_24 28 rfl) rfl (lv_at hl 3 rfl) ?_
  refine lv_iload_n hx hb (fk_get fk_cL_law_24 29 rfl) rfl (lv_at hl 0 rfl) ?_
  refine lv_iconst (v := 1) hx hb (fk_get fk_cL_law_24 30 rfl) (by decide) ?_
  refine lv_iadd hx hb (fk_get fk_cL_law_24 31 rfl) ?_
  refine va_sld hx hb hXs hbl hbA hV.1 hin1 (fk_get fk_cL_law_25 0 rfl) ?_
  refine lv_aload_n hx hb (fk_get fk_cL_law_25 1 rfl) rfl (lv_at hl 3 rfl) ?_
  refine lv_iload_n hx hb (fk_get fk_cL_law_25 2 rfl) rfl (lv_at hl 0 rfl) ?_
  refine lv_iconst (v := 2) hx hb (fk_get fk_cL_law_25 3 rfl) (by decide) ?_
  refine lv_iadd hx hb (fk_get fk_cL_law_25 4 rfl) ?_
  refine va_sld hx hb hXs hbl hbA hV.1 hin2 (fk_get fk_cL_law_25 5 rfl) ?_
  obtain ⟨hS, hPX, hDX, hPR, hDR, hdis⟩ := id hV
  refine vp_callSl (W.runV (As := [.int (xs (nI i + 1).toNatClampNeg), .int (xs (nI i + 2).toNatClampNeg)]) (rest := []) ⟨hx, hb, hml, hown, hT⟩ (c_x11_readE l G aX SX H.size n ((xs (nI i + 1).toNatClampNeg)) ((xs (nI i + 2).toNatClampNeg)) (by assumption) (by assumption) (by assumption)) (tV 2 hT m5_86 m5_87 m5_88 m1_1 m5_89 rfl rfl (by decide +kernel) ⟨Nat.le_of_ble_eq_true rfl, Nat.le_of_ble_eq_true rfl⟩) ⟨PcW_blind, va_recv hK hPX (ci := 13) (q0 := 0) rfl (ix_at (lt71 (by omega)) (cX_0 G aX SX)), PcW_of hPX hK hDX _⟩ rfl rfl hl.1 rfl (lv_room (Nat.le_of_ble_eq_true rfl)) (fk_get fk_cL_law_25 6 rfl) ⟨(by show cells + 0 ≤ 600000; omega), (by show slots + 0 ≤ 7302250; omega)⟩) (fun rX hwX => ?_)
  have hXK : XK 0 SX SX := xk_rf
  refine lv_pop2_2 hx hb (fk_get fk_cL_law_25 7 rfl) rfl ?_
  refine lv_aload_n hx hb (fk_get fk_cL_law_25 8 rfl) rfl (lv_at hl 1 rfl) ?_
  refine lv_aload_n hx hb (fk_get fk_cL_law_25 9 rfl) rfl (lv_at hl 3 rfl) ?_
  refine lv_iload_n hx hb (fk_get fk_cL_law_25 10 rfl) rfl (lv_at hl 0 rfl) ?_
  refine lv_iconst (v := 1) hx hb (fk_get fk_cL_law_25 11 rfl) (by decide) ?_
  refine lv_iadd hx hb (fk_get fk_cL_law_25 12 rfl) ?_
  refine va_sld hx hb hXs hbl hbA hV.1 hin1 (fk_get fk_cL_law_25 13 rfl) ?_
  refine lv_aload_n hx hb (fk_get fk_cL_law_25 14 rfl) rfl (lv_at hl 3 rfl) ?_
  refine lv_iload_n hx hb (fk_get fk_cL_law_25 15 rfl) rfl (lv_at hl 0 rfl) ?_
  refine lv_iconst (v := 2) hx hb (fk_get fk_cL_law_25 16 rfl) (by decide) ?_
  refine lv_iadd hx hb (fk_get fk_cL_law_25 17 rfl) ?_
  refine va_sld hx hb hXs hbl hbA hV.1 hin2 (fk_get fk_cL_law_25 18 rfl) ?_
  obtain ⟨hS, hPX, hDX, hPR, hDR, hdis⟩ := id hV
  obtain ⟨n', z', u', tx, tr, nc, r1, r2, rH, rV, r15, r5, r5b, r7, r7b, rc, r17, r17b, rT, r40, r40b, r20, r20b⟩ := ri_all hR
  have en_ : n = n' := (nI_eq (by omega) (by omega)).mp ((n_of_lk hn hL).symm.trans r1)
  subst en_
  refine lr_l hV (va_runV (As := [.int (xs (nI i + 1).toNatClampNeg), .int (xs (nI i + 2).toNatClampNeg)]) (rest := []) ⟨hx, hb, hml, hown, hT⟩ (c_read l G aR SR H.size ((xs (nI i + 1).toNatClampNeg)) ((xs (nI i + 2).toNatClampNeg)) (by assumption)) (tV 2 hT m7_168 m7_169 m7_170 m1_17 m7_171 rfl rfl (by decide +kernel) ⟨Nat.le_of_ble_eq_true rfl, Nat.le_of_ble_eq_true rfl⟩) ⟨PcW_blind, va_recv hK hPR (ci := 14) (q0 := 0) rfl (ix_at (by decide) (cR_0 G aR SR)), PcW_of hPR hK hDR _⟩ rfl rfl hl.1 rfl (lv_room (Nat.le_of_ble_eq_true rfl)) (fk_get fk_cL_law_25 19 rfl) ⟨(by show cells + 0 ≤ 600000; omega), (by show slots + 0 ≤ 7302250; omega)⟩) (fun rR SR1 H locs hwR hV => ?_)
  try dsimp only at hwR
  have h1 := n_of_lk hn hL
  obtain ⟨hR1, hRK⟩ := ri_E hR hwR.2
  have hL1 := lk_step hL hXK hRK
  have hrr := read_r hM.1 hM.2.2.2 hM.2.2.1 hwX hwR.1
  have hM1 := lm_step hM (Fr.rf : Fr (fun _ _ => False) SX SX) (fun q => q) (fun q => q) (fun t ht => (fun q => q)) (fun q => q) (fun q => q) (fun q => q) (fun c hc => ⟨(fun q => q), (fun q => q), (fun q => q)⟩) (rz_E hwR.2) hRK.2.2
  have hC1 := lc_step hLC (Fr.rf : Fr (fun _ _ => False) SX SX) (fun q => q) (fun q => q) (fun q => q) (rt_E hwR.2)
  have hQ1 := eq_step hQ (Fr.rf : Fr (fun _ _ => False) SX SX) np_F np_F (fun q => q) (fun _ _ _ q => q) (re_E hwR.2) hRK.2.2
  have hN1 : LN SX SR1 := ⟨hM1, nu_step hN (Fr.rf : Fr (fun _ _ => False) SX SX) (fun c hc => (fun q => q)), tl_step hTL hX (Fr.rf : Fr (fun _ _ => False) SX SX) (fun q => q) (fun q => q) (fun p k hp => (fun q => q)) (ry_E hwR.2)⟩
  refine lv_pop2_2 hx hb (fk_get fk_cL_law_25 20 rfl) rfl ?_
  refine lv_goto (tgt := 1280) hx hb (fk_get fk_cL_law_25 21 rfl) (by decide) ?_
  refine W.widen (k := cells + 12) (n := slots + 768) (by show cells + 0 ≤ cells + 12; omega) (by show slots + 0 ≤ slots + 768; omega) ?_
  exact kk aX SX SR1 H locs hV hX hR1 hL1 ⟨⟨hN1, hC1⟩, hQ1⟩ rfl
set_option maxHeartbeats 1600000 in
theorem law_35 {p : Program} {l : Launch} {e : Env} {s : State} {m : MethodId} {below : List Frame} {meth : Method} {c : Code} {H : Heap} {locs : List Loc} {cells slots : Nat} {Q : State → Prop} {ls : Array Slot} {b L i : Nat} {xs : Nat → Int32} {G : GG} {aX aR : Nat → Nat} {SX SR : FS} (C0 : lw_At p s m meth c b L xs) (hK : va_K G.1 vwCl (TYS G) s) (hE : EN G (AL s) s s.heap) (hin1 : vp_in (nI i + 1) L) (hin2 : vp_in (nI i + 2) L) (hin3 : vp_in (nI i + 3) L) (hin4 : vp_in (nI i + 4) L) (hin5 : vp_in (nI i + 5) L) (hV : LV G s H locs aX aR SX SR) (hX : XI SX) (hR : RI SR) (hL : LK SX SR) (hM0 : LE SX SR)
    (hl : lv_has ls 4 [(3, .int (nI i)), (2, .ref (aR 0)), (1, .ref (aX 0)), (0, .ref b)]) (hc : cells + 12 ≤ 600000) (hs : slots + 768 ≤ 7302250)
    (kk : ∀ (aX1 : Nat → Nat) (SX1 SR1 : FS) (H1 : Heap) (locs1 : List Loc), LV G s H1 locs1 aX1 aR SX1 SR1 → XI SX1 → RI SR1 → LK SX1 SR1 → LE SX1 SR1 → aX1 0 = aX 0 → W p l e room_1 s m #[Value.ref b] below meth c H1 locs1 (cells + 12) (slots + 768) Q (F0 m 1280 ls [])) : W p l e room_1 s m #[Value.ref b] below meth c H locs cells slots Q (F0 m 1217 ls []) := by
  obtain ⟨hx, hb, hr, hml, hown, hts, hXs, hbl, hlocks, hgv⟩ := id C0
  have hT : ∀ w ∈ TBL, w.before #[Value.ref b] s = true := fun w h => hts w (tbl_in w h)
  have hbA : ¬ AL s b := Nat.not_le.mpr hbl
  obtain ⟨⟨⟨hM, hN, hTL⟩, hLC⟩, hQ⟩ := hM0
  obtain ⟨n, pz, zq, K, τ, C, hU⟩ := eq_cu hQ
  obtain ⟨hn6, hn, hcf, h99, hgg, hgc, hHq⟩ := id hU
  have hgcx : ∀ d, d < n → GC 9999 (gX SX (21 + 6 * 0 + d) (K d)) := fun d hd => by rw [hgg d hd]; exact hgc d hd
  have ho : fF SX (9 + 0) 6 = fF SR 0 2 := hL.1 6 (by omega) (by omega)
  have hofx : ∃ o : Nat, o ≤ 30 ∧ fF SX (9 + 0) 6 = nI o := hQ.1.2.1
  have hofr : ∃ o : Nat, o ≤ 30 ∧ fF SR 0 2 = nI o := by rw [← ho]; exact hofx
  have hHX := hHq.hox
  have h99r := mU_99 h99
  have hg01 := gc_7 hgc
  refine lv_aload_n hx hb (fk_get fk_cL_law_25 22 rfl) rfl (lv_at hl 2 rfl) ?_
  refine lv_aload_n hx hb (fk_get fk_cL_law_25 23 rfl) rfl (lv_at hl 3 rfl) ?_
  refine lv_iload_n hx hb (fk_get fk_cL_law_25 24 rfl) rfl (lv_at hl 0 rfl) ?_
  refine lv_iconst (v := 1) hx hb (fk_get fk_cL_law_25 25 rfl) (by decide) ?_
  refine lv_iadd hx hb (fk_get fk_cL_law_25 26 rfl) ?_
  refine va_sld hx hb hXs hbl hbA hV.1 hin1 (fk_get fk_cL_law_25 27 rfl) ?_
  refine lv_aload_n hx hb (fk_get fk_cL_law_25 28 rfl) rfl (lv_at hl 3 rfl) ?_
  refine lv_iload_n hx hb (fk_get fk_cL_law_25 29 rfl) rfl (lv_at hl 0 rfl) ?_
  refine lv_iconst (v := 2) hx hb (fk_get fk_cL_law_25 30 rfl) (by decide) ?_
  refine lv_iadd hx hb (fk_get fk_cL_law_25 31 rfl) ?_
  refine va_sld hx hb hXs hbl hbA hV.1 hin2 (fk_get fk_cL_law_26 0 rfl) ?_
  refine lv_aload_n hx hb (fk_get fk_cL_law_26 1 rfl) rfl (lv_at hl 3 rfl) ?_
  refine lv_iload_n hx hb (fk_get fk_cL_law_26 2 rfl) rfl (lv_at hl 0 rfl) ?_
  refine lv_iconst (v := 3) hx hb (fk_get fk_cL_law_26 3 rfl) (by decide) ?_
  refine lv_iadd hx hb (fk_get fk_cL_law_26 4 rfl) ?_
  refine va_sld hx hb hXs hbl hbA hV.1 hin3 (fk_get fk_cL_law_26 5 rfl) ?_
  refine lv_aload_n hx hb (fk_get fk_cL_law_26 6 rfl) rfl (lv_at hl 3 rfl) ?_
  refine lv_iload_n hx hb (fk_get fk_cL_law_26 7 rfl) rfl (lv_at hl 0 rfl) ?_
  refine lv_iconst (v := 4) hx hb (fk_get fk_cL_law_26 8 rfl) (by decide) ?_
  refine lv_iadd hx hb (fk_get fk_cL_law_26 9 rfl) ?_
  refine va_sld hx hb hXs hbl hbA hV.1 hin4 (fk_get fk_cL_law_26 10 rfl) ?_
  refine lv_aload_n hx hb (fk_get fk_cL_law_26 11 rfl) rfl (lv_at hl 3 rfl) ?_
  refine lv_iload_n hx hb (fk_get fk_cL_law_26 12 rfl) rfl (lv_at hl 0 rfl) ?_
  refine lv_iconst (v := 5) hx hb (fk_get fk_cL_law_26 13 rfl) (by decide) ?_
  refine lv_iadd hx hb (fk_get fk_cL_law_26 14 rfl) ?_
  refine va_sld hx hb hXs hbl hbA hV.1 hin5 (fk_get fk_cL_law_26 15 rfl) ?_
  obtain ⟨hS, hPX, hDX, hPR, hDR, hdis⟩ := id hV
  refine lx_i hV (va_runV (As := [.int (xs (nI i + 1).toNatClampNeg), .int (xs (nI i + 2).toNatClampNeg), .int (xs (nI i + 3).toNatClampNeg), .int (xs (nI i + 4).toNatClampNeg), .int (xs (nI i + 5).toNatClampNeg)]) (rest := []) ⟨hx, hb, hml, hown, hT⟩ (c_x11_shiftE l G aX SX H.size n ((xs (nI i + 1).toNatClampNeg)) ((xs (nI i + 2).toNatClampNeg)) ((xs (nI i + 3).toNatClampNeg)) ((xs (nI i + 4).toNatClampNeg)) ((xs (nI i + 5).toNatClampNeg)) (by assumption) (by assumption) (by assumption)) (tV 5 hT m5_90 m5_91 m5_92 m1_1 m5_93 rfl rfl (by decide +kernel) ⟨Nat.le_of_ble_eq_true rfl, Nat.le_of_ble_eq_true rfl⟩) ⟨PcW_blind, va_recv hK hPX (ci := 13) (q0 := 0) rfl (ix_at (lt71 (by omega)) (cX_0 G aX SX)), PcW_of hPX hK hDX _⟩ rfl rfl hl.1 rfl (lv_room (Nat.le_of_ble_eq_true rfl)) (fk_get fk_cL_law_26 16 rfl) ⟨(by show cells + 0 ≤ 600000; omega), (by show slots + 0 ≤ 7302250; omega)⟩) (fun rX SX1 H locs hwX hV => ?_)
  try dsimp only at hwX
  have hXK : XK 0 SX SX1 := xk_fr hwX.2.1 (fun k h1 h2 q => by omega) (fun q => by omega) (fun k h1 h2 q => by omega)
  refine lv_pop hx hb (fk_get fk_cL_law_26 17 rfl) rfl ?_
  refine lv_aload_n hx hb (fk_get fk_cL_law_26 18 rfl) rfl (lv_at hl 1 rfl) ?_
  refine lv_aload_n hx hb (fk_get fk_cL_law_26 19 rfl) rfl (lv_at hl 3 rfl) ?_
  refine lv_iload_n hx hb (fk_get fk_cL_law_26 20 rfl) rfl (lv_at hl 0 rfl) ?_
  refine lv_iconst (v := 1) hx hb (fk_get fk_cL_law_26 21 rfl) (by decide) ?_
  refine lv_iadd hx hb (fk_get fk_cL_law_26 22 rfl) ?_
  refine va_sld hx hb hXs hbl hbA hV.1 hin1 (fk_get fk_cL_law_26 23 rfl) ?_
  refine lv_aload_n hx hb (fk_get fk_cL_law_26 24 rfl) rfl (lv_at hl 3 rfl) ?_
  refine lv_iload_n hx hb (fk_get fk_cL_law_26 25 rfl) rfl (lv_at hl 0 rfl) ?_
  refine lv_iconst (v := 2) hx hb (fk_get fk_cL_law_26 26 rfl) (by decide) ?_
  refine lv_iadd hx hb (fk_get fk_cL_law_26 27 rfl) ?_
  refine va_sld hx hb hXs hbl hbA hV.1 hin2 (fk_get fk_cL_law_26 28 rfl) ?_
  refine lv_aload_n hx hb (fk_get fk_cL_law_26 29 rfl) rfl (lv_at hl 3 rfl) ?_
  refine lv_iload_n hx hb (fk_get fk_cL_law_26 30 rfl) rfl (lv_at hl 0 rfl) ?_
  refine lv_iconst (v := 3) hx hb (fk_get fk_cL_law_26 31 rfl) (by decide) ?_
  refine lv_iadd hx hb (fk_get fk_cL_law_27 0 rfl) ?_
  refine va_sld hx hb hXs hbl hbA hV.1 hin3 (fk_get fk_cL_law_27 1 rfl) ?_
  refine lv_aload_n hx hb (fk_get fk_cL_law_27 2 rfl) rfl (lv_at hl 3 rfl) ?_
  refine lv_iload_n hx hb (fk_get fk_cL_law_27 3 rfl) rfl (lv_at hl 0 rfl) ?_
  refine lv_iconst (v := 4) hx hb (fk_get fk_cL_law_27 4 rfl) (by decide) ?_
  refine lv_iadd hx hb (fk_get fk_cL_law_27 5 rfl) ?_
  refine va_sld hx hb hXs hbl hbA hV.1 hin4 (fk_get fk_cL_law_27 6 rfl) ?_
  refine lv_aload_n hx hb (fk_get fk_cL_law_27 7 rfl) rfl (lv_at hl 3 rfl) ?_
  refine lv_iload_n hx hb (fk_get fk_cL_law_27 8 rfl) rfl (lv_at hl 0 rfl) ?_
  refine lv_iconst (v := 5) hx hb (fk_get fk_cL_law_27 9 rfl) (by decide) ?_
  refine lv_iadd hx hb (fk_get fk_cL_law_27 10 rfl) ?_
  refine va_sld hx hb hXs hbl hbA hV.1 hin5 (fk_get fk_cL_law_27 11 rfl) ?_
  obtain ⟨hS, hPX, hDX, hPR, hDR, hdis⟩ := id hV
  obtain ⟨n', z', u', tx, tr, nc, r1, r2, rH, rV, r15, r5, r5b, r7, r7b, rc, r17, r17b, rT, r40, r40b, r20, r20b⟩ := ri_all hR
  have en_ : n = n' := (nI_eq (by omega) (by omega)).mp ((n_of_lk hn hL).symm.trans r1)
  subst en_
  refine lr_i hV (va_runV (As := [.int (xs (nI i + 1).toNatClampNeg), .int (xs (nI i + 2).toNatClampNeg), .int (xs (nI i + 3).toNatClampNeg), .int (xs (nI i + 4).toNatClampNeg), .int (xs (nI i + 5).toNatClampNeg)]) (rest := []) ⟨hx, hb, hml, hown, hT⟩ (c_shift l G aR SR H.size ((xs (nI i + 1).toNatClampNeg)) ((xs (nI i + 2).toNatClampNeg)) ((xs (nI i + 3).toNatClampNeg)) ((xs (nI i + 4).toNatClampNeg)) ((xs (nI i + 5).toNatClampNeg)) (by assumption)) (tV 5 hT m7_172 m7_173 m7_174 m1_17 m7_175 rfl rfl (by decide +kernel) ⟨Nat.le_of_ble_eq_true rfl, Nat.le_of_ble_eq_true rfl⟩) ⟨PcW_blind, va_recv hK hPR (ci := 14) (q0 := 0) rfl (ix_at (by decide) (cR_0 G aR SR)), PcW_of hPR hK hDR _⟩ rfl rfl hl.1 rfl (lv_room (Nat.le_of_ble_eq_true rfl)) (fk_get fk_cL_law_27 12 rfl) ⟨(by show cells + 0 + 0 ≤ 600000; omega), (by show slots + 0 + 0 ≤ 7302250; omega)⟩) (fun rR SR1 H locs hwR hV => ?_)
  try dsimp only at hwR
  have h1 := n_of_lk hn hL
  obtain ⟨hR1, hRK⟩ := ri_shift hR hwR.2
  have hL1 := lk_step hL hXK hRK
  have hz := rz_shift hwR.2
  obtain ⟨hrr, hT1⟩ := lk_shift hX hM.1 hwX.2.2 hwX.2.1 (fun q => by omega) (fun q => by omega) hwR.1 hz
  have hM1 := lm_L hM hwX.2.1 (fun q => by omega) (fun q => by omega) (fun q => by omega) (fun q => by omega) (fun q => by omega) (fun c hc => ⟨(fun q => by omega), (fun q => by omega), (fun q => by omega)⟩) hz hRK.2.2 hT1 (it_shift hX hM.1 hM.2.2.1 hwX.2.2 hrr hwR.1 hwR.2)
  have hC1 := lc_step hLC hwX.2.1 (fun q => by omega) (fun q => by omega) (fun q => by omega) (rt_shift hwR.2)
  have hQ1 := eq_step hQ hwX.2.1 ⟨fun c k a b d q => by omega, fun c a q => by omega, fun q => by omega, fun q => by omega, fun q => by omega, fun q => by omega⟩ ⟨fun c k a b d q => by omega, fun c a q => by omega, fun q => by omega, fun q => by omega, fun q => by omega, fun q => by omega⟩ (fun q => by omega) (fun j k a q => by omega) (re_shift hwR.2) hRK.2.2
  have hN1 : LN SX1 SR1 := ⟨hM1, nu_step hN hwX.2.1 (fun c hc => (fun q => by omega)), tl_step hTL hX hwX.2.1 (fun q => by omega) (fun q => by omega) (fun p k hp => (fun q => by omega)) (ry_shift hwR.2)⟩
  refine lv_pop hx hb (fk_get fk_cL_law_27 13 rfl) rfl ?_
  refine lv_goto (tgt := 1280) hx hb (fk_get fk_cL_law_27 14 rfl) (by decide) ?_
  refine W.widen (k := cells + 12) (n := slots + 768) (by show cells + 0 + 0 ≤ cells + 12; omega) (by show slots + 0 + 0 ≤ slots + 768; omega) ?_
  exact kk aX SX1 SR1 H locs hV hwX.1 hR1 hL1 ⟨⟨hN1, hC1⟩, hQ1⟩ rfl
