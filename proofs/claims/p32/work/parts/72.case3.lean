set_option maxHeartbeats 1600000 in
theorem law_28 {p : Program} {l : Launch} {e : Env} {s : State} {m : MethodId} {below : List Frame} {meth : Method} {c : Code} {H : Heap} {locs : List Loc} {cells slots : Nat} {Q : State → Prop} {ls : Array Slot} {b L i : Nat} {xs : Nat → Int32} {G : GG} {aX aR : Nat → Nat} {SX SR : FS} (C0 : lw_At p s m meth c b L xs) (hK : va_K G.1 vwCl (TYS G) s) (hE : EN G (AL s) s s.heap) (hin1 : vp_in (nI i + 1) L) (hin2 : vp_in (nI i + 2) L) (hin3 : vp_in (nI i + 3) L) (hin4 : vp_in (nI i + 4) L) (hin5 : vp_in (nI i + 5) L) (hV : LV G s H locs aX aR SX SR) (hX : XI SX) (hR : RI SR) (hL : LK SX SR) (hM0 : LN SX SR)
    (hl : lv_has ls 4 [(3, .int (nI i)), (2, .ref (aR 0)), (1, .ref (aX 0)), (0, .ref b)]) (hc : cells + 12 ≤ 600000) (hs : slots + 768 ≤ 7302250)
    (kk : ∀ (aX1 : Nat → Nat) (SX1 SR1 : FS) (H1 : Heap) (locs1 : List Loc), LV G s H1 locs1 aX1 aR SX1 SR1 → XI SX1 → RI SR1 → LK SX1 SR1 → LN SX1 SR1 → aX1 0 = aX 0 → W p l e room_1 s m #[Value.ref b] below meth c H1 locs1 (cells + 12) (slots + 768) Q (F0 m 1280 ls [])) : W p l e room_1 s m #[Value.ref b] below meth c H locs cells slots Q (F0 m 946 ls []) := by
  obtain ⟨hx, hb, hr, hml, hown, hts, hXs, hbl, hlocks, hgv⟩ := id C0
  have hT : ∀ w ∈ TBL, w.before #[Value.ref b] s = true := fun w h => hts w (tbl_in w h)
  have hbA : ¬ AL s b := Nat.not_le.mpr hbl
  obtain ⟨hM, hN, hTL⟩ := hM0
  obtain ⟨n, hn, hn6⟩ := hX.1 0 (by decide)
  refine lv_aload_n hx hb dL_law_946 rfl (lv_at hl 2 rfl) ?_
  refine lv_aload_n hx hb dL_law_947 rfl (lv_at hl 3 rfl) ?_
  refine lv_iload_n hx hb dL_law_948 rfl (lv_at hl 0 rfl) ?_
  refine lv_iconst (v := 1) hx hb dL_law_949 (by decide) ?_
  refine lv_iadd hx hb dL_law_950 ?_
  refine va_sld hx hb hXs hbl hbA hV.1 hin1 dL_law_951 ?_
  refine lv_aload_n hx hb dL_law_952 rfl (lv_at hl 3 rfl) ?_
  refine lv_iload_n hx hb dL_law_953 rfl (lv_at hl 0 rfl) ?_
  refine lv_iconst (v := 2) hx hb dL_law_954 (by decide) ?_
  refine lv_iadd hx hb dL_law_955 ?_
  refine va_sld hx hb hXs hbl hbA hV.1 hin2 dL_law_956 ?_
  refine lv_aload_n hx hb dL_law_957 rfl (lv_at hl 3 rfl) ?_
  refine lv_iload_n hx hb dL_law_958 rfl (lv_at hl 0 rfl) ?_
  refine lv_iconst (v := 3) hx hb dL_law_959 (by decide) ?_
  refine lv_iadd hx hb dL_law_960 ?_
  refine va_sld hx hb hXs hbl hbA hV.1 hin3 dL_law_961 ?_
  obtain ⟨hS, hPX, hDX, hPR, hDR, hdis⟩ := id hV
  have hFc := va_self hDX hS (fun q h => h)
  refine lx_g hV (va_runV (As := [.int (xs (nI i + 1).toNatClampNeg), .int (xs (nI i + 2).toNatClampNeg), .int (xs (nI i + 3).toNatClampNeg)]) (rest := []) ⟨hx, hb, hml, hown, hT⟩ (c_x11_actE l G aX SX H.size n ((xs (nI i + 1).toNatClampNeg)) ((xs (nI i + 2).toNatClampNeg)) ((xs (nI i + 3).toNatClampNeg)) (by assumption) (by assumption) (by assumption)) (tV 3 hT m4_113 m4_114 m4_115 m1_1 m4_116 rfl rfl (by decide +kernel) ⟨Nat.le_of_ble_eq_true rfl, Nat.le_of_ble_eq_true rfl⟩) ⟨PcE_blind, va_recv hK hPX (ci := 13) (q0 := 0) rfl (ix_at (lt71 (by omega)) (cX_0 G aX SX)), PcE_of hPX hK hDX hE hS (fun q h => hFc q h) _⟩ rfl rfl hl.1 rfl (lv_room (Nat.le_of_ble_eq_true rfl)) dL_law_962 ⟨(by show cells + 12 ≤ 600000; omega), (by show slots + 768 ≤ 7302250; omega)⟩) (fun rX SX1 aX1 H locs hwX hV => ?_)
  try dsimp only at hwX
  have hXK : XK 0 SX SX1 := xk_fr hwX.2.1 (fun k h1 h2 q => by omega) (fun q => by omega) (fun k h1 h2 q => by omega)
  refine lv_pop hx hb dL_law_965 rfl ?_
  refine lv_aload_n hx hb dL_law_966 rfl (lv_at hl 1 rfl) ?_
  refine lv_aload_n hx hb dL_law_967 rfl (lv_at hl 3 rfl) ?_
  refine lv_iload_n hx hb dL_law_968 rfl (lv_at hl 0 rfl) ?_
  refine lv_iconst (v := 1) hx hb dL_law_969 (by decide) ?_
  refine lv_iadd hx hb dL_law_970 ?_
  refine va_sld hx hb hXs hbl hbA hV.1 hin1 dL_law_971 ?_
  refine lv_aload_n hx hb dL_law_972 rfl (lv_at hl 3 rfl) ?_
  refine lv_iload_n hx hb dL_law_973 rfl (lv_at hl 0 rfl) ?_
  refine lv_iconst (v := 2) hx hb dL_law_974 (by decide) ?_
  refine lv_iadd hx hb dL_law_975 ?_
  refine va_sld hx hb hXs hbl hbA hV.1 hin2 dL_law_976 ?_
  refine lv_aload_n hx hb dL_law_977 rfl (lv_at hl 3 rfl) ?_
  refine lv_iload_n hx hb dL_law_978 rfl (lv_at hl 0 rfl) ?_
  refine lv_iconst (v := 3) hx hb dL_law_979 (by decide) ?_
  refine lv_iadd hx hb dL_law_980 ?_
  refine va_sld hx hb hXs hbl hbA hV.1 hin3 dL_law_981 ?_
  obtain ⟨hS, hPX, hDX, hPR, hDR, hdis⟩ := id hV
  obtain ⟨n', z', u', tx, tr, nc, r1, r2, rH, rV, r15, r5, r5b, r7, r7b, rc, r17, r17b, rT, r40, r40b, r20, r20b⟩ := ri_all hR
  refine lr_i hV (va_runV (As := [.int (xs (nI i + 1).toNatClampNeg), .int (xs (nI i + 2).toNatClampNeg), .int (xs (nI i + 3).toNatClampNeg)]) (rest := []) ⟨hx, hb, hml, hown, hT⟩ (c_act l G aR SR H.size n' ((xs (nI i + 1).toNatClampNeg)) ((xs (nI i + 2).toNatClampNeg)) ((xs (nI i + 3).toNatClampNeg)) (by assumption) (by assumption)) (tV 3 hT m7_71 m7_72 m7_73 m1_17 m7_74 rfl rfl (by decide +kernel) ⟨Nat.le_of_ble_eq_true rfl, Nat.le_of_ble_eq_true rfl⟩) ⟨PcW_blind, va_recv hK hPR (ci := 14) (q0 := 0) rfl (ix_at (by decide) (cR_0 G aR SR)), PcW_of hPR hK hDR _⟩ rfl rfl hl.1 rfl (lv_room (Nat.le_of_ble_eq_true rfl)) dL_law_982 ⟨(by show cells + 12 + 0 ≤ 600000; omega), (by show slots + 768 + 0 ≤ 7302250; omega)⟩) (fun rR SR1 H locs hwR hV => ?_)
  try dsimp only at hwR
  have h1 := n_of_lk hn hL
  obtain ⟨hR1, hRK⟩ := ri_act hR (act_len _ _) (hwR.imp (fun q => ⟨q.1, q.2.2⟩) (fun q => ⟨q.1, q.2.2⟩))
  have hL1 := lk_step hL hXK hRK
  have hM1 := lm_step hM hwX.2.1 (fun q => by omega) (fun q => by omega) (fun t ht => (fun q => by omega)) (fun q => by omega) (fun q => by omega) (fun q => by omega) (fun c hc => ⟨(fun q => by omega), (fun q => by omega), (fun q => by omega)⟩) (rz_act (hwR.imp (fun q => ⟨q.1, q.2.2⟩) (fun q => ⟨q.1, q.2.2⟩))) hRK.2.2
  obtain ⟨hrr, hTL1⟩ := lk_act h1 hn6 (hM.2.1.1 n hn hn6) hN hwX.2.2.2.2 hwR
  have hN1 : LN SX1 SR1 := ⟨hM1, nu_step hN hwX.2.1 (fun c hc => (fun q => by omega)), hTL1⟩
  refine lv_pop hx hb dL_law_985 rfl ?_
  refine lv_goto (tgt := 1280) hx hb dL_law_986 (by decide) ?_
  refine W.widen (k := cells + 12) (n := slots + 768) (by show cells + 12 + 0 ≤ cells + 12; omega) (by show slots + 768 + 0 ≤ slots + 768; omega) ?_
  exact kk aX1 SX1 SR1 H locs hV hwX.1 hR1 hL1 hN1 (hwX.2.2.1 0 (lt71 (by omega)))
set_option maxHeartbeats 1600000 in
theorem law_29 {p : Program} {l : Launch} {e : Env} {s : State} {m : MethodId} {below : List Frame} {meth : Method} {c : Code} {H : Heap} {locs : List Loc} {cells slots : Nat} {Q : State → Prop} {ls : Array Slot} {b L i : Nat} {xs : Nat → Int32} {G : GG} {aX aR : Nat → Nat} {SX SR : FS} (C0 : lw_At p s m meth c b L xs) (hK : va_K G.1 vwCl (TYS G) s) (hE : EN G (AL s) s s.heap) (hin1 : vp_in (nI i + 1) L) (hin2 : vp_in (nI i + 2) L) (hin3 : vp_in (nI i + 3) L) (hin4 : vp_in (nI i + 4) L) (hin5 : vp_in (nI i + 5) L) (hV : LV G s H locs aX aR SX SR) (hX : XI SX) (hR : RI SR) (hL : LK SX SR) (hM0 : LN SX SR)
    (hl : lv_has ls 4 [(3, .int (nI i)), (2, .ref (aR 0)), (1, .ref (aX 0)), (0, .ref b)]) (hc : cells + 12 ≤ 600000) (hs : slots + 768 ≤ 7302250)
    (kk : ∀ (aX1 : Nat → Nat) (SX1 SR1 : FS) (H1 : Heap) (locs1 : List Loc), LV G s H1 locs1 aX1 aR SX1 SR1 → XI SX1 → RI SR1 → LK SX1 SR1 → LN SX1 SR1 → aX1 0 = aX 0 → W p l e room_1 s m #[Value.ref b] below meth c H1 locs1 (cells + 12) (slots + 768) Q (F0 m 1280 ls [])) : W p l e room_1 s m #[Value.ref b] below meth c H locs cells slots Q (F0 m 989 ls []) := by
  obtain ⟨hx, hb, hr, hml, hown, hts, hXs, hbl, hlocks, hgv⟩ := id C0
  have hT : ∀ w ∈ TBL, w.before #[Value.ref b] s = true := fun w h => hts w (tbl_in w h)
  have hbA : ¬ AL s b := Nat.not_le.mpr hbl
  obtain ⟨hM, hN, hTL⟩ := hM0
  obtain ⟨n, hn, hn6⟩ := hX.1 0 (by decide)
  refine lv_aload_n hx hb dL_law_989 rfl (lv_at hl 2 rfl) ?_
  refine lv_aload_n hx hb dL_law_990 rfl (lv_at hl 3 rfl) ?_
  refine lv_iload_n hx hb dL_law_991 rfl (lv_at hl 0 rfl) ?_
  refine lv_iconst (v := 1) hx hb dL_law_992 (by decide) ?_
  refine lv_iadd hx hb dL_law_993 ?_
  refine va_sld hx hb hXs hbl hbA hV.1 hin1 dL_law_994 ?_
  obtain ⟨hS, hPX, hDX, hPR, hDR, hdis⟩ := id hV
  obtain ⟨z, hzz, hzc⟩ := hX.2.2.2.2.2.2.2.2.2
  have hz64 : z ≤ 64 := by
    rcases hzc with ⟨_, h⟩ | ⟨_, _, _, _, _, _, h1, h2, _⟩ <;> omega
  have hFc := va_self hDX hS (fun q h => h)
  refine vp_callSi (W.runV (As := [.int (xs (nI i + 1).toNatClampNeg)]) (rest := []) ⟨hx, hb, hml, hown, hT⟩ (c_x11_trace l G aX SX H.size z ((xs (nI i + 1).toNatClampNeg)) (by assumption) (by assumption) (by assumption)) (tV 1 hT m5_36 m5_37 m5_38 m1_1 m5_39 rfl rfl (by decide +kernel) ⟨Nat.le_of_ble_eq_true rfl, Nat.le_of_ble_eq_true rfl⟩) ⟨PcE_blind, va_recv hK hPX (ci := 13) (q0 := 0) rfl (ix_at (lt71 (by omega)) (cX_0 G aX SX)), PcE_of hPX hK hDX hE hS (fun q h => hFc q h) _⟩ rfl rfl hl.1 rfl (lv_room (Nat.le_of_ble_eq_true rfl)) dL_law_995 ⟨(by show cells + 0 ≤ 600000; omega), (by show slots + 0 ≤ 7302250; omega)⟩) (fun rX hwX => ?_)
  have hXK : XK 0 SX SX := xk_rf
  refine lv_pop hx hb dL_law_998 rfl ?_
  refine lv_aload_n hx hb dL_law_999 rfl (lv_at hl 1 rfl) ?_
  refine lv_aload_n hx hb dL_law_1000 rfl (lv_at hl 3 rfl) ?_
  refine lv_iload_n hx hb dL_law_1001 rfl (lv_at hl 0 rfl) ?_
  refine lv_iconst (v := 1) hx hb dL_law_1002 (by decide) ?_
  refine lv_iadd hx hb dL_law_1003 ?_
  refine va_sld hx hb hXs hbl hbA hV.1 hin1 dL_law_1004 ?_
  obtain ⟨hS, hPX, hDX, hPR, hDR, hdis⟩ := id hV
  obtain ⟨n', z', u', tx, tr, nc, r1, r2, rH, rV, r15, r5, r5b, r7, r7b, rc, r17, r17b, rT, r40, r40b, r20, r20b⟩ := ri_all hR
  refine lr_i hV (va_runV (As := [.int (xs (nI i + 1).toNatClampNeg)]) (rest := []) ⟨hx, hb, hml, hown, hT⟩ (c_traceE l G aR SR H.size tr ((xs (nI i + 1).toNatClampNeg)) (by assumption) (by assumption)) (tV 1 hT m7_136 m7_137 m7_138 m1_17 m7_139 rfl rfl (by decide +kernel) ⟨Nat.le_of_ble_eq_true rfl, Nat.le_of_ble_eq_true rfl⟩) ⟨PcW_blind, va_recv hK hPR (ci := 14) (q0 := 0) rfl (ix_at (by decide) (cR_0 G aR SR)), PcW_of hPR hK hDR _⟩ rfl rfl hl.1 rfl (lv_room (Nat.le_of_ble_eq_true rfl)) dL_law_1005 ⟨(by show cells + 0 ≤ 600000; omega), (by show slots + 0 ≤ 7302250; omega)⟩) (fun rR SR1 H locs hwR hV => ?_)
  try dsimp only at hwR
  obtain ⟨hR1, hRK⟩ := ri_E hR hwR.2
  have hL1 := lk_step hL hXK hRK
  have hM1 := lm_step hM (Fr.rf : Fr (fun _ _ => False) SX SX) (fun q => q) (fun q => q) (fun t ht => (fun q => q)) (fun q => q) (fun q => q) (fun q => q) (fun c hc => ⟨(fun q => q), (fun q => q), (fun q => q)⟩) (rz_E hwR.2) hRK.2.2
  have hrr := trace_r hTL hzz hz64 r40 r40b hwX hwR.1
  have hN1 : LN SX SR1 := ⟨hM1, nu_step hN (Fr.rf : Fr (fun _ _ => False) SX SX) (fun c hc => (fun q => q)), tl_step hTL hX (Fr.rf : Fr (fun _ _ => False) SX SX) (fun q => q) (fun q => q) (fun p k hp => (fun q => q)) (ry_E hwR.2)⟩
  refine lv_pop hx hb dL_law_1008 rfl ?_
  refine lv_goto (tgt := 1280) hx hb dL_law_1009 (by decide) ?_
  refine W.widen (k := cells + 12) (n := slots + 768) (by show cells + 0 ≤ cells + 12; omega) (by show slots + 0 ≤ slots + 768; omega) ?_
  exact kk aX SX SR1 H locs hV hX hR1 hL1 hN1 rfl
set_option maxHeartbeats 1600000 in
theorem law_30 {p : Program} {l : Launch} {e : Env} {s : State} {m : MethodId} {below : List Frame} {meth : Method} {c : Code} {H : Heap} {locs : List Loc} {cells slots : Nat} {Q : State → Prop} {ls : Array Slot} {b L i : Nat} {xs : Nat → Int32} {G : GG} {aX aR : Nat → Nat} {SX SR : FS} (C0 : lw_At p s m meth c b L xs) (hK : va_K G.1 vwCl (TYS G) s) (hE : EN G (AL s) s s.heap) (hin1 : vp_in (nI i + 1) L) (hin2 : vp_in (nI i + 2) L) (hin3 : vp_in (nI i + 3) L) (hin4 : vp_in (nI i + 4) L) (hin5 : vp_in (nI i + 5) L) (hV : LV G s H locs aX aR SX SR) (hX : XI SX) (hR : RI SR) (hL : LK SX SR) (hM0 : LN SX SR)
    (hl : lv_has ls 4 [(3, .int (nI i)), (2, .ref (aR 0)), (1, .ref (aX 0)), (0, .ref b)]) (hc : cells + 12 ≤ 600000) (hs : slots + 768 ≤ 7302250)
    (kk : ∀ (aX1 : Nat → Nat) (SX1 SR1 : FS) (H1 : Heap) (locs1 : List Loc), LV G s H1 locs1 aX1 aR SX1 SR1 → XI SX1 → RI SR1 → LK SX1 SR1 → LN SX1 SR1 → aX1 0 = aX 0 → W p l e room_1 s m #[Value.ref b] below meth c H1 locs1 (cells + 12) (slots + 768) Q (F0 m 1280 ls [])) : W p l e room_1 s m #[Value.ref b] below meth c H locs cells slots Q (F0 m 1012 ls []) := by
  obtain ⟨hx, hb, hr, hml, hown, hts, hXs, hbl, hlocks, hgv⟩ := id C0
  have hT : ∀ w ∈ TBL, w.before #[Value.ref b] s = true := fun w h => hts w (tbl_in w h)
  have hbA : ¬ AL s b := Nat.not_le.mpr hbl
  obtain ⟨hM, hN, hTL⟩ := hM0
  obtain ⟨n, hn, hn6⟩ := hX.1 0 (by decide)
  refine lv_aload_n hx hb dL_law_1012 rfl (lv_at hl 2 rfl) ?_
  refine lv_aload_n hx hb dL_law_1013 rfl (lv_at hl 3 rfl) ?_
  refine lv_iload_n hx hb dL_law_1014 rfl (lv_at hl 0 rfl) ?_
  refine lv_iconst (v := 1) hx hb dL_law_1015 (by decide) ?_
  refine lv_iadd hx hb dL_law_1016 ?_
  refine va_sld hx hb hXs hbl hbA hV.1 hin1 dL_law_1017 ?_
  refine lv_aload_n hx hb dL_law_1018 rfl (lv_at hl 3 rfl) ?_
  refine lv_iload_n hx hb dL_law_1019 rfl (lv_at hl 0 rfl) ?_
  refine lv_iconst (v := 2) hx hb dL_law_1020 (by decide) ?_
  refine lv_iadd hx hb dL_law_1021 ?_
  refine va_sld hx hb hXs hbl hbA hV.1 hin2 dL_law_1022 ?_
  obtain ⟨hS, hPX, hDX, hPR, hDR, hdis⟩ := id hV
  have hFc := va_self hDX hS (fun q h => h)
  refine vp_callSi (W.runV (As := [.int (xs (nI i + 1).toNatClampNeg), .int (xs (nI i + 2).toNatClampNeg)]) (rest := []) ⟨hx, hb, hml, hown, hT⟩ (c_x11_takenE l G aX SX H.size n ((xs (nI i + 1).toNatClampNeg)) ((xs (nI i + 2).toNatClampNeg)) (by assumption) (by assumption) (by assumption)) (tV 2 hT m5_61 m5_62 m5_63 m1_1 m5_64 rfl rfl (by decide +kernel) ⟨Nat.le_of_ble_eq_true rfl, Nat.le_of_ble_eq_true rfl⟩) ⟨PcE_blind, va_recv hK hPX (ci := 13) (q0 := 0) rfl (ix_at (lt71 (by omega)) (cX_0 G aX SX)), PcE_of hPX hK hDX hE hS (fun q h => hFc q h) _⟩ rfl rfl hl.1 rfl (lv_room (Nat.le_of_ble_eq_true rfl)) dL_law_1023 ⟨(by show cells + 0 ≤ 600000; omega), (by show slots + 0 ≤ 7302250; omega)⟩) (fun rX hwX => ?_)
  have hXK : XK 0 SX SX := xk_rf
  refine lv_aload_n hx hb dL_law_1026 rfl (lv_at hl 1 rfl) ?_
  refine lv_aload_n hx hb dL_law_1027 rfl (lv_at hl 3 rfl) ?_
  refine lv_iload_n hx hb dL_law_1028 rfl (lv_at hl 0 rfl) ?_
  refine lv_iconst (v := 1) hx hb dL_law_1029 (by decide) ?_
  refine lv_iadd hx hb dL_law_1030 ?_
  refine va_sld hx hb hXs hbl hbA hV.1 hin1 dL_law_1031 ?_
  refine lv_aload_n hx hb dL_law_1032 rfl (lv_at hl 3 rfl) ?_
  refine lv_iload_n hx hb dL_law_1033 rfl (lv_at hl 0 rfl) ?_
  refine lv_iconst (v := 2) hx hb dL_law_1034 (by decide) ?_
  refine lv_iadd hx hb dL_law_1035 ?_
  refine va_sld hx hb hXs hbl hbA hV.1 hin2 dL_law_1036 ?_
  obtain ⟨hS, hPX, hDX, hPR, hDR, hdis⟩ := id hV
  obtain ⟨n', z', u', tx, tr, nc, r1, r2, rH, rV, r15, r5, r5b, r7, r7b, rc, r17, r17b, rT, r40, r40b, r20, r20b⟩ := ri_all hR
  refine lr_i hV (va_runV (As := [.int (xs (nI i + 1).toNatClampNeg), .int (xs (nI i + 2).toNatClampNeg)]) (rest := [.int rX]) ⟨hx, hb, hml, hown, hT⟩ (c_taken l G aR SR H.size n' ((xs (nI i + 1).toNatClampNeg)) ((xs (nI i + 2).toNatClampNeg)) (by assumption) (by assumption)) (tV 2 hT m7_140 m7_141 m7_142 m1_17 m7_143 rfl rfl (by decide +kernel) ⟨Nat.le_of_ble_eq_true rfl, Nat.le_of_ble_eq_true rfl⟩) ⟨PcW_blind, va_recv hK hPR (ci := 14) (q0 := 0) rfl (ix_at (by decide) (cR_0 G aR SR)), PcW_of hPR hK hDR _⟩ rfl rfl hl.1 rfl (lv_room (Nat.le_of_ble_eq_true rfl)) dL_law_1037 ⟨(by show cells + 0 ≤ 600000; omega), (by show slots + 0 ≤ 7302250; omega)⟩) (fun rR SR1 H locs hwR hV => ?_)
  try dsimp only at hwR
  have h1 := n_of_lk hn hL
  obtain ⟨hR1, hRK⟩ := ri_E hR hwR.1
  have hL1 := lk_step hL hXK hRK
  have hrr := taken_r h1 hn6 (hM.2.1.1 n hn hn6) hwX hwR.2
  have hM1 := lm_step hM (Fr.rf : Fr (fun _ _ => False) SX SX) (fun q => q) (fun q => q) (fun t ht => (fun q => q)) (fun q => q) (fun q => q) (fun q => q) (fun c hc => ⟨(fun q => q), (fun q => q), (fun q => q)⟩) (rz_E hwR.1) hRK.2.2
  have hN1 : LN SX SR1 := ⟨hM1, nu_step hN (Fr.rf : Fr (fun _ _ => False) SX SX) (fun c hc => (fun q => q)), tl_step hTL hX (Fr.rf : Fr (fun _ _ => False) SX SX) (fun q => q) (fun q => q) (fun p k hp => (fun q => q)) (ry_E hwR.1)⟩
  refine lv_icmp_eq (tgt := 1280) hx hb dL_law_1040 (by decide) (fun _ => ?_) (fun q => absurd hrr q)
  refine W.widen (k := cells + 12) (n := slots + 768) (by show cells + 0 ≤ cells + 12; omega) (by show slots + 0 ≤ slots + 768; omega) ?_
  exact kk aX SX SR1 H locs hV hX hR1 hL1 hN1 rfl
set_option maxHeartbeats 1600000 in
theorem law_31 {p : Program} {l : Launch} {e : Env} {s : State} {m : MethodId} {below : List Frame} {meth : Method} {c : Code} {H : Heap} {locs : List Loc} {cells slots : Nat} {Q : State → Prop} {ls : Array Slot} {b L i : Nat} {xs : Nat → Int32} {G : GG} {aX aR : Nat → Nat} {SX SR : FS} (C0 : lw_At p s m meth c b L xs) (hK : va_K G.1 vwCl (TYS G) s) (hE : EN G (AL s) s s.heap) (hin1 : vp_in (nI i + 1) L) (hin2 : vp_in (nI i + 2) L) (hin3 : vp_in (nI i + 3) L) (hin4 : vp_in (nI i + 4) L) (hin5 : vp_in (nI i + 5) L) (hV : LV G s H locs aX aR SX SR) (hX : XI SX) (hR : RI SR) (hL : LK SX SR) (hM0 : LN SX SR)
    (hl : lv_has ls 4 [(3, .int (nI i)), (2, .ref (aR 0)), (1, .ref (aX 0)), (0, .ref b)]) (hc : cells + 12 ≤ 600000) (hs : slots + 768 ≤ 7302250)
    (kk : ∀ (aX1 : Nat → Nat) (SX1 SR1 : FS) (H1 : Heap) (locs1 : List Loc), LV G s H1 locs1 aX1 aR SX1 SR1 → XI SX1 → RI SR1 → LK SX1 SR1 → LN SX1 SR1 → aX1 0 = aX 0 → W p l e room_1 s m #[Value.ref b] below meth c H1 locs1 (cells + 12) (slots + 768) Q (F0 m 1280 ls [])) : W p l e room_1 s m #[Value.ref b] below meth c H locs cells slots Q (F0 m 1045 ls []) := by
  obtain ⟨hx, hb, hr, hml, hown, hts, hXs, hbl, hlocks, hgv⟩ := id C0
  have hT : ∀ w ∈ TBL, w.before #[Value.ref b] s = true := fun w h => hts w (tbl_in w h)
  have hbA : ¬ AL s b := Nat.not_le.mpr hbl
  obtain ⟨hM, hN, hTL⟩ := hM0
  obtain ⟨n, hn, hn6⟩ := hX.1 0 (by decide)
  refine lv_aload_n hx hb dL_law_1045 rfl (lv_at hl 2 rfl) ?_
  refine lv_aload_n hx hb dL_law_1046 rfl (lv_at hl 3 rfl) ?_
  refine lv_iload_n hx hb dL_law_1047 rfl (lv_at hl 0 rfl) ?_
  refine lv_iconst (v := 1) hx hb dL_law_1048 (by decide) ?_
  refine lv_iadd hx hb dL_law_1049 ?_
  refine va_sld hx hb hXs hbl hbA hV.1 hin1 dL_law_1050 ?_
  obtain ⟨hS, hPX, hDX, hPR, hDR, hdis⟩ := id hV
  refine vp_callSi (W.runV (As := [.int (xs (nI i + 1).toNatClampNeg)]) (rest := []) ⟨hx, hb, hml, hown, hT⟩ (c_x11_count l G aX SX H.size n ((xs (nI i + 1).toNatClampNeg)) (by assumption) (by assumption) (by assumption)) (tV 1 hT m5_68 m5_69 m5_70 m1_1 m5_71 rfl rfl (by decide +kernel) ⟨Nat.le_of_ble_eq_true rfl, Nat.le_of_ble_eq_true rfl⟩) ⟨PcW_blind, va_recv hK hPX (ci := 13) (q0 := 0) rfl (ix_at (lt71 (by omega)) (cX_0 G aX SX)), PcW_of hPX hK hDX _⟩ rfl rfl hl.1 rfl (lv_room (Nat.le_of_ble_eq_true rfl)) dL_law_1051 ⟨(by show cells + 0 ≤ 600000; omega), (by show slots + 0 ≤ 7302250; omega)⟩) (fun rX hwX => ?_)
  have hXK : XK 0 SX SX := xk_rf
  refine lv_pop hx hb dL_law_1054 rfl ?_
  refine lv_aload_n hx hb dL_law_1055 rfl (lv_at hl 1 rfl) ?_
  refine lv_aload_n hx hb dL_law_1056 rfl (lv_at hl 3 rfl) ?_
  refine lv_iload_n hx hb dL_law_1057 rfl (lv_at hl 0 rfl) ?_
  refine lv_iconst (v := 1) hx hb dL_law_1058 (by decide) ?_
  refine lv_iadd hx hb dL_law_1059 ?_
  refine va_sld hx hb hXs hbl hbA hV.1 hin1 dL_law_1060 ?_
  obtain ⟨hS, hPX, hDX, hPR, hDR, hdis⟩ := id hV
  obtain ⟨n', z', u', tx, tr, nc, r1, r2, rH, rV, r15, r5, r5b, r7, r7b, rc, r17, r17b, rT, r40, r40b, r20, r20b⟩ := ri_all hR
  refine lr_i hV (va_runV (As := [.int (xs (nI i + 1).toNatClampNeg)]) (rest := []) ⟨hx, hb, hml, hown, hT⟩ (c_count l G aR SR H.size ((xs (nI i + 1).toNatClampNeg))) (tV 1 hT m7_147 m7_148 m7_149 m1_17 m7_150 rfl rfl (by decide +kernel) ⟨Nat.le_of_ble_eq_true rfl, Nat.le_of_ble_eq_true rfl⟩) ⟨PcW_blind, va_recv hK hPR (ci := 14) (q0 := 0) rfl (ix_at (by decide) (cR_0 G aR SR)), PcW_of hPR hK hDR _⟩ rfl rfl hl.1 rfl (lv_room (Nat.le_of_ble_eq_true rfl)) dL_law_1061 ⟨(by show cells + 0 ≤ 600000; omega), (by show slots + 0 ≤ 7302250; omega)⟩) (fun rR SR1 H locs hwR hV => ?_)
  try dsimp only at hwR
  obtain ⟨hR1, hRK⟩ := ri_E hR hwR.1
  have hL1 := lk_step hL hXK hRK
  have hM1 := lm_step hM (Fr.rf : Fr (fun _ _ => False) SX SX) (fun q => q) (fun q => q) (fun t ht => (fun q => q)) (fun q => q) (fun q => q) (fun q => q) (fun c hc => ⟨(fun q => q), (fun q => q), (fun q => q)⟩) (rz_E hwR.1) hRK.2.2
  have hN1 : LN SX SR1 := ⟨hM1, nu_step hN (Fr.rf : Fr (fun _ _ => False) SX SX) (fun c hc => (fun q => q)), tl_step hTL hX (Fr.rf : Fr (fun _ _ => False) SX SX) (fun q => q) (fun q => q) (fun p k hp => (fun q => q)) (ry_E hwR.1)⟩
  refine lv_pop hx hb dL_law_1064 rfl ?_
  refine lv_goto (tgt := 1280) hx hb dL_law_1065 (by decide) ?_
  refine W.widen (k := cells + 12) (n := slots + 768) (by show cells + 0 ≤ cells + 12; omega) (by show slots + 0 ≤ slots + 768; omega) ?_
  exact kk aX SX SR1 H locs hV hX hR1 hL1 hN1 rfl
set_option maxHeartbeats 1600000 in
theorem law_32 {p : Program} {l : Launch} {e : Env} {s : State} {m : MethodId} {below : List Frame} {meth : Method} {c : Code} {H : Heap} {locs : List Loc} {cells slots : Nat} {Q : State → Prop} {ls : Array Slot} {b L i : Nat} {xs : Nat → Int32} {G : GG} {aX aR : Nat → Nat} {SX SR : FS} (C0 : lw_At p s m meth c b L xs) (hK : va_K G.1 vwCl (TYS G) s) (hE : EN G (AL s) s s.heap) (hin1 : vp_in (nI i + 1) L) (hin2 : vp_in (nI i + 2) L) (hin3 : vp_in (nI i + 3) L) (hin4 : vp_in (nI i + 4) L) (hin5 : vp_in (nI i + 5) L) (hV : LV G s H locs aX aR SX SR) (hX : XI SX) (hR : RI SR) (hL : LK SX SR) (hM0 : LN SX SR)
    (hl : lv_has ls 4 [(3, .int (nI i)), (2, .ref (aR 0)), (1, .ref (aX 0)), (0, .ref b)]) (hc : cells + 12 ≤ 600000) (hs : slots + 768 ≤ 7302250)
    (kk : ∀ (aX1 : Nat → Nat) (SX1 SR1 : FS) (H1 : Heap) (locs1 : List Loc), LV G s H1 locs1 aX1 aR SX1 SR1 → XI SX1 → RI SR1 → LK SX1 SR1 → LN SX1 SR1 → aX1 0 = aX 0 → W p l e room_1 s m #[Value.ref b] below meth c H1 locs1 (cells + 12) (slots + 768) Q (F0 m 1280 ls [])) : W p l e room_1 s m #[Value.ref b] below meth c H locs cells slots Q (F0 m 1068 ls []) := by
  obtain ⟨hx, hb, hr, hml, hown, hts, hXs, hbl, hlocks, hgv⟩ := id C0
  have hT : ∀ w ∈ TBL, w.before #[Value.ref b] s = true := fun w h => hts w (tbl_in w h)
  have hbA : ¬ AL s b := Nat.not_le.mpr hbl
  obtain ⟨hM, hN, hTL⟩ := hM0
  obtain ⟨n, hn, hn6⟩ := hX.1 0 (by decide)
  refine lv_aload_n hx hb dL_law_1068 rfl (lv_at hl 2 rfl) ?_
  refine lv_aload_n hx hb dL_law_1069 rfl (lv_at hl 3 rfl) ?_
  refine lv_iload_n hx hb dL_law_1070 rfl (lv_at hl 0 rfl) ?_
  refine lv_iconst (v := 1) hx hb dL_law_1071 (by decide) ?_
  refine lv_iadd hx hb dL_law_1072 ?_
  refine va_sld hx hb hXs hbl hbA hV.1 hin1 dL_law_1073 ?_
  refine lv_aload_n hx hb dL_law_1074 rfl (lv_at hl 3 rfl) ?_
  refine lv_iload_n hx hb dL_law_1075 rfl (lv_at hl 0 rfl) ?_
  refine lv_iconst (v := 2) hx hb dL_law_1076 (by decide) ?_
  refine lv_iadd hx hb dL_law_1077 ?_
  refine va_sld hx hb hXs hbl hbA hV.1 hin2 dL_law_1078 ?_
  refine lv_aload_n hx hb dL_law_1079 rfl (lv_at hl 3 rfl) ?_
  refine lv_iload_n hx hb dL_law_1080 rfl (lv_at hl 0 rfl) ?_
  refine lv_iconst (v := 3) hx hb dL_law_1081 (by decide) ?_
  refine lv_iadd hx hb dL_law_1082 ?_
  refine va_sld hx hb hXs hbl hbA hV.1 hin3 dL_law_1083 ?_
  obtain ⟨hS, hPX, hDX, hPR, hDR, hdis⟩ := id hV
  refine lx_i hV (va_runV (As := [.int (xs (nI i + 1).toNatClampNeg), .int (xs (nI i + 2).toNatClampNeg), .int (xs (nI i + 3).toNatClampNeg)]) (rest := []) ⟨hx, hb, hml, hown, hT⟩ (c_x11_tapeE l G aX SX H.size n ((xs (nI i + 1).toNatClampNeg)) ((xs (nI i + 2).toNatClampNeg)) ((xs (nI i + 3).toNatClampNeg)) (by assumption) (by assumption) (by assumption)) (tV 3 hT m5_72 m5_73 m5_74 m1_1 m5_75 rfl rfl (by decide +kernel) ⟨Nat.le_of_ble_eq_true rfl, Nat.le_of_ble_eq_true rfl⟩) ⟨PcW_blind, va_recv hK hPX (ci := 13) (q0 := 0) rfl (ix_at (lt71 (by omega)) (cX_0 G aX SX)), PcW_of hPX hK hDX _⟩ rfl rfl hl.1 rfl (lv_room (Nat.le_of_ble_eq_true rfl)) dL_law_1084 ⟨(by show cells + 0 ≤ 600000; omega), (by show slots + 0 ≤ 7302250; omega)⟩) (fun rX SX1 H locs hwX hV => ?_)
  try dsimp only at hwX
  have hXK : XK 0 SX SX1 := xk_fr hwX.2.1 (fun k h1 h2 q => by omega) (fun q => by omega) (fun k h1 h2 q => by omega)
  refine lv_pop hx hb dL_law_1087 rfl ?_
  refine lv_aload_n hx hb dL_law_1088 rfl (lv_at hl 1 rfl) ?_
  refine lv_aload_n hx hb dL_law_1089 rfl (lv_at hl 3 rfl) ?_
  refine lv_iload_n hx hb dL_law_1090 rfl (lv_at hl 0 rfl) ?_
  refine lv_iconst (v := 1) hx hb dL_law_1091 (by decide) ?_
  refine lv_iadd hx hb dL_law_1092 ?_
  refine va_sld hx hb hXs hbl hbA hV.1 hin1 dL_law_1093 ?_
  refine lv_aload_n hx hb dL_law_1094 rfl (lv_at hl 3 rfl) ?_
  refine lv_iload_n hx hb dL_law_1095 rfl (lv_at hl 0 rfl) ?_
  refine lv_iconst (v := 2) hx hb dL_law_1096 (by decide) ?_
  refine lv_iadd hx hb dL_law_1097 ?_
  refine va_sld hx hb hXs hbl hbA hV.1 hin2 dL_law_1098 ?_
  refine lv_aload_n hx hb dL_law_1099 rfl (lv_at hl 3 rfl) ?_
  refine lv_iload_n hx hb dL_law_1100 rfl (lv_at hl 0 rfl) ?_
  refine lv_iconst (v := 3) hx hb dL_law_1101 (by decide) ?_
  refine lv_iadd hx hb dL_law_1102 ?_
  refine va_sld hx hb hXs hbl hbA hV.1 hin3 dL_law_1103 ?_
  obtain ⟨hS, hPX, hDX, hPR, hDR, hdis⟩ := id hV
  obtain ⟨n', z', u', tx, tr, nc, r1, r2, rH, rV, r15, r5, r5b, r7, r7b, rc, r17, r17b, rT, r40, r40b, r20, r20b⟩ := ri_all hR
  refine lr_i hV (va_runV (As := [.int (xs (nI i + 1).toNatClampNeg), .int (xs (nI i + 2).toNatClampNeg), .int (xs (nI i + 3).toNatClampNeg)]) (rest := []) ⟨hx, hb, hml, hown, hT⟩ (c_tape l G aR SR H.size ((xs (nI i + 1).toNatClampNeg)) ((xs (nI i + 2).toNatClampNeg)) ((xs (nI i + 3).toNatClampNeg))) (tV 3 hT m7_151 m7_152 m7_153 m1_17 m7_154 rfl rfl (by decide +kernel) ⟨Nat.le_of_ble_eq_true rfl, Nat.le_of_ble_eq_true rfl⟩) ⟨PcW_blind, va_recv hK hPR (ci := 14) (q0 := 0) rfl (ix_at (by decide) (cR_0 G aR SR)), PcW_of hPR hK hDR _⟩ rfl rfl hl.1 rfl (lv_room (Nat.le_of_ble_eq_true rfl)) dL_law_1104 ⟨(by show cells + 0 + 0 ≤ 600000; omega), (by show slots + 0 + 0 ≤ 7302250; omega)⟩) (fun rR SR1 H locs hwR hV => ?_)
  try dsimp only at hwR
  obtain ⟨hR1, hRK⟩ := ri_tape hR hwR.2
  have hL1 := lk_step hL hXK hRK
  obtain ⟨hrr, hT1⟩ := lk_tape hM.1 hwX.2.2 hwR.1 hwR.2
  have hM1 := lm_T hM hwX.2.1 (fun q => by omega) (fun q => by omega) (fun q => by omega) (fun c hc => ⟨(fun q => by omega), (fun q => by omega), (fun q => by omega)⟩) (rz_tape hwR.2) hRK.2.2 hT1 (it_tape hM.2.2.1 hwX.2.2 hwR.2) (nt_tape hM.2.2.2 hwX.2.2)
  have hN1 : LN SX1 SR1 := ⟨hM1, nu_step hN hwX.2.1 (fun c hc => (fun q => by omega)), tl_step hTL hX hwX.2.1 (fun q => by omega) (fun q => by omega) (fun p k hp => (fun q => by omega)) (ry_if hwR.2 (ry_if rfl (ry_if rfl ry_4 (ry_if rfl (ry_if rfl ry_T ry_4) ry_T)) ry_T) ry_T)⟩
  refine lv_pop hx hb dL_law_1107 rfl ?_
  refine lv_goto (tgt := 1280) hx hb dL_law_1108 (by decide) ?_
  refine W.widen (k := cells + 12) (n := slots + 768) (by show cells + 0 + 0 ≤ cells + 12; omega) (by show slots + 0 + 0 ≤ slots + 768; omega) ?_
  exact kk aX SX1 SR1 H locs hV hwX.1 hR1 hL1 hN1 rfl
set_option maxHeartbeats 1600000 in
theorem law_33 {p : Program} {l : Launch} {e : Env} {s : State} {m : MethodId} {below : List Frame} {meth : Method} {c : Code} {H : Heap} {locs : List Loc} {cells slots : Nat} {Q : State → Prop} {ls : Array Slot} {b L i : Nat} {xs : Nat → Int32} {G : GG} {aX aR : Nat → Nat} {SX SR : FS} (C0 : lw_At p s m meth c b L xs) (hK : va_K G.1 vwCl (TYS G) s) (hE : EN G (AL s) s s.heap) (hin1 : vp_in (nI i + 1) L) (hin2 : vp_in (nI i + 2) L) (hin3 : vp_in (nI i + 3) L) (hin4 : vp_in (nI i + 4) L) (hin5 : vp_in (nI i + 5) L) (hV : LV G s H locs aX aR SX SR) (hX : XI SX) (hR : RI SR) (hL : LK SX SR) (hM0 : LN SX SR)
    (hl : lv_has ls 4 [(3, .int (nI i)), (2, .ref (aR 0)), (1, .ref (aX 0)), (0, .ref b)]) (hc : cells + 12 ≤ 600000) (hs : slots + 768 ≤ 7302250)
    (kk : ∀ (aX1 : Nat → Nat) (SX1 SR1 : FS) (H1 : Heap) (locs1 : List Loc), LV G s H1 locs1 aX1 aR SX1 SR1 → XI SX1 → RI SR1 → LK SX1 SR1 → LN SX1 SR1 → aX1 0 = aX 0 → W p l e room_1 s m #[Value.ref b] below meth c H1 locs1 (cells + 12) (slots + 768) Q (F0 m 1280 ls [])) : W p l e room_1 s m #[Value.ref b] below meth c H locs cells slots Q (F0 m 1111 ls []) := by
  obtain ⟨hx, hb, hr, hml, hown, hts, hXs, hbl, hlocks, hgv⟩ := id C0
  have hT : ∀ w ∈ TBL, w.before #[Value.ref b] s = true := fun w h => hts w (tbl_in w h)
  have hbA : ¬ AL s b := Nat.not_le.mpr hbl
  obtain ⟨hM, hN, hTL⟩ := hM0
  obtain ⟨n, hn, hn6⟩ := hX.1 0 (by decide)
  refine lv_aload_n hx hb dL_law_1111 rfl (lv_at hl 2 rfl) ?_
  refine lv_aload_n hx hb dL_law_1112 rfl (lv_at hl 3 rfl) ?_
  refine lv_iload_n hx hb dL_law_1113 rfl (lv_at hl 0 rfl) ?_
  refine lv_iconst (v := 1) hx hb dL_law_1114 (by decide) ?_
  refine lv_iadd hx hb dL_law_1115 ?_
  refine va_sld hx hb hXs hbl hbA hV.1 hin1 dL_law_1116 ?_
  refine lv_aload_n hx hb dL_law_1117 rfl (lv_at hl 3 rfl) ?_
  refine lv_iload_n hx hb dL_law_1118 rfl (lv_at hl 0 rfl) ?_
  refine lv_iconst (v := 2) hx hb dL_law_1119 (by decide) ?_
  refine lv_iadd hx hb dL_law_1120 ?_
  refine va_sld hx hb hXs hbl hbA hV.1 hin2 dL_law_1121 ?_
  refine lv_aload_n hx hb dL_law_1122 rfl (lv_at hl 3 rfl) ?_
  refine lv_iload_n hx hb dL_law_1123 rfl (lv_at hl 0 rfl) ?_
  refine lv_iconst (v := 3) hx hb dL_law_1124 (by decide) ?_
  refine lv_iadd hx hb dL_law_1125 ?_
  refine va_sld hx hb hXs hbl hbA hV.1 hin3 dL_law_1126 ?_
  refine lv_i2l (v := (xs (nI i + 3).toNatClampNeg).toInt64) hx hb dL_law_1127 rfl ?_
  refine lv_bipush (v := 32) hx hb dL_law_1128 (by decide) ?_
  refine lv_lshl (v := ((xs (nI i + 3).toNatClampNeg).toInt64) <<< ((32 : Int32).toInt64 &&& 63)) hx hb dL_law_1130 rfl ?_
  refine lv_aload_n hx hb dL_law_1131 rfl (lv_at hl 3 rfl) ?_
  refine lv_iload_n hx hb dL_law_1132 rfl (lv_at hl 0 rfl) ?_
  refine lv_iconst (v := 4) hx hb dL_law_1133 (by decide) ?_
  refine lv_iadd hx hb dL_law_1134 ?_
  refine va_sld hx hb hXs hbl hbA hV.1 hin4 dL_law_1135 ?_
  refine lv_i2l (v := (xs (nI i + 4).toNatClampNeg).toInt64) hx hb dL_law_1136 rfl ?_
  refine lv_ldc2 hx hb hown (hT _ m7_180) dL_law_1137 ?_
  refine lv_land hx hb dL_law_1140 ?_
  refine lv_lor hx hb dL_law_1141 ?_
  obtain ⟨hS, hPX, hDX, hPR, hDR, hdis⟩ := id hV
  refine lx_i hV (va_runV (As := [.int (xs (nI i + 1).toNatClampNeg), .int (xs (nI i + 2).toNatClampNeg), .long ((((xs (nI i + 3).toNatClampNeg).toInt64) <<< ((32 : Int32).toInt64 &&& 63)) ||| (((xs (nI i + 4).toNatClampNeg).toInt64) &&& 4294967295))]) (rest := []) ⟨hx, hb, hml, hown, hT⟩ (c_x11_itemE l G aX SX H.size n ((xs (nI i + 1).toNatClampNeg)) ((xs (nI i + 2).toNatClampNeg)) (((((xs (nI i + 3).toNatClampNeg).toInt64) <<< ((32 : Int32).toInt64 &&& 63)) ||| (((xs (nI i + 4).toNatClampNeg).toInt64) &&& 4294967295))) (by assumption) (by assumption) (by assumption)) (tV 3 hT m5_79 m5_80 m5_81 m1_1 m5_82 rfl rfl (by decide +kernel) ⟨Nat.le_of_ble_eq_true rfl, Nat.le_of_ble_eq_true rfl⟩) ⟨PcW_blind, va_recv hK hPX (ci := 13) (q0 := 0) rfl (ix_at (lt71 (by omega)) (cX_0 G aX SX)), PcW_of hPX hK hDX _⟩ rfl rfl hl.1 rfl (lv_room (Nat.le_of_ble_eq_true rfl)) dL_law_1142 ⟨(by show cells + 0 ≤ 600000; omega), (by show slots + 0 ≤ 7302250; omega)⟩) (fun rX SX1 H locs hwX hV => ?_)
  try dsimp only at hwX
  have hXK : XK 0 SX SX1 := xk_fr hwX.2.1 (fun k h1 h2 q => by omega) (fun q => by omega) (fun k h1 h2 q => by omega)
  refine lv_pop hx hb dL_law_1145 rfl ?_
  refine lv_aload_n hx hb dL_law_1146 rfl (lv_at hl 1 rfl) ?_
  refine lv_aload_n hx hb dL_law_1147 rfl (lv_at hl 3 rfl) ?_
  refine lv_iload_n hx hb dL_law_1148 rfl (lv_at hl 0 rfl) ?_
  refine lv_iconst (v := 1) hx hb dL_law_1149 (by decide) ?_
  refine lv_iadd hx hb dL_law_1150 ?_
  refine va_sld hx hb hXs hbl hbA hV.1 hin1 dL_law_1151 ?_
  refine lv_aload_n hx hb dL_law_1152 rfl (lv_at hl 3 rfl) ?_
  refine lv_iload_n hx hb dL_law_1153 rfl (lv_at hl 0 rfl) ?_
  refine lv_iconst (v := 2) hx hb dL_law_1154 (by decide) ?_
  refine lv_iadd hx hb dL_law_1155 ?_
  refine va_sld hx hb hXs hbl hbA hV.1 hin2 dL_law_1156 ?_
  refine lv_aload_n hx hb dL_law_1157 rfl (lv_at hl 3 rfl) ?_
  refine lv_iload_n hx hb dL_law_1158 rfl (lv_at hl 0 rfl) ?_
  refine lv_iconst (v := 3) hx hb dL_law_1159 (by decide) ?_
  refine lv_iadd hx hb dL_law_1160 ?_
  refine va_sld hx hb hXs hbl hbA hV.1 hin3 dL_law_1161 ?_
  refine lv_i2l (v := (xs (nI i + 3).toNatClampNeg).toInt64) hx hb dL_law_1162 rfl ?_
  refine lv_bipush (v := 32) hx hb dL_law_1163 (by decide) ?_
  refine lv_lshl (v := ((xs (nI i + 3).toNatClampNeg).toInt64) <<< ((32 : Int32).toInt64 &&& 63)) hx hb dL_law_1165 rfl ?_
  refine lv_aload_n hx hb dL_law_1166 rfl (lv_at hl 3 rfl) ?_
  refine lv_iload_n hx hb dL_law_1167 rfl (lv_at hl 0 rfl) ?_
  refine lv_iconst (v := 4) hx hb dL_law_1168 (by decide) ?_
  refine lv_iadd hx hb dL_law_1169 ?_
  refine va_sld hx hb hXs hbl hbA hV.1 hin4 dL_law_1170 ?_
  refine lv_i2l (v := (xs (nI i + 4).toNatClampNeg).toInt64) hx hb dL_law_1171 rfl ?_
  refine lv_ldc2 hx hb hown (hT _ m7_180) dL_law_1172 ?_
  refine lv_land hx hb dL_law_1175 ?_
  refine lv_lor hx hb dL_law_1176 ?_
  obtain ⟨hS, hPX, hDX, hPR, hDR, hdis⟩ := id hV
  obtain ⟨n', z', u', tx, tr, nc, r1, r2, rH, rV, r15, r5, r5b, r7, r7b, rc, r17, r17b, rT, r40, r40b, r20, r20b⟩ := ri_all hR
  refine lr_i hV (va_runV (As := [.int (xs (nI i + 1).toNatClampNeg), .int (xs (nI i + 2).toNatClampNeg), .long ((((xs (nI i + 3).toNatClampNeg).toInt64) <<< ((32 : Int32).toInt64 &&& 63)) ||| (((xs (nI i + 4).toNatClampNeg).toInt64) &&& 4294967295))]) (rest := []) ⟨hx, hb, hml, hown, hT⟩ (c_item l G aR SR H.size ((xs (nI i + 1).toNatClampNeg)) ((xs (nI i + 2).toNatClampNeg)) (((((xs (nI i + 3).toNatClampNeg).toInt64) <<< ((32 : Int32).toInt64 &&& 63)) ||| (((xs (nI i + 4).toNatClampNeg).toInt64) &&& 4294967295))) (by assumption)) (tV 3 hT m7_161 m7_162 m7_163 m1_17 m7_164 rfl rfl (by decide +kernel) ⟨Nat.le_of_ble_eq_true rfl, Nat.le_of_ble_eq_true rfl⟩) ⟨PcW_blind, va_recv hK hPR (ci := 14) (q0 := 0) rfl (ix_at (by decide) (cR_0 G aR SR)), PcW_of hPR hK hDR _⟩ rfl rfl hl.1 rfl (lv_room (Nat.le_of_ble_eq_true rfl)) dL_law_1177 ⟨(by show cells + 0 + 0 ≤ 600000; omega), (by show slots + 0 + 0 ≤ 7302250; omega)⟩) (fun rR SR1 H locs hwR hV => ?_)
  try dsimp only at hwR
  obtain ⟨hR1, hRK⟩ := ri_item hR hwR.2
  have hL1 := lk_step hL hXK hRK
  have hz := rz_item hwR.2
  obtain ⟨hrr, hT1⟩ := lk_item hM.1 hwX.2.2 hwX.2.1 (fun q => by omega) (fun q => by omega) hwR.1 hz
  have hM1 := lm_L hM hwX.2.1 (fun q => by omega) (fun q => by omega) (fun q => by omega) (fun q => by omega) (fun q => by omega) (fun c hc => ⟨(fun q => by omega), (fun q => by omega), (fun q => by omega)⟩) hz hRK.2.2 hT1 (it_item hM.1 hM.2.2.2 hM.2.2.1 hwX.2.2 hwR.2)
  have hN1 : LN SX1 SR1 := ⟨hM1, nu_step hN hwX.2.1 (fun c hc => (fun q => by omega)), tl_step hTL hX hwX.2.1 (fun q => by omega) (fun q => by omega) (fun p k hp => (fun q => by omega)) (ry_if hwR.2 (ry_if rfl ry_T (ry_if rfl ry_l ry_T)) ry_T)⟩
  refine lv_pop hx hb dL_law_1180 rfl ?_
  refine lv_goto (tgt := 1280) hx hb dL_law_1181 (by decide) ?_
  refine W.widen (k := cells + 12) (n := slots + 768) (by show cells + 0 + 0 ≤ cells + 12; omega) (by show slots + 0 + 0 ≤ slots + 768; omega) ?_
  exact kk aX SX1 SR1 H locs hV hwX.1 hR1 hL1 hN1 rfl
set_option maxHeartbeats 1600000 in
theorem law_34 {p : Program} {l : Launch} {e : Env} {s : State} {m : MethodId} {below : List Frame} {meth : Method} {c : Code} {H : Heap} {locs : List Loc} {cells slots : Nat} {Q : State → Prop} {ls : Array Slot} {b L i : Nat} {xs : Nat → Int32} {G : GG} {aX aR : Nat → Nat} {SX SR : FS} (C0 : lw_At p s m meth c b L xs) (hK : va_K G.1 vwCl (TYS G) s) (hE : EN G (AL s) s s.heap) (hin1 : vp_in (nI i + 1) L) (hin2 : vp_in (nI i + 2) L) (hin3 : vp_in (nI i + 3) L) (hin4 : vp_in (nI i + 4) L) (hin5 : vp_in (nI i + 5) L) (hV : LV G s H locs aX aR SX SR) (hX : XI SX) (hR : RI SR) (hL : LK SX SR) (hM0 : LN SX SR)
    (hl : lv_has ls 4 [(3, .int (nI i)), (2, .ref (aR 0)), (1, .ref (aX 0)), (0, .ref b)]) (hc : cells + 12 ≤ 600000) (hs : slots + 768 ≤ 7302250)
    (kk : ∀ (aX1 : Nat → Nat) (SX1 SR1 : FS) (H1 : Heap) (locs1 : List Loc), LV G s H1 locs1 aX1 aR SX1 SR1 → XI SX1 → RI SR1 → LK SX1 SR1 → LN SX1 SR1 → aX1 0 = aX 0 → W p l e room_1 s m #[Value.ref b] below meth c H1 locs1 (cells + 12) (slots + 768) Q (F0 m 1280 ls [])) : W p l e room_1 s m #[Value.ref b] below meth c H locs cells slots Q (F0 m 1184 ls []) := by
  obtain ⟨hx, hb, hr, hml, hown, hts, hXs, hbl, hlocks, hgv⟩ := id C0
  have hT : ∀ w ∈ TBL, w.before #[Value.ref b] s = true := fun w h => hts w (tbl_in w h)
  have hbA : ¬ AL s b := Nat.not_le.mpr hbl
  obtain ⟨hM, hN, hTL⟩ := hM0
  obtain ⟨n, hn, hn6⟩ := hX.1 0 (by decide)
  refine lv_aload_n hx hb dL_law_1184 rfl (lv_at hl 2 rfl) ?_
  refine lv_aload_n hx hb dL_law_1185 rfl (lv_at hl 3 rfl) ?_
  refine lv_iload_n hx hb dL_law_1186 rfl (lv_at hl 0 rfl) ?_
  refine lv_iconst (v := 1) hx hb dL_law_1187 (by decide) ?_
  refine lv_iadd hx hb dL_law_1188 ?_
  refine va_sld hx hb hXs hbl hbA hV.1 hin1 dL_law_1189 ?_
  refine lv_aload_n hx hb dL_law_1190 rfl (lv_at hl 3 rfl) ?_
  refine lv_iload_n hx hb dL_law_1191 rfl (lv_at hl 0 rfl) ?_
  refine lv_iconst (v := 2) hx hb dL_law_1192 (by decide) ?_
  refine lv_iadd hx hb dL_law_1193 ?_
  refine va_sld hx hb hXs hbl hbA hV.1 hin2 dL_law_1194 ?_
  obtain ⟨hS, hPX, hDX, hPR, hDR, hdis⟩ := id hV
  refine vp_callSl (W.runV (As := [.int (xs (nI i + 1).toNatClampNeg), .int (xs (nI i + 2).toNatClampNeg)]) (rest := []) ⟨hx, hb, hml, hown, hT⟩ (c_x11_readE l G aX SX H.size n ((xs (nI i + 1).toNatClampNeg)) ((xs (nI i + 2).toNatClampNeg)) (by assumption) (by assumption) (by assumption)) (tV 2 hT m5_86 m5_87 m5_88 m1_1 m5_89 rfl rfl (by decide +kernel) ⟨Nat.le_of_ble_eq_true rfl, Nat.le_of_ble_eq_true rfl⟩) ⟨PcW_blind, va_recv hK hPX (ci := 13) (q0 := 0) rfl (ix_at (lt71 (by omega)) (cX_0 G aX SX)), PcW_of hPX hK hDX _⟩ rfl rfl hl.1 rfl (lv_room (Nat.le_of_ble_eq_true rfl)) dL_law_1195 ⟨(by show cells + 0 ≤ 600000; omega), (by show slots + 0 ≤ 7302250; omega)⟩) (fun rX hwX => ?_)
  have hXK : XK 0 SX SX := xk_rf
  refine lv_pop2_2 hx hb dL_law_1198 rfl ?_
  refine lv_aload_n hx hb dL_law_1199 rfl (lv_at hl 1 rfl) ?_
  refine lv_aload_n hx hb dL_law_1200 rfl (lv_at hl 3 rfl) ?_
  refine lv_iload_n hx hb dL_law_1201 rfl (lv_at hl 0 rfl) ?_
  refine lv_iconst (v := 1) hx hb dL_law_1202 (by decide) ?_
  refine lv_iadd hx hb dL_law_1203 ?_
  refine va_sld hx hb hXs hbl hbA hV.1 hin1 dL_law_1204 ?_
  refine lv_aload_n hx hb dL_law_1205 rfl (lv_at hl 3 rfl) ?_
  refine lv_iload_n hx hb dL_law_1206 rfl (lv_at hl 0 rfl) ?_
  refine lv_iconst (v := 2) hx hb dL_law_1207 (by decide) ?_
  refine lv_iadd hx hb dL_law_1208 ?_
  refine va_sld hx hb hXs hbl hbA hV.1 hin2 dL_law_1209 ?_
  obtain ⟨hS, hPX, hDX, hPR, hDR, hdis⟩ := id hV
  obtain ⟨n', z', u', tx, tr, nc, r1, r2, rH, rV, r15, r5, r5b, r7, r7b, rc, r17, r17b, rT, r40, r40b, r20, r20b⟩ := ri_all hR
  refine lr_l hV (va_runV (As := [.int (xs (nI i + 1).toNatClampNeg), .int (xs (nI i + 2).toNatClampNeg)]) (rest := []) ⟨hx, hb, hml, hown, hT⟩ (c_read l G aR SR H.size ((xs (nI i + 1).toNatClampNeg)) ((xs (nI i + 2).toNatClampNeg)) (by assumption)) (tV 2 hT m7_168 m7_169 m7_170 m1_17 m7_171 rfl rfl (by decide +kernel) ⟨Nat.le_of_ble_eq_true rfl, Nat.le_of_ble_eq_true rfl⟩) ⟨PcW_blind, va_recv hK hPR (ci := 14) (q0 := 0) rfl (ix_at (by decide) (cR_0 G aR SR)), PcW_of hPR hK hDR _⟩ rfl rfl hl.1 rfl (lv_room (Nat.le_of_ble_eq_true rfl)) dL_law_1210 ⟨(by show cells + 0 ≤ 600000; omega), (by show slots + 0 ≤ 7302250; omega)⟩) (fun rR SR1 H locs hwR hV => ?_)
  try dsimp only at hwR
  obtain ⟨hR1, hRK⟩ := ri_E hR hwR.2
  have hL1 := lk_step hL hXK hRK
  have hrr := read_r hM.1 hM.2.2.2 hM.2.2.1 hwX hwR.1
  have hM1 := lm_step hM (Fr.rf : Fr (fun _ _ => False) SX SX) (fun q => q) (fun q => q) (fun t ht => (fun q => q)) (fun q => q) (fun q => q) (fun q => q) (fun c hc => ⟨(fun q => q), (fun q => q), (fun q => q)⟩) (rz_E hwR.2) hRK.2.2
  have hN1 : LN SX SR1 := ⟨hM1, nu_step hN (Fr.rf : Fr (fun _ _ => False) SX SX) (fun c hc => (fun q => q)), tl_step hTL hX (Fr.rf : Fr (fun _ _ => False) SX SX) (fun q => q) (fun q => q) (fun p k hp => (fun q => q)) (ry_E hwR.2)⟩
  refine lv_pop2_2 hx hb dL_law_1213 rfl ?_
  refine lv_goto (tgt := 1280) hx hb dL_law_1214 (by decide) ?_
  refine W.widen (k := cells + 12) (n := slots + 768) (by show cells + 0 ≤ cells + 12; omega) (by show slots + 0 ≤ slots + 768; omega) ?_
  exact kk aX SX SR1 H locs hV hX hR1 hL1 hN1 rfl
set_option maxHeartbeats 1600000 in
theorem law_35 {p : Program} {l : Launch} {e : Env} {s : State} {m : MethodId} {below : List Frame} {meth : Method} {c : Code} {H : Heap} {locs : List Loc} {cells slots : Nat} {Q : State → Prop} {ls : Array Slot} {b L i : Nat} {xs : Nat → Int32} {G : GG} {aX aR : Nat → Nat} {SX SR : FS} (C0 : lw_At p s m meth c b L xs) (hK : va_K G.1 vwCl (TYS G) s) (hE : EN G (AL s) s s.heap) (hin1 : vp_in (nI i + 1) L) (hin2 : vp_in (nI i + 2) L) (hin3 : vp_in (nI i + 3) L) (hin4 : vp_in (nI i + 4) L) (hin5 : vp_in (nI i + 5) L) (hV : LV G s H locs aX aR SX SR) (hX : XI SX) (hR : RI SR) (hL : LK SX SR) (hM0 : LN SX SR)
    (hl : lv_has ls 4 [(3, .int (nI i)), (2, .ref (aR 0)), (1, .ref (aX 0)), (0, .ref b)]) (hc : cells + 12 ≤ 600000) (hs : slots + 768 ≤ 7302250)
    (kk : ∀ (aX1 : Nat → Nat) (SX1 SR1 : FS) (H1 : Heap) (locs1 : List Loc), LV G s H1 locs1 aX1 aR SX1 SR1 → XI SX1 → RI SR1 → LK SX1 SR1 → LN SX1 SR1 → aX1 0 = aX 0 → W p l e room_1 s m #[Value.ref b] below meth c H1 locs1 (cells + 12) (slots + 768) Q (F0 m 1280 ls [])) : W p l e room_1 s m #[Value.ref b] below meth c H locs cells slots Q (F0 m 1217 ls []) := by
  obtain ⟨hx, hb, hr, hml, hown, hts, hXs, hbl, hlocks, hgv⟩ := id C0
  have hT : ∀ w ∈ TBL, w.before #[Value.ref b] s = true := fun w h => hts w (tbl_in w h)
  have hbA : ¬ AL s b := Nat.not_le.mpr hbl
  obtain ⟨hM, hN, hTL⟩ := hM0
  obtain ⟨n, hn, hn6⟩ := hX.1 0 (by decide)
  refine lv_aload_n hx hb dL_law_1217 rfl (lv_at hl 2 rfl) ?_
  refine lv_aload_n hx hb dL_law_1218 rfl (lv_at hl 3 rfl) ?_
  refine lv_iload_n hx hb dL_law_1219 rfl (lv_at hl 0 rfl) ?_
  refine lv_iconst (v := 1) hx hb dL_law_1220 (by decide) ?_
  refine lv_iadd hx hb dL_law_1221 ?_
  refine va_sld hx hb hXs hbl hbA hV.1 hin1 dL_law_1222 ?_
  refine lv_aload_n hx hb dL_law_1223 rfl (lv_at hl 3 rfl) ?_
  refine lv_iload_n hx hb dL_law_1224 rfl (lv_at hl 0 rfl) ?_
  refine lv_iconst (v := 2) hx hb dL_law_1225 (by decide) ?_
  refine lv_iadd hx hb dL_law_1226 ?_
  refine va_sld hx hb hXs hbl hbA hV.1 hin2 dL_law_1227 ?_
  refine lv_aload_n hx hb dL_law_1228 rfl (lv_at hl 3 rfl) ?_
  refine lv_iload_n hx hb dL_law_1229 rfl (lv_at hl 0 rfl) ?_
  refine lv_iconst (v := 3) hx hb dL_law_1230 (by decide) ?_
  refine lv_iadd hx hb dL_law_1231 ?_
  refine va_sld hx hb hXs hbl hbA hV.1 hin3 dL_law_1232 ?_
  refine lv_aload_n hx hb dL_law_1233 rfl (lv_at hl 3 rfl) ?_
  refine lv_iload_n hx hb dL_law_1234 rfl (lv_at hl 0 rfl) ?_
  refine lv_iconst (v := 4) hx hb dL_law_1235 (by decide) ?_
  refine lv_iadd hx hb dL_law_1236 ?_
  refine va_sld hx hb hXs hbl hbA hV.1 hin4 dL_law_1237 ?_
  refine lv_aload_n hx hb dL_law_1238 rfl (lv_at hl 3 rfl) ?_
  refine lv_iload_n hx hb dL_law_1239 rfl (lv_at hl 0 rfl) ?_
  refine lv_iconst (v := 5) hx hb dL_law_1240 (by decide) ?_
  refine lv_iadd hx hb dL_law_1241 ?_
  refine va_sld hx hb hXs hbl hbA hV.1 hin5 dL_law_1242 ?_
  obtain ⟨hS, hPX, hDX, hPR, hDR, hdis⟩ := id hV
  refine lx_i hV (va_runV (As := [.int (xs (nI i + 1).toNatClampNeg), .int (xs (nI i + 2).toNatClampNeg), .int (xs (nI i + 3).toNatClampNeg), .int (xs (nI i + 4).toNatClampNeg), .int (xs (nI i + 5).toNatClampNeg)]) (rest := []) ⟨hx, hb, hml, hown, hT⟩ (c_x11_shiftE l G aX SX H.size n ((xs (nI i + 1).toNatClampNeg)) ((xs (nI i + 2).toNatClampNeg)) ((xs (nI i + 3).toNatClampNeg)) ((xs (nI i + 4).toNatClampNeg)) ((xs (nI i + 5).toNatClampNeg)) (by assumption) (by assumption) (by assumption)) (tV 5 hT m5_90 m5_91 m5_92 m1_1 m5_93 rfl rfl (by decide +kernel) ⟨Nat.le_of_ble_eq_true rfl, Nat.le_of_ble_eq_true rfl⟩) ⟨PcW_blind, va_recv hK hPX (ci := 13) (q0 := 0) rfl (ix_at (lt71 (by omega)) (cX_0 G aX SX)), PcW_of hPX hK hDX _⟩ rfl rfl hl.1 rfl (lv_room (Nat.le_of_ble_eq_true rfl)) dL_law_1243 ⟨(by show cells + 0 ≤ 600000; omega), (by show slots + 0 ≤ 7302250; omega)⟩) (fun rX SX1 H locs hwX hV => ?_)
  try dsimp only at hwX
  have hXK : XK 0 SX SX1 := xk_fr hwX.2.1 (fun k h1 h2 q => by omega) (fun q => by omega) (fun k h1 h2 q => by omega)
  refine lv_pop hx hb dL_law_1246 rfl ?_
  refine lv_aload_n hx hb dL_law_1247 rfl (lv_at hl 1 rfl) ?_
  refine lv_aload_n hx hb dL_law_1248 rfl (lv_at hl 3 rfl) ?_
  refine lv_iload_n hx hb dL_law_1249 rfl (lv_at hl 0 rfl) ?_
  refine lv_iconst (v := 1) hx hb dL_law_1250 (by decide) ?_
  refine lv_iadd hx hb dL_law_1251 ?_
  refine va_sld hx hb hXs hbl hbA hV.1 hin1 dL_law_1252 ?_
  refine lv_aload_n hx hb dL_law_1253 rfl (lv_at hl 3 rfl) ?_
  refine lv_iload_n hx hb dL_law_1254 rfl (lv_at hl 0 rfl) ?_
  refine lv_iconst (v := 2) hx hb dL_law_1255 (by decide) ?_
  refine lv_iadd hx hb dL_law_1256 ?_
  refine va_sld hx hb hXs hbl hbA hV.1 hin2 dL_law_1257 ?_
  refine lv_aload_n hx hb dL_law_1258 rfl (lv_at hl 3 rfl) ?_
  refine lv_iload_n hx hb dL_law_1259 rfl (lv_at hl 0 rfl) ?_
  refine lv_iconst (v := 3) hx hb dL_law_1260 (by decide) ?_
  refine lv_iadd hx hb dL_law_1261 ?_
  refine va_sld hx hb hXs hbl hbA hV.1 hin3 dL_law_1262 ?_
  refine lv_aload_n hx hb dL_law_1263 rfl (lv_at hl 3 rfl) ?_
  refine lv_iload_n hx hb dL_law_1264 rfl (lv_at hl 0 rfl) ?_
  refine lv_iconst (v := 4) hx hb dL_law_1265 (by decide) ?_
  refine lv_iadd hx hb dL_law_1266 ?_
  refine va_sld hx hb hXs hbl hbA hV.1 hin4 dL_law_1267 ?_
  refine lv_aload_n hx hb dL_law_1268 rfl (lv_at hl 3 rfl) ?_
  refine lv_iload_n hx hb dL_law_1269 rfl (lv_at hl 0 rfl) ?_
  refine lv_iconst (v := 5) hx hb dL_law_1270 (by decide) ?_
  refine lv_iadd hx hb dL_law_1271 ?_
  refine va_sld hx hb hXs hbl hbA hV.1 hin5 dL_law_1272 ?_
  obtain ⟨hS, hPX, hDX, hPR, hDR, hdis⟩ := id hV
  obtain ⟨n', z', u', tx, tr, nc, r1, r2, rH, rV, r15, r5, r5b, r7, r7b, rc, r17, r17b, rT, r40, r40b, r20, r20b⟩ := ri_all hR
  refine lr_i hV (va_runV (As := [.int (xs (nI i + 1).toNatClampNeg), .int (xs (nI i + 2).toNatClampNeg), .int (xs (nI i + 3).toNatClampNeg), .int (xs (nI i + 4).toNatClampNeg), .int (xs (nI i + 5).toNatClampNeg)]) (rest := []) ⟨hx, hb, hml, hown, hT⟩ (c_shift l G aR SR H.size ((xs (nI i + 1).toNatClampNeg)) ((xs (nI i + 2).toNatClampNeg)) ((xs (nI i + 3).toNatClampNeg)) ((xs (nI i + 4).toNatClampNeg)) ((xs (nI i + 5).toNatClampNeg)) (by assumption)) (tV 5 hT m7_172 m7_173 m7_174 m1_17 m7_175 rfl rfl (by decide +kernel) ⟨Nat.le_of_ble_eq_true rfl, Nat.le_of_ble_eq_true rfl⟩) ⟨PcW_blind, va_recv hK hPR (ci := 14) (q0 := 0) rfl (ix_at (by decide) (cR_0 G aR SR)), PcW_of hPR hK hDR _⟩ rfl rfl hl.1 rfl (lv_room (Nat.le_of_ble_eq_true rfl)) dL_law_1273 ⟨(by show cells + 0 + 0 ≤ 600000; omega), (by show slots + 0 + 0 ≤ 7302250; omega)⟩) (fun rR SR1 H locs hwR hV => ?_)
  try dsimp only at hwR
  obtain ⟨hR1, hRK⟩ := ri_shift hR hwR.2
  have hL1 := lk_step hL hXK hRK
  have hz := rz_shift hwR.2
  obtain ⟨hrr, hT1⟩ := lk_shift hX hM.1 hwX.2.2 hwX.2.1 (fun q => by omega) (fun q => by omega) hwR.1 hz
  have hM1 := lm_L hM hwX.2.1 (fun q => by omega) (fun q => by omega) (fun q => by omega) (fun q => by omega) (fun q => by omega) (fun c hc => ⟨(fun q => by omega), (fun q => by omega), (fun q => by omega)⟩) hz hRK.2.2 hT1 (it_shift hX hM.1 hM.2.2.1 hwX.2.2 hrr hwR.1 hwR.2)
  have hN1 : LN SX1 SR1 := ⟨hM1, nu_step hN hwX.2.1 (fun c hc => (fun q => by omega)), tl_step hTL hX hwX.2.1 (fun q => by omega) (fun q => by omega) (fun p k hp => (fun q => by omega)) (ry_shift hwR.2)⟩
  refine lv_pop hx hb dL_law_1276 rfl ?_
  refine lv_goto (tgt := 1280) hx hb dL_law_1277 (by decide) ?_
  refine W.widen (k := cells + 12) (n := slots + 768) (by show cells + 0 + 0 ≤ cells + 12; omega) (by show slots + 0 + 0 ≤ slots + 768; omega) ?_
  exact kk aX SX1 SR1 H locs hV hwX.1 hR1 hL1 hN1 rfl
