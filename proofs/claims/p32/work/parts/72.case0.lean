set_option maxHeartbeats 1600000 in
theorem law_0 {p : Program} {l : Launch} {e : Env} {s : State} {m : MethodId} {below : List Frame} {meth : Method} {c : Code} {H : Heap} {locs : List Loc} {cells slots : Nat} {Q : State → Prop} {ls : Array Slot} {b L i : Nat} {xs : Nat → Int32} {G : GG} {aX aR : Nat → Nat} {SX SR : FS} (C0 : lw_At p s m meth c b L xs) (hK : va_K G.1 vwCl (TYS G) s) (hE : EN G (AL s) s s.heap) (hin1 : vp_in (nI i + 1) L) (hin2 : vp_in (nI i + 2) L) (hin3 : vp_in (nI i + 3) L) (hin4 : vp_in (nI i + 4) L) (hin5 : vp_in (nI i + 5) L) (hV : LV G s H locs aX aR SX SR) (hX : XI SX) (hR : RI SR) (hL : LK SX SR) (hM0 : LN SX SR)
    (hl : lv_has ls 4 [(3, .int (nI i)), (2, .ref (aR 0)), (1, .ref (aX 0)), (0, .ref b)]) (hc : cells + 12 ≤ 600000) (hs : slots + 768 ≤ 7302250)
    (kk : ∀ (aX1 : Nat → Nat) (SX1 SR1 : FS) (H1 : Heap) (locs1 : List Loc), LV G s H1 locs1 aX1 aR SX1 SR1 → XI SX1 → RI SR1 → LK SX1 SR1 → LN SX1 SR1 → aX1 0 = aX 0 → W p l e room_1 s m #[Value.ref b] below meth c H1 locs1 (cells + 12) (slots + 768) Q (F0 m 1280 ls [])) : W p l e room_1 s m #[Value.ref b] below meth c H locs cells slots Q (F0 m 192 ls []) := by
  obtain ⟨hx, hb, hr, hml, hown, hts, hXs, hbl, hlocks, hgv⟩ := id C0
  have hT : ∀ w ∈ TBL, w.before #[Value.ref b] s = true := fun w h => hts w (tbl_in w h)
  have hbA : ¬ AL s b := Nat.not_le.mpr hbl
  obtain ⟨hM, hN, hTL⟩ := hM0
  obtain ⟨n, hn, hn6⟩ := hX.1 0 (by decide)
  refine lv_aload_n hx hb dL_law_192 rfl (lv_at hl 2 rfl) ?_
  refine lv_aload_n hx hb dL_law_193 rfl (lv_at hl 3 rfl) ?_
  refine lv_iload_n hx hb dL_law_194 rfl (lv_at hl 0 rfl) ?_
  refine lv_iconst (v := 1) hx hb dL_law_195 (by decide) ?_
  refine lv_iadd hx hb dL_law_196 ?_
  refine va_sld hx hb hXs hbl hbA hV.1 hin1 dL_law_197 ?_
  refine lv_aload_n hx hb dL_law_198 rfl (lv_at hl 3 rfl) ?_
  refine lv_iload_n hx hb dL_law_199 rfl (lv_at hl 0 rfl) ?_
  refine lv_iconst (v := 2) hx hb dL_law_200 (by decide) ?_
  refine lv_iadd hx hb dL_law_201 ?_
  refine va_sld hx hb hXs hbl hbA hV.1 hin2 dL_law_202 ?_
  refine lv_aload_n hx hb dL_law_203 rfl (lv_at hl 3 rfl) ?_
  refine lv_iload_n hx hb dL_law_204 rfl (lv_at hl 0 rfl) ?_
  refine lv_iconst (v := 3) hx hb dL_law_205 (by decide) ?_
  refine lv_iadd hx hb dL_law_206 ?_
  refine va_sld hx hb hXs hbl hbA hV.1 hin3 dL_law_207 ?_
  obtain ⟨hS, hPX, hDX, hPR, hDR, hdis⟩ := id hV
  refine lx_i hV (va_runV (As := [.int (xs (nI i + 1).toNatClampNeg), .int (xs (nI i + 2).toNatClampNeg), .int (xs (nI i + 3).toNatClampNeg)]) (rest := []) ⟨hx, hb, hml, hown, hT⟩ (c_x11_customer l G aX SX H.size n ((xs (nI i + 1).toNatClampNeg)) ((xs (nI i + 2).toNatClampNeg)) ((xs (nI i + 3).toNatClampNeg)) (by assumption) (by assumption) (by assumption)) (tV 3 hT m2_104 m2_105 m2_106 m1_1 m2_107 rfl rfl (by decide +kernel) ⟨Nat.le_of_ble_eq_true rfl, Nat.le_of_ble_eq_true rfl⟩) ⟨PcW_blind, va_recv hK hPX (ci := 13) (q0 := 0) rfl (ix_at (lt71 (by omega)) (cX_0 G aX SX)), PcW_of hPX hK hDX _⟩ rfl rfl hl.1 rfl (lv_room (Nat.le_of_ble_eq_true rfl)) dL_law_208 ⟨(by show cells + 0 ≤ 600000; omega), (by show slots + 0 ≤ 7302250; omega)⟩) (fun rX SX1 H locs hwX hV => ?_)
  try dsimp only at hwX
  have hXK : XK 3 SX SX1 := xk_e 3 hwX.2.1 (fun k h1 h2 h3 q => by omega) (fun q => by omega) (fun k h1 h2 q => by omega)
  refine lv_pop hx hb dL_law_211 rfl ?_
  refine lv_aload_n hx hb dL_law_212 rfl (lv_at hl 1 rfl) ?_
  refine lv_aload_n hx hb dL_law_213 rfl (lv_at hl 3 rfl) ?_
  refine lv_iload_n hx hb dL_law_214 rfl (lv_at hl 0 rfl) ?_
  refine lv_iconst (v := 1) hx hb dL_law_215 (by decide) ?_
  refine lv_iadd hx hb dL_law_216 ?_
  refine va_sld hx hb hXs hbl hbA hV.1 hin1 dL_law_217 ?_
  refine lv_aload_n hx hb dL_law_218 rfl (lv_at hl 3 rfl) ?_
  refine lv_iload_n hx hb dL_law_219 rfl (lv_at hl 0 rfl) ?_
  refine lv_iconst (v := 2) hx hb dL_law_220 (by decide) ?_
  refine lv_iadd hx hb dL_law_221 ?_
  refine va_sld hx hb hXs hbl hbA hV.1 hin2 dL_law_222 ?_
  refine lv_aload_n hx hb dL_law_223 rfl (lv_at hl 3 rfl) ?_
  refine lv_iload_n hx hb dL_law_224 rfl (lv_at hl 0 rfl) ?_
  refine lv_iconst (v := 3) hx hb dL_law_225 (by decide) ?_
  refine lv_iadd hx hb dL_law_226 ?_
  refine va_sld hx hb hXs hbl hbA hV.1 hin3 dL_law_227 ?_
  obtain ⟨hS, hPX, hDX, hPR, hDR, hdis⟩ := id hV
  obtain ⟨n', z', u', tx, tr, nc, r1, r2, rH, rV, r15, r5, r5b, r7, r7b, rc, r17, r17b, rT, r40, r40b, r20, r20b⟩ := ri_all hR
  refine lr_i hV (va_runV (As := [.int (xs (nI i + 1).toNatClampNeg), .int (xs (nI i + 2).toNatClampNeg), .int (xs (nI i + 3).toNatClampNeg)]) (rest := []) ⟨hx, hb, hml, hown, hT⟩ (c_customer l G aR SR H.size n' ((xs (nI i + 1).toNatClampNeg)) ((xs (nI i + 2).toNatClampNeg)) ((xs (nI i + 3).toNatClampNeg)) (by assumption) (by assumption)) (tV 3 hT m6_94 m6_95 m6_96 m1_17 m6_97 rfl rfl (by decide +kernel) ⟨Nat.le_of_ble_eq_true rfl, Nat.le_of_ble_eq_true rfl⟩) ⟨PcW_blind, va_recv hK hPR (ci := 14) (q0 := 0) rfl (ix_at (by decide) (cR_0 G aR SR)), PcW_of hPR hK hDR _⟩ rfl rfl hl.1 rfl (lv_room (Nat.le_of_ble_eq_true rfl)) dL_law_228 ⟨(by show cells + 0 + 0 ≤ 600000; omega), (by show slots + 0 + 0 ≤ 7302250; omega)⟩) (fun rR SR1 H locs hwR hV => ?_)
  try dsimp only at hwR
  obtain ⟨hR1, hRK⟩ := ri_cust hR r1 r2 hwR.2
  obtain ⟨hrr, hL1⟩ := lk_cust hn hn6 hL hwX.2.2 hXK hwR.1 r1 r2 hwR.2 hRK
  have hM1 := lm_A hM hwX.2.1 (fun q => by omega) (fun q => by omega) (fun t ht => (fun q => by omega)) (rz_cust hwR.2) (ckk_cust2 hn hn6 hL hM.2.1 hwX.2.2 hwX.2.1 r1 r2 hwR.2)
  have hN1 : LN SX1 SR1 := ⟨hM1, nu_step hN hwX.2.1 (fun c hc => (fun q => by omega)), tl_step hTL hX hwX.2.1 (fun q => by omega) (fun q => by omega) (fun p k hp => (fun q => by omega)) (ry_if hwR.2 (ry_if rfl (ry_if rfl (ry_if rfl ry_T (ry_af (by omega) (by omega))) ry_T) ry_T) ry_T)⟩
  refine lv_pop hx hb dL_law_231 rfl ?_
  refine lv_goto (tgt := 1280) hx hb dL_law_232 (by decide) ?_
  refine W.widen (k := cells + 12) (n := slots + 768) (by show cells + 0 + 0 ≤ cells + 12; omega) (by show slots + 0 + 0 ≤ slots + 768; omega) ?_
  exact kk aX SX1 SR1 H locs hV hwX.1 hR1 hL1 hN1 rfl
set_option maxHeartbeats 1600000 in
theorem law_1 {p : Program} {l : Launch} {e : Env} {s : State} {m : MethodId} {below : List Frame} {meth : Method} {c : Code} {H : Heap} {locs : List Loc} {cells slots : Nat} {Q : State → Prop} {ls : Array Slot} {b L i : Nat} {xs : Nat → Int32} {G : GG} {aX aR : Nat → Nat} {SX SR : FS} (C0 : lw_At p s m meth c b L xs) (hK : va_K G.1 vwCl (TYS G) s) (hE : EN G (AL s) s s.heap) (hin1 : vp_in (nI i + 1) L) (hin2 : vp_in (nI i + 2) L) (hin3 : vp_in (nI i + 3) L) (hin4 : vp_in (nI i + 4) L) (hin5 : vp_in (nI i + 5) L) (hV : LV G s H locs aX aR SX SR) (hX : XI SX) (hR : RI SR) (hL : LK SX SR) (hM0 : LN SX SR)
    (hl : lv_has ls 4 [(3, .int (nI i)), (2, .ref (aR 0)), (1, .ref (aX 0)), (0, .ref b)]) (hc : cells + 12 ≤ 600000) (hs : slots + 768 ≤ 7302250)
    (kk : ∀ (aX1 : Nat → Nat) (SX1 SR1 : FS) (H1 : Heap) (locs1 : List Loc), LV G s H1 locs1 aX1 aR SX1 SR1 → XI SX1 → RI SR1 → LK SX1 SR1 → LN SX1 SR1 → aX1 0 = aX 0 → W p l e room_1 s m #[Value.ref b] below meth c H1 locs1 (cells + 12) (slots + 768) Q (F0 m 1280 ls [])) : W p l e room_1 s m #[Value.ref b] below meth c H locs cells slots Q (F0 m 235 ls []) := by
  obtain ⟨hx, hb, hr, hml, hown, hts, hXs, hbl, hlocks, hgv⟩ := id C0
  have hT : ∀ w ∈ TBL, w.before #[Value.ref b] s = true := fun w h => hts w (tbl_in w h)
  have hbA : ¬ AL s b := Nat.not_le.mpr hbl
  obtain ⟨hM, hN, hTL⟩ := hM0
  obtain ⟨n, hn, hn6⟩ := hX.1 0 (by decide)
  refine lv_aload_n hx hb dL_law_235 rfl (lv_at hl 2 rfl) ?_
  refine lv_aload_n hx hb dL_law_236 rfl (lv_at hl 3 rfl) ?_
  refine lv_iload_n hx hb dL_law_237 rfl (lv_at hl 0 rfl) ?_
  refine lv_iconst (v := 1) hx hb dL_law_238 (by decide) ?_
  refine lv_iadd hx hb dL_law_239 ?_
  refine va_sld hx hb hXs hbl hbA hV.1 hin1 dL_law_240 ?_
  refine lv_aload_n hx hb dL_law_241 rfl (lv_at hl 3 rfl) ?_
  refine lv_iload_n hx hb dL_law_242 rfl (lv_at hl 0 rfl) ?_
  refine lv_iconst (v := 2) hx hb dL_law_243 (by decide) ?_
  refine lv_iadd hx hb dL_law_244 ?_
  refine va_sld hx hb hXs hbl hbA hV.1 hin2 dL_law_245 ?_
  obtain ⟨hS, hPX, hDX, hPR, hDR, hdis⟩ := id hV
  refine vp_callSi (W.runV (As := [.int (xs (nI i + 1).toNatClampNeg), .int (xs (nI i + 2).toNatClampNeg)]) (rest := []) ⟨hx, hb, hml, hown, hT⟩ (c_x11_of l G aX SX H.size n ((xs (nI i + 1).toNatClampNeg)) ((xs (nI i + 2).toNatClampNeg)) (by assumption) (by assumption) (by assumption)) (tV 2 hT m2_116 m2_117 m2_118 m1_1 m2_119 rfl rfl (by decide +kernel) ⟨Nat.le_of_ble_eq_true rfl, Nat.le_of_ble_eq_true rfl⟩) ⟨PcW_blind, va_recv hK hPX (ci := 13) (q0 := 0) rfl (ix_at (lt71 (by omega)) (cX_0 G aX SX)), PcW_of hPX hK hDX _⟩ rfl rfl hl.1 rfl (lv_room (Nat.le_of_ble_eq_true rfl)) dL_law_246 ⟨(by show cells + 0 ≤ 600000; omega), (by show slots + 0 ≤ 7302250; omega)⟩) (fun rX hwX => ?_)
  have hXK : XK 0 SX SX := xk_rf
  refine lv_pop hx hb dL_law_249 rfl ?_
  refine lv_aload_n hx hb dL_law_250 rfl (lv_at hl 1 rfl) ?_
  refine lv_aload_n hx hb dL_law_251 rfl (lv_at hl 3 rfl) ?_
  refine lv_iload_n hx hb dL_law_252 rfl (lv_at hl 0 rfl) ?_
  refine lv_iconst (v := 1) hx hb dL_law_253 (by decide) ?_
  refine lv_iadd hx hb dL_law_254 ?_
  refine va_sld hx hb hXs hbl hbA hV.1 hin1 dL_law_255 ?_
  refine lv_aload_n hx hb dL_law_256 rfl (lv_at hl 3 rfl) ?_
  refine lv_iload_n hx hb dL_law_257 rfl (lv_at hl 0 rfl) ?_
  refine lv_iconst (v := 2) hx hb dL_law_258 (by decide) ?_
  refine lv_iadd hx hb dL_law_259 ?_
  refine va_sld hx hb hXs hbl hbA hV.1 hin2 dL_law_260 ?_
  obtain ⟨hS, hPX, hDX, hPR, hDR, hdis⟩ := id hV
  obtain ⟨n', z', u', tx, tr, nc, r1, r2, rH, rV, r15, r5, r5b, r7, r7b, rc, r17, r17b, rT, r40, r40b, r20, r20b⟩ := ri_all hR
  refine lr_i hV (va_runV (As := [.int (xs (nI i + 1).toNatClampNeg), .int (xs (nI i + 2).toNatClampNeg)]) (rest := []) ⟨hx, hb, hml, hown, hT⟩ (c_of l G aR SR H.size n' ((xs (nI i + 1).toNatClampNeg)) ((xs (nI i + 2).toNatClampNeg)) (by assumption) (by assumption) (by assumption) (by assumption) (by assumption)) (tV 2 hT m6_106 m6_107 m6_108 m1_17 m6_109 rfl rfl (by decide +kernel) ⟨Nat.le_of_ble_eq_true rfl, Nat.le_of_ble_eq_true rfl⟩) ⟨PcW_blind, va_recv hK hPR (ci := 14) (q0 := 0) rfl (ix_at (by decide) (cR_0 G aR SR)), PcW_of hPR hK hDR _⟩ rfl rfl hl.1 rfl (lv_room (Nat.le_of_ble_eq_true rfl)) dL_law_261 ⟨(by show cells + 0 ≤ 600000; omega), (by show slots + 0 ≤ 7302250; omega)⟩) (fun rR SR1 H locs hwR hV => ?_)
  try dsimp only at hwR
  obtain ⟨hR1, hRK⟩ := ri_H hR hwR
  have hL1 := lk_step hL hXK hRK
  have hM1 := lm_step hM (Fr.rf : Fr (fun _ _ => False) SX SX) (fun q => q) (fun q => q) (fun t ht => (fun q => q)) (fun q => q) (fun q => q) (fun q => q) (fun c hc => ⟨(fun q => q), (fun q => q), (fun q => q)⟩) (rz_H hwR) hRK.2.2
  have hN1 : LN SX SR1 := ⟨hM1, nu_step hN (Fr.rf : Fr (fun _ _ => False) SX SX) (fun c hc => (fun q => q)), tl_step hTL hX (Fr.rf : Fr (fun _ _ => False) SX SX) (fun q => q) (fun q => q) (fun p k hp => (fun q => q)) (ry_H hwR)⟩
  refine lv_pop hx hb dL_law_264 rfl ?_
  refine lv_goto (tgt := 1280) hx hb dL_law_265 (by decide) ?_
  refine W.widen (k := cells + 12) (n := slots + 768) (by show cells + 0 ≤ cells + 12; omega) (by show slots + 0 ≤ slots + 768; omega) ?_
  exact kk aX SX SR1 H locs hV hX hR1 hL1 hN1 rfl
set_option maxHeartbeats 1600000 in
theorem law_2 {p : Program} {l : Launch} {e : Env} {s : State} {m : MethodId} {below : List Frame} {meth : Method} {c : Code} {H : Heap} {locs : List Loc} {cells slots : Nat} {Q : State → Prop} {ls : Array Slot} {b L i : Nat} {xs : Nat → Int32} {G : GG} {aX aR : Nat → Nat} {SX SR : FS} (C0 : lw_At p s m meth c b L xs) (hK : va_K G.1 vwCl (TYS G) s) (hE : EN G (AL s) s s.heap) (hin1 : vp_in (nI i + 1) L) (hin2 : vp_in (nI i + 2) L) (hin3 : vp_in (nI i + 3) L) (hin4 : vp_in (nI i + 4) L) (hin5 : vp_in (nI i + 5) L) (hV : LV G s H locs aX aR SX SR) (hX : XI SX) (hR : RI SR) (hL : LK SX SR) (hM0 : LN SX SR)
    (hl : lv_has ls 4 [(3, .int (nI i)), (2, .ref (aR 0)), (1, .ref (aX 0)), (0, .ref b)]) (hc : cells + 12 ≤ 600000) (hs : slots + 768 ≤ 7302250)
    (kk : ∀ (aX1 : Nat → Nat) (SX1 SR1 : FS) (H1 : Heap) (locs1 : List Loc), LV G s H1 locs1 aX1 aR SX1 SR1 → XI SX1 → RI SR1 → LK SX1 SR1 → LN SX1 SR1 → aX1 0 = aX 0 → W p l e room_1 s m #[Value.ref b] below meth c H1 locs1 (cells + 12) (slots + 768) Q (F0 m 1280 ls [])) : W p l e room_1 s m #[Value.ref b] below meth c H locs cells slots Q (F0 m 268 ls []) := by
  obtain ⟨hx, hb, hr, hml, hown, hts, hXs, hbl, hlocks, hgv⟩ := id C0
  have hT : ∀ w ∈ TBL, w.before #[Value.ref b] s = true := fun w h => hts w (tbl_in w h)
  have hbA : ¬ AL s b := Nat.not_le.mpr hbl
  obtain ⟨hM, hN, hTL⟩ := hM0
  obtain ⟨n, hn, hn6⟩ := hX.1 0 (by decide)
  refine lv_aload_n hx hb dL_law_268 rfl (lv_at hl 2 rfl) ?_
  refine lv_aload_n hx hb dL_law_269 rfl (lv_at hl 3 rfl) ?_
  refine lv_iload_n hx hb dL_law_270 rfl (lv_at hl 0 rfl) ?_
  refine lv_iconst (v := 1) hx hb dL_law_271 (by decide) ?_
  refine lv_iadd hx hb dL_law_272 ?_
  refine va_sld hx hb hXs hbl hbA hV.1 hin1 dL_law_273 ?_
  refine lv_aload_n hx hb dL_law_274 rfl (lv_at hl 3 rfl) ?_
  refine lv_iload_n hx hb dL_law_275 rfl (lv_at hl 0 rfl) ?_
  refine lv_iconst (v := 2) hx hb dL_law_276 (by decide) ?_
  refine lv_iadd hx hb dL_law_277 ?_
  refine va_sld hx hb hXs hbl hbA hV.1 hin2 dL_law_278 ?_
  refine lv_aload_n hx hb dL_law_279 rfl (lv_at hl 3 rfl) ?_
  refine lv_iload_n hx hb dL_law_280 rfl (lv_at hl 0 rfl) ?_
  refine lv_iconst (v := 3) hx hb dL_law_281 (by decide) ?_
  refine lv_iadd hx hb dL_law_282 ?_
  refine va_sld hx hb hXs hbl hbA hV.1 hin3 dL_law_283 ?_
  obtain ⟨hS, hPX, hDX, hPR, hDR, hdis⟩ := id hV
  refine lx_i hV (va_runV (As := [.int (xs (nI i + 1).toNatClampNeg), .int (xs (nI i + 2).toNatClampNeg), .int (xs (nI i + 3).toNatClampNeg)]) (rest := []) ⟨hx, hb, hml, hown, hT⟩ (c_x11_set l G aX SX H.size n ((xs (nI i + 1).toNatClampNeg)) ((xs (nI i + 2).toNatClampNeg)) ((xs (nI i + 3).toNatClampNeg)) (by assumption) (by assumption) (by assumption)) (tV 3 hT m2_193 m2_194 m2_195 m1_1 m2_196 rfl rfl (by decide +kernel) ⟨Nat.le_of_ble_eq_true rfl, Nat.le_of_ble_eq_true rfl⟩) ⟨PcW_blind, va_recv hK hPX (ci := 13) (q0 := 0) rfl (ix_at (lt71 (by omega)) (cX_0 G aX SX)), PcW_of hPX hK hDX _⟩ rfl rfl hl.1 rfl (lv_room (Nat.le_of_ble_eq_true rfl)) dL_law_284 ⟨(by show cells + 0 ≤ 600000; omega), (by show slots + 0 ≤ 7302250; omega)⟩) (fun rX SX1 H locs hwX hV => ?_)
  try dsimp only at hwX
  have hXK : XK 0 SX SX1 := xk_fr hwX.2.1 (fun k h1 h2 q => by omega) (fun q => by omega) (fun k h1 h2 q => by omega)
  refine lv_pop hx hb dL_law_287 rfl ?_
  refine lv_aload_n hx hb dL_law_288 rfl (lv_at hl 1 rfl) ?_
  refine lv_aload_n hx hb dL_law_289 rfl (lv_at hl 3 rfl) ?_
  refine lv_iload_n hx hb dL_law_290 rfl (lv_at hl 0 rfl) ?_
  refine lv_iconst (v := 1) hx hb dL_law_291 (by decide) ?_
  refine lv_iadd hx hb dL_law_292 ?_
  refine va_sld hx hb hXs hbl hbA hV.1 hin1 dL_law_293 ?_
  refine lv_aload_n hx hb dL_law_294 rfl (lv_at hl 3 rfl) ?_
  refine lv_iload_n hx hb dL_law_295 rfl (lv_at hl 0 rfl) ?_
  refine lv_iconst (v := 2) hx hb dL_law_296 (by decide) ?_
  refine lv_iadd hx hb dL_law_297 ?_
  refine va_sld hx hb hXs hbl hbA hV.1 hin2 dL_law_298 ?_
  refine lv_aload_n hx hb dL_law_299 rfl (lv_at hl 3 rfl) ?_
  refine lv_iload_n hx hb dL_law_300 rfl (lv_at hl 0 rfl) ?_
  refine lv_iconst (v := 3) hx hb dL_law_301 (by decide) ?_
  refine lv_iadd hx hb dL_law_302 ?_
  refine va_sld hx hb hXs hbl hbA hV.1 hin3 dL_law_303 ?_
  obtain ⟨hS, hPX, hDX, hPR, hDR, hdis⟩ := id hV
  obtain ⟨n', z', u', tx, tr, nc, r1, r2, rH, rV, r15, r5, r5b, r7, r7b, rc, r17, r17b, rT, r40, r40b, r20, r20b⟩ := ri_all hR
  refine lr_i hV (va_runV (As := [.int (xs (nI i + 1).toNatClampNeg), .int (xs (nI i + 2).toNatClampNeg), .int (xs (nI i + 3).toNatClampNeg)]) (rest := []) ⟨hx, hb, hml, hown, hT⟩ (c_set l G aR SR H.size n' ((xs (nI i + 1).toNatClampNeg)) ((xs (nI i + 2).toNatClampNeg)) ((xs (nI i + 3).toNatClampNeg)) (by assumption) (by assumption)) (tV 3 hT m6_158 m6_159 m6_160 m1_17 m6_161 rfl rfl (by decide +kernel) ⟨Nat.le_of_ble_eq_true rfl, Nat.le_of_ble_eq_true rfl⟩) ⟨PcW_blind, va_recv hK hPR (ci := 14) (q0 := 0) rfl (ix_at (by decide) (cR_0 G aR SR)), PcW_of hPR hK hDR _⟩ rfl rfl hl.1 rfl (lv_room (Nat.le_of_ble_eq_true rfl)) dL_law_304 ⟨(by show cells + 0 + 0 ≤ 600000; omega), (by show slots + 0 + 0 ≤ 7302250; omega)⟩) (fun rR SR1 H locs hwR hV => ?_)
  try dsimp only at hwR
  obtain ⟨hR1, hRK⟩ := ri_set hR (slw_m _ _) hwR.2
  have hL1 := lk_step hL hXK hRK
  have hM1 := lm_step hM hwX.2.1 (fun q => by omega) (fun q => by omega) (fun t ht => (fun q => by omega)) (fun q => by omega) (fun q => by omega) (fun q => by omega) (fun c hc => ⟨(fun q => by omega), (fun q => by omega), (fun q => by omega)⟩) (rz_set (slw_r _ _) hwR.2) hRK.2.2
  have hN1 : LN SX1 SR1 := ⟨hM1, nu_step hN hwX.2.1 (fun c hc => (fun q => by omega)), tl_step hTL hX hwX.2.1 (fun q => by omega) (fun q => by omega) (fun p k hp => (fun q => by omega)) (ry_if hwR.2 (ry_if rfl (ry_if rfl (ry_a (by omega)) ry_T) ry_T) ry_T)⟩
  refine lv_pop hx hb dL_law_307 rfl ?_
  refine lv_goto (tgt := 1280) hx hb dL_law_308 (by decide) ?_
  refine W.widen (k := cells + 12) (n := slots + 768) (by show cells + 0 + 0 ≤ cells + 12; omega) (by show slots + 0 + 0 ≤ slots + 768; omega) ?_
  exact kk aX SX1 SR1 H locs hV hwX.1 hR1 hL1 hN1 rfl
set_option maxHeartbeats 1600000 in
theorem law_3 {p : Program} {l : Launch} {e : Env} {s : State} {m : MethodId} {below : List Frame} {meth : Method} {c : Code} {H : Heap} {locs : List Loc} {cells slots : Nat} {Q : State → Prop} {ls : Array Slot} {b L i : Nat} {xs : Nat → Int32} {G : GG} {aX aR : Nat → Nat} {SX SR : FS} (C0 : lw_At p s m meth c b L xs) (hK : va_K G.1 vwCl (TYS G) s) (hE : EN G (AL s) s s.heap) (hin1 : vp_in (nI i + 1) L) (hin2 : vp_in (nI i + 2) L) (hin3 : vp_in (nI i + 3) L) (hin4 : vp_in (nI i + 4) L) (hin5 : vp_in (nI i + 5) L) (hV : LV G s H locs aX aR SX SR) (hX : XI SX) (hR : RI SR) (hL : LK SX SR) (hM0 : LN SX SR)
    (hl : lv_has ls 4 [(3, .int (nI i)), (2, .ref (aR 0)), (1, .ref (aX 0)), (0, .ref b)]) (hc : cells + 12 ≤ 600000) (hs : slots + 768 ≤ 7302250)
    (kk : ∀ (aX1 : Nat → Nat) (SX1 SR1 : FS) (H1 : Heap) (locs1 : List Loc), LV G s H1 locs1 aX1 aR SX1 SR1 → XI SX1 → RI SR1 → LK SX1 SR1 → LN SX1 SR1 → aX1 0 = aX 0 → W p l e room_1 s m #[Value.ref b] below meth c H1 locs1 (cells + 12) (slots + 768) Q (F0 m 1280 ls [])) : W p l e room_1 s m #[Value.ref b] below meth c H locs cells slots Q (F0 m 311 ls []) := by
  obtain ⟨hx, hb, hr, hml, hown, hts, hXs, hbl, hlocks, hgv⟩ := id C0
  have hT : ∀ w ∈ TBL, w.before #[Value.ref b] s = true := fun w h => hts w (tbl_in w h)
  have hbA : ¬ AL s b := Nat.not_le.mpr hbl
  obtain ⟨hM, hN, hTL⟩ := hM0
  obtain ⟨n, hn, hn6⟩ := hX.1 0 (by decide)
  refine lv_aload_n hx hb dL_law_311 rfl (lv_at hl 2 rfl) ?_
  refine lv_aload_n hx hb dL_law_312 rfl (lv_at hl 3 rfl) ?_
  refine lv_iload_n hx hb dL_law_313 rfl (lv_at hl 0 rfl) ?_
  refine lv_iconst (v := 1) hx hb dL_law_314 (by decide) ?_
  refine lv_iadd hx hb dL_law_315 ?_
  refine va_sld hx hb hXs hbl hbA hV.1 hin1 dL_law_316 ?_
  refine lv_aload_n hx hb dL_law_317 rfl (lv_at hl 3 rfl) ?_
  refine lv_iload_n hx hb dL_law_318 rfl (lv_at hl 0 rfl) ?_
  refine lv_iconst (v := 2) hx hb dL_law_319 (by decide) ?_
  refine lv_iadd hx hb dL_law_320 ?_
  refine va_sld hx hb hXs hbl hbA hV.1 hin2 dL_law_321 ?_
  refine lv_aload_n hx hb dL_law_322 rfl (lv_at hl 3 rfl) ?_
  refine lv_iload_n hx hb dL_law_323 rfl (lv_at hl 0 rfl) ?_
  refine lv_iconst (v := 3) hx hb dL_law_324 (by decide) ?_
  refine lv_iadd hx hb dL_law_325 ?_
  refine va_sld hx hb hXs hbl hbA hV.1 hin3 dL_law_326 ?_
  obtain ⟨hS, hPX, hDX, hPR, hDR, hdis⟩ := id hV
  have hFc := va_self hDX hS (fun q h => h)
  refine lx_i hV (va_runV (As := [.int (xs (nI i + 1).toNatClampNeg), .int (xs (nI i + 2).toNatClampNeg), .int (xs (nI i + 3).toNatClampNeg)]) (rest := []) ⟨hx, hb, hml, hown, hT⟩ (c_x11_rowE l G aX SX H.size n ((xs (nI i + 1).toNatClampNeg)) ((xs (nI i + 2).toNatClampNeg)) ((xs (nI i + 3).toNatClampNeg)) (by assumption) (by assumption) (by assumption)) (tV 3 hT m2_197 m2_198 m2_199 m1_1 m2_200 rfl rfl (by decide +kernel) ⟨Nat.le_of_ble_eq_true rfl, Nat.le_of_ble_eq_true rfl⟩) ⟨PcE_blind, va_recv hK hPX (ci := 13) (q0 := 0) rfl (ix_at (lt71 (by omega)) (cX_0 G aX SX)), PcE_of hPX hK hDX hE hS (fun q h => hFc q h) _⟩ rfl rfl hl.1 rfl (lv_room (Nat.le_of_ble_eq_true rfl)) dL_law_327 ⟨(by show cells + 0 ≤ 600000; omega), (by show slots + 0 ≤ 7302250; omega)⟩) (fun rX SX1 H locs hwX hV => ?_)
  try dsimp only at hwX
  have hXK : XK 0 SX SX1 := xk_fr hwX.2.1 (fun k h1 h2 q => by omega) (fun q => by omega) (fun k h1 h2 q => by omega)
  refine lv_pop hx hb dL_law_330 rfl ?_
  refine lv_aload_n hx hb dL_law_331 rfl (lv_at hl 1 rfl) ?_
  refine lv_aload_n hx hb dL_law_332 rfl (lv_at hl 3 rfl) ?_
  refine lv_iload_n hx hb dL_law_333 rfl (lv_at hl 0 rfl) ?_
  refine lv_iconst (v := 1) hx hb dL_law_334 (by decide) ?_
  refine lv_iadd hx hb dL_law_335 ?_
  refine va_sld hx hb hXs hbl hbA hV.1 hin1 dL_law_336 ?_
  refine lv_aload_n hx hb dL_law_337 rfl (lv_at hl 3 rfl) ?_
  refine lv_iload_n hx hb dL_law_338 rfl (lv_at hl 0 rfl) ?_
  refine lv_iconst (v := 2) hx hb dL_law_339 (by decide) ?_
  refine lv_iadd hx hb dL_law_340 ?_
  refine va_sld hx hb hXs hbl hbA hV.1 hin2 dL_law_341 ?_
  refine lv_aload_n hx hb dL_law_342 rfl (lv_at hl 3 rfl) ?_
  refine lv_iload_n hx hb dL_law_343 rfl (lv_at hl 0 rfl) ?_
  refine lv_iconst (v := 3) hx hb dL_law_344 (by decide) ?_
  refine lv_iadd hx hb dL_law_345 ?_
  refine va_sld hx hb hXs hbl hbA hV.1 hin3 dL_law_346 ?_
  obtain ⟨hS, hPX, hDX, hPR, hDR, hdis⟩ := id hV
  obtain ⟨n', z', u', tx, tr, nc, r1, r2, rH, rV, r15, r5, r5b, r7, r7b, rc, r17, r17b, rT, r40, r40b, r20, r20b⟩ := ri_all hR
  refine lr_i hV (va_runV (As := [.int (xs (nI i + 1).toNatClampNeg), .int (xs (nI i + 2).toNatClampNeg), .int (xs (nI i + 3).toNatClampNeg)]) (rest := []) ⟨hx, hb, hml, hown, hT⟩ (c_row l G aR SR H.size n' ((xs (nI i + 1).toNatClampNeg)) ((xs (nI i + 2).toNatClampNeg)) ((xs (nI i + 3).toNatClampNeg)) (by assumption) (by assumption)) (tV 3 hT m6_167 m6_168 m6_169 m1_17 m6_170 rfl rfl (by decide +kernel) ⟨Nat.le_of_ble_eq_true rfl, Nat.le_of_ble_eq_true rfl⟩) ⟨PcW_blind, va_recv hK hPR (ci := 14) (q0 := 0) rfl (ix_at (by decide) (cR_0 G aR SR)), PcW_of hPR hK hDR _⟩ rfl rfl hl.1 rfl (lv_room (Nat.le_of_ble_eq_true rfl)) dL_law_347 ⟨(by show cells + 0 + 0 ≤ 600000; omega), (by show slots + 0 + 0 ≤ 7302250; omega)⟩) (fun rR SR1 H locs hwR hV => ?_)
  try dsimp only at hwR
  have h1 := n_of_lk hn hL
  obtain ⟨hR1, hRK⟩ := ri_row hR hwR.2
  have hL1 := lk_step hL hXK hRK
  have hrr := row_r h1 hn6 (hM.2.1.1 n hn hn6) hwX.2.2 hwR.1
  have hM1 := lm_A hM hwX.2.1 (fun q => by omega) (fun q => by omega) (fun t ht => (fun q => by omega)) (rz_row hwR.2) (ckk_row hn h1 hn6 hM.2.1 hwX.2.2 hwR.2)
  have hN1 : LN SX1 SR1 := ⟨hM1, nu_step hN hwX.2.1 (fun c hc => (fun q => by omega)), tl_step hTL hX hwX.2.1 (fun q => by omega) (fun q => by omega) (fun p k hp => (fun q => by omega)) (ry_if hwR.2 (ry_if rfl (ry_if rfl (ry_if rfl (ry_a (by omega)) ry_T) ry_T) ry_T) ry_T)⟩
  refine lv_pop hx hb dL_law_350 rfl ?_
  refine lv_goto (tgt := 1280) hx hb dL_law_351 (by decide) ?_
  refine W.widen (k := cells + 12) (n := slots + 768) (by show cells + 0 + 0 ≤ cells + 12; omega) (by show slots + 0 + 0 ≤ slots + 768; omega) ?_
  exact kk aX SX1 SR1 H locs hV hwX.1 hR1 hL1 hN1 rfl
set_option maxHeartbeats 1600000 in
theorem law_4 {p : Program} {l : Launch} {e : Env} {s : State} {m : MethodId} {below : List Frame} {meth : Method} {c : Code} {H : Heap} {locs : List Loc} {cells slots : Nat} {Q : State → Prop} {ls : Array Slot} {b L i : Nat} {xs : Nat → Int32} {G : GG} {aX aR : Nat → Nat} {SX SR : FS} (C0 : lw_At p s m meth c b L xs) (hK : va_K G.1 vwCl (TYS G) s) (hE : EN G (AL s) s s.heap) (hin1 : vp_in (nI i + 1) L) (hin2 : vp_in (nI i + 2) L) (hin3 : vp_in (nI i + 3) L) (hin4 : vp_in (nI i + 4) L) (hin5 : vp_in (nI i + 5) L) (hV : LV G s H locs aX aR SX SR) (hX : XI SX) (hR : RI SR) (hL : LK SX SR) (hM0 : LN SX SR)
    (hl : lv_has ls 4 [(3, .int (nI i)), (2, .ref (aR 0)), (1, .ref (aX 0)), (0, .ref b)]) (hc : cells + 12 ≤ 600000) (hs : slots + 768 ≤ 7302250)
    (kk : ∀ (aX1 : Nat → Nat) (SX1 SR1 : FS) (H1 : Heap) (locs1 : List Loc), LV G s H1 locs1 aX1 aR SX1 SR1 → XI SX1 → RI SR1 → LK SX1 SR1 → LN SX1 SR1 → aX1 0 = aX 0 → W p l e room_1 s m #[Value.ref b] below meth c H1 locs1 (cells + 12) (slots + 768) Q (F0 m 1280 ls [])) : W p l e room_1 s m #[Value.ref b] below meth c H locs cells slots Q (F0 m 354 ls []) := by
  obtain ⟨hx, hb, hr, hml, hown, hts, hXs, hbl, hlocks, hgv⟩ := id C0
  have hT : ∀ w ∈ TBL, w.before #[Value.ref b] s = true := fun w h => hts w (tbl_in w h)
  have hbA : ¬ AL s b := Nat.not_le.mpr hbl
  obtain ⟨hM, hN, hTL⟩ := hM0
  obtain ⟨n, hn, hn6⟩ := hX.1 0 (by decide)
  refine lv_aload_n hx hb dL_law_354 rfl (lv_at hl 2 rfl) ?_
  refine lv_aload_n hx hb dL_law_355 rfl (lv_at hl 3 rfl) ?_
  refine lv_iload_n hx hb dL_law_356 rfl (lv_at hl 0 rfl) ?_
  refine lv_iconst (v := 1) hx hb dL_law_357 (by decide) ?_
  refine lv_iadd hx hb dL_law_358 ?_
  refine va_sld hx hb hXs hbl hbA hV.1 hin1 dL_law_359 ?_
  obtain ⟨hS, hPX, hDX, hPR, hDR, hdis⟩ := id hV
  obtain ⟨⟨t, ht, ht100⟩, -⟩ := hX.2.2.2.2.2.2.2.1
  refine lx_i hV (va_runV (As := [.int (xs (nI i + 1).toNatClampNeg)]) (rest := []) ⟨hx, hb, hml, hown, hT⟩ (c_x11_feed l G aX SX H.size n t ((xs (nI i + 1).toNatClampNeg)) (by assumption) (by assumption) (by assumption) (by assumption) (by assumption)) (tV 1 hT m2_201 m2_202 m2_203 m1_1 m2_204 rfl rfl (by decide +kernel) ⟨Nat.le_of_ble_eq_true rfl, Nat.le_of_ble_eq_true rfl⟩) ⟨PcW_blind, va_recv hK hPX (ci := 13) (q0 := 0) rfl (ix_at (lt71 (by omega)) (cX_0 G aX SX)), PcW_of hPX hK hDX _⟩ rfl rfl hl.1 rfl (lv_room (Nat.le_of_ble_eq_true rfl)) dL_law_360 ⟨(by show cells + 0 ≤ 600000; omega), (by show slots + 0 ≤ 7302250; omega)⟩) (fun rX SX1 H locs hwX hV => ?_)
  try dsimp only at hwX
  have hXK : XK 0 SX SX1 := xk_fr hwX.2.1 (fun k h1 h2 q => by omega) (fun q => by omega) (fun k h1 h2 q => by omega)
  refine lv_pop hx hb dL_law_363 rfl ?_
  refine lv_aload_n hx hb dL_law_364 rfl (lv_at hl 1 rfl) ?_
  refine lv_aload_n hx hb dL_law_365 rfl (lv_at hl 3 rfl) ?_
  refine lv_iload_n hx hb dL_law_366 rfl (lv_at hl 0 rfl) ?_
  refine lv_iconst (v := 1) hx hb dL_law_367 (by decide) ?_
  refine lv_iadd hx hb dL_law_368 ?_
  refine va_sld hx hb hXs hbl hbA hV.1 hin1 dL_law_369 ?_
  obtain ⟨hS, hPX, hDX, hPR, hDR, hdis⟩ := id hV
  obtain ⟨n', z', u', tx, tr, nc, r1, r2, rH, rV, r15, r5, r5b, r7, r7b, rc, r17, r17b, rT, r40, r40b, r20, r20b⟩ := ri_all hR
  refine lr_i hV (va_runV (As := [.int (xs (nI i + 1).toNatClampNeg)]) (rest := []) ⟨hx, hb, hml, hown, hT⟩ (c_feed l G aR SR H.size tx ((xs (nI i + 1).toNatClampNeg)) (by assumption) (by assumption)) (tV 1 hT m6_26 m6_27 m6_28 m1_17 m6_29 rfl rfl (by decide +kernel) ⟨Nat.le_of_ble_eq_true rfl, Nat.le_of_ble_eq_true rfl⟩) ⟨PcW_blind, va_recv hK hPR (ci := 14) (q0 := 0) rfl (ix_at (by decide) (cR_0 G aR SR)), PcW_of hPR hK hDR _⟩ rfl rfl hl.1 rfl (lv_room (Nat.le_of_ble_eq_true rfl)) dL_law_370 ⟨(by show cells + 0 + 0 ≤ 600000; omega), (by show slots + 0 + 0 ≤ 7302250; omega)⟩) (fun rR SR1 H locs hwR hV => ?_)
  try dsimp only at hwR
  obtain ⟨hR1, hRK⟩ := ri_feed hR r17 r17b hwR.2
  have hL1 := lk_step hL hXK hRK
  have hM1 := lm_step hM hwX.2.1 (fun q => by omega) (fun q => by omega) (fun t ht => (fun q => by omega)) (fun q => by omega) (fun q => by omega) (fun q => by omega) (fun c hc => ⟨(fun q => by omega), (fun q => by omega), (fun q => by omega)⟩) (rz_feed hwR.2) hRK.2.2
  have hN1 : LN SX1 SR1 := ⟨hM1, nu_step hN hwX.2.1 (fun c hc => (fun q => by omega)), tl_step hTL hX hwX.2.1 (fun q => by omega) (fun q => by omega) (fun p k hp => (fun q => by omega)) (ry_if hwR.2 (ry_if rfl ry_T (ry_af (by omega) (by omega))) ry_T)⟩
  refine lv_pop hx hb dL_law_373 rfl ?_
  refine lv_goto (tgt := 1280) hx hb dL_law_374 (by decide) ?_
  refine W.widen (k := cells + 12) (n := slots + 768) (by show cells + 0 + 0 ≤ cells + 12; omega) (by show slots + 0 + 0 ≤ slots + 768; omega) ?_
  exact kk aX SX1 SR1 H locs hV hwX.1 hR1 hL1 hN1 rfl
set_option maxHeartbeats 1600000 in
theorem law_5 {p : Program} {l : Launch} {e : Env} {s : State} {m : MethodId} {below : List Frame} {meth : Method} {c : Code} {H : Heap} {locs : List Loc} {cells slots : Nat} {Q : State → Prop} {ls : Array Slot} {b L i : Nat} {xs : Nat → Int32} {G : GG} {aX aR : Nat → Nat} {SX SR : FS} (C0 : lw_At p s m meth c b L xs) (hK : va_K G.1 vwCl (TYS G) s) (hE : EN G (AL s) s s.heap) (hin1 : vp_in (nI i + 1) L) (hin2 : vp_in (nI i + 2) L) (hin3 : vp_in (nI i + 3) L) (hin4 : vp_in (nI i + 4) L) (hin5 : vp_in (nI i + 5) L) (hV : LV G s H locs aX aR SX SR) (hX : XI SX) (hR : RI SR) (hL : LK SX SR) (hM0 : LN SX SR)
    (hl : lv_has ls 4 [(3, .int (nI i)), (2, .ref (aR 0)), (1, .ref (aX 0)), (0, .ref b)]) (hc : cells + 12 ≤ 600000) (hs : slots + 768 ≤ 7302250)
    (kk : ∀ (aX1 : Nat → Nat) (SX1 SR1 : FS) (H1 : Heap) (locs1 : List Loc), LV G s H1 locs1 aX1 aR SX1 SR1 → XI SX1 → RI SR1 → LK SX1 SR1 → LN SX1 SR1 → aX1 0 = aX 0 → W p l e room_1 s m #[Value.ref b] below meth c H1 locs1 (cells + 12) (slots + 768) Q (F0 m 1280 ls [])) : W p l e room_1 s m #[Value.ref b] below meth c H locs cells slots Q (F0 m 377 ls []) := by
  obtain ⟨hx, hb, hr, hml, hown, hts, hXs, hbl, hlocks, hgv⟩ := id C0
  have hT : ∀ w ∈ TBL, w.before #[Value.ref b] s = true := fun w h => hts w (tbl_in w h)
  have hbA : ¬ AL s b := Nat.not_le.mpr hbl
  obtain ⟨hM, hN, hTL⟩ := hM0
  obtain ⟨n, hn, hn6⟩ := hX.1 0 (by decide)
  refine lv_aload_n hx hb dL_law_377 rfl (lv_at hl 2 rfl) ?_
  obtain ⟨hS, hPX, hDX, hPR, hDR, hdis⟩ := id hV
  have hFc := va_self hDX hS (fun q h => h)
  refine lx_g hV (va_runV (As := []) (rest := []) ⟨hx, hb, hml, hown, hT⟩ (c_x11_counter l G aX SX H.size n (by assumption) (by assumption) (by assumption)) (tV 0 hT m2_205 m2_206 m2_207 m1_1 m2_208 rfl rfl (by decide +kernel) ⟨Nat.le_of_ble_eq_true rfl, Nat.le_of_ble_eq_true rfl⟩) ⟨PcE_blind, va_recv hK hPX (ci := 13) (q0 := 0) rfl (ix_at (lt71 (by omega)) (cX_0 G aX SX)), PcE_of hPX hK hDX hE hS (fun q h => hFc q h) _⟩ rfl rfl hl.1 rfl (lv_room (Nat.le_of_ble_eq_true rfl)) dL_law_378 ⟨(by show cells + 3 ≤ 600000; omega), (by show slots + 204 ≤ 7302250; omega)⟩) (fun rX SX1 aX1 H locs hwX hV => ?_)
  try dsimp only at hwX
  have hXK : XK 0 SX SX1 := xk_fr hwX.2.1 (fun k h1 h2 q => by omega) (fun q => by omega) (fun k h1 h2 q => by omega)
  refine lv_pop hx hb dL_law_381 rfl ?_
  refine lv_aload_n hx hb dL_law_382 rfl (lv_at hl 1 rfl) ?_
  obtain ⟨hS, hPX, hDX, hPR, hDR, hdis⟩ := id hV
  obtain ⟨n', z', u', tx, tr, nc, r1, r2, rH, rV, r15, r5, r5b, r7, r7b, rc, r17, r17b, rT, r40, r40b, r20, r20b⟩ := ri_all hR
  refine lr_i hV (va_runV (As := []) (rest := []) ⟨hx, hb, hml, hown, hT⟩ (c_counter l G aR SR H.size tx nc (by assumption) (by assumption) (by assumption) (by assumption)) (tV 0 hT m6_34 m6_35 m6_36 m1_17 m6_37 rfl rfl (by decide +kernel) ⟨Nat.le_of_ble_eq_true rfl, Nat.le_of_ble_eq_true rfl⟩) ⟨PcW_blind, va_recv hK hPR (ci := 14) (q0 := 0) rfl (ix_at (by decide) (cR_0 G aR SR)), PcW_of hPR hK hDR _⟩ rfl rfl hl.1 rfl (lv_room (Nat.le_of_ble_eq_true rfl)) dL_law_383 ⟨(by show cells + 3 + 0 ≤ 600000; omega), (by show slots + 204 + 0 ≤ 7302250; omega)⟩) (fun rR SR1 H locs hwR hV => ?_)
  try dsimp only at hwR
  obtain ⟨hR1, hRK⟩ := ri_cnt hR r20 r20b hwR
  have hL1 := lk_step hL hXK hRK
  have hM1 := lm_step hM hwX.2.1 (fun q => by omega) (fun q => by omega) (fun t ht => (fun q => by omega)) (fun q => by omega) (fun q => by omega) (fun q => by omega) (fun c hc => ⟨(fun q => by omega), (fun q => by omega), (fun q => by omega)⟩) (rz_cnt hwR) hRK.2.2
  have hN1 : LN SX1 SR1 := ⟨hM1, nu_step hN hwX.2.1 (fun c hc => (fun q => by omega)), tl_step hTL hX hwX.2.1 (fun q => by omega) (fun q => by omega) (fun p k hp => (fun q => by omega)) (ry_cnt hwR)⟩
  refine lv_pop hx hb dL_law_386 rfl ?_
  refine lv_goto (tgt := 1280) hx hb dL_law_387 (by decide) ?_
  refine W.widen (k := cells + 12) (n := slots + 768) (by show cells + 3 + 0 ≤ cells + 12; omega) (by show slots + 204 + 0 ≤ slots + 768; omega) ?_
  exact kk aX1 SX1 SR1 H locs hV hwX.1 hR1 hL1 hN1 (hwX.2.2.1 0 (lt71 (by omega)))
set_option maxHeartbeats 1600000 in
theorem law_6 {p : Program} {l : Launch} {e : Env} {s : State} {m : MethodId} {below : List Frame} {meth : Method} {c : Code} {H : Heap} {locs : List Loc} {cells slots : Nat} {Q : State → Prop} {ls : Array Slot} {b L i : Nat} {xs : Nat → Int32} {G : GG} {aX aR : Nat → Nat} {SX SR : FS} (C0 : lw_At p s m meth c b L xs) (hK : va_K G.1 vwCl (TYS G) s) (hE : EN G (AL s) s s.heap) (hin1 : vp_in (nI i + 1) L) (hin2 : vp_in (nI i + 2) L) (hin3 : vp_in (nI i + 3) L) (hin4 : vp_in (nI i + 4) L) (hin5 : vp_in (nI i + 5) L) (hV : LV G s H locs aX aR SX SR) (hX : XI SX) (hR : RI SR) (hL : LK SX SR) (hM0 : LN SX SR)
    (hl : lv_has ls 4 [(3, .int (nI i)), (2, .ref (aR 0)), (1, .ref (aX 0)), (0, .ref b)]) (hc : cells + 12 ≤ 600000) (hs : slots + 768 ≤ 7302250)
    (kk : ∀ (aX1 : Nat → Nat) (SX1 SR1 : FS) (H1 : Heap) (locs1 : List Loc), LV G s H1 locs1 aX1 aR SX1 SR1 → XI SX1 → RI SR1 → LK SX1 SR1 → LN SX1 SR1 → aX1 0 = aX 0 → W p l e room_1 s m #[Value.ref b] below meth c H1 locs1 (cells + 12) (slots + 768) Q (F0 m 1280 ls [])) : W p l e room_1 s m #[Value.ref b] below meth c H locs cells slots Q (F0 m 390 ls []) := by
  obtain ⟨hx, hb, hr, hml, hown, hts, hXs, hbl, hlocks, hgv⟩ := id C0
  have hT : ∀ w ∈ TBL, w.before #[Value.ref b] s = true := fun w h => hts w (tbl_in w h)
  have hbA : ¬ AL s b := Nat.not_le.mpr hbl
  obtain ⟨hM, hN, hTL⟩ := hM0
  obtain ⟨n, hn, hn6⟩ := hX.1 0 (by decide)
  refine lv_aload_n hx hb dL_law_390 rfl (lv_at hl 2 rfl) ?_
  refine lv_aload_n hx hb dL_law_391 rfl (lv_at hl 3 rfl) ?_
  refine lv_iload_n hx hb dL_law_392 rfl (lv_at hl 0 rfl) ?_
  refine lv_iconst (v := 1) hx hb dL_law_393 (by decide) ?_
  refine lv_iadd hx hb dL_law_394 ?_
  refine va_sld hx hb hXs hbl hbA hV.1 hin1 dL_law_395 ?_
  obtain ⟨hS, hPX, hDX, hPR, hDR, hdis⟩ := id hV
  refine lx_i hV (va_runV (As := [.int (xs (nI i + 1).toNatClampNeg)]) (rest := []) ⟨hx, hb, hml, hown, hT⟩ (c_x11_knife l G aX SX H.size n ((xs (nI i + 1).toNatClampNeg)) (by assumption) (by assumption) (by assumption)) (tV 1 hT m3_153 m3_154 m3_155 m1_1 m3_156 rfl rfl (by decide +kernel) ⟨Nat.le_of_ble_eq_true rfl, Nat.le_of_ble_eq_true rfl⟩) ⟨PcW_blind, va_recv hK hPX (ci := 13) (q0 := 0) rfl (ix_at (lt71 (by omega)) (cX_0 G aX SX)), PcW_of hPX hK hDX _⟩ rfl rfl hl.1 rfl (lv_room (Nat.le_of_ble_eq_true rfl)) dL_law_396 ⟨(by show cells + 0 ≤ 600000; omega), (by show slots + 0 ≤ 7302250; omega)⟩) (fun rX SX1 H locs hwX hV => ?_)
  try dsimp only at hwX
  have hXK : XK 6 SX SX1 := xk_e 6 hwX.2.1 (fun k h1 h2 h3 q => by omega) (fun q => by omega) (fun k h1 h2 q => by omega)
  refine lv_pop hx hb dL_law_399 rfl ?_
  refine lv_aload_n hx hb dL_law_400 rfl (lv_at hl 1 rfl) ?_
  refine lv_aload_n hx hb dL_law_401 rfl (lv_at hl 3 rfl) ?_
  refine lv_iload_n hx hb dL_law_402 rfl (lv_at hl 0 rfl) ?_
  refine lv_iconst (v := 1) hx hb dL_law_403 (by decide) ?_
  refine lv_iadd hx hb dL_law_404 ?_
  refine va_sld hx hb hXs hbl hbA hV.1 hin1 dL_law_405 ?_
  obtain ⟨hS, hPX, hDX, hPR, hDR, hdis⟩ := id hV
  obtain ⟨n', z', u', tx, tr, nc, r1, r2, rH, rV, r15, r5, r5b, r7, r7b, rc, r17, r17b, rT, r40, r40b, r20, r20b⟩ := ri_all hR
  refine lr_i hV (va_runV (As := [.int (xs (nI i + 1).toNatClampNeg)]) (rest := []) ⟨hx, hb, hml, hown, hT⟩ (c_knife l G aR SR H.size ((xs (nI i + 1).toNatClampNeg))) (tV 1 hT m6_171 m6_172 m6_173 m1_17 m6_174 rfl rfl (by decide +kernel) ⟨Nat.le_of_ble_eq_true rfl, Nat.le_of_ble_eq_true rfl⟩) ⟨PcW_blind, va_recv hK hPR (ci := 14) (q0 := 0) rfl (ix_at (by decide) (cR_0 G aR SR)), PcW_of hPR hK hDR _⟩ rfl rfl hl.1 rfl (lv_room (Nat.le_of_ble_eq_true rfl)) dL_law_406 ⟨(by show cells + 0 + 0 ≤ 600000; omega), (by show slots + 0 + 0 ≤ 7302250; omega)⟩) (fun rR SR1 H locs hwR hV => ?_)
  try dsimp only at hwR
  obtain ⟨hR1, hRK⟩ := ri_knife hR hwR.2
  obtain ⟨hrr, hL1⟩ := lk_knife hL hwX.2.2 hXK hwR.1 hwR.2 hRK
  have hM1 := lm_step hM hwX.2.1 (fun q => by omega) (fun q => by omega) (fun t ht => (fun q => by omega)) (fun q => by omega) (fun q => by omega) (fun q => by omega) (fun c hc => ⟨(fun q => by omega), (fun q => by omega), (fun q => by omega)⟩) (rz_knife hwR.2) hRK.2.2
  have hN1 : LN SX1 SR1 := ⟨hM1, nu_step hN hwX.2.1 (fun c hc => (fun q => by omega)), tl_step hTL hX hwX.2.1 (fun q => by omega) (fun q => by omega) (fun p k hp => (fun q => by omega)) (ry_if hwR.2 (ry_f (by omega)) ry_T)⟩
  refine lv_pop hx hb dL_law_409 rfl ?_
  refine lv_goto (tgt := 1280) hx hb dL_law_410 (by decide) ?_
  refine W.widen (k := cells + 12) (n := slots + 768) (by show cells + 0 + 0 ≤ cells + 12; omega) (by show slots + 0 + 0 ≤ slots + 768; omega) ?_
  exact kk aX SX1 SR1 H locs hV hwX.1 hR1 hL1 hN1 rfl
set_option maxHeartbeats 1600000 in
theorem law_7 {p : Program} {l : Launch} {e : Env} {s : State} {m : MethodId} {below : List Frame} {meth : Method} {c : Code} {H : Heap} {locs : List Loc} {cells slots : Nat} {Q : State → Prop} {ls : Array Slot} {b L i : Nat} {xs : Nat → Int32} {G : GG} {aX aR : Nat → Nat} {SX SR : FS} (C0 : lw_At p s m meth c b L xs) (hK : va_K G.1 vwCl (TYS G) s) (hE : EN G (AL s) s s.heap) (hin1 : vp_in (nI i + 1) L) (hin2 : vp_in (nI i + 2) L) (hin3 : vp_in (nI i + 3) L) (hin4 : vp_in (nI i + 4) L) (hin5 : vp_in (nI i + 5) L) (hV : LV G s H locs aX aR SX SR) (hX : XI SX) (hR : RI SR) (hL : LK SX SR) (hM0 : LN SX SR)
    (hl : lv_has ls 4 [(3, .int (nI i)), (2, .ref (aR 0)), (1, .ref (aX 0)), (0, .ref b)]) (hc : cells + 12 ≤ 600000) (hs : slots + 768 ≤ 7302250)
    (kk : ∀ (aX1 : Nat → Nat) (SX1 SR1 : FS) (H1 : Heap) (locs1 : List Loc), LV G s H1 locs1 aX1 aR SX1 SR1 → XI SX1 → RI SR1 → LK SX1 SR1 → LN SX1 SR1 → aX1 0 = aX 0 → W p l e room_1 s m #[Value.ref b] below meth c H1 locs1 (cells + 12) (slots + 768) Q (F0 m 1280 ls [])) : W p l e room_1 s m #[Value.ref b] below meth c H locs cells slots Q (F0 m 413 ls []) := by
  obtain ⟨hx, hb, hr, hml, hown, hts, hXs, hbl, hlocks, hgv⟩ := id C0
  have hT : ∀ w ∈ TBL, w.before #[Value.ref b] s = true := fun w h => hts w (tbl_in w h)
  have hbA : ¬ AL s b := Nat.not_le.mpr hbl
  obtain ⟨hM, hN, hTL⟩ := hM0
  obtain ⟨n, hn, hn6⟩ := hX.1 0 (by decide)
  refine lv_aload_n hx hb dL_law_413 rfl (lv_at hl 2 rfl) ?_
  refine lv_aload_n hx hb dL_law_414 rfl (lv_at hl 3 rfl) ?_
  refine lv_iload_n hx hb dL_law_415 rfl (lv_at hl 0 rfl) ?_
  refine lv_iconst (v := 1) hx hb dL_law_416 (by decide) ?_
  refine lv_iadd hx hb dL_law_417 ?_
  refine va_sld hx hb hXs hbl hbA hV.1 hin1 dL_law_418 ?_
  obtain ⟨hS, hPX, hDX, hPR, hDR, hdis⟩ := id hV
  refine vp_callSi (W.runV (As := [.int (xs (nI i + 1).toNatClampNeg)]) (rest := []) ⟨hx, hb, hml, hown, hT⟩ (c_x11_told l G aX SX H.size n ((xs (nI i + 1).toNatClampNeg)) (by assumption) (by assumption) (by assumption)) (tV 1 hT m3_157 m3_158 m3_159 m1_1 m3_160 rfl rfl (by decide +kernel) ⟨Nat.le_of_ble_eq_true rfl, Nat.le_of_ble_eq_true rfl⟩) ⟨PcW_blind, va_recv hK hPX (ci := 13) (q0 := 0) rfl (ix_at (lt71 (by omega)) (cX_0 G aX SX)), PcW_of hPX hK hDX _⟩ rfl rfl hl.1 rfl (lv_room (Nat.le_of_ble_eq_true rfl)) dL_law_419 ⟨(by show cells + 0 ≤ 600000; omega), (by show slots + 0 ≤ 7302250; omega)⟩) (fun rX hwX => ?_)
  have hXK : XK 0 SX SX := xk_rf
  refine lv_pop hx hb dL_law_422 rfl ?_
  refine lv_aload_n hx hb dL_law_423 rfl (lv_at hl 1 rfl) ?_
  refine lv_aload_n hx hb dL_law_424 rfl (lv_at hl 3 rfl) ?_
  refine lv_iload_n hx hb dL_law_425 rfl (lv_at hl 0 rfl) ?_
  refine lv_iconst (v := 1) hx hb dL_law_426 (by decide) ?_
  refine lv_iadd hx hb dL_law_427 ?_
  refine va_sld hx hb hXs hbl hbA hV.1 hin1 dL_law_428 ?_
  obtain ⟨hS, hPX, hDX, hPR, hDR, hdis⟩ := id hV
  obtain ⟨n', z', u', tx, tr, nc, r1, r2, rH, rV, r15, r5, r5b, r7, r7b, rc, r17, r17b, rT, r40, r40b, r20, r20b⟩ := ri_all hR
  refine lr_i hV (va_runV (As := [.int (xs (nI i + 1).toNatClampNeg)]) (rest := []) ⟨hx, hb, hml, hown, hT⟩ (c_told l G aR SR H.size n' ((xs (nI i + 1).toNatClampNeg)) (by assumption) (by assumption) (by assumption) (by assumption) (by assumption)) (tV 1 hT m6_176 m6_177 m6_178 m1_17 m6_179 rfl rfl (by decide +kernel) ⟨Nat.le_of_ble_eq_true rfl, Nat.le_of_ble_eq_true rfl⟩) ⟨PcW_blind, va_recv hK hPR (ci := 14) (q0 := 0) rfl (ix_at (by decide) (cR_0 G aR SR)), PcW_of hPR hK hDR _⟩ rfl rfl hl.1 rfl (lv_room (Nat.le_of_ble_eq_true rfl)) dL_law_429 ⟨(by show cells + 0 ≤ 600000; omega), (by show slots + 0 ≤ 7302250; omega)⟩) (fun rR SR1 H locs hwR hV => ?_)
  try dsimp only at hwR
  obtain ⟨hR1, hRK⟩ := ri_E hR hwR
  have hL1 := lk_step hL hXK hRK
  have hM1 := lm_step hM (Fr.rf : Fr (fun _ _ => False) SX SX) (fun q => q) (fun q => q) (fun t ht => (fun q => q)) (fun q => q) (fun q => q) (fun q => q) (fun c hc => ⟨(fun q => q), (fun q => q), (fun q => q)⟩) (rz_E hwR) hRK.2.2
  have hN1 : LN SX SR1 := ⟨hM1, nu_step hN (Fr.rf : Fr (fun _ _ => False) SX SX) (fun c hc => (fun q => q)), tl_step hTL hX (Fr.rf : Fr (fun _ _ => False) SX SX) (fun q => q) (fun q => q) (fun p k hp => (fun q => q)) (ry_E hwR)⟩
  refine lv_pop hx hb dL_law_432 rfl ?_
  refine lv_goto (tgt := 1280) hx hb dL_law_433 (by decide) ?_
  refine W.widen (k := cells + 12) (n := slots + 768) (by show cells + 0 ≤ cells + 12; omega) (by show slots + 0 ≤ slots + 768; omega) ?_
  exact kk aX SX SR1 H locs hV hX hR1 hL1 hN1 rfl
set_option maxHeartbeats 1600000 in
theorem law_8 {p : Program} {l : Launch} {e : Env} {s : State} {m : MethodId} {below : List Frame} {meth : Method} {c : Code} {H : Heap} {locs : List Loc} {cells slots : Nat} {Q : State → Prop} {ls : Array Slot} {b L i : Nat} {xs : Nat → Int32} {G : GG} {aX aR : Nat → Nat} {SX SR : FS} (C0 : lw_At p s m meth c b L xs) (hK : va_K G.1 vwCl (TYS G) s) (hE : EN G (AL s) s s.heap) (hin1 : vp_in (nI i + 1) L) (hin2 : vp_in (nI i + 2) L) (hin3 : vp_in (nI i + 3) L) (hin4 : vp_in (nI i + 4) L) (hin5 : vp_in (nI i + 5) L) (hV : LV G s H locs aX aR SX SR) (hX : XI SX) (hR : RI SR) (hL : LK SX SR) (hM0 : LN SX SR)
    (hl : lv_has ls 4 [(3, .int (nI i)), (2, .ref (aR 0)), (1, .ref (aX 0)), (0, .ref b)]) (hc : cells + 12 ≤ 600000) (hs : slots + 768 ≤ 7302250)
    (kk : ∀ (aX1 : Nat → Nat) (SX1 SR1 : FS) (H1 : Heap) (locs1 : List Loc), LV G s H1 locs1 aX1 aR SX1 SR1 → XI SX1 → RI SR1 → LK SX1 SR1 → LN SX1 SR1 → aX1 0 = aX 0 → W p l e room_1 s m #[Value.ref b] below meth c H1 locs1 (cells + 12) (slots + 768) Q (F0 m 1280 ls [])) : W p l e room_1 s m #[Value.ref b] below meth c H locs cells slots Q (F0 m 436 ls []) := by
  obtain ⟨hx, hb, hr, hml, hown, hts, hXs, hbl, hlocks, hgv⟩ := id C0
  have hT : ∀ w ∈ TBL, w.before #[Value.ref b] s = true := fun w h => hts w (tbl_in w h)
  have hbA : ¬ AL s b := Nat.not_le.mpr hbl
  obtain ⟨hM, hN, hTL⟩ := hM0
  obtain ⟨n, hn, hn6⟩ := hX.1 0 (by decide)
  refine lv_aload_n hx hb dL_law_436 rfl (lv_at hl 2 rfl) ?_
  refine lv_aload_n hx hb dL_law_437 rfl (lv_at hl 3 rfl) ?_
  refine lv_iload_n hx hb dL_law_438 rfl (lv_at hl 0 rfl) ?_
  refine lv_iconst (v := 1) hx hb dL_law_439 (by decide) ?_
  refine lv_iadd hx hb dL_law_440 ?_
  refine va_sld hx hb hXs hbl hbA hV.1 hin1 dL_law_441 ?_
  obtain ⟨hS, hPX, hDX, hPR, hDR, hdis⟩ := id hV
  refine lx_i hV (va_runV (As := [.int (xs (nI i + 1).toNatClampNeg)]) (rest := []) ⟨hx, hb, hml, hown, hT⟩ (c_x11_visit l G aX SX H.size n ((xs (nI i + 1).toNatClampNeg)) (by assumption) (by assumption) (by assumption)) (tV 1 hT m3_165 m3_166 m3_167 m1_1 m3_168 rfl rfl (by decide +kernel) ⟨Nat.le_of_ble_eq_true rfl, Nat.le_of_ble_eq_true rfl⟩) ⟨PcW_blind, va_recv hK hPX (ci := 13) (q0 := 0) rfl (ix_at (lt71 (by omega)) (cX_0 G aX SX)), PcW_of hPX hK hDX _⟩ rfl rfl hl.1 rfl (lv_room (Nat.le_of_ble_eq_true rfl)) dL_law_442 ⟨(by show cells + 0 ≤ 600000; omega), (by show slots + 0 ≤ 7302250; omega)⟩) (fun rX SX1 H locs hwX hV => ?_)
  try dsimp only at hwX
  have hXK : XK 0 SX SX1 := xk_fr hwX.2.1 (fun k h1 h2 q => by omega) (fun q => by omega) (fun k h1 h2 q => by omega)
  refine lv_pop hx hb dL_law_445 rfl ?_
  refine lv_aload_n hx hb dL_law_446 rfl (lv_at hl 1 rfl) ?_
  refine lv_aload_n hx hb dL_law_447 rfl (lv_at hl 3 rfl) ?_
  refine lv_iload_n hx hb dL_law_448 rfl (lv_at hl 0 rfl) ?_
  refine lv_iconst (v := 1) hx hb dL_law_449 (by decide) ?_
  refine lv_iadd hx hb dL_law_450 ?_
  refine va_sld hx hb hXs hbl hbA hV.1 hin1 dL_law_451 ?_
  obtain ⟨hS, hPX, hDX, hPR, hDR, hdis⟩ := id hV
  obtain ⟨n', z', u', tx, tr, nc, r1, r2, rH, rV, r15, r5, r5b, r7, r7b, rc, r17, r17b, rT, r40, r40b, r20, r20b⟩ := ri_all hR
  refine lr_i hV (va_runV (As := [.int (xs (nI i + 1).toNatClampNeg)]) (rest := []) ⟨hx, hb, hml, hown, hT⟩ (c_visit l G aR SR H.size n' ((xs (nI i + 1).toNatClampNeg)) (by assumption) (by assumption) (by assumption) (by assumption) (by assumption)) (tV 1 hT m6_188 m6_189 m6_190 m1_17 m6_191 rfl rfl (by decide +kernel) ⟨Nat.le_of_ble_eq_true rfl, Nat.le_of_ble_eq_true rfl⟩) ⟨PcW_blind, va_recv hK hPR (ci := 14) (q0 := 0) rfl (ix_at (by decide) (cR_0 G aR SR)), PcW_of hPR hK hDR _⟩ rfl rfl hl.1 rfl (lv_room (Nat.le_of_ble_eq_true rfl)) dL_law_452 ⟨(by show cells + 0 + 0 ≤ 600000; omega), (by show slots + 0 + 0 ≤ 7302250; omega)⟩) (fun rR SR1 H locs hwR hV => ?_)
  try dsimp only at hwR
  obtain ⟨hR1, hRK⟩ := ri_M hR hwR
  have hL1 := lk_step hL hXK hRK
  have hM1 := lm_step hM hwX.2.1 (fun q => by omega) (fun q => by omega) (fun t ht => (fun q => by omega)) (fun q => by omega) (fun q => by omega) (fun q => by omega) (fun c hc => ⟨(fun q => by omega), (fun q => by omega), (fun q => by omega)⟩) (rz_M hwR) hRK.2.2
  have hN1 : LN SX1 SR1 := ⟨hM1, nu_step hN hwX.2.1 (fun c hc => (fun q => by omega)), tl_step hTL hX hwX.2.1 (fun q => by omega) (fun q => by omega) (fun p k hp => (fun q => by omega)) (ry_M hwR)⟩
  refine lv_pop hx hb dL_law_455 rfl ?_
  refine lv_goto (tgt := 1280) hx hb dL_law_456 (by decide) ?_
  refine W.widen (k := cells + 12) (n := slots + 768) (by show cells + 0 + 0 ≤ cells + 12; omega) (by show slots + 0 + 0 ≤ slots + 768; omega) ?_
  exact kk aX SX1 SR1 H locs hV hwX.1 hR1 hL1 hN1 rfl
set_option maxHeartbeats 1600000 in
theorem law_9 {p : Program} {l : Launch} {e : Env} {s : State} {m : MethodId} {below : List Frame} {meth : Method} {c : Code} {H : Heap} {locs : List Loc} {cells slots : Nat} {Q : State → Prop} {ls : Array Slot} {b L i : Nat} {xs : Nat → Int32} {G : GG} {aX aR : Nat → Nat} {SX SR : FS} (C0 : lw_At p s m meth c b L xs) (hK : va_K G.1 vwCl (TYS G) s) (hE : EN G (AL s) s s.heap) (hin1 : vp_in (nI i + 1) L) (hin2 : vp_in (nI i + 2) L) (hin3 : vp_in (nI i + 3) L) (hin4 : vp_in (nI i + 4) L) (hin5 : vp_in (nI i + 5) L) (hV : LV G s H locs aX aR SX SR) (hX : XI SX) (hR : RI SR) (hL : LK SX SR) (hM0 : LN SX SR)
    (hl : lv_has ls 4 [(3, .int (nI i)), (2, .ref (aR 0)), (1, .ref (aX 0)), (0, .ref b)]) (hc : cells + 12 ≤ 600000) (hs : slots + 768 ≤ 7302250)
    (kk : ∀ (aX1 : Nat → Nat) (SX1 SR1 : FS) (H1 : Heap) (locs1 : List Loc), LV G s H1 locs1 aX1 aR SX1 SR1 → XI SX1 → RI SR1 → LK SX1 SR1 → LN SX1 SR1 → aX1 0 = aX 0 → W p l e room_1 s m #[Value.ref b] below meth c H1 locs1 (cells + 12) (slots + 768) Q (F0 m 1280 ls [])) : W p l e room_1 s m #[Value.ref b] below meth c H locs cells slots Q (F0 m 459 ls []) := by
  obtain ⟨hx, hb, hr, hml, hown, hts, hXs, hbl, hlocks, hgv⟩ := id C0
  have hT : ∀ w ∈ TBL, w.before #[Value.ref b] s = true := fun w h => hts w (tbl_in w h)
  have hbA : ¬ AL s b := Nat.not_le.mpr hbl
  obtain ⟨hM, hN, hTL⟩ := hM0
  obtain ⟨n, hn, hn6⟩ := hX.1 0 (by decide)
  refine lv_aload_n hx hb dL_law_459 rfl (lv_at hl 2 rfl) ?_
  obtain ⟨hS, hPX, hDX, hPR, hDR, hdis⟩ := id hV
  refine lx_i hV (va_runV (As := []) (rest := []) ⟨hx, hb, hml, hown, hT⟩ (c_x11_saturday l G aX SX H.size n (by assumption) (by assumption) (by assumption)) (tV 0 hT m3_198 m3_199 m3_200 m1_1 m3_201 rfl rfl (by decide +kernel) ⟨Nat.le_of_ble_eq_true rfl, Nat.le_of_ble_eq_true rfl⟩) ⟨PcW_blind, va_recv hK hPX (ci := 13) (q0 := 0) rfl (ix_at (lt71 (by omega)) (cX_0 G aX SX)), PcW_of hPX hK hDX _⟩ rfl rfl hl.1 rfl (lv_room (Nat.le_of_ble_eq_true rfl)) dL_law_460 ⟨(by show cells + 0 ≤ 600000; omega), (by show slots + 0 ≤ 7302250; omega)⟩) (fun rX SX1 H locs hwX hV => ?_)
  try dsimp only at hwX
  have hXK : XK 0 SX SX1 := xk_fr hwX.2.1 (fun k h1 h2 q => by omega) (fun q => by omega) (fun k h1 h2 q => by omega)
  refine lv_pop hx hb dL_law_463 rfl ?_
  refine lv_aload_n hx hb dL_law_464 rfl (lv_at hl 1 rfl) ?_
  obtain ⟨hS, hPX, hDX, hPR, hDR, hdis⟩ := id hV
  obtain ⟨n', z', u', tx, tr, nc, r1, r2, rH, rV, r15, r5, r5b, r7, r7b, rc, r17, r17b, rT, r40, r40b, r20, r20b⟩ := ri_all hR
  refine lr_i hV (va_runV (As := []) (rest := []) ⟨hx, hb, hml, hown, hT⟩ (c_saturday l G aR SR H.size n' (by assumption) (by assumption) (by assumption) (by assumption) (by assumption)) (tV 0 hT m6_200 m6_201 m6_202 m1_17 m6_203 rfl rfl (by decide +kernel) ⟨Nat.le_of_ble_eq_true rfl, Nat.le_of_ble_eq_true rfl⟩) ⟨PcW_blind, va_recv hK hPR (ci := 14) (q0 := 0) rfl (ix_at (by decide) (cR_0 G aR SR)), PcW_of hPR hK hDR _⟩ rfl rfl hl.1 rfl (lv_room (Nat.le_of_ble_eq_true rfl)) dL_law_465 ⟨(by show cells + 0 + 0 ≤ 600000; omega), (by show slots + 0 + 0 ≤ 7302250; omega)⟩) (fun rR SR1 H locs hwR hV => ?_)
  try dsimp only at hwR
  obtain ⟨hR1, hRK⟩ := ri_M hR hwR
  have hL1 := lk_step hL hXK hRK
  have hM1 := lm_step hM hwX.2.1 (fun q => by omega) (fun q => by omega) (fun t ht => (fun q => by omega)) (fun q => by omega) (fun q => by omega) (fun q => by omega) (fun c hc => ⟨(fun q => by omega), (fun q => by omega), (fun q => by omega)⟩) (rz_M hwR) hRK.2.2
  have hN1 : LN SX1 SR1 := ⟨hM1, nu_step hN hwX.2.1 (fun c hc => (fun q => by omega)), tl_step hTL hX hwX.2.1 (fun q => by omega) (fun q => by omega) (fun p k hp => (fun q => by omega)) (ry_M hwR)⟩
  refine lv_pop hx hb dL_law_468 rfl ?_
  refine lv_goto (tgt := 1280) hx hb dL_law_469 (by decide) ?_
  refine W.widen (k := cells + 12) (n := slots + 768) (by show cells + 0 + 0 ≤ cells + 12; omega) (by show slots + 0 + 0 ≤ slots + 768; omega) ?_
  exact kk aX SX1 SR1 H locs hV hwX.1 hR1 hL1 hN1 rfl
