theorem lw_go {L i : Nat} (hL : L ≤ 3072) (hi : i ≤ 4096) (h : ¬ nI L - 6 < nI i) : i + 6 ≤ L := by
  by_cases h6 : 6 ≤ L
  · obtain ⟨k, rfl⟩ : ∃ k, L = k + 6 := ⟨L - 6, by omega⟩
    have e : nI (k + 6) - 6 = nI k := by
      rw [← nI_add]
      exact Int32.add_sub_cancel _ _
    rw [e] at h
    have := (nI_leI (a := i) (b := k) (by omega) (by omega)).mp (Int32.not_lt.mp h)
    omega
  · exfalso
    apply h
    have h0 : nI L - 6 < (0 : Int32) := by
      rcases (show L = 0 ∨ L = 1 ∨ L = 2 ∨ L = 3 ∨ L = 4 ∨ L = 5 by omega) with rfl | rfl | rfl | rfl | rfl | rfl <;> decide
    have h1 : (0 : Int32) ≤ nI i := (nI_leI (a := 0) (b := i) (by omega) (by omega)).mpr (Nat.zero_le _)
    exact Int32.lt_of_lt_of_le h0 h1
theorem lw_in {L i k : Nat} (hL : L ≤ 3072) (h : i + k < L) : vp_in (nI i + nI k) L := by
  rw [nI_add]
  exact vp_in_nI h (by omega)
set_option maxHeartbeats 1600000 in
set_option maxRecDepth 100000 in
/-- one word of the script -/
theorem law_sw {p : Program} {l : Launch} {e : Env} {s : State} {m : MethodId} {below : List Frame} {meth : Method} {c : Code} {b L : Nat} {xs : Nat → Int32} {G : GG} {aR : Nat → Nat} {H : Heap} {locs : List Loc} {cells slots i : Nat} {Q : State → Prop} {ls : Array Slot} {aX : Nat → Nat} {SX SR : FS} {x : Int32} (C0 : lw_At p s m meth c b L xs) (hK : va_K G.1 vwCl (TYS G) s) (hE : EN G (AL s) s s.heap) (hin1 : vp_in (nI i + 1) L) (hin2 : vp_in (nI i + 2) L) (hin3 : vp_in (nI i + 3) L) (hin4 : vp_in (nI i + 4) L) (hin5 : vp_in (nI i + 5) L) (hV : LV G s H locs aX aR SX SR) (hX : XI SX) (hR : RI SR) (hK2 : LK SX SR) (hM2 : LE SX SR)
    (hl : lv_has ls 4 [(3, .int (nI i)), (2, .ref (aR 0)), (1, .ref (aX 0)), (0, .ref b)]) (hc : cells + 12 ≤ 600000) (hs : slots + 768 ≤ 7302250)
    (kk : ∀ (aX1 : Nat → Nat) (SX1 SR1 : FS) (H1 : Heap) (locs1 : List Loc), LV G s H1 locs1 aX1 aR SX1 SR1 → XI SX1 → RI SR1 → LK SX1 SR1 → LE SX1 SR1 → aX1 0 = aX 0 → W p l e room_1 s m #[Value.ref b] below meth c H1 locs1 (cells + 12) (slots + 768) Q (F0 m 1280 ls [])) : W p l e room_1 s m #[Value.ref b] below meth c H locs cells slots Q (F0 m 33 ls [.int (x &&& 63)]) := by
  obtain ⟨hx, hb, -⟩ := id C0
  obtain ⟨j, hj, ej⟩ := pk_andE x (m := 63) 6 (by decide)
  rw [ej]
  by_cases h36 : j < 36
  · rcases (show j = 0 ∨ j = 1 ∨ j = 2 ∨ j = 3 ∨ j = 4 ∨ j = 5 ∨ j = 6 ∨ j = 7 ∨ j = 8 ∨ j = 9 ∨ j = 10 ∨ j = 11 ∨ j = 12 ∨ j = 13 ∨ j = 14 ∨ j = 15 ∨ j = 16 ∨ j = 17 ∨ j = 18 ∨ j = 19 ∨ j = 20 ∨ j = 21 ∨ j = 22 ∨ j = 23 ∨ j = 24 ∨ j = 25 ∨ j = 26 ∨ j = 27 ∨ j = 28 ∨ j = 29 ∨ j = 30 ∨ j = 31 ∨ j = 32 ∨ j = 33 ∨ j = 34 ∨ j = 35 by omega) with rfl | rfl | rfl | rfl | rfl | rfl | rfl | rfl | rfl | rfl | rfl | rfl | rfl | rfl | rfl | rfl | rfl | rfl | rfl | rfl | rfl | rfl | rfl | rfl | rfl | rfl | rfl | rfl | rfl | rfl | rfl | rfl | rfl | rfl | rfl | rfl
    · exact lv_tableIn (off := 159) (tgt := 192) hx hb (dk_get dk_cL_law_0 0 rfl) (by rw [nI_toInt (by omega)]; omega) (by rw [nI_toInt (by omega)]; omega) (by rw [nI_toInt (by omega)]; rfl) (by decide) (law_0 C0 hK hE hin1 hin2 hin3 hin4 hin5 hV hX hR hK2 hM2 hl hc hs kk)
    · exact lv_tableIn (off := 202) (tgt := 235) hx hb (dk_get dk_cL_law_0 0 rfl) (by rw [nI_toInt (by omega)]; omega) (by rw [nI_toInt (by omega)]; omega) (by rw [nI_toInt (by omega)]; rfl) (by decide) (law_1 C0 hK hE hin1 hin2 hin3 hin4 hin5 hV hX hR hK2 hM2 hl hc hs kk)
    · exact lv_tableIn (off := 235) (tgt := 268) hx hb (dk_get dk_cL_law_0 0 rfl) (by rw [nI_toInt (by omega)]; omega) (by rw [nI_toInt (by omega)]; omega) (by rw [nI_toInt (by omega)]; rfl) (by decide) (law_2 C0 hK hE hin1 hin2 hin3 hin4 hin5 hV hX hR hK2 hM2 hl hc hs kk)
    · exact lv_tableIn (off := 278) (tgt := 311) hx hb (dk_get dk_cL_law_0 0 rfl) (by rw [nI_toInt (by omega)]; omega) (by rw [nI_toInt (by omega)]; omega) (by rw [nI_toInt (by omega)]; rfl) (by decide) (law_3 C0 hK hE hin1 hin2 hin3 hin4 hin5 hV hX hR hK2 hM2 hl hc hs kk)
    · exact lv_tableIn (off := 321) (tgt := 354) hx hb (dk_get dk_cL_law_0 0 rfl) (by rw [nI_toInt (by omega)]; omega) (by rw [nI_toInt (by omega)]; omega) (by rw [nI_toInt (by omega)]; rfl) (by decide) (law_4 C0 hK hE hin1 hin2 hin3 hin4 hin5 hV hX hR hK2 hM2 hl hc hs kk)
    · exact lv_tableIn (off := 344) (tgt := 377) hx hb (dk_get dk_cL_law_0 0 rfl) (by rw [nI_toInt (by omega)]; omega) (by rw [nI_toInt (by omega)]; omega) (by rw [nI_toInt (by omega)]; rfl) (by decide) (law_5 C0 hK hE hin1 hin2 hin3 hin4 hin5 hV hX hR hK2 hM2 hl hc hs kk)
    · exact lv_tableIn (off := 357) (tgt := 390) hx hb (dk_get dk_cL_law_0 0 rfl) (by rw [nI_toInt (by omega)]; omega) (by rw [nI_toInt (by omega)]; omega) (by rw [nI_toInt (by omega)]; rfl) (by decide) (law_6 C0 hK hE hin1 hin2 hin3 hin4 hin5 hV hX hR hK2 hM2 hl hc hs kk)
    · exact lv_tableIn (off := 380) (tgt := 413) hx hb (dk_get dk_cL_law_0 0 rfl) (by rw [nI_toInt (by omega)]; omega) (by rw [nI_toInt (by omega)]; omega) (by rw [nI_toInt (by omega)]; rfl) (by decide) (law_7 C0 hK hE hin1 hin2 hin3 hin4 hin5 hV hX hR hK2 hM2 hl hc hs kk)
    · exact lv_tableIn (off := 403) (tgt := 436) hx hb (dk_get dk_cL_law_0 0 rfl) (by rw [nI_toInt (by omega)]; omega) (by rw [nI_toInt (by omega)]; omega) (by rw [nI_toInt (by omega)]; rfl) (by decide) (law_8 C0 hK hE hin1 hin2 hin3 hin4 hin5 hV hX hR hK2 hM2 hl hc hs kk)
    · exact lv_tableIn (off := 426) (tgt := 459) hx hb (dk_get dk_cL_law_0 0 rfl) (by rw [nI_toInt (by omega)]; omega) (by rw [nI_toInt (by omega)]; omega) (by rw [nI_toInt (by omega)]; rfl) (by decide) (law_9 C0 hK hE hin1 hin2 hin3 hin4 hin5 hV hX hR hK2 hM2 hl hc hs kk)
    · exact lv_tableIn (off := 439) (tgt := 472) hx hb (dk_get dk_cL_law_0 0 rfl) (by rw [nI_toInt (by omega)]; omega) (by rw [nI_toInt (by omega)]; omega) (by rw [nI_toInt (by omega)]; rfl) (by decide) (law_10 C0 hK hE hin1 hin2 hin3 hin4 hin5 hV hX hR hK2 hM2 hl hc hs kk)
    · exact lv_tableIn (off := 482) (tgt := 515) hx hb (dk_get dk_cL_law_0 0 rfl) (by rw [nI_toInt (by omega)]; omega) (by rw [nI_toInt (by omega)]; omega) (by rw [nI_toInt (by omega)]; rfl) (by decide) (law_11 C0 hK hE hin1 hin2 hin3 hin4 hin5 hV hX hR hK2 hM2 hl hc hs kk)
    · exact lv_tableIn (off := 515) (tgt := 548) hx hb (dk_get dk_cL_law_0 0 rfl) (by rw [nI_toInt (by omega)]; omega) (by rw [nI_toInt (by omega)]; omega) (by rw [nI_toInt (by omega)]; rfl) (by decide) (law_12 C0 hK hE hin1 hin2 hin3 hin4 hin5 hV hX hR hK2 hM2 hl hc hs kk)
    · exact lv_tableIn (off := 548) (tgt := 581) hx hb (dk_get dk_cL_law_0 0 rfl) (by rw [nI_toInt (by omega)]; omega) (by rw [nI_toInt (by omega)]; omega) (by rw [nI_toInt (by omega)]; rfl) (by decide) (law_13 C0 hK hE hin1 hin2 hin3 hin4 hin5 hV hX hR hK2 hM2 hl hc hs kk)
    · exact lv_tableIn (off := 581) (tgt := 614) hx hb (dk_get dk_cL_law_0 0 rfl) (by rw [nI_toInt (by omega)]; omega) (by rw [nI_toInt (by omega)]; omega) (by rw [nI_toInt (by omega)]; rfl) (by decide) (law_14 C0 hK hE hin1 hin2 hin3 hin4 hin5 hV hX hR hK2 hM2 hl hc hs kk)
    · exact lv_tableIn (off := 594) (tgt := 627) hx hb (dk_get dk_cL_law_0 0 rfl) (by rw [nI_toInt (by omega)]; omega) (by rw [nI_toInt (by omega)]; omega) (by rw [nI_toInt (by omega)]; rfl) (by decide) (law_15 C0 hK hE hin1 hin2 hin3 hin4 hin5 hV hX hR hK2 hM2 hl hc hs kk)
    · exact lv_tableIn (off := 617) (tgt := 650) hx hb (dk_get dk_cL_law_0 0 rfl) (by rw [nI_toInt (by omega)]; omega) (by rw [nI_toInt (by omega)]; omega) (by rw [nI_toInt (by omega)]; rfl) (by decide) (law_16 C0 hK hE hin1 hin2 hin3 hin4 hin5 hV hX hR hK2 hM2 hl hc hs kk)
    · exact lv_tableIn (off := 660) (tgt := 693) hx hb (dk_get dk_cL_law_0 0 rfl) (by rw [nI_toInt (by omega)]; omega) (by rw [nI_toInt (by omega)]; omega) (by rw [nI_toInt (by omega)]; rfl) (by decide) (law_17 C0 hK hE hin1 hin2 hin3 hin4 hin5 hV hX hR hK2 hM2 hl hc hs kk)
    · exact lv_tableIn (off := 683) (tgt := 716) hx hb (dk_get dk_cL_law_0 0 rfl) (by rw [nI_toInt (by omega)]; omega) (by rw [nI_toInt (by omega)]; omega) (by rw [nI_toInt (by omega)]; rfl) (by decide) (law_18 C0 hK hE hin1 hin2 hin3 hin4 hin5 hV hX hR hK2 hM2 hl hc hs kk)
    · exact lv_tableIn (off := 706) (tgt := 739) hx hb (dk_get dk_cL_law_0 0 rfl) (by rw [nI_toInt (by omega)]; omega) (by rw [nI_toInt (by omega)]; omega) (by rw [nI_toInt (by omega)]; rfl) (by decide) (law_19 C0 hK hE hin1 hin2 hin3 hin4 hin5 hV hX hR hK2 hM2 hl hc hs kk)
    · exact lv_tableIn (off := 719) (tgt := 752) hx hb (dk_get dk_cL_law_0 0 rfl) (by rw [nI_toInt (by omega)]; omega) (by rw [nI_toInt (by omega)]; omega) (by rw [nI_toInt (by omega)]; rfl) (by decide) (law_20 C0 hK hE hin1 hin2 hin3 hin4 hin5 hV hX hR hK2 hM2 hl hc hs kk)
    · exact lv_tableIn (off := 752) (tgt := 785) hx hb (dk_get dk_cL_law_0 0 rfl) (by rw [nI_toInt (by omega)]; omega) (by rw [nI_toInt (by omega)]; omega) (by rw [nI_toInt (by omega)]; rfl) (by decide) (law_21 C0 hK hE hin1 hin2 hin3 hin4 hin5 hV hX hR hK2 hM2 hl hc hs kk)
    · exact lv_tableIn (off := 785) (tgt := 818) hx hb (dk_get dk_cL_law_0 0 rfl) (by rw [nI_toInt (by omega)]; omega) (by rw [nI_toInt (by omega)]; omega) (by rw [nI_toInt (by omega)]; rfl) (by decide) (law_22 C0 hK hE hin1 hin2 hin3 hin4 hin5 hV hX hR hK2 hM2 hl hc hs kk)
    · exact lv_tableIn (off := 818) (tgt := 851) hx hb (dk_get dk_cL_law_0 0 rfl) (by rw [nI_toInt (by omega)]; omega) (by rw [nI_toInt (by omega)]; omega) (by rw [nI_toInt (by omega)]; rfl) (by decide) (law_23 C0 hK hE hin1 hin2 hin3 hin4 hin5 hV hX hR hK2 hM2 hl hc hs kk)
    · exact lv_tableIn (off := 841) (tgt := 874) hx hb (dk_get dk_cL_law_0 0 rfl) (by rw [nI_toInt (by omega)]; omega) (by rw [nI_toInt (by omega)]; omega) (by rw [nI_toInt (by omega)]; rfl) (by decide) (law_24 C0 hK hE hin1 hin2 hin3 hin4 hin5 hV hX hR hK2 hM2 hl hc hs kk)
    · exact lv_tableIn (off := 854) (tgt := 887) hx hb (dk_get dk_cL_law_0 0 rfl) (by rw [nI_toInt (by omega)]; omega) (by rw [nI_toInt (by omega)]; omega) (by rw [nI_toInt (by omega)]; rfl) (by decide) (law_25 C0 hK hE hin1 hin2 hin3 hin4 hin5 hV hX hR hK2 hM2 hl hc hs kk)
    · exact lv_tableIn (off := 887) (tgt := 920) hx hb (dk_get dk_cL_law_0 0 rfl) (by rw [nI_toInt (by omega)]; omega) (by rw [nI_toInt (by omega)]; omega) (by rw [nI_toInt (by omega)]; rfl) (by decide) (law_26 C0 hK hE hin1 hin2 hin3 hin4 hin5 hV hX hR hK2 hM2 hl hc hs kk)
    · exact lv_tableIn (off := 900) (tgt := 933) hx hb (dk_get dk_cL_law_0 0 rfl) (by rw [nI_toInt (by omega)]; omega) (by rw [nI_toInt (by omega)]; omega) (by rw [nI_toInt (by omega)]; rfl) (by decide) (law_27 C0 hK hE hin1 hin2 hin3 hin4 hin5 hV hX hR hK2 hM2 hl hc hs kk)
    · exact lv_tableIn (off := 913) (tgt := 946) hx hb (dk_get dk_cL_law_0 0 rfl) (by rw [nI_toInt (by omega)]; omega) (by rw [nI_toInt (by omega)]; omega) (by rw [nI_toInt (by omega)]; rfl) (by decide) (law_28 C0 hK hE hin1 hin2 hin3 hin4 hin5 hV hX hR hK2 hM2 hl hc hs kk)
    · exact lv_tableIn (off := 956) (tgt := 989) hx hb (dk_get dk_cL_law_0 0 rfl) (by rw [nI_toInt (by omega)]; omega) (by rw [nI_toInt (by omega)]; omega) (by rw [nI_toInt (by omega)]; rfl) (by decide) (law_29 C0 hK hE hin1 hin2 hin3 hin4 hin5 hV hX hR hK2 hM2 hl hc hs kk)
    · exact lv_tableIn (off := 979) (tgt := 1012) hx hb (dk_get dk_cL_law_0 0 rfl) (by rw [nI_toInt (by omega)]; omega) (by rw [nI_toInt (by omega)]; omega) (by rw [nI_toInt (by omega)]; rfl) (by decide) (law_30 C0 hK hE hin1 hin2 hin3 hin4 hin5 hV hX hR hK2 hM2 hl hc hs kk)
    · exact lv_tableIn (off := 1012) (tgt := 1045) hx hb (dk_get dk_cL_law_0 0 rfl) (by rw [nI_toInt (by omega)]; omega) (by rw [nI_toInt (by omega)]; omega) (by rw [nI_toInt (by omega)]; rfl) (by decide) (law_31 C0 hK hE hin1 hin2 hin3 hin4 hin5 hV hX hR hK2 hM2 hl hc hs kk)
    · exact lv_tableIn (off := 1035) (tgt := 1068) hx hb (dk_get dk_cL_law_0 0 rfl) (by rw [nI_toInt (by omega)]; omega) (by rw [nI_toInt (by omega)]; omega) (by rw [nI_toInt (by omega)]; rfl) (by decide) (law_32 C0 hK hE hin1 hin2 hin3 hin4 hin5 hV hX hR hK2 hM2 hl hc hs kk)
    · exact lv_tableIn (off := 1078) (tgt := 1111) hx hb (dk_get dk_cL_law_0 0 rfl) (by rw [nI_toInt (by omega)]; omega) (by rw [nI_toInt (by omega)]; omega) (by rw [nI_toInt (by omega)]; rfl) (by decide) (law_33 C0 hK hE hin1 hin2 hin3 hin4 hin5 hV hX hR hK2 hM2 hl hc hs kk)
    · exact lv_tableIn (off := 1151) (tgt := 1184) hx hb (dk_get dk_cL_law_0 0 rfl) (by rw [nI_toInt (by omega)]; omega) (by rw [nI_toInt (by omega)]; omega) (by rw [nI_toInt (by omega)]; rfl) (by decide) (law_34 C0 hK hE hin1 hin2 hin3 hin4 hin5 hV hX hR hK2 hM2 hl hc hs kk)
    · exact lv_tableIn (off := 1184) (tgt := 1217) hx hb (dk_get dk_cL_law_0 0 rfl) (by rw [nI_toInt (by omega)]; omega) (by rw [nI_toInt (by omega)]; omega) (by rw [nI_toInt (by omega)]; rfl) (by decide) (law_35 C0 hK hE hin1 hin2 hin3 hin4 hin5 hV hX hR hK2 hM2 hl hc hs kk)
  · refine lv_tableOut (tgt := 1280) hx hb (dk_get dk_cL_law_0 0 rfl) (Or.inr (by rw [nI_toInt (by omega)]; omega)) (by decide) ?_
    exact W.widen (by omega) (by omega) (kk aX SX SR H locs hV hX hR hK2 hM2 rfl)
set_option maxHeartbeats 1600000 in
set_option maxRecDepth 100000 in
/-- the law's loop -/
theorem law_loop {p : Program} {l : Launch} {e : Env} {s : State} {m : MethodId} {below : List Frame} {meth : Method} {c : Code} {b L : Nat} {xs : Nat → Int32} {G : GG} {aR : Nat → Nat} (hr : meth.sig.returnType = ret) (hL : L ≤ 3072) (C0 : lw_At p s m meth c b L xs) (hK : va_K G.1 vwCl (TYS G) s) (hE : EN G (AL s) s s.heap) : ∀ (fu i : Nat) (aX : Nat → Nat) (SX SR : FS) (H : Heap) (locs : List Loc) (cells slots : Nat) (ls : Array Slot), L < i + 6 * fu → i ≤ 3100 → cells + 12 * fu ≤ 600000 → slots + 768 * fu ≤ 7302250 → LV G s H locs aX aR SX SR → XI SX → RI SR → LK SX SR → LE SX SR → lv_has ls 4 [(3, .int (nI i)), (2, .ref (aR 0)), (1, .ref (aX 0)), (0, .ref b)] → W p l e room_1 s m #[Value.ref b] below meth c H locs cells slots (lw_Z below #[Value.ref b] s) (F0 m 18 ls []) := by
  intro fu
  induction fu with
  | zero =>
    intro i aX SX SR H locs cells slots ls h1 h2 h3 h4 hV hX hR hK2 hM2 hl
    obtain ⟨hx, hb, -, hml, hown, hts, hXs, hbl, hlocks, hgv⟩ := id C0
    have hbA : ¬ AL s b := Nat.not_le.mpr hbl
    refine lv_iload_n hx hb (fk_get fk_cL_law_0 10 rfl) rfl (lv_at hl 0 rfl) ?_
    refine lv_aload_n hx hb (fk_get fk_cL_law_0 11 rfl) rfl (lv_at hl 3 rfl) ?_
    refine va_slen hx hb hXs hbl hbA hV.1 (fk_get fk_cL_law_0 12 rfl) ?_
    refine lv_bipush (v := 6) hx hb (fk_get fk_cL_law_0 13 rfl) (by decide) ?_
    refine lv_isub hx hb (fk_get fk_cL_law_0 14 rfl) ?_
    refine lv_icmp_gt (tgt := 1286) hx hb (fk_get fk_cL_law_0 15 rfl) (by decide) (fun _ => ?_) (fun q => ?_)
    · refine va_forget (fun q hq => hV.1.2.2 q hq) (W.widen (k := 600000) (n := 7302250) (by omega) (by omega) ?_)
      refine lv_iconst (v := 1) hx hb (fk_get fk_cL_law_27 17 rfl) (by decide) ?_
      exact lw_ret hx hb hr hlocks (fk_get fk_cL_law_27 18 rfl)
    · have := lw_go hL (by omega) q
      omega
  | succ fu ih =>
    intro i aX SX SR H locs cells slots ls h1 h2 h3 h4 hV hX hR hK2 hM2 hl
    obtain ⟨hx, hb, -, hml, hown, hts, hXs, hbl, hlocks, hgv⟩ := id C0
    have hbA : ¬ AL s b := Nat.not_le.mpr hbl
    refine lv_iload_n hx hb (fk_get fk_cL_law_0 10 rfl) rfl (lv_at hl 0 rfl) ?_
    refine lv_aload_n hx hb (fk_get fk_cL_law_0 11 rfl) rfl (lv_at hl 3 rfl) ?_
    refine va_slen hx hb hXs hbl hbA hV.1 (fk_get fk_cL_law_0 12 rfl) ?_
    refine lv_bipush (v := 6) hx hb (fk_get fk_cL_law_0 13 rfl) (by decide) ?_
    refine lv_isub hx hb (fk_get fk_cL_law_0 14 rfl) ?_
    refine lv_icmp_gt (tgt := 1286) hx hb (fk_get fk_cL_law_0 15 rfl) (by decide) (fun _ => ?_) (fun q => ?_)
    · refine va_forget (fun q hq => hV.1.2.2 q hq) (W.widen (k := 600000) (n := 7302250) (by omega) (by omega) ?_)
      refine lv_iconst (v := 1) hx hb (fk_get fk_cL_law_27 17 rfl) (by decide) ?_
      exact lw_ret hx hb hr hlocks (fk_get fk_cL_law_27 18 rfl)
    · have hi := lw_go hL (by omega) q
      refine lv_aload_n hx hb (fk_get fk_cL_law_0 16 rfl) rfl (lv_at hl 3 rfl) ?_
      refine lv_iload_n hx hb (fk_get fk_cL_law_0 17 rfl) rfl (lv_at hl 0 rfl) ?_
      refine va_sld hx hb hXs hbl hbA hV.1 (vp_in_nI (by omega) (by omega)) (fk_get fk_cL_law_0 18 rfl) ?_
      refine lv_bipush (v := 63) hx hb (fk_get fk_cL_law_0 19 rfl) (by decide) ?_
      refine lv_iand hx hb (fk_get fk_cL_law_0 20 rfl) ?_
      refine law_sw C0 hK hE (lw_in (k := 1) hL (by omega)) (lw_in (k := 2) hL (by omega)) (lw_in (k := 3) hL (by omega)) (lw_in (k := 4) hL (by omega)) (lw_in (k := 5) hL (by omega)) hV hX hR hK2 hM2 hl (by omega) (by omega) (fun aX1 SX1 SR1 H1 locs1 g1 g2 g3 g4 g6 g5 => ?_)
      refine lv_iinc (v := nI (i + 6)) (lv' := [(3, .int (nI (i + 6))), (2, .ref (aR 0)), (1, .ref (aX 0)), (0, .ref b)]) hx hb (fk_get fk_cL_law_27 15 rfl) hl (k := 0) rfl (by rw [← nI_add]; rfl) (by decide) rfl (fun ls hl => ?_)
      refine lv_goto (tgt := 18) hx hb (fk_get fk_cL_law_27 16 rfl) (by decide) ?_
      exact ih (i + 6) aX1 SX1 SR1 H1 locs1 (cells + 12) (slots + 768) ls (by omega) (by omega) (by omega) (by omega) g1 g2 g3 g4 g6 (by rw [g5]; exact hl)
