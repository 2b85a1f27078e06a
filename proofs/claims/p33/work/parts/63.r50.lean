set_option maxHeartbeats 800000 in
set_option maxRecDepth 100000 in
theorem c_x5_buys3 (l : Launch) (G : GG) (ad : Nat → Nat) (S : FS) (sz : Nat) (qz i z : Nat) (x : Int32) (hq : qz < 7) (hpk : pk i = 7) (hzz : fF S 61 2 = nI z) (hzN : z + 3 ≤ 40) (hX : XI S) : Met l yX5_buys (Cond.code yX5_buys cX5_buys 4 (some .int) :: TBL) ({ frames := 15, cells := 3, slots := 192, locals := 479 } : Room) (PcE G (wX G ad S) sz [.ref (ad (2 + qz)), .ref (ad i), .int (x), .ref (ad 61)]) (va_Qi (fun (r : Int32) (u : FS × (Nat → Nat)) => XI u.1 ∧ Fr (fun j k => j = 61 ∨ 71 ≤ j) S u.1 ∧ (∀ j, j < 71 + fC S → u.2 j = ad j) ∧ ∃ z', z' ≤ z + 3 ∧ fF u.1 61 2 = nI z') (fun u t => BW G (va_A (wX G ad S) sz) (wX G u.2 u.1) t) (va_A (wX G ad S) sz)) 3 192 (va_A (wX G ad S) sz) := by
  refine Met.ofW (cc := cX5_buys) (maxL := 4) (ret := (some .int)) (by decide) rfl ?_
  intro p e s m args below meth c₀ s₁ B hml hv
  obtain ⟨rfl, hsz, hP, hK, hD0, hE⟩ := hv
  have hx := B.exec
  have hb := B.bytes
  have hr := B.returns
  have hT : ∀ w ∈ TBL, w.before ([.ref (ad (2 + qz)), .ref (ad i), .int (x), .ref (ad 61)] : List Value).toArray s = true := fun w h => atoms_spec (ws := Cond.code yX5_buys cX5_buys 4 (some .int) :: TBL) B.pre w (List.mem_cons_of_mem _ h)
  have hown : s.vm.findClass "LittleMore$Kind" = some m.cls := findClass_of_methodNamed B.named
  have hlocks := B.notSynchronized
  subst hsz
  have hD := hD0.self (sz := s.heap.size)
  generalize hAe : va_A (wX G ad S) s.heap.size = A at hD hE ⊢
  have hA : ∀ q : Nat, s.heap.size ≤ q → A q := fun q h => by rw [← hAe]; exact Or.inr h
  have hS : va_S A s.heap s.heap [] := va_S.rf
  have hP : va_P G.1 vwCl (wX G ad S) s.heap := hP
  have hl := lv_entry ([.ref (ad (2 + qz)), .ref (ad i), .int (x), .ref (ad 61)]) (n := 4) (Nat.le_of_ble_eq_true rfl)
  rw [lg_entry_eq]
  generalize (lg_sl ([.ref (ad (2 + qz)), .ref (ad i), .int (x), .ref (ad 61)]) ++ List.replicate (4 - (lg_sl ([.ref (ad (2 + qz)), .ref (ad i), .int (x), .ref (ad 61)])).length) Slot.unset).toArray = ls at hl ⊢
  have hl : lv_has ls 4 [(0, .ref (ad (2 + qz))), (1, .ref (ad i)), (2, .int (x)), (3, .ref (ad 61))] := hl
  refine W_abs (fun Q hQ => ?_)
  generalize ([.ref (ad (2 + qz)), .ref (ad i), .int (x), .ref (ad 61)] : List Value).toArray = args at hT hQ ⊢
  have hb_i := pk7 hpk
  obtain ⟨r_k, hr_k⟩ := kcl_at hq
  refine lv_aload_n hx hb dX5_buys_0 rfl (lv_at hl 3 rfl) ?_
  refine lv_bipush (v := 11) hx hb dX5_buys_1 (by decide) ?_
  have hFc := va_self hD hS hA
  refine va_csq (W.runS (As := [.int (11)]) (rest := [.ref (ad 61)]) ⟨hx, hb, hml, hown, hT⟩ (c_jvalueOf l G ad S s.heap.size (11) (by first | assumption | omega) (hX)) (tS 1 hT m4_222 m4_130 m1_26 m4_131 rfl rfl (by decide +kernel) ⟨Nat.le_of_ble_eq_true rfl, Nat.le_of_ble_eq_true rfl⟩) ⟨PcE_blind, PcE_of hP hK hD hE hS (fun q h => hFc q h) _⟩ rfl rfl hl.1 rfl (lv_room (Nat.le_of_ble_eq_true rfl)) dX5_buys_3 ⟨Nat.zero_le _, Nat.zero_le _⟩) (fun r_1 hw_2 => ?_)
  try dsimp only at hw_2
  obtain ⟨jb_3, hb_3, eb_3, rfl⟩ := hw_2
  rw [show va_rf (some (G.2.2.2 jb_3)) = .ref (G.2.2.2 jb_3) from rfl]
  have hFc := va_self hD hS hA
  refine va_calli (va_runV (As := [.ref (G.2.2.2 jb_3)]) (rest := []) ⟨hx, hb, hml, hown, hT⟩ (c_jadd l G ad S s.heap.size (z) (jb_3) (hzz) (by first | assumption | omega) (hb_3) (hX)) (tV 1 hT m4_223 m4_150 m4_151 m1_15 m4_152 rfl rfl (by decide +kernel) ⟨Nat.le_of_ble_eq_true rfl, Nat.le_of_ble_eq_true rfl⟩) ⟨PcE_blind, va_recv hK hP (ci := 1) (q0 := 61) rfl (ix_at (lt71 (by omega)) (cX_lst G ad S)), PcE_of hP hK hD hE hS (fun q h => hFc q h) _⟩ rfl rfl hl.1 rfl (lv_room (Nat.le_of_ble_eq_true rfl)) dX5_buys_6 ⟨Nat.le_of_ble_eq_true rfl, Nat.le_of_ble_eq_true rfl⟩) hS (fun q _ h => hFc q h) hFc (fun r_3 u_ t_ H locs ht_ hvm_ hw_4 hB_ hz_ hk_ hS => ?_)
  obtain ⟨S_5, ad_6⟩ := u_
  dsimp only at hB_ hw_4
  obtain ⟨hP, -, hD1_⟩ := hB_
  rw [ht_] at hP
  have hD : va_D A (wX G ad_6 S_5) := hD1_.weaken (fun k q _ h => hFc q.1 h)
  obtain ⟨hX_7, hF_8_, hg_9_, hw_4⟩ := hw_4
  have hg_9 : ∀ j, j < 71 + fC S → ad_6 j = ad j := fun j hj => (hg_9_ j (Nat.lt_of_lt_of_le hj (Nat.add_le_add_left ((Fr.rf : Fr (fun j k => j = 61 ∨ 71 ≤ j) S S)).1 71))).trans ((fun _ _ => rfl) j hj)
  have hF_8 : Fr (fun j k => j = 61 ∨ 71 ≤ j) S S_5 := Fr.tr (Fr.rf : Fr (fun j k => j = 61 ∨ 71 ≤ j) S S) hF_8_ (fun j k hj h => by have hc_ := ((Fr.rf : Fr (fun j k => j = 61 ∨ 71 ≤ j) S S)).1; omega)
  have hl : lv_has ls 4 [(0, .ref (ad_6 (2 + qz))), (1, .ref (ad_6 i)), (2, .int (x)), (3, .ref (ad_6 61))] := by rw [hg_9_ (2 + qz) ((lt71 (by omega))), hg_9_ i ((lt71 (by omega))), hg_9_ 61 ((lt71 (by omega)))]; exact hl
  obtain ⟨ez_10, hw_4_⟩ := hw_4
  refine lv_pop hx hb dX5_buys_9 rfl ?_
  refine lv_aload_n hx hb dX5_buys_10 rfl (lv_at hl 0 rfl) ?_
  refine lv_aload_n hx hb dX5_buys_11 rfl (lv_at hl 1 rfl) ?_
  refine lv_iload_n hx hb dX5_buys_12 rfl (lv_at hl 2 rfl) ?_
  refine lv_aload_n hx hb dX5_buys_13 rfl (lv_at hl 3 rfl) ?_
  have kk_k_11 : ∀ (rk_11 : Int32) (Sk_11 : FS) (adk_11 : Nat → Nat) (Hk_11 : Heap) (locsk_11 : List Loc) (zk_11 : Nat) (ls : Array Slot), XI Sk_11 → Fr (fun j k => j = 61 ∨ 71 ≤ j) S Sk_11 → (∀ j, j < 71 + fC S → adk_11 j = ad j) → zk_11 ≤ (z + 1) + 2 → fF Sk_11 61 2 = nI zk_11 → va_P G.1 vwCl (wX G adk_11 Sk_11) Hk_11 → va_D A (wX G adk_11 Sk_11) → va_S A s.heap Hk_11 locsk_11 → lv_has ls 4 [(0, .ref (adk_11 (2 + qz))), (1, .ref (adk_11 i)), (2, .int (x)), (3, .ref (adk_11 61))] → W p l e ({ frames := 15, cells := 3, slots := 192, locals := 479 } : Room) s m args below meth c₀ Hk_11 locsk_11 ((0 + 1) + 2) ((0 + 64) + 128) Q (F0 m 17 ls [.int (rk_11)]) := by
    intro rk_11 Sk_11 adk_11 Hk_11 locsk_11 zk_11 ls hXk_11 hFk_11 hgk_11 bzk_11 ezk_11 hP hD hS hl
    refine lv_aload_n hx hb dX5_buys_17 rfl (lv_at hl 1 rfl) ?_
    refine va_get (D := G.1) (ci := 5) (v := .int (fF Sk_11 i 3)) (C := RX3) (T := TX3) (N := 10) hx hb hT inX3 hown hK hP i (ix_at (lt71 (by omega)) (cX_cust hpk)) rfl 3 (by decide) (hT _ m1_149) (fun _ h9 => h9) rfl dX5_buys_18 ?_
    refine lv_isub hx hb dX5_buys_21 ?_
    subst hQ
    have hpost : XI Sk_11 ∧ Fr (fun j k => j = 61 ∨ 71 ≤ j) S Sk_11 ∧ (∀ j, j < 71 + fC S → adk_11 j = ad j) ∧ ∃ z', z' ≤ z + 3 ∧ fF Sk_11 61 2 = nI z' := by
      exact ⟨hXk_11, hFk_11, hgk_11, ⟨_, by omega, ezk_11⟩⟩
    refine W.widen (k := 3) (n := 192) (by omega) (by omega) ?_
    exact W.iret (v := (rk_11 - (fF Sk_11 i 3))) hx hb hr (fun t_ ht_ hW_ => ⟨⟨(rk_11 - (fF Sk_11 i 3)), (Sk_11, adk_11), rfl, hpost, by rw [ht_]; exact hP, va_K.moved hW_.alike hK, hD⟩, hS.F ht_⟩) hS.2.2 dX5_buys_22
  have hFc := va_self hD hS hA
  rcases kq7 hq with rfl | rfl | rfl | rfl | rfl | rfl | rfl
  · refine va_calli (va_runU (As := [.ref (ad_6 i), .int (x), .ref (ad_6 61)]) (rest := []) ⟨hx, hb, hml, hown, hT⟩ (c_x5_asks l G ad_6 S_5 H.size (0) (i) ((z + 1)) (x) ((by omega : 0 < 7)) (hpk) (ez_10) (by first | assumption | omega) (hX_7)) (tU 3 hT m5_8 m4_124 m4_123 m4_122 m1_2 m4_221 rfl rfl rfl (by decide +kernel) ⟨Nat.le_of_ble_eq_true rfl, Nat.le_of_ble_eq_true rfl⟩) ⟨PcE_blind, va_recv hK hP (ci := 7) (q0 := 2 + 0) rfl (ix_at (lt71 (by omega)) (cX_knd (by omega))), PcE_of hP hK hD hE hS (fun q h => hFc q h) _⟩ rfl rfl hl.1 rfl (lv_room (Nat.le_of_ble_eq_true rfl)) dX5_buys_14 ⟨(by show (0 + 1) + 2 ≤ 3; omega), (by show (0 + 64) + 128 ≤ 192; omega)⟩) hS (fun q _ h => hFc q h) hFc (fun r_ u_ t_ H locs ht_ hvm_ hw_ hB_ hz_ hk_ hS => ?_)
    obtain ⟨S1_, ad1_⟩ := u_
    dsimp only at hB_ hw_
    obtain ⟨hP, -, hD1_⟩ := hB_
    rw [ht_] at hP
    have hD : va_D A (wX G ad1_ S1_) := hD1_.weaken (fun k q _ h => hFc q.1 h)
    obtain ⟨hX1_, hF1_, hg1_, z1_, bz1_, ez1_⟩ := hw_
    have hl : lv_has ls 4 [(0, .ref (ad1_ (2 + 0))), (1, .ref (ad1_ i)), (2, .int (x)), (3, .ref (ad1_ 61))] := by rw [hg1_ (2 + 0) ((lt71 (by omega))), hg1_ i ((lt71 (by omega))), hg1_ 61 ((lt71 (by omega)))]; exact hl
    exact kk_k_11 r_ S1_ ad1_ H locs z1_ ls hX1_ (Fr.tr hF_8 hF1_ (fun j k hj h => by have hc_ := (hF_8).1; omega)) (fun j hj => (hg1_ j (Nat.lt_of_lt_of_le hj (Nat.add_le_add_left (hF_8).1 71))).trans (hg_9 j hj)) (by omega) ez1_ hP hD hS hl
  · refine va_calli (va_runU (As := [.ref (ad_6 i), .int (x), .ref (ad_6 61)]) (rest := []) ⟨hx, hb, hml, hown, hT⟩ (c_x5_asks l G ad_6 S_5 H.size (1) (i) ((z + 1)) (x) ((by omega : 1 < 7)) (hpk) (ez_10) (by first | assumption | omega) (hX_7)) (tU 3 hT m5_8 m4_124 m4_213 m4_122 m1_2 m4_221 rfl rfl rfl (by decide +kernel) ⟨Nat.le_of_ble_eq_true rfl, Nat.le_of_ble_eq_true rfl⟩) ⟨PcE_blind, va_recv hK hP (ci := 10) (q0 := 2 + 1) rfl (ix_at (lt71 (by omega)) (cX_knd (by omega))), PcE_of hP hK hD hE hS (fun q h => hFc q h) _⟩ rfl rfl hl.1 rfl (lv_room (Nat.le_of_ble_eq_true rfl)) dX5_buys_14 ⟨(by show (0 + 1) + 2 ≤ 3; omega), (by show (0 + 64) + 128 ≤ 192; omega)⟩) hS (fun q _ h => hFc q h) hFc (fun r_ u_ t_ H locs ht_ hvm_ hw_ hB_ hz_ hk_ hS => ?_)
    obtain ⟨S1_, ad1_⟩ := u_
    dsimp only at hB_ hw_
    obtain ⟨hP, -, hD1_⟩ := hB_
    rw [ht_] at hP
    have hD : va_D A (wX G ad1_ S1_) := hD1_.weaken (fun k q _ h => hFc q.1 h)
    obtain ⟨hX1_, hF1_, hg1_, z1_, bz1_, ez1_⟩ := hw_
    have hl : lv_has ls 4 [(0, .ref (ad1_ (2 + 1))), (1, .ref (ad1_ i)), (2, .int (x)), (3, .ref (ad1_ 61))] := by rw [hg1_ (2 + 1) ((lt71 (by omega))), hg1_ i ((lt71 (by omega))), hg1_ 61 ((lt71 (by omega)))]; exact hl
    exact kk_k_11 r_ S1_ ad1_ H locs z1_ ls hX1_ (Fr.tr hF_8 hF1_ (fun j k hj h => by have hc_ := (hF_8).1; omega)) (fun j hj => (hg1_ j (Nat.lt_of_lt_of_le hj (Nat.add_le_add_left (hF_8).1 71))).trans (hg_9 j hj)) (by omega) ez1_ hP hD hS hl
  · refine va_calli (va_runU (As := [.ref (ad_6 i), .int (x), .ref (ad_6 61)]) (rest := []) ⟨hx, hb, hml, hown, hT⟩ (c_x4_asks l G ad_6 S_5 H.size (2) (i) ((z + 1)) (x) ((by omega : 2 < 7)) (hpk) (ez_10) (by first | assumption | omega) (hX_7)) (tO 3 hT m5_8 m4_124 m4_122 m4_206 m4_207 m1_4 m4_208 m4_221 rfl rfl (by decide +kernel) ⟨Nat.le_of_ble_eq_true rfl, Nat.le_of_ble_eq_true rfl⟩) ⟨PcE_blind, va_recv hK hP (ci := 6) (q0 := 2 + 2) rfl (ix_at (lt71 (by omega)) (cX_knd (by omega))), PcE_of hP hK hD hE hS (fun q h => hFc q h) _⟩ rfl rfl hl.1 rfl (lv_room (Nat.le_of_ble_eq_true rfl)) dX5_buys_14 ⟨(by show (0 + 1) + 2 ≤ 3; omega), (by show (0 + 64) + 128 ≤ 192; omega)⟩) hS (fun q _ h => hFc q h) hFc (fun r_ u_ t_ H locs ht_ hvm_ hw_ hB_ hz_ hk_ hS => ?_)
    obtain ⟨S1_, ad1_⟩ := u_
    dsimp only at hB_ hw_
    obtain ⟨hP, -, hD1_⟩ := hB_
    rw [ht_] at hP
    have hD : va_D A (wX G ad1_ S1_) := hD1_.weaken (fun k q _ h => hFc q.1 h)
    obtain ⟨hX1_, hF1_, hg1_, z1_, bz1_, ez1_⟩ := hw_
    have hl : lv_has ls 4 [(0, .ref (ad1_ (2 + 2))), (1, .ref (ad1_ i)), (2, .int (x)), (3, .ref (ad1_ 61))] := by rw [hg1_ (2 + 2) ((lt71 (by omega))), hg1_ i ((lt71 (by omega))), hg1_ 61 ((lt71 (by omega)))]; exact hl
    exact kk_k_11 r_ S1_ ad1_ H locs z1_ ls hX1_ (Fr.tr hF_8 hF1_ (fun j k hj h => by have hc_ := (hF_8).1; omega)) (fun j hj => (hg1_ j (Nat.lt_of_lt_of_le hj (Nat.add_le_add_left (hF_8).1 71))).trans (hg_9 j hj)) (by omega) ez1_ hP hD hS hl
  · refine va_calli (va_runU (As := [.ref (ad_6 i), .int (x), .ref (ad_6 61)]) (rest := []) ⟨hx, hb, hml, hown, hT⟩ (c_x5_asks l G ad_6 S_5 H.size (3) (i) ((z + 1)) (x) ((by omega : 3 < 7)) (hpk) (ez_10) (by first | assumption | omega) (hX_7)) (tU 3 hT m5_8 m4_124 m4_125 m4_122 m1_2 m4_221 rfl rfl rfl (by decide +kernel) ⟨Nat.le_of_ble_eq_true rfl, Nat.le_of_ble_eq_true rfl⟩) ⟨PcE_blind, va_recv hK hP (ci := 2) (q0 := 2 + 3) rfl (ix_at (lt71 (by omega)) (cX_knd (by omega))), PcE_of hP hK hD hE hS (fun q h => hFc q h) _⟩ rfl rfl hl.1 rfl (lv_room (Nat.le_of_ble_eq_true rfl)) dX5_buys_14 ⟨(by show (0 + 1) + 2 ≤ 3; omega), (by show (0 + 64) + 128 ≤ 192; omega)⟩) hS (fun q _ h => hFc q h) hFc (fun r_ u_ t_ H locs ht_ hvm_ hw_ hB_ hz_ hk_ hS => ?_)
    obtain ⟨S1_, ad1_⟩ := u_
    dsimp only at hB_ hw_
    obtain ⟨hP, -, hD1_⟩ := hB_
    rw [ht_] at hP
    have hD : va_D A (wX G ad1_ S1_) := hD1_.weaken (fun k q _ h => hFc q.1 h)
    obtain ⟨hX1_, hF1_, hg1_, z1_, bz1_, ez1_⟩ := hw_
    have hl : lv_has ls 4 [(0, .ref (ad1_ (2 + 3))), (1, .ref (ad1_ i)), (2, .int (x)), (3, .ref (ad1_ 61))] := by rw [hg1_ (2 + 3) ((lt71 (by omega))), hg1_ i ((lt71 (by omega))), hg1_ 61 ((lt71 (by omega)))]; exact hl
    exact kk_k_11 r_ S1_ ad1_ H locs z1_ ls hX1_ (Fr.tr hF_8 hF1_ (fun j k hj h => by have hc_ := (hF_8).1; omega)) (fun j hj => (hg1_ j (Nat.lt_of_lt_of_le hj (Nat.add_le_add_left (hF_8).1 71))).trans (hg_9 j hj)) (by omega) ez1_ hP hD hS hl
  · refine va_calli (va_runU (As := [.ref (ad_6 i), .int (x), .ref (ad_6 61)]) (rest := []) ⟨hx, hb, hml, hown, hT⟩ (c_x2_asks l G ad_6 S_5 H.size (4) (i) ((z + 1)) (x) ((by omega : 4 < 7)) (hpk) (ez_10) (by first | assumption | omega) (hX_7)) (tO 3 hT m5_8 m4_124 m4_122 m4_126 m4_127 m1_6 m4_128 m4_221 rfl rfl (by decide +kernel) ⟨Nat.le_of_ble_eq_true rfl, Nat.le_of_ble_eq_true rfl⟩) ⟨PcE_blind, va_recv hK hP (ci := 4) (q0 := 2 + 4) rfl (ix_at (lt71 (by omega)) (cX_knd (by omega))), PcE_of hP hK hD hE hS (fun q h => hFc q h) _⟩ rfl rfl hl.1 rfl (lv_room (Nat.le_of_ble_eq_true rfl)) dX5_buys_14 ⟨(by show (0 + 1) + 2 ≤ 3; omega), (by show (0 + 64) + 128 ≤ 192; omega)⟩) hS (fun q _ h => hFc q h) hFc (fun r_ u_ t_ H locs ht_ hvm_ hw_ hB_ hz_ hk_ hS => ?_)
    obtain ⟨S1_, ad1_⟩ := u_
    dsimp only at hB_ hw_
    obtain ⟨hP, -, hD1_⟩ := hB_
    rw [ht_] at hP
    have hD : va_D A (wX G ad1_ S1_) := hD1_.weaken (fun k q _ h => hFc q.1 h)
    obtain ⟨hX1_, hF1_, hg1_, z1_, bz1_, ez1_⟩ := hw_
    have hl : lv_has ls 4 [(0, .ref (ad1_ (2 + 4))), (1, .ref (ad1_ i)), (2, .int (x)), (3, .ref (ad1_ 61))] := by rw [hg1_ (2 + 4) ((lt71 (by omega))), hg1_ i ((lt71 (by omega))), hg1_ 61 ((lt71 (by omega)))]; exact hl
    exact kk_k_11 r_ S1_ ad1_ H locs z1_ ls hX1_ (Fr.tr hF_8 hF1_ (fun j k hj h => by have hc_ := (hF_8).1; omega)) (fun j hj => (hg1_ j (Nat.lt_of_lt_of_le hj (Nat.add_le_add_left (hF_8).1 71))).trans (hg_9 j hj)) (by omega) ez1_ hP hD hS hl
  · refine va_calli (va_runU (As := [.ref (ad_6 i), .int (x), .ref (ad_6 61)]) (rest := []) ⟨hx, hb, hml, hown, hT⟩ (c_x4_asks l G ad_6 S_5 H.size (5) (i) ((z + 1)) (x) ((by omega : 5 < 7)) (hpk) (ez_10) (by first | assumption | omega) (hX_7)) (tO 3 hT m5_8 m4_124 m4_122 m4_212 m4_207 m1_4 m4_208 m4_221 rfl rfl (by decide +kernel) ⟨Nat.le_of_ble_eq_true rfl, Nat.le_of_ble_eq_true rfl⟩) ⟨PcE_blind, va_recv hK hP (ci := 8) (q0 := 2 + 5) rfl (ix_at (lt71 (by omega)) (cX_knd (by omega))), PcE_of hP hK hD hE hS (fun q h => hFc q h) _⟩ rfl rfl hl.1 rfl (lv_room (Nat.le_of_ble_eq_true rfl)) dX5_buys_14 ⟨(by show (0 + 1) + 2 ≤ 3; omega), (by show (0 + 64) + 128 ≤ 192; omega)⟩) hS (fun q _ h => hFc q h) hFc (fun r_ u_ t_ H locs ht_ hvm_ hw_ hB_ hz_ hk_ hS => ?_)
    obtain ⟨S1_, ad1_⟩ := u_
    dsimp only at hB_ hw_
    obtain ⟨hP, -, hD1_⟩ := hB_
    rw [ht_] at hP
    have hD : va_D A (wX G ad1_ S1_) := hD1_.weaken (fun k q _ h => hFc q.1 h)
    obtain ⟨hX1_, hF1_, hg1_, z1_, bz1_, ez1_⟩ := hw_
    have hl : lv_has ls 4 [(0, .ref (ad1_ (2 + 5))), (1, .ref (ad1_ i)), (2, .int (x)), (3, .ref (ad1_ 61))] := by rw [hg1_ (2 + 5) ((lt71 (by omega))), hg1_ i ((lt71 (by omega))), hg1_ 61 ((lt71 (by omega)))]; exact hl
    exact kk_k_11 r_ S1_ ad1_ H locs z1_ ls hX1_ (Fr.tr hF_8 hF1_ (fun j k hj h => by have hc_ := (hF_8).1; omega)) (fun j hj => (hg1_ j (Nat.lt_of_lt_of_le hj (Nat.add_le_add_left (hF_8).1 71))).trans (hg_9 j hj)) (by omega) ez1_ hP hD hS hl
  · refine va_calli (va_runU (As := [.ref (ad_6 i), .int (x), .ref (ad_6 61)]) (rest := []) ⟨hx, hb, hml, hown, hT⟩ (c_x10_asks l G ad_6 S_5 H.size (6) (i) ((z + 1)) (x) ((by omega : 6 < 7)) (hpk) (ez_10) (by first | assumption | omega) (hX_7)) (tO 3 hT m5_8 m4_124 m4_122 m4_214 m4_215 m1_8 m4_216 m4_221 rfl rfl (by decide +kernel) ⟨Nat.le_of_ble_eq_true rfl, Nat.le_of_ble_eq_true rfl⟩) ⟨PcE_blind, va_recv hK hP (ci := 12) (q0 := 2 + 6) rfl (ix_at (lt71 (by omega)) (cX_knd (by omega))), PcE_of hP hK hD hE hS (fun q h => hFc q h) _⟩ rfl rfl hl.1 rfl (lv_room (Nat.le_of_ble_eq_true rfl)) dX5_buys_14 ⟨(by show (0 + 1) + 2 ≤ 3; omega), (by show (0 + 64) + 128 ≤ 192; omega)⟩) hS (fun q _ h => hFc q h) hFc (fun r_ u_ t_ H locs ht_ hvm_ hw_ hB_ hz_ hk_ hS => ?_)
    obtain ⟨S1_, ad1_⟩ := u_
    dsimp only at hB_ hw_
    obtain ⟨hP, -, hD1_⟩ := hB_
    rw [ht_] at hP
    have hD : va_D A (wX G ad1_ S1_) := hD1_.weaken (fun k q _ h => hFc q.1 h)
    obtain ⟨hX1_, hF1_, hg1_, z1_, bz1_, ez1_⟩ := hw_
    have hl : lv_has ls 4 [(0, .ref (ad1_ (2 + 6))), (1, .ref (ad1_ i)), (2, .int (x)), (3, .ref (ad1_ 61))] := by rw [hg1_ (2 + 6) ((lt71 (by omega))), hg1_ i ((lt71 (by omega))), hg1_ 61 ((lt71 (by omega)))]; exact hl
    exact kk_k_11 r_ S1_ ad1_ H locs z1_ ls hX1_ (Fr.tr hF_8 hF1_ (fun j k hj h => by have hc_ := (hF_8).1; omega)) (fun j hj => (hg1_ j (Nat.lt_of_lt_of_le hj (Nat.add_le_add_left (hF_8).1 71))).trans (hg_9 j hj)) (by omega) ez1_ hP hD hS hl
set_option maxHeartbeats 800000 in
set_option maxRecDepth 100000 in
theorem c_x5_buys (l : Launch) (G : GG) (ad : Nat → Nat) (S : FS) (sz : Nat) (qz i z : Nat) (x : Int32) (hq : qz < 7) (hpk : pk i = 7) (hzz : fF S 61 2 = nI z) (hzN : z + 5 ≤ 40) (hX : XI S) : Met l yX5_buys (Cond.code yX5_buys cX5_buys 4 (some .int) :: TBL) ({ frames := 15, cells := 5, slots := 320, locals := 479 } : Room) (PcE G (wX G ad S) sz [.ref (ad (2 + qz)), .ref (ad i), .int (x), .ref (ad 61)]) (va_Qi (fun (r : Int32) (u : FS × (Nat → Nat)) => XI u.1 ∧ Fr (fun j k => j = 61 ∨ 71 ≤ j) S u.1 ∧ (∀ j, j < 71 + fC S → u.2 j = ad j) ∧ ∃ z', z' ≤ z + 5 ∧ fF u.1 61 2 = nI z') (fun u t => BW G (va_A (wX G ad S) sz) (wX G u.2 u.1) t) (va_A (wX G ad S) sz)) 5 320 (va_A (wX G ad S) sz) := by
  refine Met.ofW (cc := cX5_buys) (maxL := 4) (ret := (some .int)) (by decide) rfl ?_
  intro p e s m args below meth c₀ s₁ B hml hv
  obtain ⟨rfl, hsz, hP, hK, hD0, hE⟩ := hv
  have hx := B.exec
  have hb := B.bytes
  have hr := B.returns
  have hT : ∀ w ∈ TBL, w.before ([.ref (ad (2 + qz)), .ref (ad i), .int (x), .ref (ad 61)] : List Value).toArray s = true := fun w h => atoms_spec (ws := Cond.code yX5_buys cX5_buys 4 (some .int) :: TBL) B.pre w (List.mem_cons_of_mem _ h)
  have hown : s.vm.findClass "LittleMore$Kind" = some m.cls := findClass_of_methodNamed B.named
  have hlocks := B.notSynchronized
  subst hsz
  have hD := hD0.self (sz := s.heap.size)
  generalize hAe : va_A (wX G ad S) s.heap.size = A at hD hE ⊢
  have hA : ∀ q : Nat, s.heap.size ≤ q → A q := fun q h => by rw [← hAe]; exact Or.inr h
  have hS : va_S A s.heap s.heap [] := va_S.rf
  have hP : va_P G.1 vwCl (wX G ad S) s.heap := hP
  have hl := lv_entry ([.ref (ad (2 + qz)), .ref (ad i), .int (x), .ref (ad 61)]) (n := 4) (Nat.le_of_ble_eq_true rfl)
  rw [lg_entry_eq]
  generalize (lg_sl ([.ref (ad (2 + qz)), .ref (ad i), .int (x), .ref (ad 61)]) ++ List.replicate (4 - (lg_sl ([.ref (ad (2 + qz)), .ref (ad i), .int (x), .ref (ad 61)])).length) Slot.unset).toArray = ls at hl ⊢
  have hl : lv_has ls 4 [(0, .ref (ad (2 + qz))), (1, .ref (ad i)), (2, .int (x)), (3, .ref (ad 61))] := hl
  refine W_abs (fun Q hQ => ?_)
  generalize ([.ref (ad (2 + qz)), .ref (ad i), .int (x), .ref (ad 61)] : List Value).toArray = args at hT hQ ⊢
  have hb_i := pk7 hpk
  obtain ⟨r_k, hr_k⟩ := kcl_at hq
  refine lv_aload_n hx hb dX5_buys_0 rfl (lv_at hl 3 rfl) ?_
  refine lv_bipush (v := 11) hx hb dX5_buys_1 (by decide) ?_
  have hFc := va_self hD hS hA
  refine va_csq (W.runS (As := [.int (11)]) (rest := [.ref (ad 61)]) ⟨hx, hb, hml, hown, hT⟩ (c_jvalueOf l G ad S s.heap.size (11) (by first | assumption | omega) (hX)) (tS 1 hT m4_222 m4_130 m1_26 m4_131 rfl rfl (by decide +kernel) ⟨Nat.le_of_ble_eq_true rfl, Nat.le_of_ble_eq_true rfl⟩) ⟨PcE_blind, PcE_of hP hK hD hE hS (fun q h => hFc q h) _⟩ rfl rfl hl.1 rfl (lv_room (Nat.le_of_ble_eq_true rfl)) dX5_buys_3 ⟨Nat.zero_le _, Nat.zero_le _⟩) (fun r_1 hw_2 => ?_)
  try dsimp only at hw_2
  obtain ⟨jb_3, hb_3, eb_3, rfl⟩ := hw_2
  rw [show va_rf (some (G.2.2.2 jb_3)) = .ref (G.2.2.2 jb_3) from rfl]
  have hFc := va_self hD hS hA
  refine va_calli (va_runV (As := [.ref (G.2.2.2 jb_3)]) (rest := []) ⟨hx, hb, hml, hown, hT⟩ (c_jadd l G ad S s.heap.size (z) (jb_3) (hzz) (by first | assumption | omega) (hb_3) (hX)) (tV 1 hT m4_223 m4_150 m4_151 m1_15 m4_152 rfl rfl (by decide +kernel) ⟨Nat.le_of_ble_eq_true rfl, Nat.le_of_ble_eq_true rfl⟩) ⟨PcE_blind, va_recv hK hP (ci := 1) (q0 := 61) rfl (ix_at (lt71 (by omega)) (cX_lst G ad S)), PcE_of hP hK hD hE hS (fun q h => hFc q h) _⟩ rfl rfl hl.1 rfl (lv_room (Nat.le_of_ble_eq_true rfl)) dX5_buys_6 ⟨Nat.le_of_ble_eq_true rfl, Nat.le_of_ble_eq_true rfl⟩) hS (fun q _ h => hFc q h) hFc (fun r_3 u_ t_ H locs ht_ hvm_ hw_4 hB_ hz_ hk_ hS => ?_)
  obtain ⟨S_5, ad_6⟩ := u_
  dsimp only at hB_ hw_4
  obtain ⟨hP, -, hD1_⟩ := hB_
  rw [ht_] at hP
  have hD : va_D A (wX G ad_6 S_5) := hD1_.weaken (fun k q _ h => hFc q.1 h)
  obtain ⟨hX_7, hF_8_, hg_9_, hw_4⟩ := hw_4
  have hg_9 : ∀ j, j < 71 + fC S → ad_6 j = ad j := fun j hj => (hg_9_ j (Nat.lt_of_lt_of_le hj (Nat.add_le_add_left ((Fr.rf : Fr (fun j k => j = 61 ∨ 71 ≤ j) S S)).1 71))).trans ((fun _ _ => rfl) j hj)
  have hF_8 : Fr (fun j k => j = 61 ∨ 71 ≤ j) S S_5 := Fr.tr (Fr.rf : Fr (fun j k => j = 61 ∨ 71 ≤ j) S S) hF_8_ (fun j k hj h => by have hc_ := ((Fr.rf : Fr (fun j k => j = 61 ∨ 71 ≤ j) S S)).1; omega)
  have hl : lv_has ls 4 [(0, .ref (ad_6 (2 + qz))), (1, .ref (ad_6 i)), (2, .int (x)), (3, .ref (ad_6 61))] := by rw [hg_9_ (2 + qz) ((lt71 (by omega))), hg_9_ i ((lt71 (by omega))), hg_9_ 61 ((lt71 (by omega)))]; exact hl
  obtain ⟨ez_10, hw_4_⟩ := hw_4
  refine lv_pop hx hb dX5_buys_9 rfl ?_
  refine lv_aload_n hx hb dX5_buys_10 rfl (lv_at hl 0 rfl) ?_
  refine lv_aload_n hx hb dX5_buys_11 rfl (lv_at hl 1 rfl) ?_
  refine lv_iload_n hx hb dX5_buys_12 rfl (lv_at hl 2 rfl) ?_
  refine lv_aload_n hx hb dX5_buys_13 rfl (lv_at hl 3 rfl) ?_
  have kk_k_11 : ∀ (rk_11 : Int32) (Sk_11 : FS) (adk_11 : Nat → Nat) (Hk_11 : Heap) (locsk_11 : List Loc) (zk_11 : Nat) (ls : Array Slot), XI Sk_11 → Fr (fun j k => j = 61 ∨ 71 ≤ j) S Sk_11 → (∀ j, j < 71 + fC S → adk_11 j = ad j) → zk_11 ≤ (z + 1) + 2 → fF Sk_11 61 2 = nI zk_11 → va_P G.1 vwCl (wX G adk_11 Sk_11) Hk_11 → va_D A (wX G adk_11 Sk_11) → va_S A s.heap Hk_11 locsk_11 → lv_has ls 4 [(0, .ref (adk_11 (2 + qz))), (1, .ref (adk_11 i)), (2, .int (x)), (3, .ref (adk_11 61))] → W p l e ({ frames := 15, cells := 5, slots := 320, locals := 479 } : Room) s m args below meth c₀ Hk_11 locsk_11 ((0 + 1) + 2) ((0 + 64) + 128) Q (F0 m 17 ls [.int (rk_11)]) := by
    intro rk_11 Sk_11 adk_11 Hk_11 locsk_11 zk_11 ls hXk_11 hFk_11 hgk_11 bzk_11 ezk_11 hP hD hS hl
    refine lv_aload_n hx hb dX5_buys_17 rfl (lv_at hl 1 rfl) ?_
    refine va_get (D := G.1) (ci := 5) (v := .int (fF Sk_11 i 3)) (C := RX3) (T := TX3) (N := 10) hx hb hT inX3 hown hK hP i (ix_at (lt71 (by omega)) (cX_cust hpk)) rfl 3 (by decide) (hT _ m1_149) (fun _ h9 => h9) rfl dX5_buys_18 ?_
    refine lv_isub hx hb dX5_buys_21 ?_
    subst hQ
    have hpost : XI Sk_11 ∧ Fr (fun j k => j = 61 ∨ 71 ≤ j) S Sk_11 ∧ (∀ j, j < 71 + fC S → adk_11 j = ad j) ∧ ∃ z', z' ≤ z + 5 ∧ fF Sk_11 61 2 = nI z' := by
      exact ⟨hXk_11, hFk_11, hgk_11, ⟨_, by omega, ezk_11⟩⟩
    refine W.widen (k := 5) (n := 320) (by omega) (by omega) ?_
    exact W.iret (v := (rk_11 - (fF Sk_11 i 3))) hx hb hr (fun t_ ht_ hW_ => ⟨⟨(rk_11 - (fF Sk_11 i 3)), (Sk_11, adk_11), rfl, hpost, by rw [ht_]; exact hP, va_K.moved hW_.alike hK, hD⟩, hS.F ht_⟩) hS.2.2 dX5_buys_22
  have hFc := va_self hD hS hA
  rcases kq7 hq with rfl | rfl | rfl | rfl | rfl | rfl | rfl
  · refine va_calli (va_runU (As := [.ref (ad_6 i), .int (x), .ref (ad_6 61)]) (rest := []) ⟨hx, hb, hml, hown, hT⟩ (c_x5_asks l G ad_6 S_5 H.size (0) (i) ((z + 1)) (x) ((by omega : 0 < 7)) (hpk) (ez_10) (by first | assumption | omega) (hX_7)) (tU 3 hT m5_8 m4_124 m4_123 m4_122 m1_2 m4_221 rfl rfl rfl (by decide +kernel) ⟨Nat.le_of_ble_eq_true rfl, Nat.le_of_ble_eq_true rfl⟩) ⟨PcE_blind, va_recv hK hP (ci := 7) (q0 := 2 + 0) rfl (ix_at (lt71 (by omega)) (cX_knd (by omega))), PcE_of hP hK hD hE hS (fun q h => hFc q h) _⟩ rfl rfl hl.1 rfl (lv_room (Nat.le_of_ble_eq_true rfl)) dX5_buys_14 ⟨(by show (0 + 1) + 2 ≤ 5; omega), (by show (0 + 64) + 128 ≤ 320; omega)⟩) hS (fun q _ h => hFc q h) hFc (fun r_ u_ t_ H locs ht_ hvm_ hw_ hB_ hz_ hk_ hS => ?_)
    obtain ⟨S1_, ad1_⟩ := u_
    dsimp only at hB_ hw_
    obtain ⟨hP, -, hD1_⟩ := hB_
    rw [ht_] at hP
    have hD : va_D A (wX G ad1_ S1_) := hD1_.weaken (fun k q _ h => hFc q.1 h)
    obtain ⟨hX1_, hF1_, hg1_, z1_, bz1_, ez1_⟩ := hw_
    have hl : lv_has ls 4 [(0, .ref (ad1_ (2 + 0))), (1, .ref (ad1_ i)), (2, .int (x)), (3, .ref (ad1_ 61))] := by rw [hg1_ (2 + 0) ((lt71 (by omega))), hg1_ i ((lt71 (by omega))), hg1_ 61 ((lt71 (by omega)))]; exact hl
    exact kk_k_11 r_ S1_ ad1_ H locs z1_ ls hX1_ (Fr.tr hF_8 hF1_ (fun j k hj h => by have hc_ := (hF_8).1; omega)) (fun j hj => (hg1_ j (Nat.lt_of_lt_of_le hj (Nat.add_le_add_left (hF_8).1 71))).trans (hg_9 j hj)) (by omega) ez1_ hP hD hS hl
  · refine va_calli (va_runU (As := [.ref (ad_6 i), .int (x), .ref (ad_6 61)]) (rest := []) ⟨hx, hb, hml, hown, hT⟩ (c_x5_asks l G ad_6 S_5 H.size (1) (i) ((z + 1)) (x) ((by omega : 1 < 7)) (hpk) (ez_10) (by first | assumption | omega) (hX_7)) (tU 3 hT m5_8 m4_124 m4_213 m4_122 m1_2 m4_221 rfl rfl rfl (by decide +kernel) ⟨Nat.le_of_ble_eq_true rfl, Nat.le_of_ble_eq_true rfl⟩) ⟨PcE_blind, va_recv hK hP (ci := 10) (q0 := 2 + 1) rfl (ix_at (lt71 (by omega)) (cX_knd (by omega))), PcE_of hP hK hD hE hS (fun q h => hFc q h) _⟩ rfl rfl hl.1 rfl (lv_room (Nat.le_of_ble_eq_true rfl)) dX5_buys_14 ⟨(by show (0 + 1) + 2 ≤ 5; omega), (by show (0 + 64) + 128 ≤ 320; omega)⟩) hS (fun q _ h => hFc q h) hFc (fun r_ u_ t_ H locs ht_ hvm_ hw_ hB_ hz_ hk_ hS => ?_)
    obtain ⟨S1_, ad1_⟩ := u_
    dsimp only at hB_ hw_
    obtain ⟨hP, -, hD1_⟩ := hB_
    rw [ht_] at hP
    have hD : va_D A (wX G ad1_ S1_) := hD1_.weaken (fun k q _ h => hFc q.1 h)
    obtain ⟨hX1_, hF1_, hg1_, z1_, bz1_, ez1_⟩ := hw_
    have hl : lv_has ls 4 [(0, .ref (ad1_ (2 + 1))), (1, .ref (ad1_ i)), (2, .int (x)), (3, .ref (ad1_ 61))] := by rw [hg1_ (2 + 1) ((lt71 (by omega))), hg1_ i ((lt71 (by omega))), hg1_ 61 ((lt71 (by omega)))]; exact hl
    exact kk_k_11 r_ S1_ ad1_ H locs z1_ ls hX1_ (Fr.tr hF_8 hF1_ (fun j k hj h => by have hc_ := (hF_8).1; omega)) (fun j hj => (hg1_ j (Nat.lt_of_lt_of_le hj (Nat.add_le_add_left (hF_8).1 71))).trans (hg_9 j hj)) (by omega) ez1_ hP hD hS hl
  · refine va_calli (va_runU (As := [.ref (ad_6 i), .int (x), .ref (ad_6 61)]) (rest := []) ⟨hx, hb, hml, hown, hT⟩ (c_x4_asks l G ad_6 S_5 H.size (2) (i) ((z + 1)) (x) ((by omega : 2 < 7)) (hpk) (ez_10) (by first | assumption | omega) (hX_7)) (tO 3 hT m5_8 m4_124 m4_122 m4_206 m4_207 m1_4 m4_208 m4_221 rfl rfl (by decide +kernel) ⟨Nat.le_of_ble_eq_true rfl, Nat.le_of_ble_eq_true rfl⟩) ⟨PcE_blind, va_recv hK hP (ci := 6) (q0 := 2 + 2) rfl (ix_at (lt71 (by omega)) (cX_knd (by omega))), PcE_of hP hK hD hE hS (fun q h => hFc q h) _⟩ rfl rfl hl.1 rfl (lv_room (Nat.le_of_ble_eq_true rfl)) dX5_buys_14 ⟨(by show (0 + 1) + 2 ≤ 5; omega), (by show (0 + 64) + 128 ≤ 320; omega)⟩) hS (fun q _ h => hFc q h) hFc (fun r_ u_ t_ H locs ht_ hvm_ hw_ hB_ hz_ hk_ hS => ?_)
    obtain ⟨S1_, ad1_⟩ := u_
    dsimp only at hB_ hw_
    obtain ⟨hP, -, hD1_⟩ := hB_
    rw [ht_] at hP
    have hD : va_D A (wX G ad1_ S1_) := hD1_.weaken (fun k q _ h => hFc q.1 h)
    obtain ⟨hX1_, hF1_, hg1_, z1_, bz1_, ez1_⟩ := hw_
    have hl : lv_has ls 4 [(0, .ref (ad1_ (2 + 2))), (1, .ref (ad1_ i)), (2, .int (x)), (3, .ref (ad1_ 61))] := by rw [hg1_ (2 + 2) ((lt71 (by omega))), hg1_ i ((lt71 (by omega))), hg1_ 61 ((lt71 (by omega)))]; exact hl
    exact kk_k_11 r_ S1_ ad1_ H locs z1_ ls hX1_ (Fr.tr hF_8 hF1_ (fun j k hj h => by have hc_ := (hF_8).1; omega)) (fun j hj => (hg1_ j (Nat.lt_of_lt_of_le hj (Nat.add_le_add_left (hF_8).1 71))).trans (hg_9 j hj)) (by omega) ez1_ hP hD hS hl
  · refine va_calli (va_runU (As := [.ref (ad_6 i), .int (x), .ref (ad_6 61)]) (rest := []) ⟨hx, hb, hml, hown, hT⟩ (c_x5_asks l G ad_6 S_5 H.size (3) (i) ((z + 1)) (x) ((by omega : 3 < 7)) (hpk) (ez_10) (by first | assumption | omega) (hX_7)) (tU 3 hT m5_8 m4_124 m4_125 m4_122 m1_2 m4_221 rfl rfl rfl (by decide +kernel) ⟨Nat.le_of_ble_eq_true rfl, Nat.le_of_ble_eq_true rfl⟩) ⟨PcE_blind, va_recv hK hP (ci := 2) (q0 := 2 + 3) rfl (ix_at (lt71 (by omega)) (cX_knd (by omega))), PcE_of hP hK hD hE hS (fun q h => hFc q h) _⟩ rfl rfl hl.1 rfl (lv_room (Nat.le_of_ble_eq_true rfl)) dX5_buys_14 ⟨(by show (0 + 1) + 2 ≤ 5; omega), (by show (0 + 64) + 128 ≤ 320; omega)⟩) hS (fun q _ h => hFc q h) hFc (fun r_ u_ t_ H locs ht_ hvm_ hw_ hB_ hz_ hk_ hS => ?_)
    obtain ⟨S1_, ad1_⟩ := u_
    dsimp only at hB_ hw_
    obtain ⟨hP, -, hD1_⟩ := hB_
    rw [ht_] at hP
    have hD : va_D A (wX G ad1_ S1_) := hD1_.weaken (fun k q _ h => hFc q.1 h)
    obtain ⟨hX1_, hF1_, hg1_, z1_, bz1_, ez1_⟩ := hw_
    have hl : lv_has ls 4 [(0, .ref (ad1_ (2 + 3))), (1, .ref (ad1_ i)), (2, .int (x)), (3, .ref (ad1_ 61))] := by rw [hg1_ (2 + 3) ((lt71 (by omega))), hg1_ i ((lt71 (by omega))), hg1_ 61 ((lt71 (by omega)))]; exact hl
    exact kk_k_11 r_ S1_ ad1_ H locs z1_ ls hX1_ (Fr.tr hF_8 hF1_ (fun j k hj h => by have hc_ := (hF_8).1; omega)) (fun j hj => (hg1_ j (Nat.lt_of_lt_of_le hj (Nat.add_le_add_left (hF_8).1 71))).trans (hg_9 j hj)) (by omega) ez1_ hP hD hS hl
  · refine va_calli (va_runU (As := [.ref (ad_6 i), .int (x), .ref (ad_6 61)]) (rest := []) ⟨hx, hb, hml, hown, hT⟩ (c_x2_asks l G ad_6 S_5 H.size (4) (i) ((z + 1)) (x) ((by omega : 4 < 7)) (hpk) (ez_10) (by first | assumption | omega) (hX_7)) (tO 3 hT m5_8 m4_124 m4_122 m4_126 m4_127 m1_6 m4_128 m4_221 rfl rfl (by decide +kernel) ⟨Nat.le_of_ble_eq_true rfl, Nat.le_of_ble_eq_true rfl⟩) ⟨PcE_blind, va_recv hK hP (ci := 4) (q0 := 2 + 4) rfl (ix_at (lt71 (by omega)) (cX_knd (by omega))), PcE_of hP hK hD hE hS (fun q h => hFc q h) _⟩ rfl rfl hl.1 rfl (lv_room (Nat.le_of_ble_eq_true rfl)) dX5_buys_14 ⟨(by show (0 + 1) + 2 ≤ 5; omega), (by show (0 + 64) + 128 ≤ 320; omega)⟩) hS (fun q _ h => hFc q h) hFc (fun r_ u_ t_ H locs ht_ hvm_ hw_ hB_ hz_ hk_ hS => ?_)
    obtain ⟨S1_, ad1_⟩ := u_
    dsimp only at hB_ hw_
    obtain ⟨hP, -, hD1_⟩ := hB_
    rw [ht_] at hP
    have hD : va_D A (wX G ad1_ S1_) := hD1_.weaken (fun k q _ h => hFc q.1 h)
    obtain ⟨hX1_, hF1_, hg1_, z1_, bz1_, ez1_⟩ := hw_
    have hl : lv_has ls 4 [(0, .ref (ad1_ (2 + 4))), (1, .ref (ad1_ i)), (2, .int (x)), (3, .ref (ad1_ 61))] := by rw [hg1_ (2 + 4) ((lt71 (by omega))), hg1_ i ((lt71 (by omega))), hg1_ 61 ((lt71 (by omega)))]; exact hl
    exact kk_k_11 r_ S1_ ad1_ H locs z1_ ls hX1_ (Fr.tr hF_8 hF1_ (fun j k hj h => by have hc_ := (hF_8).1; omega)) (fun j hj => (hg1_ j (Nat.lt_of_lt_of_le hj (Nat.add_le_add_left (hF_8).1 71))).trans (hg_9 j hj)) (by omega) ez1_ hP hD hS hl
  · refine va_calli (va_runU (As := [.ref (ad_6 i), .int (x), .ref (ad_6 61)]) (rest := []) ⟨hx, hb, hml, hown, hT⟩ (c_x4_asks l G ad_6 S_5 H.size (5) (i) ((z + 1)) (x) ((by omega : 5 < 7)) (hpk) (ez_10) (by first | assumption | omega) (hX_7)) (tO 3 hT m5_8 m4_124 m4_122 m4_212 m4_207 m1_4 m4_208 m4_221 rfl rfl (by decide +kernel) ⟨Nat.le_of_ble_eq_true rfl, Nat.le_of_ble_eq_true rfl⟩) ⟨PcE_blind, va_recv hK hP (ci := 8) (q0 := 2 + 5) rfl (ix_at (lt71 (by omega)) (cX_knd (by omega))), PcE_of hP hK hD hE hS (fun q h => hFc q h) _⟩ rfl rfl hl.1 rfl (lv_room (Nat.le_of_ble_eq_true rfl)) dX5_buys_14 ⟨(by show (0 + 1) + 2 ≤ 5; omega), (by show (0 + 64) + 128 ≤ 320; omega)⟩) hS (fun q _ h => hFc q h) hFc (fun r_ u_ t_ H locs ht_ hvm_ hw_ hB_ hz_ hk_ hS => ?_)
    obtain ⟨S1_, ad1_⟩ := u_
    dsimp only at hB_ hw_
    obtain ⟨hP, -, hD1_⟩ := hB_
    rw [ht_] at hP
    have hD : va_D A (wX G ad1_ S1_) := hD1_.weaken (fun k q _ h => hFc q.1 h)
    obtain ⟨hX1_, hF1_, hg1_, z1_, bz1_, ez1_⟩ := hw_
    have hl : lv_has ls 4 [(0, .ref (ad1_ (2 + 5))), (1, .ref (ad1_ i)), (2, .int (x)), (3, .ref (ad1_ 61))] := by rw [hg1_ (2 + 5) ((lt71 (by omega))), hg1_ i ((lt71 (by omega))), hg1_ 61 ((lt71 (by omega)))]; exact hl
    exact kk_k_11 r_ S1_ ad1_ H locs z1_ ls hX1_ (Fr.tr hF_8 hF1_ (fun j k hj h => by have hc_ := (hF_8).1; omega)) (fun j hj => (hg1_ j (Nat.lt_of_lt_of_le hj (Nat.add_le_add_left (hF_8).1 71))).trans (hg_9 j hj)) (by omega) ez1_ hP hD hS hl
  · refine va_calli (va_runU (As := [.ref (ad_6 i), .int (x), .ref (ad_6 61)]) (rest := []) ⟨hx, hb, hml, hown, hT⟩ (c_x10_asks l G ad_6 S_5 H.size (6) (i) ((z + 1)) (x) ((by omega : 6 < 7)) (hpk) (ez_10) (by first | assumption | omega) (hX_7)) (tO 3 hT m5_8 m4_124 m4_122 m4_214 m4_215 m1_8 m4_216 m4_221 rfl rfl (by decide +kernel) ⟨Nat.le_of_ble_eq_true rfl, Nat.le_of_ble_eq_true rfl⟩) ⟨PcE_blind, va_recv hK hP (ci := 12) (q0 := 2 + 6) rfl (ix_at (lt71 (by omega)) (cX_knd (by omega))), PcE_of hP hK hD hE hS (fun q h => hFc q h) _⟩ rfl rfl hl.1 rfl (lv_room (Nat.le_of_ble_eq_true rfl)) dX5_buys_14 ⟨(by show (0 + 1) + 2 ≤ 5; omega), (by show (0 + 64) + 128 ≤ 320; omega)⟩) hS (fun q _ h => hFc q h) hFc (fun r_ u_ t_ H locs ht_ hvm_ hw_ hB_ hz_ hk_ hS => ?_)
    obtain ⟨S1_, ad1_⟩ := u_
    dsimp only at hB_ hw_
    obtain ⟨hP, -, hD1_⟩ := hB_
    rw [ht_] at hP
    have hD : va_D A (wX G ad1_ S1_) := hD1_.weaken (fun k q _ h => hFc q.1 h)
    obtain ⟨hX1_, hF1_, hg1_, z1_, bz1_, ez1_⟩ := hw_
    have hl : lv_has ls 4 [(0, .ref (ad1_ (2 + 6))), (1, .ref (ad1_ i)), (2, .int (x)), (3, .ref (ad1_ 61))] := by rw [hg1_ (2 + 6) ((lt71 (by omega))), hg1_ i ((lt71 (by omega))), hg1_ 61 ((lt71 (by omega)))]; exact hl
    exact kk_k_11 r_ S1_ ad1_ H locs z1_ ls hX1_ (Fr.tr hF_8 hF1_ (fun j k hj h => by have hc_ := (hF_8).1; omega)) (fun j hj => (hg1_ j (Nat.lt_of_lt_of_le hj (Nat.add_le_add_left (hF_8).1 71))).trans (hg_9 j hj)) (by omega) ez1_ hP hD hS hl
set_option maxHeartbeats 800000 in
set_option maxRecDepth 100000 in
theorem c_x8_buys4 (l : Launch) (G : GG) (ad : Nat → Nat) (S : FS) (sz : Nat) (qz i z : Nat) (x : Int32) (hq : qz < 7) (hpk : pk i = 7) (hzz : fF S 61 2 = nI z) (hzN : z + 4 ≤ 40) (hX : XI S) : Met l yX8_buys (Cond.code yX8_buys cX8_buys 4 (some .int) :: TBL) ({ frames := 16, cells := 4, slots := 256, locals := 506 } : Room) (PcE G (wX G ad S) sz [.ref (ad (2 + qz)), .ref (ad i), .int (x), .ref (ad 61)]) (va_Qi (fun (r : Int32) (u : FS × (Nat → Nat)) => XI u.1 ∧ Fr (fun j k => j = 61 ∨ 71 ≤ j) S u.1 ∧ (∀ j, j < 71 + fC S → u.2 j = ad j) ∧ ∃ z', z' ≤ z + 4 ∧ fF u.1 61 2 = nI z') (fun u t => BW G (va_A (wX G ad S) sz) (wX G u.2 u.1) t) (va_A (wX G ad S) sz)) 4 256 (va_A (wX G ad S) sz) := by
  refine Met.ofW (cc := cX8_buys) (maxL := 4) (ret := (some .int)) (by decide) rfl ?_
  intro p e s m args below meth c₀ s₁ B hml hv
  obtain ⟨rfl, hsz, hP, hK, hD0, hE⟩ := hv
  have hx := B.exec
  have hb := B.bytes
  have hr := B.returns
  have hT : ∀ w ∈ TBL, w.before ([.ref (ad (2 + qz)), .ref (ad i), .int (x), .ref (ad 61)] : List Value).toArray s = true := fun w h => atoms_spec (ws := Cond.code yX8_buys cX8_buys 4 (some .int) :: TBL) B.pre w (List.mem_cons_of_mem _ h)
  have hown : s.vm.findClass "LittleMore$Strict" = some m.cls := findClass_of_methodNamed B.named
  have hlocks := B.notSynchronized
  subst hsz
  have hD := hD0.self (sz := s.heap.size)
  generalize hAe : va_A (wX G ad S) s.heap.size = A at hD hE ⊢
  have hA : ∀ q : Nat, s.heap.size ≤ q → A q := fun q h => by rw [← hAe]; exact Or.inr h
  have hS : va_S A s.heap s.heap [] := va_S.rf
  have hP : va_P G.1 vwCl (wX G ad S) s.heap := hP
  have hl := lv_entry ([.ref (ad (2 + qz)), .ref (ad i), .int (x), .ref (ad 61)]) (n := 4) (Nat.le_of_ble_eq_true rfl)
  rw [lg_entry_eq]
  generalize (lg_sl ([.ref (ad (2 + qz)), .ref (ad i), .int (x), .ref (ad 61)]) ++ List.replicate (4 - (lg_sl ([.ref (ad (2 + qz)), .ref (ad i), .int (x), .ref (ad 61)])).length) Slot.unset).toArray = ls at hl ⊢
  have hl : lv_has ls 4 [(0, .ref (ad (2 + qz))), (1, .ref (ad i)), (2, .int (x)), (3, .ref (ad 61))] := hl
  refine W_abs (fun Q hQ => ?_)
  generalize ([.ref (ad (2 + qz)), .ref (ad i), .int (x), .ref (ad 61)] : List Value).toArray = args at hT hQ ⊢
  have hb_i := pk7 hpk
  obtain ⟨r_k, hr_k⟩ := kcl_at hq
  refine lv_aload_n hx hb dX8_buys_0 rfl (lv_at hl 3 rfl) ?_
  refine lv_bipush (v := 20) hx hb dX8_buys_1 (by decide) ?_
  have hFc := va_self hD hS hA
  refine va_csq (W.runS (As := [.int (20)]) (rest := [.ref (ad 61)]) ⟨hx, hb, hml, hown, hT⟩ (c_jvalueOf l G ad S s.heap.size (20) (by first | assumption | omega) (hX)) (tS 1 hT m4_235 m4_130 m1_26 m4_131 rfl rfl (by decide +kernel) ⟨Nat.le_of_ble_eq_true rfl, Nat.le_of_ble_eq_true rfl⟩) ⟨PcE_blind, PcE_of hP hK hD hE hS (fun q h => hFc q h) _⟩ rfl rfl hl.1 rfl (lv_room (Nat.le_of_ble_eq_true rfl)) dX8_buys_3 ⟨Nat.zero_le _, Nat.zero_le _⟩) (fun r_1 hw_2 => ?_)
  try dsimp only at hw_2
  obtain ⟨jb_3, hb_3, eb_3, rfl⟩ := hw_2
  rw [show va_rf (some (G.2.2.2 jb_3)) = .ref (G.2.2.2 jb_3) from rfl]
  have hFc := va_self hD hS hA
  refine va_calli (va_runV (As := [.ref (G.2.2.2 jb_3)]) (rest := []) ⟨hx, hb, hml, hown, hT⟩ (c_jadd l G ad S s.heap.size (z) (jb_3) (hzz) (by first | assumption | omega) (hb_3) (hX)) (tV 1 hT m4_236 m4_150 m4_151 m1_15 m4_152 rfl rfl (by decide +kernel) ⟨Nat.le_of_ble_eq_true rfl, Nat.le_of_ble_eq_true rfl⟩) ⟨PcE_blind, va_recv hK hP (ci := 1) (q0 := 61) rfl (ix_at (lt71 (by omega)) (cX_lst G ad S)), PcE_of hP hK hD hE hS (fun q h => hFc q h) _⟩ rfl rfl hl.1 rfl (lv_room (Nat.le_of_ble_eq_true rfl)) dX8_buys_6 ⟨Nat.le_of_ble_eq_true rfl, Nat.le_of_ble_eq_true rfl⟩) hS (fun q _ h => hFc q h) hFc (fun r_3 u_ t_ H locs ht_ hvm_ hw_4 hB_ hz_ hk_ hS => ?_)
  obtain ⟨S_5, ad_6⟩ := u_
  dsimp only at hB_ hw_4
  obtain ⟨hP, -, hD1_⟩ := hB_
  rw [ht_] at hP
  have hD : va_D A (wX G ad_6 S_5) := hD1_.weaken (fun k q _ h => hFc q.1 h)
  obtain ⟨hX_7, hF_8_, hg_9_, hw_4⟩ := hw_4
  have hg_9 : ∀ j, j < 71 + fC S → ad_6 j = ad j := fun j hj => (hg_9_ j (Nat.lt_of_lt_of_le hj (Nat.add_le_add_left ((Fr.rf : Fr (fun j k => j = 61 ∨ 71 ≤ j) S S)).1 71))).trans ((fun _ _ => rfl) j hj)
  have hF_8 : Fr (fun j k => j = 61 ∨ 71 ≤ j) S S_5 := Fr.tr (Fr.rf : Fr (fun j k => j = 61 ∨ 71 ≤ j) S S) hF_8_ (fun j k hj h => by have hc_ := ((Fr.rf : Fr (fun j k => j = 61 ∨ 71 ≤ j) S S)).1; omega)
  have hl : lv_has ls 4 [(0, .ref (ad_6 (2 + qz))), (1, .ref (ad_6 i)), (2, .int (x)), (3, .ref (ad_6 61))] := by rw [hg_9_ (2 + qz) ((lt71 (by omega))), hg_9_ i ((lt71 (by omega))), hg_9_ 61 ((lt71 (by omega)))]; exact hl
  obtain ⟨ez_10, hw_4_⟩ := hw_4
  refine lv_pop hx hb dX8_buys_9 rfl ?_
  refine lv_aload_n hx hb dX8_buys_10 rfl (lv_at hl 0 rfl) ?_
  refine lv_aload_n hx hb dX8_buys_11 rfl (lv_at hl 1 rfl) ?_
  refine lv_iload_n hx hb dX8_buys_12 rfl (lv_at hl 2 rfl) ?_
  refine lv_aload_n hx hb dX8_buys_13 rfl (lv_at hl 3 rfl) ?_
  have hFc := va_self hD hS hA
  refine va_calli (va_runSU (C := r_k.1) (As := [.ref (ad_6 i), .int (x), .ref (ad_6 61)]) (rest := []) (hK.1 (kcl qz) r_k hr_k).2 ⟨hx, hb, hml, hown, hT⟩ (c_x5_buys3 l G ad_6 S_5 H.size (qz) (i) ((z + 1)) (x) (hq) (hpk) (ez_10) (by first | assumption | omega) (hX_7)) (tSU 3 hT m4_237 m4_227 m1_58 m4_225 m1_2 m5_7 rfl rfl (by decide +kernel) ⟨Nat.le_of_ble_eq_true rfl, Nat.le_of_ble_eq_true rfl⟩) ⟨PcE_blind, va_recv hK hP hr_k (ix_at (lt71 (by omega)) (cX_knd hq)), PcE_of hP hK hD hE hS (fun q h => hFc q h) _⟩ rfl rfl hl.1 rfl (lv_room (Nat.le_of_ble_eq_true rfl)) dX8_buys_14 ⟨(by show (0 + 1) + 3 ≤ 4; omega), (by show (0 + 64) + 192 ≤ 256; omega)⟩) hS (fun q _ h => hFc q h) hFc (fun r_11 u_ t_ H locs ht_ hvm_ hw_12 hB_ hz_ hk_ hS => ?_)
  obtain ⟨S_13, ad_14⟩ := u_
  dsimp only at hB_ hw_12
  obtain ⟨hP, -, hD1_⟩ := hB_
  rw [ht_] at hP
  have hD : va_D A (wX G ad_14 S_13) := hD1_.weaken (fun k q _ h => hFc q.1 h)
  obtain ⟨hX_15, hF_16_, hg_17_, hw_12⟩ := hw_12
  have hg_17 : ∀ j, j < 71 + fC S → ad_14 j = ad j := fun j hj => (hg_17_ j (Nat.lt_of_lt_of_le hj (Nat.add_le_add_left (hF_8).1 71))).trans (hg_9 j hj)
  have hF_16 : Fr (fun j k => j = 61 ∨ 71 ≤ j) S S_13 := Fr.tr hF_8 hF_16_ (fun j k hj h => by have hc_ := (hF_8).1; omega)
  have hl : lv_has ls 4 [(0, .ref (ad_14 (2 + qz))), (1, .ref (ad_14 i)), (2, .int (x)), (3, .ref (ad_14 61))] := by rw [hg_17_ (2 + qz) ((lt71 (by omega))), hg_17_ i ((lt71 (by omega))), hg_17_ 61 ((lt71 (by omega)))]; exact hl
  obtain ⟨z_18, bz_18, ez_18⟩ := hw_12
  refine lv_bipush (v := 6) hx hb dX8_buys_17 (by decide) ?_
  refine lv_ixor hx hb dX8_buys_19 ?_
  subst hQ
  have hpost : XI S_13 ∧ Fr (fun j k => j = 61 ∨ 71 ≤ j) S S_13 ∧ (∀ j, j < 71 + fC S → ad_14 j = ad j) ∧ ∃ z', z' ≤ z + 4 ∧ fF S_13 61 2 = nI z' := by
    exact ⟨hX_15, hF_16, hg_17, ⟨_, by omega, ez_18⟩⟩
  refine W.widen (k := 4) (n := 256) (by omega) (by omega) ?_
  exact W.iret (v := (r_11 ^^^ 6)) hx hb hr (fun t_ ht_ hW_ => ⟨⟨(r_11 ^^^ 6), (S_13, ad_14), rfl, hpost, by rw [ht_]; exact hP, va_K.moved hW_.alike hK, hD⟩, hS.F ht_⟩) hS.2.2 dX8_buys_20
set_option maxHeartbeats 800000 in
set_option maxRecDepth 100000 in
theorem c_x8_buys (l : Launch) (G : GG) (ad : Nat → Nat) (S : FS) (sz : Nat) (qz i z : Nat) (x : Int32) (hq : qz < 7) (hpk : pk i = 7) (hzz : fF S 61 2 = nI z) (hzN : z + 5 ≤ 40) (hX : XI S) : Met l yX8_buys (Cond.code yX8_buys cX8_buys 4 (some .int) :: TBL) ({ frames := 16, cells := 5, slots := 320, locals := 506 } : Room) (PcE G (wX G ad S) sz [.ref (ad (2 + qz)), .ref (ad i), .int (x), .ref (ad 61)]) (va_Qi (fun (r : Int32) (u : FS × (Nat → Nat)) => XI u.1 ∧ Fr (fun j k => j = 61 ∨ 71 ≤ j) S u.1 ∧ (∀ j, j < 71 + fC S → u.2 j = ad j) ∧ ∃ z', z' ≤ z + 5 ∧ fF u.1 61 2 = nI z') (fun u t => BW G (va_A (wX G ad S) sz) (wX G u.2 u.1) t) (va_A (wX G ad S) sz)) 5 320 (va_A (wX G ad S) sz) := by
  refine Met.ofW (cc := cX8_buys) (maxL := 4) (ret := (some .int)) (by decide) rfl ?_
  intro p e s m args below meth c₀ s₁ B hml hv
  obtain ⟨rfl, hsz, hP, hK, hD0, hE⟩ := hv
  have hx := B.exec
  have hb := B.bytes
  have hr := B.returns
  have hT : ∀ w ∈ TBL, w.before ([.ref (ad (2 + qz)), .ref (ad i), .int (x), .ref (ad 61)] : List Value).toArray s = true := fun w h => atoms_spec (ws := Cond.code yX8_buys cX8_buys 4 (some .int) :: TBL) B.pre w (List.mem_cons_of_mem _ h)
  have hown : s.vm.findClass "LittleMore$Strict" = some m.cls := findClass_of_methodNamed B.named
  have hlocks := B.notSynchronized
  subst hsz
  have hD := hD0.self (sz := s.heap.size)
  generalize hAe : va_A (wX G ad S) s.heap.size = A at hD hE ⊢
  have hA : ∀ q : Nat, s.heap.size ≤ q → A q := fun q h => by rw [← hAe]; exact Or.inr h
  have hS : va_S A s.heap s.heap [] := va_S.rf
  have hP : va_P G.1 vwCl (wX G ad S) s.heap := hP
  have hl := lv_entry ([.ref (ad (2 + qz)), .ref (ad i), .int (x), .ref (ad 61)]) (n := 4) (Nat.le_of_ble_eq_true rfl)
  rw [lg_entry_eq]
  generalize (lg_sl ([.ref (ad (2 + qz)), .ref (ad i), .int (x), .ref (ad 61)]) ++ List.replicate (4 - (lg_sl ([.ref (ad (2 + qz)), .ref (ad i), .int (x), .ref (ad 61)])).length) Slot.unset).toArray = ls at hl ⊢
  have hl : lv_has ls 4 [(0, .ref (ad (2 + qz))), (1, .ref (ad i)), (2, .int (x)), (3, .ref (ad 61))] := hl
  refine W_abs (fun Q hQ => ?_)
  generalize ([.ref (ad (2 + qz)), .ref (ad i), .int (x), .ref (ad 61)] : List Value).toArray = args at hT hQ ⊢
  have hb_i := pk7 hpk
  obtain ⟨r_k, hr_k⟩ := kcl_at hq
  refine lv_aload_n hx hb dX8_buys_0 rfl (lv_at hl 3 rfl) ?_
  refine lv_bipush (v := 20) hx hb dX8_buys_1 (by decide) ?_
  have hFc := va_self hD hS hA
  refine va_csq (W.runS (As := [.int (20)]) (rest := [.ref (ad 61)]) ⟨hx, hb, hml, hown, hT⟩ (c_jvalueOf l G ad S s.heap.size (20) (by first | assumption | omega) (hX)) (tS 1 hT m4_235 m4_130 m1_26 m4_131 rfl rfl (by decide +kernel) ⟨Nat.le_of_ble_eq_true rfl, Nat.le_of_ble_eq_true rfl⟩) ⟨PcE_blind, PcE_of hP hK hD hE hS (fun q h => hFc q h) _⟩ rfl rfl hl.1 rfl (lv_room (Nat.le_of_ble_eq_true rfl)) dX8_buys_3 ⟨Nat.zero_le _, Nat.zero_le _⟩) (fun r_1 hw_2 => ?_)
  try dsimp only at hw_2
  obtain ⟨jb_3, hb_3, eb_3, rfl⟩ := hw_2
  rw [show va_rf (some (G.2.2.2 jb_3)) = .ref (G.2.2.2 jb_3) from rfl]
  have hFc := va_self hD hS hA
  refine va_calli (va_runV (As := [.ref (G.2.2.2 jb_3)]) (rest := []) ⟨hx, hb, hml, hown, hT⟩ (c_jadd l G ad S s.heap.size (z) (jb_3) (hzz) (by first | assumption | omega) (hb_3) (hX)) (tV 1 hT m4_236 m4_150 m4_151 m1_15 m4_152 rfl rfl (by decide +kernel) ⟨Nat.le_of_ble_eq_true rfl, Nat.le_of_ble_eq_true rfl⟩) ⟨PcE_blind, va_recv hK hP (ci := 1) (q0 := 61) rfl (ix_at (lt71 (by omega)) (cX_lst G ad S)), PcE_of hP hK hD hE hS (fun q h => hFc q h) _⟩ rfl rfl hl.1 rfl (lv_room (Nat.le_of_ble_eq_true rfl)) dX8_buys_6 ⟨Nat.le_of_ble_eq_true rfl, Nat.le_of_ble_eq_true rfl⟩) hS (fun q _ h => hFc q h) hFc (fun r_3 u_ t_ H locs ht_ hvm_ hw_4 hB_ hz_ hk_ hS => ?_)
  obtain ⟨S_5, ad_6⟩ := u_
  dsimp only at hB_ hw_4
  obtain ⟨hP, -, hD1_⟩ := hB_
  rw [ht_] at hP
  have hD : va_D A (wX G ad_6 S_5) := hD1_.weaken (fun k q _ h => hFc q.1 h)
  obtain ⟨hX_7, hF_8_, hg_9_, hw_4⟩ := hw_4
  have hg_9 : ∀ j, j < 71 + fC S → ad_6 j = ad j := fun j hj => (hg_9_ j (Nat.lt_of_lt_of_le hj (Nat.add_le_add_left ((Fr.rf : Fr (fun j k => j = 61 ∨ 71 ≤ j) S S)).1 71))).trans ((fun _ _ => rfl) j hj)
  have hF_8 : Fr (fun j k => j = 61 ∨ 71 ≤ j) S S_5 := Fr.tr (Fr.rf : Fr (fun j k => j = 61 ∨ 71 ≤ j) S S) hF_8_ (fun j k hj h => by have hc_ := ((Fr.rf : Fr (fun j k => j = 61 ∨ 71 ≤ j) S S)).1; omega)
  have hl : lv_has ls 4 [(0, .ref (ad_6 (2 + qz))), (1, .ref (ad_6 i)), (2, .int (x)), (3, .ref (ad_6 61))] := by rw [hg_9_ (2 + qz) ((lt71 (by omega))), hg_9_ i ((lt71 (by omega))), hg_9_ 61 ((lt71 (by omega)))]; exact hl
  obtain ⟨ez_10, hw_4_⟩ := hw_4
  refine lv_pop hx hb dX8_buys_9 rfl ?_
  refine lv_aload_n hx hb dX8_buys_10 rfl (lv_at hl 0 rfl) ?_
  refine lv_aload_n hx hb dX8_buys_11 rfl (lv_at hl 1 rfl) ?_
  refine lv_iload_n hx hb dX8_buys_12 rfl (lv_at hl 2 rfl) ?_
  refine lv_aload_n hx hb dX8_buys_13 rfl (lv_at hl 3 rfl) ?_
  have hFc := va_self hD hS hA
  refine va_calli (va_runSU (C := r_k.1) (As := [.ref (ad_6 i), .int (x), .ref (ad_6 61)]) (rest := []) (hK.1 (kcl qz) r_k hr_k).2 ⟨hx, hb, hml, hown, hT⟩ (c_x5_buys3 l G ad_6 S_5 H.size (qz) (i) ((z + 1)) (x) (hq) (hpk) (ez_10) (by first | assumption | omega) (hX_7)) (tSU 3 hT m4_237 m4_227 m1_58 m4_225 m1_2 m5_7 rfl rfl (by decide +kernel) ⟨Nat.le_of_ble_eq_true rfl, Nat.le_of_ble_eq_true rfl⟩) ⟨PcE_blind, va_recv hK hP hr_k (ix_at (lt71 (by omega)) (cX_knd hq)), PcE_of hP hK hD hE hS (fun q h => hFc q h) _⟩ rfl rfl hl.1 rfl (lv_room (Nat.le_of_ble_eq_true rfl)) dX8_buys_14 ⟨(by show (0 + 1) + 3 ≤ 5; omega), (by show (0 + 64) + 192 ≤ 320; omega)⟩) hS (fun q _ h => hFc q h) hFc (fun r_11 u_ t_ H locs ht_ hvm_ hw_12 hB_ hz_ hk_ hS => ?_)
  obtain ⟨S_13, ad_14⟩ := u_
  dsimp only at hB_ hw_12
  obtain ⟨hP, -, hD1_⟩ := hB_
  rw [ht_] at hP
  have hD : va_D A (wX G ad_14 S_13) := hD1_.weaken (fun k q _ h => hFc q.1 h)
  obtain ⟨hX_15, hF_16_, hg_17_, hw_12⟩ := hw_12
  have hg_17 : ∀ j, j < 71 + fC S → ad_14 j = ad j := fun j hj => (hg_17_ j (Nat.lt_of_lt_of_le hj (Nat.add_le_add_left (hF_8).1 71))).trans (hg_9 j hj)
  have hF_16 : Fr (fun j k => j = 61 ∨ 71 ≤ j) S S_13 := Fr.tr hF_8 hF_16_ (fun j k hj h => by have hc_ := (hF_8).1; omega)
  have hl : lv_has ls 4 [(0, .ref (ad_14 (2 + qz))), (1, .ref (ad_14 i)), (2, .int (x)), (3, .ref (ad_14 61))] := by rw [hg_17_ (2 + qz) ((lt71 (by omega))), hg_17_ i ((lt71 (by omega))), hg_17_ 61 ((lt71 (by omega)))]; exact hl
  obtain ⟨z_18, bz_18, ez_18⟩ := hw_12
  refine lv_bipush (v := 6) hx hb dX8_buys_17 (by decide) ?_
  refine lv_ixor hx hb dX8_buys_19 ?_
  subst hQ
  have hpost : XI S_13 ∧ Fr (fun j k => j = 61 ∨ 71 ≤ j) S S_13 ∧ (∀ j, j < 71 + fC S → ad_14 j = ad j) ∧ ∃ z', z' ≤ z + 5 ∧ fF S_13 61 2 = nI z' := by
    exact ⟨hX_15, hF_16, hg_17, ⟨_, by omega, ez_18⟩⟩
  refine W.widen (k := 5) (n := 320) (by omega) (by omega) ?_
  exact W.iret (v := (r_11 ^^^ 6)) hx hb hr (fun t_ ht_ hW_ => ⟨⟨(r_11 ^^^ 6), (S_13, ad_14), rfl, hpost, by rw [ht_]; exact hP, va_K.moved hW_.alike hK, hD⟩, hS.F ht_⟩) hS.2.2 dX8_buys_20
set_option maxHeartbeats 800000 in
set_option maxRecDepth 100000 in
theorem c_x2_buys (l : Launch) (G : GG) (ad : Nat → Nat) (S : FS) (sz : Nat) (qz i z : Nat) (x : Int32) (hq : qz < 7) (hpk : pk i = 7) (hzz : fF S 61 2 = nI z) (hzN : z + 5 ≤ 40) (hX : XI S) : Met l yX2_buys (Cond.code yX2_buys cX2_buys 4 (some .int) :: TBL) ({ frames := 17, cells := 5, slots := 320, locals := 533 } : Room) (PcE G (wX G ad S) sz [.ref (ad (2 + qz)), .ref (ad i), .int (x), .ref (ad 61)]) (va_Qi (fun (r : Int32) (u : FS × (Nat → Nat)) => XI u.1 ∧ Fr (fun j k => j = 61 ∨ 71 ≤ j) S u.1 ∧ (∀ j, j < 71 + fC S → u.2 j = ad j) ∧ ∃ z', z' ≤ z + 5 ∧ fF u.1 61 2 = nI z') (fun u t => BW G (va_A (wX G ad S) sz) (wX G u.2 u.1) t) (va_A (wX G ad S) sz)) 5 320 (va_A (wX G ad S) sz) := by
  refine Met.ofW (cc := cX2_buys) (maxL := 4) (ret := (some .int)) (by decide) rfl ?_
  intro p e s m args below meth c₀ s₁ B hml hv
  obtain ⟨rfl, hsz, hP, hK, hD0, hE⟩ := hv
  have hx := B.exec
  have hb := B.bytes
  have hr := B.returns
  have hT : ∀ w ∈ TBL, w.before ([.ref (ad (2 + qz)), .ref (ad i), .int (x), .ref (ad 61)] : List Value).toArray s = true := fun w h => atoms_spec (ws := Cond.code yX2_buys cX2_buys 4 (some .int) :: TBL) B.pre w (List.mem_cons_of_mem _ h)
  have hown : s.vm.findClass "LittleMore$Counting" = some m.cls := findClass_of_methodNamed B.named
  have hlocks := B.notSynchronized
  subst hsz
  have hD := hD0.self (sz := s.heap.size)
  generalize hAe : va_A (wX G ad S) s.heap.size = A at hD hE ⊢
  have hA : ∀ q : Nat, s.heap.size ≤ q → A q := fun q h => by rw [← hAe]; exact Or.inr h
  have hS : va_S A s.heap s.heap [] := va_S.rf
  have hP : va_P G.1 vwCl (wX G ad S) s.heap := hP
  have hl := lv_entry ([.ref (ad (2 + qz)), .ref (ad i), .int (x), .ref (ad 61)]) (n := 4) (Nat.le_of_ble_eq_true rfl)
  rw [lg_entry_eq]
  generalize (lg_sl ([.ref (ad (2 + qz)), .ref (ad i), .int (x), .ref (ad 61)]) ++ List.replicate (4 - (lg_sl ([.ref (ad (2 + qz)), .ref (ad i), .int (x), .ref (ad 61)])).length) Slot.unset).toArray = ls at hl ⊢
  have hl : lv_has ls 4 [(0, .ref (ad (2 + qz))), (1, .ref (ad i)), (2, .int (x)), (3, .ref (ad 61))] := hl
  refine W_abs (fun Q hQ => ?_)
  generalize ([.ref (ad (2 + qz)), .ref (ad i), .int (x), .ref (ad 61)] : List Value).toArray = args at hT hQ ⊢
  have hb_i := pk7 hpk
  obtain ⟨r_k, hr_k⟩ := kcl_at hq
  refine lv_aload_n hx hb dX2_buys_0 rfl (lv_at hl 3 rfl) ?_
  refine lv_bipush (v := 51) hx hb dX2_buys_1 (by decide) ?_
  have hFc := va_self hD hS hA
  refine va_csq (W.runS (As := [.int (51)]) (rest := [.ref (ad 61)]) ⟨hx, hb, hml, hown, hT⟩ (c_jvalueOf l G ad S s.heap.size (51) (by first | assumption | omega) (hX)) (tS 1 hT m4_129 m4_130 m1_26 m4_131 rfl rfl (by decide +kernel) ⟨Nat.le_of_ble_eq_true rfl, Nat.le_of_ble_eq_true rfl⟩) ⟨PcE_blind, PcE_of hP hK hD hE hS (fun q h => hFc q h) _⟩ rfl rfl hl.1 rfl (lv_room (Nat.le_of_ble_eq_true rfl)) dX2_buys_3 ⟨Nat.zero_le _, Nat.zero_le _⟩) (fun r_1 hw_2 => ?_)
  try dsimp only at hw_2
  obtain ⟨jb_3, hb_3, eb_3, rfl⟩ := hw_2
  rw [show va_rf (some (G.2.2.2 jb_3)) = .ref (G.2.2.2 jb_3) from rfl]
  have hFc := va_self hD hS hA
  refine va_calli (va_runV (As := [.ref (G.2.2.2 jb_3)]) (rest := []) ⟨hx, hb, hml, hown, hT⟩ (c_jadd l G ad S s.heap.size (z) (jb_3) (hzz) (by first | assumption | omega) (hb_3) (hX)) (tV 1 hT m4_149 m4_150 m4_151 m1_15 m4_152 rfl rfl (by decide +kernel) ⟨Nat.le_of_ble_eq_true rfl, Nat.le_of_ble_eq_true rfl⟩) ⟨PcE_blind, va_recv hK hP (ci := 1) (q0 := 61) rfl (ix_at (lt71 (by omega)) (cX_lst G ad S)), PcE_of hP hK hD hE hS (fun q h => hFc q h) _⟩ rfl rfl hl.1 rfl (lv_room (Nat.le_of_ble_eq_true rfl)) dX2_buys_6 ⟨Nat.le_of_ble_eq_true rfl, Nat.le_of_ble_eq_true rfl⟩) hS (fun q _ h => hFc q h) hFc (fun r_3 u_ t_ H locs ht_ hvm_ hw_4 hB_ hz_ hk_ hS => ?_)
  obtain ⟨S_5, ad_6⟩ := u_
  dsimp only at hB_ hw_4
  obtain ⟨hP, -, hD1_⟩ := hB_
  rw [ht_] at hP
  have hD : va_D A (wX G ad_6 S_5) := hD1_.weaken (fun k q _ h => hFc q.1 h)
  obtain ⟨hX_7, hF_8_, hg_9_, hw_4⟩ := hw_4
  have hg_9 : ∀ j, j < 71 + fC S → ad_6 j = ad j := fun j hj => (hg_9_ j (Nat.lt_of_lt_of_le hj (Nat.add_le_add_left ((Fr.rf : Fr (fun j k => j = 61 ∨ 71 ≤ j) S S)).1 71))).trans ((fun _ _ => rfl) j hj)
  have hF_8 : Fr (fun j k => j = 61 ∨ 71 ≤ j) S S_5 := Fr.tr (Fr.rf : Fr (fun j k => j = 61 ∨ 71 ≤ j) S S) hF_8_ (fun j k hj h => by have hc_ := ((Fr.rf : Fr (fun j k => j = 61 ∨ 71 ≤ j) S S)).1; omega)
  have hl : lv_has ls 4 [(0, .ref (ad_6 (2 + qz))), (1, .ref (ad_6 i)), (2, .int (x)), (3, .ref (ad_6 61))] := by rw [hg_9_ (2 + qz) ((lt71 (by omega))), hg_9_ i ((lt71 (by omega))), hg_9_ 61 ((lt71 (by omega)))]; exact hl
  obtain ⟨ez_10, hw_4_⟩ := hw_4
  refine lv_pop hx hb dX2_buys_9 rfl ?_
  refine lv_aload_n hx hb dX2_buys_10 rfl (lv_at hl 0 rfl) ?_
  refine lv_aload_n hx hb dX2_buys_11 rfl (lv_at hl 1 rfl) ?_
  refine lv_iload_n hx hb dX2_buys_12 rfl (lv_at hl 2 rfl) ?_
  refine lv_iconst (v := 1) hx hb dX2_buys_13 (by decide) ?_
  refine lv_iadd hx hb dX2_buys_14 ?_
  refine lv_aload_n hx hb dX2_buys_15 rfl (lv_at hl 3 rfl) ?_
  have hFc := va_self hD hS hA
  refine va_calli (va_runSU (C := r_k.1) (As := [.ref (ad_6 i), .int ((x + 1)), .ref (ad_6 61)]) (rest := []) (hK.1 (kcl qz) r_k hr_k).2 ⟨hx, hb, hml, hown, hT⟩ (c_x8_buys4 l G ad_6 S_5 H.size (qz) (i) ((z + 1)) ((x + 1)) (hq) (hpk) (ez_10) (by first | assumption | omega) (hX_7)) (tSU 3 hT m4_232 m7_184 m1_82 m4_233 m1_3 m4_234 rfl rfl (by decide +kernel) ⟨Nat.le_of_ble_eq_true rfl, Nat.le_of_ble_eq_true rfl⟩) ⟨PcE_blind, va_recv hK hP hr_k (ix_at (lt71 (by omega)) (cX_knd hq)), PcE_of hP hK hD hE hS (fun q h => hFc q h) _⟩ rfl rfl hl.1 rfl (lv_room (Nat.le_of_ble_eq_true rfl)) dX2_buys_16 ⟨(by show (0 + 1) + 4 ≤ 5; omega), (by show (0 + 64) + 256 ≤ 320; omega)⟩) hS (fun q _ h => hFc q h) hFc (fun r_11 u_ t_ H locs ht_ hvm_ hw_12 hB_ hz_ hk_ hS => ?_)
  obtain ⟨S_13, ad_14⟩ := u_
  dsimp only at hB_ hw_12
  obtain ⟨hP, -, hD1_⟩ := hB_
  rw [ht_] at hP
  have hD : va_D A (wX G ad_14 S_13) := hD1_.weaken (fun k q _ h => hFc q.1 h)
  obtain ⟨hX_15, hF_16_, hg_17_, hw_12⟩ := hw_12
  have hg_17 : ∀ j, j < 71 + fC S → ad_14 j = ad j := fun j hj => (hg_17_ j (Nat.lt_of_lt_of_le hj (Nat.add_le_add_left (hF_8).1 71))).trans (hg_9 j hj)
  have hF_16 : Fr (fun j k => j = 61 ∨ 71 ≤ j) S S_13 := Fr.tr hF_8 hF_16_ (fun j k hj h => by have hc_ := (hF_8).1; omega)
  have hl : lv_has ls 4 [(0, .ref (ad_14 (2 + qz))), (1, .ref (ad_14 i)), (2, .int (x)), (3, .ref (ad_14 61))] := by rw [hg_17_ (2 + qz) ((lt71 (by omega))), hg_17_ i ((lt71 (by omega))), hg_17_ 61 ((lt71 (by omega)))]; exact hl
  obtain ⟨z_18, bz_18, ez_18⟩ := hw_12
  subst hQ
  have hpost : XI S_13 ∧ Fr (fun j k => j = 61 ∨ 71 ≤ j) S S_13 ∧ (∀ j, j < 71 + fC S → ad_14 j = ad j) ∧ ∃ z', z' ≤ z + 5 ∧ fF S_13 61 2 = nI z' := by
    exact ⟨hX_15, hF_16, hg_17, ⟨_, by omega, ez_18⟩⟩
  refine W.widen (k := 5) (n := 320) (by omega) (by omega) ?_
  exact W.iret (v := r_11) hx hb hr (fun t_ ht_ hW_ => ⟨⟨r_11, (S_13, ad_14), rfl, hpost, by rw [ht_]; exact hP, va_K.moved hW_.alike hK, hD⟩, hS.F ht_⟩) hS.2.2 dX2_buys_19
set_option maxHeartbeats 800000 in
set_option maxRecDepth 100000 in
theorem c_x10_buys (l : Launch) (G : GG) (ad : Nat → Nat) (S : FS) (sz : Nat) (qz i z : Nat) (x : Int32) (hq : qz < 7) (hpk : pk i = 7) (hzz : fF S 61 2 = nI z) (hzN : z + 5 ≤ 40) (hX : XI S) : Met l yX10_buys (Cond.code yX10_buys cX10_buys 4 (some .int) :: TBL) ({ frames := 16, cells := 5, slots := 320, locals := 506 } : Room) (PcE G (wX G ad S) sz [.ref (ad (2 + qz)), .ref (ad i), .int (x), .ref (ad 61)]) (va_Qi (fun (r : Int32) (u : FS × (Nat → Nat)) => XI u.1 ∧ Fr (fun j k => j = 61 ∨ 71 ≤ j) S u.1 ∧ (∀ j, j < 71 + fC S → u.2 j = ad j) ∧ ∃ z', z' ≤ z + 5 ∧ fF u.1 61 2 = nI z') (fun u t => BW G (va_A (wX G ad S) sz) (wX G u.2 u.1) t) (va_A (wX G ad S) sz)) 5 320 (va_A (wX G ad S) sz) := by
  refine Met.ofW (cc := cX10_buys) (maxL := 4) (ret := (some .int)) (by decide) rfl ?_
  intro p e s m args below meth c₀ s₁ B hml hv
  obtain ⟨rfl, hsz, hP, hK, hD0, hE⟩ := hv
  have hx := B.exec
  have hb := B.bytes
  have hr := B.returns
  have hT : ∀ w ∈ TBL, w.before ([.ref (ad (2 + qz)), .ref (ad i), .int (x), .ref (ad 61)] : List Value).toArray s = true := fun w h => atoms_spec (ws := Cond.code yX10_buys cX10_buys 4 (some .int) :: TBL) B.pre w (List.mem_cons_of_mem _ h)
  have hown : s.vm.findClass "LittleMore$Told" = some m.cls := findClass_of_methodNamed B.named
  have hlocks := B.notSynchronized
  subst hsz
  have hD := hD0.self (sz := s.heap.size)
  generalize hAe : va_A (wX G ad S) s.heap.size = A at hD hE ⊢
  have hA : ∀ q : Nat, s.heap.size ≤ q → A q := fun q h => by rw [← hAe]; exact Or.inr h
  have hS : va_S A s.heap s.heap [] := va_S.rf
  have hP : va_P G.1 vwCl (wX G ad S) s.heap := hP
  have hl := lv_entry ([.ref (ad (2 + qz)), .ref (ad i), .int (x), .ref (ad 61)]) (n := 4) (Nat.le_of_ble_eq_true rfl)
  rw [lg_entry_eq]
  generalize (lg_sl ([.ref (ad (2 + qz)), .ref (ad i), .int (x), .ref (ad 61)]) ++ List.replicate (4 - (lg_sl ([.ref (ad (2 + qz)), .ref (ad i), .int (x), .ref (ad 61)])).length) Slot.unset).toArray = ls at hl ⊢
  have hl : lv_has ls 4 [(0, .ref (ad (2 + qz))), (1, .ref (ad i)), (2, .int (x)), (3, .ref (ad 61))] := hl
  refine W_abs (fun Q hQ => ?_)
  generalize ([.ref (ad (2 + qz)), .ref (ad i), .int (x), .ref (ad 61)] : List Value).toArray = args at hT hQ ⊢
  have hb_i := pk7 hpk
  obtain ⟨r_k, hr_k⟩ := kcl_at hq
  refine lv_aload_n hx hb dX10_buys_0 rfl (lv_at hl 3 rfl) ?_
  refine lv_bipush (v := 70) hx hb dX10_buys_1 (by decide) ?_
  have hFc := va_self hD hS hA
  refine va_csq (W.runS (As := [.int (70)]) (rest := [.ref (ad 61)]) ⟨hx, hb, hml, hown, hT⟩ (c_jvalueOf l G ad S s.heap.size (70) (by first | assumption | omega) (hX)) (tS 1 hT m4_217 m4_130 m1_26 m4_131 rfl rfl (by decide +kernel) ⟨Nat.le_of_ble_eq_true rfl, Nat.le_of_ble_eq_true rfl⟩) ⟨PcE_blind, PcE_of hP hK hD hE hS (fun q h => hFc q h) _⟩ rfl rfl hl.1 rfl (lv_room (Nat.le_of_ble_eq_true rfl)) dX10_buys_3 ⟨Nat.zero_le _, Nat.zero_le _⟩) (fun r_1 hw_2 => ?_)
  try dsimp only at hw_2
  obtain ⟨jb_3, hb_3, eb_3, rfl⟩ := hw_2
  rw [show va_rf (some (G.2.2.2 jb_3)) = .ref (G.2.2.2 jb_3) from rfl]
  have hFc := va_self hD hS hA
  refine va_calli (va_runV (As := [.ref (G.2.2.2 jb_3)]) (rest := []) ⟨hx, hb, hml, hown, hT⟩ (c_jadd l G ad S s.heap.size (z) (jb_3) (hzz) (by first | assumption | omega) (hb_3) (hX)) (tV 1 hT m4_218 m4_150 m4_151 m1_15 m4_152 rfl rfl (by decide +kernel) ⟨Nat.le_of_ble_eq_true rfl, Nat.le_of_ble_eq_true rfl⟩) ⟨PcE_blind, va_recv hK hP (ci := 1) (q0 := 61) rfl (ix_at (lt71 (by omega)) (cX_lst G ad S)), PcE_of hP hK hD hE hS (fun q h => hFc q h) _⟩ rfl rfl hl.1 rfl (lv_room (Nat.le_of_ble_eq_true rfl)) dX10_buys_6 ⟨Nat.le_of_ble_eq_true rfl, Nat.le_of_ble_eq_true rfl⟩) hS (fun q _ h => hFc q h) hFc (fun r_3 u_ t_ H locs ht_ hvm_ hw_4 hB_ hz_ hk_ hS => ?_)
  obtain ⟨S_5, ad_6⟩ := u_
  dsimp only at hB_ hw_4
  obtain ⟨hP, -, hD1_⟩ := hB_
  rw [ht_] at hP
  have hD : va_D A (wX G ad_6 S_5) := hD1_.weaken (fun k q _ h => hFc q.1 h)
  obtain ⟨hX_7, hF_8_, hg_9_, hw_4⟩ := hw_4
  have hg_9 : ∀ j, j < 71 + fC S → ad_6 j = ad j := fun j hj => (hg_9_ j (Nat.lt_of_lt_of_le hj (Nat.add_le_add_left ((Fr.rf : Fr (fun j k => j = 61 ∨ 71 ≤ j) S S)).1 71))).trans ((fun _ _ => rfl) j hj)
  have hF_8 : Fr (fun j k => j = 61 ∨ 71 ≤ j) S S_5 := Fr.tr (Fr.rf : Fr (fun j k => j = 61 ∨ 71 ≤ j) S S) hF_8_ (fun j k hj h => by have hc_ := ((Fr.rf : Fr (fun j k => j = 61 ∨ 71 ≤ j) S S)).1; omega)
  have hl : lv_has ls 4 [(0, .ref (ad_6 (2 + qz))), (1, .ref (ad_6 i)), (2, .int (x)), (3, .ref (ad_6 61))] := by rw [hg_9_ (2 + qz) ((lt71 (by omega))), hg_9_ i ((lt71 (by omega))), hg_9_ 61 ((lt71 (by omega)))]; exact hl
  obtain ⟨ez_10, hw_4_⟩ := hw_4
  refine lv_pop hx hb dX10_buys_9 rfl ?_
  refine lv_aload_n hx hb dX10_buys_10 rfl (lv_at hl 0 rfl) ?_
  refine lv_aload_n hx hb dX10_buys_11 rfl (lv_at hl 1 rfl) ?_
  refine lv_iload_n hx hb dX10_buys_12 rfl (lv_at hl 2 rfl) ?_
  refine lv_aload_n hx hb dX10_buys_13 rfl (lv_at hl 3 rfl) ?_
  have hFc := va_self hD hS hA
  refine va_calli (sx_run (C := r_k.1) (As := [.ref (ad_6 i), .int (x), .ref (ad_6 61)]) (rest := []) (hK.1 (kcl qz) r_k hr_k).2 ⟨hx, hb, hml, hown, hT⟩ (c_x5_buys3 l G ad_6 S_5 H.size (qz) (i) ((z + 1)) (x) (hq) (hpk) (ez_10) (by first | assumption | omega) (hX_7)) (sx_of 3 hT m5_4 m5_5 m1_98 m1_74 m4_225 m1_2 m5_7 rfl rfl rfl (by decide +kernel) ⟨Nat.le_of_ble_eq_true rfl, Nat.le_of_ble_eq_true rfl⟩) ⟨PcE_blind, va_recv hK hP hr_k (ix_at (lt71 (by omega)) (cX_knd hq)), PcE_of hP hK hD hE hS (fun q h => hFc q h) _⟩ rfl rfl hl.1 rfl (lv_room (Nat.le_of_ble_eq_true rfl)) dX10_buys_14 ⟨(by show (0 + 1) + 3 ≤ 5; omega), (by show (0 + 64) + 192 ≤ 320; omega)⟩) hS (fun q _ h => hFc q h) hFc (fun r_11 u_ t_ H locs ht_ hvm_ hw_12 hB_ hz_ hk_ hS => ?_)
  obtain ⟨S_13, ad_14⟩ := u_
  dsimp only at hB_ hw_12
  obtain ⟨hP, -, hD1_⟩ := hB_
  rw [ht_] at hP
  have hD : va_D A (wX G ad_14 S_13) := hD1_.weaken (fun k q _ h => hFc q.1 h)
  obtain ⟨hX_15, hF_16_, hg_17_, hw_12⟩ := hw_12
  have hg_17 : ∀ j, j < 71 + fC S → ad_14 j = ad j := fun j hj => (hg_17_ j (Nat.lt_of_lt_of_le hj (Nat.add_le_add_left (hF_8).1 71))).trans (hg_9 j hj)
  have hF_16 : Fr (fun j k => j = 61 ∨ 71 ≤ j) S S_13 := Fr.tr hF_8 hF_16_ (fun j k hj h => by have hc_ := (hF_8).1; omega)
  have hl : lv_has ls 4 [(0, .ref (ad_14 (2 + qz))), (1, .ref (ad_14 i)), (2, .int (x)), (3, .ref (ad_14 61))] := by rw [hg_17_ (2 + qz) ((lt71 (by omega))), hg_17_ i ((lt71 (by omega))), hg_17_ 61 ((lt71 (by omega)))]; exact hl
  obtain ⟨z_18, bz_18, ez_18⟩ := hw_12
  refine lv_aload_n hx hb dX10_buys_17 rfl (lv_at hl 0 rfl) ?_
  refine lv_aload_n hx hb dX10_buys_18 rfl (lv_at hl 1 rfl) ?_
  refine lv_iconst (v := 2) hx hb dX10_buys_19 (by decide) ?_
  refine lv_aload_n hx hb dX10_buys_20 rfl (lv_at hl 3 rfl) ?_
  have hFc := va_self hD hS hA
  refine va_calli (sx_run (C := r_k.1) (As := [.ref (ad_14 i), .int (2), .ref (ad_14 61)]) (rest := [.int (r_11)]) (hK.1 (kcl qz) r_k hr_k).2 ⟨hx, hb, hml, hown, hT⟩ (c_x5_asks1 l G ad_14 S_13 H.size (qz) (i) (z_18) (2) (hq) (hpk) (ez_18) (by first | assumption | omega) (hX_15)) (sx_of 3 hT m4_219 m4_220 m1_98 m1_74 m4_122 m1_2 m4_221 rfl rfl rfl (by decide +kernel) ⟨Nat.le_of_ble_eq_true rfl, Nat.le_of_ble_eq_true rfl⟩) ⟨PcE_blind, va_recv hK hP hr_k (ix_at (lt71 (by omega)) (cX_knd hq)), PcE_of hP hK hD hE hS (fun q h => hFc q h) _⟩ rfl rfl hl.1 rfl (lv_room (Nat.le_of_ble_eq_true rfl)) dX10_buys_21 ⟨(by show ((0 + 1) + 3) + 1 ≤ 5; omega), (by show ((0 + 64) + 192) + 64 ≤ 320; omega)⟩) hS (fun q _ h => hFc q h) hFc (fun r_19 u_ t_ H locs ht_ hvm_ hw_20 hB_ hz_ hk_ hS => ?_)
  obtain ⟨S_21, ad_22⟩ := u_
  dsimp only at hB_ hw_20
  obtain ⟨hP, -, hD1_⟩ := hB_
  rw [ht_] at hP
  have hD : va_D A (wX G ad_22 S_21) := hD1_.weaken (fun k q _ h => hFc q.1 h)
  obtain ⟨hX_23, hF_24_, hg_25_, hw_20⟩ := hw_20
  have hg_25 : ∀ j, j < 71 + fC S → ad_22 j = ad j := fun j hj => (hg_25_ j (Nat.lt_of_lt_of_le hj (Nat.add_le_add_left (hF_16).1 71))).trans (hg_17 j hj)
  have hF_24 : Fr (fun j k => j = 61 ∨ 71 ≤ j) S S_21 := Fr.tr hF_16 hF_24_ (fun j k hj h => by have hc_ := (hF_16).1; omega)
  have hl : lv_has ls 4 [(0, .ref (ad_22 (2 + qz))), (1, .ref (ad_22 i)), (2, .int (x)), (3, .ref (ad_22 61))] := by rw [hg_25_ (2 + qz) ((lt71 (by omega))), hg_25_ i ((lt71 (by omega))), hg_25_ 61 ((lt71 (by omega)))]; exact hl
  obtain ⟨z_26, bz_26, ez_26⟩ := hw_20
  refine lv_iadd hx hb dX10_buys_24 ?_
  subst hQ
  have hpost : XI S_21 ∧ Fr (fun j k => j = 61 ∨ 71 ≤ j) S S_21 ∧ (∀ j, j < 71 + fC S → ad_22 j = ad j) ∧ ∃ z', z' ≤ z + 5 ∧ fF S_21 61 2 = nI z' := by
    exact ⟨hX_23, hF_24, hg_25, ⟨_, by omega, ez_26⟩⟩
  refine W.widen (k := 5) (n := 320) (by omega) (by omega) ?_
  exact W.iret (v := (r_11 + r_19)) hx hb hr (fun t_ ht_ hW_ => ⟨⟨(r_11 + r_19), (S_21, ad_22), rfl, hpost, by rw [ht_]; exact hP, va_K.moved hW_.alike hK, hD⟩, hS.F ht_⟩) hS.2.2 dX10_buys_25
set_option maxHeartbeats 800000 in
set_option maxRecDepth 100000 in
theorem c_x5_tells6 (l : Launch) (G : GG) (ad : Nat → Nat) (S : FS) (sz : Nat) (qz i z : Nat) (x : Int32) (hq : qz < 7) (hpk : pk i = 7) (hzz : fF S 61 2 = nI z) (hzN : z + 6 ≤ 40) (hX : XI S) : Met l yX5_tells (Cond.code yX5_tells cX5_tells 4 (some .int) :: TBL) ({ frames := 18, cells := 6, slots := 384, locals := 560 } : Room) (PcE G (wX G ad S) sz [.ref (ad (2 + qz)), .ref (ad i), .int (x), .ref (ad 61)]) (va_Qi (fun (r : Int32) (u : FS × (Nat → Nat)) => XI u.1 ∧ Fr (fun j k => j = 61 ∨ 71 ≤ j) S u.1 ∧ (∀ j, j < 71 + fC S → u.2 j = ad j) ∧ ∃ z', z' ≤ z + 6 ∧ fF u.1 61 2 = nI z') (fun u t => BW G (va_A (wX G ad S) sz) (wX G u.2 u.1) t) (va_A (wX G ad S) sz)) 6 384 (va_A (wX G ad S) sz) := by
  refine Met.ofW (cc := cX5_tells) (maxL := 4) (ret := (some .int)) (by decide) rfl ?_
  intro p e s m args below meth c₀ s₁ B hml hv
  obtain ⟨rfl, hsz, hP, hK, hD0, hE⟩ := hv
  have hx := B.exec
  have hb := B.bytes
  have hr := B.returns
  have hT : ∀ w ∈ TBL, w.before ([.ref (ad (2 + qz)), .ref (ad i), .int (x), .ref (ad 61)] : List Value).toArray s = true := fun w h => atoms_spec (ws := Cond.code yX5_tells cX5_tells 4 (some .int) :: TBL) B.pre w (List.mem_cons_of_mem _ h)
  have hown : s.vm.findClass "LittleMore$Kind" = some m.cls := findClass_of_methodNamed B.named
  have hlocks := B.notSynchronized
  subst hsz
  have hD := hD0.self (sz := s.heap.size)
  generalize hAe : va_A (wX G ad S) s.heap.size = A at hD hE ⊢
  have hA : ∀ q : Nat, s.heap.size ≤ q → A q := fun q h => by rw [← hAe]; exact Or.inr h
  have hS : va_S A s.heap s.heap [] := va_S.rf
  have hP : va_P G.1 vwCl (wX G ad S) s.heap := hP
  have hl := lv_entry ([.ref (ad (2 + qz)), .ref (ad i), .int (x), .ref (ad 61)]) (n := 4) (Nat.le_of_ble_eq_true rfl)
  rw [lg_entry_eq]
  generalize (lg_sl ([.ref (ad (2 + qz)), .ref (ad i), .int (x), .ref (ad 61)]) ++ List.replicate (4 - (lg_sl ([.ref (ad (2 + qz)), .ref (ad i), .int (x), .ref (ad 61)])).length) Slot.unset).toArray = ls at hl ⊢
  have hl : lv_has ls 4 [(0, .ref (ad (2 + qz))), (1, .ref (ad i)), (2, .int (x)), (3, .ref (ad 61))] := hl
  refine W_abs (fun Q hQ => ?_)
  generalize ([.ref (ad (2 + qz)), .ref (ad i), .int (x), .ref (ad 61)] : List Value).toArray = args at hT hQ ⊢
  have hb_i := pk7 hpk
  obtain ⟨r_k, hr_k⟩ := kcl_at hq
  refine lv_aload_n hx hb dX5_tells_0 rfl (lv_at hl 3 rfl) ?_
  refine lv_bipush (v := 12) hx hb dX5_tells_1 (by decide) ?_
  have hFc := va_self hD hS hA
  refine va_csq (W.runS (As := [.int (12)]) (rest := [.ref (ad 61)]) ⟨hx, hb, hml, hown, hT⟩ (c_jvalueOf l G ad S s.heap.size (12) (by first | assumption | omega) (hX)) (tS 1 hT m4_222 m4_130 m1_26 m4_131 rfl rfl (by decide +kernel) ⟨Nat.le_of_ble_eq_true rfl, Nat.le_of_ble_eq_true rfl⟩) ⟨PcE_blind, PcE_of hP hK hD hE hS (fun q h => hFc q h) _⟩ rfl rfl hl.1 rfl (lv_room (Nat.le_of_ble_eq_true rfl)) dX5_tells_3 ⟨Nat.zero_le _, Nat.zero_le _⟩) (fun r_1 hw_2 => ?_)
  try dsimp only at hw_2
  obtain ⟨jb_3, hb_3, eb_3, rfl⟩ := hw_2
  rw [show va_rf (some (G.2.2.2 jb_3)) = .ref (G.2.2.2 jb_3) from rfl]
  have hFc := va_self hD hS hA
  refine va_calli (va_runV (As := [.ref (G.2.2.2 jb_3)]) (rest := []) ⟨hx, hb, hml, hown, hT⟩ (c_jadd l G ad S s.heap.size (z) (jb_3) (hzz) (by first | assumption | omega) (hb_3) (hX)) (tV 1 hT m4_223 m4_150 m4_151 m1_15 m4_152 rfl rfl (by decide +kernel) ⟨Nat.le_of_ble_eq_true rfl, Nat.le_of_ble_eq_true rfl⟩) ⟨PcE_blind, va_recv hK hP (ci := 1) (q0 := 61) rfl (ix_at (lt71 (by omega)) (cX_lst G ad S)), PcE_of hP hK hD hE hS (fun q h => hFc q h) _⟩ rfl rfl hl.1 rfl (lv_room (Nat.le_of_ble_eq_true rfl)) dX5_tells_6 ⟨Nat.le_of_ble_eq_true rfl, Nat.le_of_ble_eq_true rfl⟩) hS (fun q _ h => hFc q h) hFc (fun r_3 u_ t_ H locs ht_ hvm_ hw_4 hB_ hz_ hk_ hS => ?_)
  obtain ⟨S_5, ad_6⟩ := u_
  dsimp only at hB_ hw_4
  obtain ⟨hP, -, hD1_⟩ := hB_
  rw [ht_] at hP
  have hD : va_D A (wX G ad_6 S_5) := hD1_.weaken (fun k q _ h => hFc q.1 h)
  obtain ⟨hX_7, hF_8_, hg_9_, hw_4⟩ := hw_4
  have hg_9 : ∀ j, j < 71 + fC S → ad_6 j = ad j := fun j hj => (hg_9_ j (Nat.lt_of_lt_of_le hj (Nat.add_le_add_left ((Fr.rf : Fr (fun j k => j = 61 ∨ 71 ≤ j) S S)).1 71))).trans ((fun _ _ => rfl) j hj)
  have hF_8 : Fr (fun j k => j = 61 ∨ 71 ≤ j) S S_5 := Fr.tr (Fr.rf : Fr (fun j k => j = 61 ∨ 71 ≤ j) S S) hF_8_ (fun j k hj h => by have hc_ := ((Fr.rf : Fr (fun j k => j = 61 ∨ 71 ≤ j) S S)).1; omega)
  have hl : lv_has ls 4 [(0, .ref (ad_6 (2 + qz))), (1, .ref (ad_6 i)), (2, .int (x)), (3, .ref (ad_6 61))] := by rw [hg_9_ (2 + qz) ((lt71 (by omega))), hg_9_ i ((lt71 (by omega))), hg_9_ 61 ((lt71 (by omega)))]; exact hl
  obtain ⟨ez_10, hw_4_⟩ := hw_4
  refine lv_pop hx hb dX5_tells_9 rfl ?_
  refine lv_aload_n hx hb dX5_tells_10 rfl (lv_at hl 0 rfl) ?_
  refine lv_aload_n hx hb dX5_tells_11 rfl (lv_at hl 1 rfl) ?_
  refine lv_iload_n hx hb dX5_tells_12 rfl (lv_at hl 2 rfl) ?_
  refine lv_aload_n hx hb dX5_tells_13 rfl (lv_at hl 3 rfl) ?_
  have kk_k_11 : ∀ (rk_11 : Int32) (Sk_11 : FS) (adk_11 : Nat → Nat) (Hk_11 : Heap) (locsk_11 : List Loc) (zk_11 : Nat) (ls : Array Slot), XI Sk_11 → Fr (fun j k => j = 61 ∨ 71 ≤ j) S Sk_11 → (∀ j, j < 71 + fC S → adk_11 j = ad j) → zk_11 ≤ (z + 1) + 5 → fF Sk_11 61 2 = nI zk_11 → va_P G.1 vwCl (wX G adk_11 Sk_11) Hk_11 → va_D A (wX G adk_11 Sk_11) → va_S A s.heap Hk_11 locsk_11 → lv_has ls 4 [(0, .ref (adk_11 (2 + qz))), (1, .ref (adk_11 i)), (2, .int (x)), (3, .ref (adk_11 61))] → W p l e ({ frames := 18, cells := 6, slots := 384, locals := 560 } : Room) s m args below meth c₀ Hk_11 locsk_11 ((0 + 1) + 5) ((0 + 64) + 320) Q (F0 m 17 ls [.int (rk_11)]) := by
    intro rk_11 Sk_11 adk_11 Hk_11 locsk_11 zk_11 ls hXk_11 hFk_11 hgk_11 bzk_11 ezk_11 hP hD hS hl
    refine lv_iconst (v := 2) hx hb dX5_tells_17 (by decide) ?_
    refine lv_imul hx hb dX5_tells_18 ?_
    subst hQ
    have hpost : XI Sk_11 ∧ Fr (fun j k => j = 61 ∨ 71 ≤ j) S Sk_11 ∧ (∀ j, j < 71 + fC S → adk_11 j = ad j) ∧ ∃ z', z' ≤ z + 6 ∧ fF Sk_11 61 2 = nI z' := by
      exact ⟨hXk_11, hFk_11, hgk_11, ⟨_, by omega, ezk_11⟩⟩
    refine W.widen (k := 6) (n := 384) (by omega) (by omega) ?_
    exact W.iret (v := (rk_11 * 2)) hx hb hr (fun t_ ht_ hW_ => ⟨⟨(rk_11 * 2), (Sk_11, adk_11), rfl, hpost, by rw [ht_]; exact hP, va_K.moved hW_.alike hK, hD⟩, hS.F ht_⟩) hS.2.2 dX5_tells_19
  have hFc := va_self hD hS hA
  rcases kq7 hq with rfl | rfl | rfl | rfl | rfl | rfl | rfl
  · refine va_calli (va_runU (As := [.ref (ad_6 i), .int (x), .ref (ad_6 61)]) (rest := []) ⟨hx, hb, hml, hown, hT⟩ (c_x5_buys l G ad_6 S_5 H.size (0) (i) ((z + 1)) (x) ((by omega : 0 < 7)) (hpk) (ez_10) (by first | assumption | omega) (hX_7)) (tU 3 hT m5_35 m4_227 m4_226 m4_225 m1_2 m5_7 rfl rfl rfl (by decide +kernel) ⟨Nat.le_of_ble_eq_true rfl, Nat.le_of_ble_eq_true rfl⟩) ⟨PcE_blind, va_recv hK hP (ci := 7) (q0 := 2 + 0) rfl (ix_at (lt71 (by omega)) (cX_knd (by omega))), PcE_of hP hK hD hE hS (fun q h => hFc q h) _⟩ rfl rfl hl.1 rfl (lv_room (Nat.le_of_ble_eq_true rfl)) dX5_tells_14 ⟨(by show (0 + 1) + 5 ≤ 6; omega), (by show (0 + 64) + 320 ≤ 384; omega)⟩) hS (fun q _ h => hFc q h) hFc (fun r_ u_ t_ H locs ht_ hvm_ hw_ hB_ hz_ hk_ hS => ?_)
    obtain ⟨S1_, ad1_⟩ := u_
    dsimp only at hB_ hw_
    obtain ⟨hP, -, hD1_⟩ := hB_
    rw [ht_] at hP
    have hD : va_D A (wX G ad1_ S1_) := hD1_.weaken (fun k q _ h => hFc q.1 h)
    obtain ⟨hX1_, hF1_, hg1_, z1_, bz1_, ez1_⟩ := hw_
    have hl : lv_has ls 4 [(0, .ref (ad1_ (2 + 0))), (1, .ref (ad1_ i)), (2, .int (x)), (3, .ref (ad1_ 61))] := by rw [hg1_ (2 + 0) ((lt71 (by omega))), hg1_ i ((lt71 (by omega))), hg1_ 61 ((lt71 (by omega)))]; exact hl
    exact kk_k_11 r_ S1_ ad1_ H locs z1_ ls hX1_ (Fr.tr hF_8 hF1_ (fun j k hj h => by have hc_ := (hF_8).1; omega)) (fun j hj => (hg1_ j (Nat.lt_of_lt_of_le hj (Nat.add_le_add_left (hF_8).1 71))).trans (hg_9 j hj)) (by omega) ez1_ hP hD hS hl
  · refine va_calli (va_runU (As := [.ref (ad_6 i), .int (x), .ref (ad_6 61)]) (rest := []) ⟨hx, hb, hml, hown, hT⟩ (c_x8_buys l G ad_6 S_5 H.size (1) (i) ((z + 1)) (x) ((by omega : 1 < 7)) (hpk) (ez_10) (by first | assumption | omega) (hX_7)) (tO 3 hT m5_35 m4_227 m4_225 m5_0 m4_233 m1_3 m4_234 m5_7 rfl rfl (by decide +kernel) ⟨Nat.le_of_ble_eq_true rfl, Nat.le_of_ble_eq_true rfl⟩) ⟨PcE_blind, va_recv hK hP (ci := 10) (q0 := 2 + 1) rfl (ix_at (lt71 (by omega)) (cX_knd (by omega))), PcE_of hP hK hD hE hS (fun q h => hFc q h) _⟩ rfl rfl hl.1 rfl (lv_room (Nat.le_of_ble_eq_true rfl)) dX5_tells_14 ⟨(by show (0 + 1) + 5 ≤ 6; omega), (by show (0 + 64) + 320 ≤ 384; omega)⟩) hS (fun q _ h => hFc q h) hFc (fun r_ u_ t_ H locs ht_ hvm_ hw_ hB_ hz_ hk_ hS => ?_)
    obtain ⟨S1_, ad1_⟩ := u_
    dsimp only at hB_ hw_
    obtain ⟨hP, -, hD1_⟩ := hB_
    rw [ht_] at hP
    have hD : va_D A (wX G ad1_ S1_) := hD1_.weaken (fun k q _ h => hFc q.1 h)
    obtain ⟨hX1_, hF1_, hg1_, z1_, bz1_, ez1_⟩ := hw_
    have hl : lv_has ls 4 [(0, .ref (ad1_ (2 + 1))), (1, .ref (ad1_ i)), (2, .int (x)), (3, .ref (ad1_ 61))] := by rw [hg1_ (2 + 1) ((lt71 (by omega))), hg1_ i ((lt71 (by omega))), hg1_ 61 ((lt71 (by omega)))]; exact hl
    exact kk_k_11 r_ S1_ ad1_ H locs z1_ ls hX1_ (Fr.tr hF_8 hF1_ (fun j k hj h => by have hc_ := (hF_8).1; omega)) (fun j hj => (hg1_ j (Nat.lt_of_lt_of_le hj (Nat.add_le_add_left (hF_8).1 71))).trans (hg_9 j hj)) (by omega) ez1_ hP hD hS hl
  · refine va_calli (va_runU (As := [.ref (ad_6 i), .int (x), .ref (ad_6 61)]) (rest := []) ⟨hx, hb, hml, hown, hT⟩ (c_x5_buys l G ad_6 S_5 H.size (2) (i) ((z + 1)) (x) ((by omega : 2 < 7)) (hpk) (ez_10) (by first | assumption | omega) (hX_7)) (tU 3 hT m5_35 m4_227 m4_238 m4_225 m1_2 m5_7 rfl rfl rfl (by decide +kernel) ⟨Nat.le_of_ble_eq_true rfl, Nat.le_of_ble_eq_true rfl⟩) ⟨PcE_blind, va_recv hK hP (ci := 6) (q0 := 2 + 2) rfl (ix_at (lt71 (by omega)) (cX_knd (by omega))), PcE_of hP hK hD hE hS (fun q h => hFc q h) _⟩ rfl rfl hl.1 rfl (lv_room (Nat.le_of_ble_eq_true rfl)) dX5_tells_14 ⟨(by show (0 + 1) + 5 ≤ 6; omega), (by show (0 + 64) + 320 ≤ 384; omega)⟩) hS (fun q _ h => hFc q h) hFc (fun r_ u_ t_ H locs ht_ hvm_ hw_ hB_ hz_ hk_ hS => ?_)
    obtain ⟨S1_, ad1_⟩ := u_
    dsimp only at hB_ hw_
    obtain ⟨hP, -, hD1_⟩ := hB_
    rw [ht_] at hP
    have hD : va_D A (wX G ad1_ S1_) := hD1_.weaken (fun k q _ h => hFc q.1 h)
    obtain ⟨hX1_, hF1_, hg1_, z1_, bz1_, ez1_⟩ := hw_
    have hl : lv_has ls 4 [(0, .ref (ad1_ (2 + 2))), (1, .ref (ad1_ i)), (2, .int (x)), (3, .ref (ad1_ 61))] := by rw [hg1_ (2 + 2) ((lt71 (by omega))), hg1_ i ((lt71 (by omega))), hg1_ 61 ((lt71 (by omega)))]; exact hl
    exact kk_k_11 r_ S1_ ad1_ H locs z1_ ls hX1_ (Fr.tr hF_8 hF1_ (fun j k hj h => by have hc_ := (hF_8).1; omega)) (fun j hj => (hg1_ j (Nat.lt_of_lt_of_le hj (Nat.add_le_add_left (hF_8).1 71))).trans (hg_9 j hj)) (by omega) ez1_ hP hD hS hl
  · refine va_calli (va_runU (As := [.ref (ad_6 i), .int (x), .ref (ad_6 61)]) (rest := []) ⟨hx, hb, hml, hown, hT⟩ (c_x5_buys l G ad_6 S_5 H.size (3) (i) ((z + 1)) (x) ((by omega : 3 < 7)) (hpk) (ez_10) (by first | assumption | omega) (hX_7)) (tU 3 hT m5_35 m4_227 m4_228 m4_225 m1_2 m5_7 rfl rfl rfl (by decide +kernel) ⟨Nat.le_of_ble_eq_true rfl, Nat.le_of_ble_eq_true rfl⟩) ⟨PcE_blind, va_recv hK hP (ci := 2) (q0 := 2 + 3) rfl (ix_at (lt71 (by omega)) (cX_knd (by omega))), PcE_of hP hK hD hE hS (fun q h => hFc q h) _⟩ rfl rfl hl.1 rfl (lv_room (Nat.le_of_ble_eq_true rfl)) dX5_tells_14 ⟨(by show (0 + 1) + 5 ≤ 6; omega), (by show (0 + 64) + 320 ≤ 384; omega)⟩) hS (fun q _ h => hFc q h) hFc (fun r_ u_ t_ H locs ht_ hvm_ hw_ hB_ hz_ hk_ hS => ?_)
    obtain ⟨S1_, ad1_⟩ := u_
    dsimp only at hB_ hw_
    obtain ⟨hP, -, hD1_⟩ := hB_
    rw [ht_] at hP
    have hD : va_D A (wX G ad1_ S1_) := hD1_.weaken (fun k q _ h => hFc q.1 h)
    obtain ⟨hX1_, hF1_, hg1_, z1_, bz1_, ez1_⟩ := hw_
    have hl : lv_has ls 4 [(0, .ref (ad1_ (2 + 3))), (1, .ref (ad1_ i)), (2, .int (x)), (3, .ref (ad1_ 61))] := by rw [hg1_ (2 + 3) ((lt71 (by omega))), hg1_ i ((lt71 (by omega))), hg1_ 61 ((lt71 (by omega)))]; exact hl
    exact kk_k_11 r_ S1_ ad1_ H locs z1_ ls hX1_ (Fr.tr hF_8 hF1_ (fun j k hj h => by have hc_ := (hF_8).1; omega)) (fun j hj => (hg1_ j (Nat.lt_of_lt_of_le hj (Nat.add_le_add_left (hF_8).1 71))).trans (hg_9 j hj)) (by omega) ez1_ hP hD hS hl
  · refine va_calli (va_runU (As := [.ref (ad_6 i), .int (x), .ref (ad_6 61)]) (rest := []) ⟨hx, hb, hml, hown, hT⟩ (c_x2_buys l G ad_6 S_5 H.size (4) (i) ((z + 1)) (x) ((by omega : 4 < 7)) (hpk) (ez_10) (by first | assumption | omega) (hX_7)) (tO 3 hT m5_35 m4_227 m4_225 m4_229 m4_230 m1_6 m4_231 m5_7 rfl rfl (by decide +kernel) ⟨Nat.le_of_ble_eq_true rfl, Nat.le_of_ble_eq_true rfl⟩) ⟨PcE_blind, va_recv hK hP (ci := 4) (q0 := 2 + 4) rfl (ix_at (lt71 (by omega)) (cX_knd (by omega))), PcE_of hP hK hD hE hS (fun q h => hFc q h) _⟩ rfl rfl hl.1 rfl (lv_room (Nat.le_of_ble_eq_true rfl)) dX5_tells_14 ⟨(by show (0 + 1) + 5 ≤ 6; omega), (by show (0 + 64) + 320 ≤ 384; omega)⟩) hS (fun q _ h => hFc q h) hFc (fun r_ u_ t_ H locs ht_ hvm_ hw_ hB_ hz_ hk_ hS => ?_)
    obtain ⟨S1_, ad1_⟩ := u_
    dsimp only at hB_ hw_
    obtain ⟨hP, -, hD1_⟩ := hB_
    rw [ht_] at hP
    have hD : va_D A (wX G ad1_ S1_) := hD1_.weaken (fun k q _ h => hFc q.1 h)
    obtain ⟨hX1_, hF1_, hg1_, z1_, bz1_, ez1_⟩ := hw_
    have hl : lv_has ls 4 [(0, .ref (ad1_ (2 + 4))), (1, .ref (ad1_ i)), (2, .int (x)), (3, .ref (ad1_ 61))] := by rw [hg1_ (2 + 4) ((lt71 (by omega))), hg1_ i ((lt71 (by omega))), hg1_ 61 ((lt71 (by omega)))]; exact hl
    exact kk_k_11 r_ S1_ ad1_ H locs z1_ ls hX1_ (Fr.tr hF_8 hF1_ (fun j k hj h => by have hc_ := (hF_8).1; omega)) (fun j hj => (hg1_ j (Nat.lt_of_lt_of_le hj (Nat.add_le_add_left (hF_8).1 71))).trans (hg_9 j hj)) (by omega) ez1_ hP hD hS hl
  · refine va_calli (va_runU (As := [.ref (ad_6 i), .int (x), .ref (ad_6 61)]) (rest := []) ⟨hx, hb, hml, hown, hT⟩ (c_x5_buys l G ad_6 S_5 H.size (5) (i) ((z + 1)) (x) ((by omega : 5 < 7)) (hpk) (ez_10) (by first | assumption | omega) (hX_7)) (tU 3 hT m5_35 m4_227 m4_239 m4_225 m1_2 m5_7 rfl rfl rfl (by decide +kernel) ⟨Nat.le_of_ble_eq_true rfl, Nat.le_of_ble_eq_true rfl⟩) ⟨PcE_blind, va_recv hK hP (ci := 8) (q0 := 2 + 5) rfl (ix_at (lt71 (by omega)) (cX_knd (by omega))), PcE_of hP hK hD hE hS (fun q h => hFc q h) _⟩ rfl rfl hl.1 rfl (lv_room (Nat.le_of_ble_eq_true rfl)) dX5_tells_14 ⟨(by show (0 + 1) + 5 ≤ 6; omega), (by show (0 + 64) + 320 ≤ 384; omega)⟩) hS (fun q _ h => hFc q h) hFc (fun r_ u_ t_ H locs ht_ hvm_ hw_ hB_ hz_ hk_ hS => ?_)
    obtain ⟨S1_, ad1_⟩ := u_
    dsimp only at hB_ hw_
    obtain ⟨hP, -, hD1_⟩ := hB_
    rw [ht_] at hP
    have hD : va_D A (wX G ad1_ S1_) := hD1_.weaken (fun k q _ h => hFc q.1 h)
    obtain ⟨hX1_, hF1_, hg1_, z1_, bz1_, ez1_⟩ := hw_
    have hl : lv_has ls 4 [(0, .ref (ad1_ (2 + 5))), (1, .ref (ad1_ i)), (2, .int (x)), (3, .ref (ad1_ 61))] := by rw [hg1_ (2 + 5) ((lt71 (by omega))), hg1_ i ((lt71 (by omega))), hg1_ 61 ((lt71 (by omega)))]; exact hl
    exact kk_k_11 r_ S1_ ad1_ H locs z1_ ls hX1_ (Fr.tr hF_8 hF1_ (fun j k hj h => by have hc_ := (hF_8).1; omega)) (fun j hj => (hg1_ j (Nat.lt_of_lt_of_le hj (Nat.add_le_add_left (hF_8).1 71))).trans (hg_9 j hj)) (by omega) ez1_ hP hD hS hl
  · refine va_calli (va_runU (As := [.ref (ad_6 i), .int (x), .ref (ad_6 61)]) (rest := []) ⟨hx, hb, hml, hown, hT⟩ (c_x10_buys l G ad_6 S_5 H.size (6) (i) ((z + 1)) (x) ((by omega : 6 < 7)) (hpk) (ez_10) (by first | assumption | omega) (hX_7)) (tO 3 hT m5_35 m4_227 m4_225 m5_1 m5_2 m1_8 m5_3 m5_7 rfl rfl (by decide +kernel) ⟨Nat.le_of_ble_eq_true rfl, Nat.le_of_ble_eq_true rfl⟩) ⟨PcE_blind, va_recv hK hP (ci := 12) (q0 := 2 + 6) rfl (ix_at (lt71 (by omega)) (cX_knd (by omega))), PcE_of hP hK hD hE hS (fun q h => hFc q h) _⟩ rfl rfl hl.1 rfl (lv_room (Nat.le_of_ble_eq_true rfl)) dX5_tells_14 ⟨(by show (0 + 1) + 5 ≤ 6; omega), (by show (0 + 64) + 320 ≤ 384; omega)⟩) hS (fun q _ h => hFc q h) hFc (fun r_ u_ t_ H locs ht_ hvm_ hw_ hB_ hz_ hk_ hS => ?_)
    obtain ⟨S1_, ad1_⟩ := u_
    dsimp only at hB_ hw_
    obtain ⟨hP, -, hD1_⟩ := hB_
    rw [ht_] at hP
    have hD : va_D A (wX G ad1_ S1_) := hD1_.weaken (fun k q _ h => hFc q.1 h)
    obtain ⟨hX1_, hF1_, hg1_, z1_, bz1_, ez1_⟩ := hw_
    have hl : lv_has ls 4 [(0, .ref (ad1_ (2 + 6))), (1, .ref (ad1_ i)), (2, .int (x)), (3, .ref (ad1_ 61))] := by rw [hg1_ (2 + 6) ((lt71 (by omega))), hg1_ i ((lt71 (by omega))), hg1_ 61 ((lt71 (by omega)))]; exact hl
    exact kk_k_11 r_ S1_ ad1_ H locs z1_ ls hX1_ (Fr.tr hF_8 hF1_ (fun j k hj h => by have hc_ := (hF_8).1; omega)) (fun j hj => (hg1_ j (Nat.lt_of_lt_of_le hj (Nat.add_le_add_left (hF_8).1 71))).trans (hg_9 j hj)) (by omega) ez1_ hP hD hS hl
set_option maxHeartbeats 800000 in
set_option maxRecDepth 100000 in
theorem c_x5_tells (l : Launch) (G : GG) (ad : Nat → Nat) (S : FS) (sz : Nat) (qz i z : Nat) (x : Int32) (hq : qz < 7) (hpk : pk i = 7) (hzz : fF S 61 2 = nI z) (hzN : z + 12 ≤ 40) (hX : XI S) : Met l yX5_tells (Cond.code yX5_tells cX5_tells 4 (some .int) :: TBL) ({ frames := 18, cells := 12, slots := 768, locals := 560 } : Room) (PcE G (wX G ad S) sz [.ref (ad (2 + qz)), .ref (ad i), .int (x), .ref (ad 61)]) (va_Qi (fun (r : Int32) (u : FS × (Nat → Nat)) => XI u.1 ∧ Fr (fun j k => j = 61 ∨ 71 ≤ j) S u.1 ∧ (∀ j, j < 71 + fC S → u.2 j = ad j) ∧ ∃ z', z' ≤ z + 12 ∧ fF u.1 61 2 = nI z') (fun u t => BW G (va_A (wX G ad S) sz) (wX G u.2 u.1) t) (va_A (wX G ad S) sz)) 12 768 (va_A (wX G ad S) sz) := by
  refine Met.ofW (cc := cX5_tells) (maxL := 4) (ret := (some .int)) (by decide) rfl ?_
  intro p e s m args below meth c₀ s₁ B hml hv
  obtain ⟨rfl, hsz, hP, hK, hD0, hE⟩ := hv
  have hx := B.exec
  have hb := B.bytes
  have hr := B.returns
  have hT : ∀ w ∈ TBL, w.before ([.ref (ad (2 + qz)), .ref (ad i), .int (x), .ref (ad 61)] : List Value).toArray s = true := fun w h => atoms_spec (ws := Cond.code yX5_tells cX5_tells 4 (some .int) :: TBL) B.pre w (List.mem_cons_of_mem _ h)
  have hown : s.vm.findClass "LittleMore$Kind" = some m.cls := findClass_of_methodNamed B.named
  have hlocks := B.notSynchronized
  subst hsz
  have hD := hD0.self (sz := s.heap.size)
  generalize hAe : va_A (wX G ad S) s.heap.size = A at hD hE ⊢
  have hA : ∀ q : Nat, s.heap.size ≤ q → A q := fun q h => by rw [← hAe]; exact Or.inr h
  have hS : va_S A s.heap s.heap [] := va_S.rf
  have hP : va_P G.1 vwCl (wX G ad S) s.heap := hP
  have hl := lv_entry ([.ref (ad (2 + qz)), .ref (ad i), .int (x), .ref (ad 61)]) (n := 4) (Nat.le_of_ble_eq_true rfl)
  rw [lg_entry_eq]
  generalize (lg_sl ([.ref (ad (2 + qz)), .ref (ad i), .int (x), .ref (ad 61)]) ++ List.replicate (4 - (lg_sl ([.ref (ad (2 + qz)), .ref (ad i), .int (x), .ref (ad 61)])).length) Slot.unset).toArray = ls at hl ⊢
  have hl : lv_has ls 4 [(0, .ref (ad (2 + qz))), (1, .ref (ad i)), (2, .int (x)), (3, .ref (ad 61))] := hl
  refine W_abs (fun Q hQ => ?_)
  generalize ([.ref (ad (2 + qz)), .ref (ad i), .int (x), .ref (ad 61)] : List Value).toArray = args at hT hQ ⊢
  have hb_i := pk7 hpk
  obtain ⟨r_k, hr_k⟩ := kcl_at hq
  refine lv_aload_n hx hb dX5_tells_0 rfl (lv_at hl 3 rfl) ?_
  refine lv_bipush (v := 12) hx hb dX5_tells_1 (by decide) ?_
  have hFc := va_self hD hS hA
  refine va_csq (W.runS (As := [.int (12)]) (rest := [.ref (ad 61)]) ⟨hx, hb, hml, hown, hT⟩ (c_jvalueOf l G ad S s.heap.size (12) (by first | assumption | omega) (hX)) (tS 1 hT m4_222 m4_130 m1_26 m4_131 rfl rfl (by decide +kernel) ⟨Nat.le_of_ble_eq_true rfl, Nat.le_of_ble_eq_true rfl⟩) ⟨PcE_blind, PcE_of hP hK hD hE hS (fun q h => hFc q h) _⟩ rfl rfl hl.1 rfl (lv_room (Nat.le_of_ble_eq_true rfl)) dX5_tells_3 ⟨Nat.zero_le _, Nat.zero_le _⟩) (fun r_1 hw_2 => ?_)
  try dsimp only at hw_2
  obtain ⟨jb_3, hb_3, eb_3, rfl⟩ := hw_2
  rw [show va_rf (some (G.2.2.2 jb_3)) = .ref (G.2.2.2 jb_3) from rfl]
  have hFc := va_self hD hS hA
  refine va_calli (va_runV (As := [.ref (G.2.2.2 jb_3)]) (rest := []) ⟨hx, hb, hml, hown, hT⟩ (c_jadd l G ad S s.heap.size (z) (jb_3) (hzz) (by first | assumption | omega) (hb_3) (hX)) (tV 1 hT m4_223 m4_150 m4_151 m1_15 m4_152 rfl rfl (by decide +kernel) ⟨Nat.le_of_ble_eq_true rfl, Nat.le_of_ble_eq_true rfl⟩) ⟨PcE_blind, va_recv hK hP (ci := 1) (q0 := 61) rfl (ix_at (lt71 (by omega)) (cX_lst G ad S)), PcE_of hP hK hD hE hS (fun q h => hFc q h) _⟩ rfl rfl hl.1 rfl (lv_room (Nat.le_of_ble_eq_true rfl)) dX5_tells_6 ⟨Nat.le_of_ble_eq_true rfl, Nat.le_of_ble_eq_true rfl⟩) hS (fun q _ h => hFc q h) hFc (fun r_3 u_ t_ H locs ht_ hvm_ hw_4 hB_ hz_ hk_ hS => ?_)
  obtain ⟨S_5, ad_6⟩ := u_
  dsimp only at hB_ hw_4
  obtain ⟨hP, -, hD1_⟩ := hB_
  rw [ht_] at hP
  have hD : va_D A (wX G ad_6 S_5) := hD1_.weaken (fun k q _ h => hFc q.1 h)
  obtain ⟨hX_7, hF_8_, hg_9_, hw_4⟩ := hw_4
  have hg_9 : ∀ j, j < 71 + fC S → ad_6 j = ad j := fun j hj => (hg_9_ j (Nat.lt_of_lt_of_le hj (Nat.add_le_add_left ((Fr.rf : Fr (fun j k => j = 61 ∨ 71 ≤ j) S S)).1 71))).trans ((fun _ _ => rfl) j hj)
  have hF_8 : Fr (fun j k => j = 61 ∨ 71 ≤ j) S S_5 := Fr.tr (Fr.rf : Fr (fun j k => j = 61 ∨ 71 ≤ j) S S) hF_8_ (fun j k hj h => by have hc_ := ((Fr.rf : Fr (fun j k => j = 61 ∨ 71 ≤ j) S S)).1; omega)
  have hl : lv_has ls 4 [(0, .ref (ad_6 (2 + qz))), (1, .ref (ad_6 i)), (2, .int (x)), (3, .ref (ad_6 61))] := by rw [hg_9_ (2 + qz) ((lt71 (by omega))), hg_9_ i ((lt71 (by omega))), hg_9_ 61 ((lt71 (by omega)))]; exact hl
  obtain ⟨ez_10, hw_4_⟩ := hw_4
  refine lv_pop hx hb dX5_tells_9 rfl ?_
  refine lv_aload_n hx hb dX5_tells_10 rfl (lv_at hl 0 rfl) ?_
  refine lv_aload_n hx hb dX5_tells_11 rfl (lv_at hl 1 rfl) ?_
  refine lv_iload_n hx hb dX5_tells_12 rfl (lv_at hl 2 rfl) ?_
  refine lv_aload_n hx hb dX5_tells_13 rfl (lv_at hl 3 rfl) ?_
  have kk_k_11 : ∀ (rk_11 : Int32) (Sk_11 : FS) (adk_11 : Nat → Nat) (Hk_11 : Heap) (locsk_11 : List Loc) (zk_11 : Nat) (ls : Array Slot), XI Sk_11 → Fr (fun j k => j = 61 ∨ 71 ≤ j) S Sk_11 → (∀ j, j < 71 + fC S → adk_11 j = ad j) → zk_11 ≤ (z + 1) + 5 → fF Sk_11 61 2 = nI zk_11 → va_P G.1 vwCl (wX G adk_11 Sk_11) Hk_11 → va_D A (wX G adk_11 Sk_11) → va_S A s.heap Hk_11 locsk_11 → lv_has ls 4 [(0, .ref (adk_11 (2 + qz))), (1, .ref (adk_11 i)), (2, .int (x)), (3, .ref (adk_11 61))] → W p l e ({ frames := 18, cells := 12, slots := 768, locals := 560 } : Room) s m args below meth c₀ Hk_11 locsk_11 ((0 + 1) + 5) ((0 + 64) + 320) Q (F0 m 17 ls [.int (rk_11)]) := by
    intro rk_11 Sk_11 adk_11 Hk_11 locsk_11 zk_11 ls hXk_11 hFk_11 hgk_11 bzk_11 ezk_11 hP hD hS hl
    refine lv_iconst (v := 2) hx hb dX5_tells_17 (by decide) ?_
    refine lv_imul hx hb dX5_tells_18 ?_
    subst hQ
    have hpost : XI Sk_11 ∧ Fr (fun j k => j = 61 ∨ 71 ≤ j) S Sk_11 ∧ (∀ j, j < 71 + fC S → adk_11 j = ad j) ∧ ∃ z', z' ≤ z + 12 ∧ fF Sk_11 61 2 = nI z' := by
      exact ⟨hXk_11, hFk_11, hgk_11, ⟨_, by omega, ezk_11⟩⟩
    refine W.widen (k := 12) (n := 768) (by omega) (by omega) ?_
    exact W.iret (v := (rk_11 * 2)) hx hb hr (fun t_ ht_ hW_ => ⟨⟨(rk_11 * 2), (Sk_11, adk_11), rfl, hpost, by rw [ht_]; exact hP, va_K.moved hW_.alike hK, hD⟩, hS.F ht_⟩) hS.2.2 dX5_tells_19
  have hFc := va_self hD hS hA
  rcases kq7 hq with rfl | rfl | rfl | rfl | rfl | rfl | rfl
  · refine va_calli (va_runU (As := [.ref (ad_6 i), .int (x), .ref (ad_6 61)]) (rest := []) ⟨hx, hb, hml, hown, hT⟩ (c_x5_buys l G ad_6 S_5 H.size (0) (i) ((z + 1)) (x) ((by omega : 0 < 7)) (hpk) (ez_10) (by first | assumption | omega) (hX_7)) (tU 3 hT m5_35 m4_227 m4_226 m4_225 m1_2 m5_7 rfl rfl rfl (by decide +kernel) ⟨Nat.le_of_ble_eq_true rfl, Nat.le_of_ble_eq_true rfl⟩) ⟨PcE_blind, va_recv hK hP (ci := 7) (q0 := 2 + 0) rfl (ix_at (lt71 (by omega)) (cX_knd (by omega))), PcE_of hP hK hD hE hS (fun q h => hFc q h) _⟩ rfl rfl hl.1 rfl (lv_room (Nat.le_of_ble_eq_true rfl)) dX5_tells_14 ⟨(by show (0 + 1) + 5 ≤ 12; omega), (by show (0 + 64) + 320 ≤ 768; omega)⟩) hS (fun q _ h => hFc q h) hFc (fun r_ u_ t_ H locs ht_ hvm_ hw_ hB_ hz_ hk_ hS => ?_)
    obtain ⟨S1_, ad1_⟩ := u_
    dsimp only at hB_ hw_
    obtain ⟨hP, -, hD1_⟩ := hB_
    rw [ht_] at hP
    have hD : va_D A (wX G ad1_ S1_) := hD1_.weaken (fun k q _ h => hFc q.1 h)
    obtain ⟨hX1_, hF1_, hg1_, z1_, bz1_, ez1_⟩ := hw_
    have hl : lv_has ls 4 [(0, .ref (ad1_ (2 + 0))), (1, .ref (ad1_ i)), (2, .int (x)), (3, .ref (ad1_ 61))] := by rw [hg1_ (2 + 0) ((lt71 (by omega))), hg1_ i ((lt71 (by omega))), hg1_ 61 ((lt71 (by omega)))]; exact hl
    exact kk_k_11 r_ S1_ ad1_ H locs z1_ ls hX1_ (Fr.tr hF_8 hF1_ (fun j k hj h => by have hc_ := (hF_8).1; omega)) (fun j hj => (hg1_ j (Nat.lt_of_lt_of_le hj (Nat.add_le_add_left (hF_8).1 71))).trans (hg_9 j hj)) (by omega) ez1_ hP hD hS hl
  · refine va_calli (va_runU (As := [.ref (ad_6 i), .int (x), .ref (ad_6 61)]) (rest := []) ⟨hx, hb, hml, hown, hT⟩ (c_x8_buys l G ad_6 S_5 H.size (1) (i) ((z + 1)) (x) ((by omega : 1 < 7)) (hpk) (ez_10) (by first | assumption | omega) (hX_7)) (tO 3 hT m5_35 m4_227 m4_225 m5_0 m4_233 m1_3 m4_234 m5_7 rfl rfl (by decide +kernel) ⟨Nat.le_of_ble_eq_true rfl, Nat.le_of_ble_eq_true rfl⟩) ⟨PcE_blind, va_recv hK hP (ci := 10) (q0 := 2 + 1) rfl (ix_at (lt71 (by omega)) (cX_knd (by omega))), PcE_of hP hK hD hE hS (fun q h => hFc q h) _⟩ rfl rfl hl.1 rfl (lv_room (Nat.le_of_ble_eq_true rfl)) dX5_tells_14 ⟨(by show (0 + 1) + 5 ≤ 12; omega), (by show (0 + 64) + 320 ≤ 768; omega)⟩) hS (fun q _ h => hFc q h) hFc (fun r_ u_ t_ H locs ht_ hvm_ hw_ hB_ hz_ hk_ hS => ?_)
    obtain ⟨S1_, ad1_⟩ := u_
    dsimp only at hB_ hw_
    obtain ⟨hP, -, hD1_⟩ := hB_
    rw [ht_] at hP
    have hD : va_D A (wX G ad1_ S1_) := hD1_.weaken (fun k q _ h => hFc q.1 h)
    obtain ⟨hX1_, hF1_, hg1_, z1_, bz1_, ez1_⟩ := hw_
    have hl : lv_has ls 4 [(0, .ref (ad1_ (2 + 1))), (1, .ref (ad1_ i)), (2, .int (x)), (3, .ref (ad1_ 61))] := by rw [hg1_ (2 + 1) ((lt71 (by omega))), hg1_ i ((lt71 (by omega))), hg1_ 61 ((lt71 (by omega)))]; exact hl
    exact kk_k_11 r_ S1_ ad1_ H locs z1_ ls hX1_ (Fr.tr hF_8 hF1_ (fun j k hj h => by have hc_ := (hF_8).1; omega)) (fun j hj => (hg1_ j (Nat.lt_of_lt_of_le hj (Nat.add_le_add_left (hF_8).1 71))).trans (hg_9 j hj)) (by omega) ez1_ hP hD hS hl
  · refine va_calli (va_runU (As := [.ref (ad_6 i), .int (x), .ref (ad_6 61)]) (rest := []) ⟨hx, hb, hml, hown, hT⟩ (c_x5_buys l G ad_6 S_5 H.size (2) (i) ((z + 1)) (x) ((by omega : 2 < 7)) (hpk) (ez_10) (by first | assumption | omega) (hX_7)) (tU 3 hT m5_35 m4_227 m4_238 m4_225 m1_2 m5_7 rfl rfl rfl (by decide +kernel) ⟨Nat.le_of_ble_eq_true rfl, Nat.le_of_ble_eq_true rfl⟩) ⟨PcE_blind, va_recv hK hP (ci := 6) (q0 := 2 + 2) rfl (ix_at (lt71 (by omega)) (cX_knd (by omega))), PcE_of hP hK hD hE hS (fun q h => hFc q h) _⟩ rfl rfl hl.1 rfl (lv_room (Nat.le_of_ble_eq_true rfl)) dX5_tells_14 ⟨(by show (0 + 1) + 5 ≤ 12; omega), (by show (0 + 64) + 320 ≤ 768; omega)⟩) hS (fun q _ h => hFc q h) hFc (fun r_ u_ t_ H locs ht_ hvm_ hw_ hB_ hz_ hk_ hS => ?_)
    obtain ⟨S1_, ad1_⟩ := u_
    dsimp only at hB_ hw_
    obtain ⟨hP, -, hD1_⟩ := hB_
    rw [ht_] at hP
    have hD : va_D A (wX G ad1_ S1_) := hD1_.weaken (fun k q _ h => hFc q.1 h)
    obtain ⟨hX1_, hF1_, hg1_, z1_, bz1_, ez1_⟩ := hw_
    have hl : lv_has ls 4 [(0, .ref (ad1_ (2 + 2))), (1, .ref (ad1_ i)), (2, .int (x)), (3, .ref (ad1_ 61))] := by rw [hg1_ (2 + 2) ((lt71 (by omega))), hg1_ i ((lt71 (by omega))), hg1_ 61 ((lt71 (by omega)))]; exact hl
    exact kk_k_11 r_ S1_ ad1_ H locs z1_ ls hX1_ (Fr.tr hF_8 hF1_ (fun j k hj h => by have hc_ := (hF_8).1; omega)) (fun j hj => (hg1_ j (Nat.lt_of_lt_of_le hj (Nat.add_le_add_left (hF_8).1 71))).trans (hg_9 j hj)) (by omega) ez1_ hP hD hS hl
  · refine va_calli (va_runU (As := [.ref (ad_6 i), .int (x), .ref (ad_6 61)]) (rest := []) ⟨hx, hb, hml, hown, hT⟩ (c_x5_buys l G ad_6 S_5 H.size (3) (i) ((z + 1)) (x) ((by omega : 3 < 7)) (hpk) (ez_10) (by first | assumption | omega) (hX_7)) (tU 3 hT m5_35 m4_227 m4_228 m4_225 m1_2 m5_7 rfl rfl rfl (by decide +kernel) ⟨Nat.le_of_ble_eq_true rfl, Nat.le_of_ble_eq_true rfl⟩) ⟨PcE_blind, va_recv hK hP (ci := 2) (q0 := 2 + 3) rfl (ix_at (lt71 (by omega)) (cX_knd (by omega))), PcE_of hP hK hD hE hS (fun q h => hFc q h) _⟩ rfl rfl hl.1 rfl (lv_room (Nat.le_of_ble_eq_true rfl)) dX5_tells_14 ⟨(by show (0 + 1) + 5 ≤ 12; omega), (by show (0 + 64) + 320 ≤ 768; omega)⟩) hS (fun q _ h => hFc q h) hFc (fun r_ u_ t_ H locs ht_ hvm_ hw_ hB_ hz_ hk_ hS => ?_)
    obtain ⟨S1_, ad1_⟩ := u_
    dsimp only at hB_ hw_
    obtain ⟨hP, -, hD1_⟩ := hB_
    rw [ht_] at hP
    have hD : va_D A (wX G ad1_ S1_) := hD1_.weaken (fun k q _ h => hFc q.1 h)
    obtain ⟨hX1_, hF1_, hg1_, z1_, bz1_, ez1_⟩ := hw_
    have hl : lv_has ls 4 [(0, .ref (ad1_ (2 + 3))), (1, .ref (ad1_ i)), (2, .int (x)), (3, .ref (ad1_ 61))] := by rw [hg1_ (2 + 3) ((lt71 (by omega))), hg1_ i ((lt71 (by omega))), hg1_ 61 ((lt71 (by omega)))]; exact hl
    exact kk_k_11 r_ S1_ ad1_ H locs z1_ ls hX1_ (Fr.tr hF_8 hF1_ (fun j k hj h => by have hc_ := (hF_8).1; omega)) (fun j hj => (hg1_ j (Nat.lt_of_lt_of_le hj (Nat.add_le_add_left (hF_8).1 71))).trans (hg_9 j hj)) (by omega) ez1_ hP hD hS hl
  · refine va_calli (va_runU (As := [.ref (ad_6 i), .int (x), .ref (ad_6 61)]) (rest := []) ⟨hx, hb, hml, hown, hT⟩ (c_x2_buys l G ad_6 S_5 H.size (4) (i) ((z + 1)) (x) ((by omega : 4 < 7)) (hpk) (ez_10) (by first | assumption | omega) (hX_7)) (tO 3 hT m5_35 m4_227 m4_225 m4_229 m4_230 m1_6 m4_231 m5_7 rfl rfl (by decide +kernel) ⟨Nat.le_of_ble_eq_true rfl, Nat.le_of_ble_eq_true rfl⟩) ⟨PcE_blind, va_recv hK hP (ci := 4) (q0 := 2 + 4) rfl (ix_at (lt71 (by omega)) (cX_knd (by omega))), PcE_of hP hK hD hE hS (fun q h => hFc q h) _⟩ rfl rfl hl.1 rfl (lv_room (Nat.le_of_ble_eq_true rfl)) dX5_tells_14 ⟨(by show (0 + 1) + 5 ≤ 12; omega), (by show (0 + 64) + 320 ≤ 768; omega)⟩) hS (fun q _ h => hFc q h) hFc (fun r_ u_ t_ H locs ht_ hvm_ hw_ hB_ hz_ hk_ hS => ?_)
    obtain ⟨S1_, ad1_⟩ := u_
    dsimp only at hB_ hw_
    obtain ⟨hP, -, hD1_⟩ := hB_
    rw [ht_] at hP
    have hD : va_D A (wX G ad1_ S1_) := hD1_.weaken (fun k q _ h => hFc q.1 h)
    obtain ⟨hX1_, hF1_, hg1_, z1_, bz1_, ez1_⟩ := hw_
    have hl : lv_has ls 4 [(0, .ref (ad1_ (2 + 4))), (1, .ref (ad1_ i)), (2, .int (x)), (3, .ref (ad1_ 61))] := by rw [hg1_ (2 + 4) ((lt71 (by omega))), hg1_ i ((lt71 (by omega))), hg1_ 61 ((lt71 (by omega)))]; exact hl
    exact kk_k_11 r_ S1_ ad1_ H locs z1_ ls hX1_ (Fr.tr hF_8 hF1_ (fun j k hj h => by have hc_ := (hF_8).1; omega)) (fun j hj => (hg1_ j (Nat.lt_of_lt_of_le hj (Nat.add_le_add_left (hF_8).1 71))).trans (hg_9 j hj)) (by omega) ez1_ hP hD hS hl
  · refine va_calli (va_runU (As := [.ref (ad_6 i), .int (x), .ref (ad_6 61)]) (rest := []) ⟨hx, hb, hml, hown, hT⟩ (c_x5_buys l G ad_6 S_5 H.size (5) (i) ((z + 1)) (x) ((by omega : 5 < 7)) (hpk) (ez_10) (by first | assumption | omega) (hX_7)) (tU 3 hT m5_35 m4_227 m4_239 m4_225 m1_2 m5_7 rfl rfl rfl (by decide +kernel) ⟨Nat.le_of_ble_eq_true rfl, Nat.le_of_ble_eq_true rfl⟩) ⟨PcE_blind, va_recv hK hP (ci := 8) (q0 := 2 + 5) rfl (ix_at (lt71 (by omega)) (cX_knd (by omega))), PcE_of hP hK hD hE hS (fun q h => hFc q h) _⟩ rfl rfl hl.1 rfl (lv_room (Nat.le_of_ble_eq_true rfl)) dX5_tells_14 ⟨(by show (0 + 1) + 5 ≤ 12; omega), (by show (0 + 64) + 320 ≤ 768; omega)⟩) hS (fun q _ h => hFc q h) hFc (fun r_ u_ t_ H locs ht_ hvm_ hw_ hB_ hz_ hk_ hS => ?_)
    obtain ⟨S1_, ad1_⟩ := u_
    dsimp only at hB_ hw_
    obtain ⟨hP, -, hD1_⟩ := hB_
    rw [ht_] at hP
    have hD : va_D A (wX G ad1_ S1_) := hD1_.weaken (fun k q _ h => hFc q.1 h)
    obtain ⟨hX1_, hF1_, hg1_, z1_, bz1_, ez1_⟩ := hw_
    have hl : lv_has ls 4 [(0, .ref (ad1_ (2 + 5))), (1, .ref (ad1_ i)), (2, .int (x)), (3, .ref (ad1_ 61))] := by rw [hg1_ (2 + 5) ((lt71 (by omega))), hg1_ i ((lt71 (by omega))), hg1_ 61 ((lt71 (by omega)))]; exact hl
    exact kk_k_11 r_ S1_ ad1_ H locs z1_ ls hX1_ (Fr.tr hF_8 hF1_ (fun j k hj h => by have hc_ := (hF_8).1; omega)) (fun j hj => (hg1_ j (Nat.lt_of_lt_of_le hj (Nat.add_le_add_left (hF_8).1 71))).trans (hg_9 j hj)) (by omega) ez1_ hP hD hS hl
  · refine va_calli (va_runU (As := [.ref (ad_6 i), .int (x), .ref (ad_6 61)]) (rest := []) ⟨hx, hb, hml, hown, hT⟩ (c_x10_buys l G ad_6 S_5 H.size (6) (i) ((z + 1)) (x) ((by omega : 6 < 7)) (hpk) (ez_10) (by first | assumption | omega) (hX_7)) (tO 3 hT m5_35 m4_227 m4_225 m5_1 m5_2 m1_8 m5_3 m5_7 rfl rfl (by decide +kernel) ⟨Nat.le_of_ble_eq_true rfl, Nat.le_of_ble_eq_true rfl⟩) ⟨PcE_blind, va_recv hK hP (ci := 12) (q0 := 2 + 6) rfl (ix_at (lt71 (by omega)) (cX_knd (by omega))), PcE_of hP hK hD hE hS (fun q h => hFc q h) _⟩ rfl rfl hl.1 rfl (lv_room (Nat.le_of_ble_eq_true rfl)) dX5_tells_14 ⟨(by show (0 + 1) + 5 ≤ 12; omega), (by show (0 + 64) + 320 ≤ 768; omega)⟩) hS (fun q _ h => hFc q h) hFc (fun r_ u_ t_ H locs ht_ hvm_ hw_ hB_ hz_ hk_ hS => ?_)
    obtain ⟨S1_, ad1_⟩ := u_
    dsimp only at hB_ hw_
    obtain ⟨hP, -, hD1_⟩ := hB_
    rw [ht_] at hP
    have hD : va_D A (wX G ad1_ S1_) := hD1_.weaken (fun k q _ h => hFc q.1 h)
    obtain ⟨hX1_, hF1_, hg1_, z1_, bz1_, ez1_⟩ := hw_
    have hl : lv_has ls 4 [(0, .ref (ad1_ (2 + 6))), (1, .ref (ad1_ i)), (2, .int (x)), (3, .ref (ad1_ 61))] := by rw [hg1_ (2 + 6) ((lt71 (by omega))), hg1_ i ((lt71 (by omega))), hg1_ 61 ((lt71 (by omega)))]; exact hl
    exact kk_k_11 r_ S1_ ad1_ H locs z1_ ls hX1_ (Fr.tr hF_8 hF1_ (fun j k hj h => by have hc_ := (hF_8).1; omega)) (fun j hj => (hg1_ j (Nat.lt_of_lt_of_le hj (Nat.add_le_add_left (hF_8).1 71))).trans (hg_9 j hj)) (by omega) ez1_ hP hD hS hl
set_option maxHeartbeats 800000 in
set_option maxRecDepth 100000 in
theorem c_x0_tells (l : Launch) (G : GG) (ad : Nat → Nat) (S : FS) (sz : Nat) (qz i z : Nat) (x : Int32) (hq : qz < 7) (hq36 : qz = 3 ∨ qz = 6) (hpk : pk i = 7) (hzz : fF S 61 2 = nI z) (hzN : z + 12 ≤ 40) (hX : XI S) : Met l yX0_tells (Cond.code yX0_tells cX0_tells 4 (some .int) :: TBL) ({ frames := 19, cells := 12, slots := 768, locals := 587 } : Room) (PcE G (wX G ad S) sz [.ref (ad (2 + qz)), .ref (ad i), .int (x), .ref (ad 61)]) (va_Qi (fun (r : Int32) (u : FS × (Nat → Nat)) => XI u.1 ∧ Fr (fun j k => j = 61 ∨ 71 ≤ j) S u.1 ∧ (∀ j, j < 71 + fC S → u.2 j = ad j) ∧ ∃ z', z' ≤ z + 12 ∧ fF u.1 61 2 = nI z') (fun u t => BW G (va_A (wX G ad S) sz) (wX G u.2 u.1) t) (va_A (wX G ad S) sz)) 12 768 (va_A (wX G ad S) sz) := by
  refine Met.ofW (cc := cX0_tells) (maxL := 4) (ret := (some .int)) (by decide) rfl ?_
  intro p e s m args below meth c₀ s₁ B hml hv
  obtain ⟨rfl, hsz, hP, hK, hD0, hE⟩ := hv
  have hx := B.exec
  have hb := B.bytes
  have hr := B.returns
  have hT : ∀ w ∈ TBL, w.before ([.ref (ad (2 + qz)), .ref (ad i), .int (x), .ref (ad 61)] : List Value).toArray s = true := fun w h => atoms_spec (ws := Cond.code yX0_tells cX0_tells 4 (some .int) :: TBL) B.pre w (List.mem_cons_of_mem _ h)
  have hown : s.vm.findClass "LittleMore$Child" = some m.cls := findClass_of_methodNamed B.named
  have hlocks := B.notSynchronized
  subst hsz
  have hD := hD0.self (sz := s.heap.size)
  generalize hAe : va_A (wX G ad S) s.heap.size = A at hD hE ⊢
  have hA : ∀ q : Nat, s.heap.size ≤ q → A q := fun q h => by rw [← hAe]; exact Or.inr h
  have hS : va_S A s.heap s.heap [] := va_S.rf
  have hP : va_P G.1 vwCl (wX G ad S) s.heap := hP
  have hl := lv_entry ([.ref (ad (2 + qz)), .ref (ad i), .int (x), .ref (ad 61)]) (n := 4) (Nat.le_of_ble_eq_true rfl)
  rw [lg_entry_eq]
  generalize (lg_sl ([.ref (ad (2 + qz)), .ref (ad i), .int (x), .ref (ad 61)]) ++ List.replicate (4 - (lg_sl ([.ref (ad (2 + qz)), .ref (ad i), .int (x), .ref (ad 61)])).length) Slot.unset).toArray = ls at hl ⊢
  have hl : lv_has ls 4 [(0, .ref (ad (2 + qz))), (1, .ref (ad i)), (2, .int (x)), (3, .ref (ad 61))] := hl
  refine W_abs (fun Q hQ => ?_)
  generalize ([.ref (ad (2 + qz)), .ref (ad i), .int (x), .ref (ad 61)] : List Value).toArray = args at hT hQ ⊢
  have hb_i := pk7 hpk
  obtain ⟨r_k, hr_k⟩ := kcl_at hq
  refine lv_aload_n hx hb dX0_tells_0 rfl (lv_at hl 3 rfl) ?_
  refine lv_bipush (v := 40) hx hb dX0_tells_1 (by decide) ?_
  have hFc := va_self hD hS hA
  refine va_csq (W.runS (As := [.int (40)]) (rest := [.ref (ad 61)]) ⟨hx, hb, hml, hown, hT⟩ (c_jvalueOf l G ad S s.heap.size (40) (by first | assumption | omega) (hX)) (tS 1 hT m5_16 m4_130 m1_26 m4_131 rfl rfl (by decide +kernel) ⟨Nat.le_of_ble_eq_true rfl, Nat.le_of_ble_eq_true rfl⟩) ⟨PcE_blind, PcE_of hP hK hD hE hS (fun q h => hFc q h) _⟩ rfl rfl hl.1 rfl (lv_room (Nat.le_of_ble_eq_true rfl)) dX0_tells_3 ⟨Nat.zero_le _, Nat.zero_le _⟩) (fun r_1 hw_2 => ?_)
  try dsimp only at hw_2
  obtain ⟨jb_3, hb_3, eb_3, rfl⟩ := hw_2
  rw [show va_rf (some (G.2.2.2 jb_3)) = .ref (G.2.2.2 jb_3) from rfl]
  have hFc := va_self hD hS hA
  refine va_calli (va_runV (As := [.ref (G.2.2.2 jb_3)]) (rest := []) ⟨hx, hb, hml, hown, hT⟩ (c_jadd l G ad S s.heap.size (z) (jb_3) (hzz) (by first | assumption | omega) (hb_3) (hX)) (tV 1 hT m5_17 m4_150 m4_151 m1_15 m4_152 rfl rfl (by decide +kernel) ⟨Nat.le_of_ble_eq_true rfl, Nat.le_of_ble_eq_true rfl⟩) ⟨PcE_blind, va_recv hK hP (ci := 1) (q0 := 61) rfl (ix_at (lt71 (by omega)) (cX_lst G ad S)), PcE_of hP hK hD hE hS (fun q h => hFc q h) _⟩ rfl rfl hl.1 rfl (lv_room (Nat.le_of_ble_eq_true rfl)) dX0_tells_6 ⟨Nat.le_of_ble_eq_true rfl, Nat.le_of_ble_eq_true rfl⟩) hS (fun q _ h => hFc q h) hFc (fun r_3 u_ t_ H locs ht_ hvm_ hw_4 hB_ hz_ hk_ hS => ?_)
  obtain ⟨S_5, ad_6⟩ := u_
  dsimp only at hB_ hw_4
  obtain ⟨hP, -, hD1_⟩ := hB_
  rw [ht_] at hP
  have hD : va_D A (wX G ad_6 S_5) := hD1_.weaken (fun k q _ h => hFc q.1 h)
  obtain ⟨hX_7, hF_8_, hg_9_, hw_4⟩ := hw_4
  have hg_9 : ∀ j, j < 71 + fC S → ad_6 j = ad j := fun j hj => (hg_9_ j (Nat.lt_of_lt_of_le hj (Nat.add_le_add_left ((Fr.rf : Fr (fun j k => j = 61 ∨ 71 ≤ j) S S)).1 71))).trans ((fun _ _ => rfl) j hj)
  have hF_8 : Fr (fun j k => j = 61 ∨ 71 ≤ j) S S_5 := Fr.tr (Fr.rf : Fr (fun j k => j = 61 ∨ 71 ≤ j) S S) hF_8_ (fun j k hj h => by have hc_ := ((Fr.rf : Fr (fun j k => j = 61 ∨ 71 ≤ j) S S)).1; omega)
  have hl : lv_has ls 4 [(0, .ref (ad_6 (2 + qz))), (1, .ref (ad_6 i)), (2, .int (x)), (3, .ref (ad_6 61))] := by rw [hg_9_ (2 + qz) ((lt71 (by omega))), hg_9_ i ((lt71 (by omega))), hg_9_ 61 ((lt71 (by omega)))]; exact hl
  obtain ⟨ez_10, hw_4_⟩ := hw_4
  refine lv_pop hx hb dX0_tells_9 rfl ?_
  refine lv_aload_n hx hb dX0_tells_10 rfl (lv_at hl 0 rfl) ?_
  refine lv_aload_n hx hb dX0_tells_11 rfl (lv_at hl 1 rfl) ?_
  refine lv_iload_n hx hb dX0_tells_12 rfl (lv_at hl 2 rfl) ?_
  refine lv_aload_n hx hb dX0_tells_13 rfl (lv_at hl 3 rfl) ?_
  have hFc := va_self hD hS hA
  refine va_calli (va_runSU (C := r_k.1) (As := [.ref (ad_6 i), .int (x), .ref (ad_6 61)]) (rest := []) (hK.1 (kcl qz) r_k hr_k).2 ⟨hx, hb, hml, hown, hT⟩ (c_x5_tells6 l G ad_6 S_5 H.size (qz) (i) ((z + 1)) (x) (hq) (hpk) (ez_10) (by first | assumption | omega) (hX_7)) (tSU 3 hT m5_18 m5_12 m1_74 m5_10 m1_2 m5_34 rfl rfl (by decide +kernel) ⟨Nat.le_of_ble_eq_true rfl, Nat.le_of_ble_eq_true rfl⟩) ⟨PcE_blind, va_recv hK hP hr_k (ix_at (lt71 (by omega)) (cX_knd hq)), PcE_of hP hK hD hE hS (fun q h => hFc q h) _⟩ rfl rfl hl.1 rfl (lv_room (Nat.le_of_ble_eq_true rfl)) dX0_tells_14 ⟨(by show (0 + 1) + 6 ≤ 12; omega), (by show (0 + 64) + 384 ≤ 768; omega)⟩) hS (fun q _ h => hFc q h) hFc (fun r_11 u_ t_ H locs ht_ hvm_ hw_12 hB_ hz_ hk_ hS => ?_)
  obtain ⟨S_13, ad_14⟩ := u_
  dsimp only at hB_ hw_12
  obtain ⟨hP, -, hD1_⟩ := hB_
  rw [ht_] at hP
  have hD : va_D A (wX G ad_14 S_13) := hD1_.weaken (fun k q _ h => hFc q.1 h)
  obtain ⟨hX_15, hF_16_, hg_17_, hw_12⟩ := hw_12
  have hg_17 : ∀ j, j < 71 + fC S → ad_14 j = ad j := fun j hj => (hg_17_ j (Nat.lt_of_lt_of_le hj (Nat.add_le_add_left (hF_8).1 71))).trans (hg_9 j hj)
  have hF_16 : Fr (fun j k => j = 61 ∨ 71 ≤ j) S S_13 := Fr.tr hF_8 hF_16_ (fun j k hj h => by have hc_ := (hF_8).1; omega)
  have hl : lv_has ls 4 [(0, .ref (ad_14 (2 + qz))), (1, .ref (ad_14 i)), (2, .int (x)), (3, .ref (ad_14 61))] := by rw [hg_17_ (2 + qz) ((lt71 (by omega))), hg_17_ i ((lt71 (by omega))), hg_17_ 61 ((lt71 (by omega)))]; exact hl
  obtain ⟨z_18, bz_18, ez_18⟩ := hw_12
  refine lv_aload_n hx hb dX0_tells_17 rfl (lv_at hl 0 rfl) ?_
  refine lv_aload_n hx hb dX0_tells_18 rfl (lv_at hl 1 rfl) ?_
  refine lv_iconst (v := 1) hx hb dX0_tells_19 (by decide) ?_
  refine lv_aload_n hx hb dX0_tells_20 rfl (lv_at hl 3 rfl) ?_
  have kk_k_19 : ∀ (rk_19 : Int32) (Sk_19 : FS) (adk_19 : Nat → Nat) (Hk_19 : Heap) (locsk_19 : List Loc) (zk_19 : Nat) (ls : Array Slot), XI Sk_19 → Fr (fun j k => j = 61 ∨ 71 ≤ j) S Sk_19 → (∀ j, j < 71 + fC S → adk_19 j = ad j) → zk_19 ≤ z_18 + 5 → fF Sk_19 61 2 = nI zk_19 → va_P G.1 vwCl (wX G adk_19 Sk_19) Hk_19 → va_D A (wX G adk_19 Sk_19) → va_S A s.heap Hk_19 locsk_19 → lv_has ls 4 [(0, .ref (adk_19 (2 + qz))), (1, .ref (adk_19 i)), (2, .int (x)), (3, .ref (adk_19 61))] → W p l e ({ frames := 19, cells := 12, slots := 768, locals := 587 } : Room) s m args below meth c₀ Hk_19 locsk_19 (((0 + 1) + 6) + 5) (((0 + 64) + 384) + 320) Q (F0 m 24 ls [.int (rk_19), .int (r_11)]) := by
    intro rk_19 Sk_19 adk_19 Hk_19 locsk_19 zk_19 ls hXk_19 hFk_19 hgk_19 bzk_19 ezk_19 hP hD hS hl
    refine lv_iadd hx hb dX0_tells_24 ?_
    subst hQ
    have hpost : XI Sk_19 ∧ Fr (fun j k => j = 61 ∨ 71 ≤ j) S Sk_19 ∧ (∀ j, j < 71 + fC S → adk_19 j = ad j) ∧ ∃ z', z' ≤ z + 12 ∧ fF Sk_19 61 2 = nI z' := by
      exact ⟨hXk_19, hFk_19, hgk_19, ⟨_, by omega, ezk_19⟩⟩
    refine W.widen (k := 12) (n := 768) (by omega) (by omega) ?_
    exact W.iret (v := (r_11 + rk_19)) hx hb hr (fun t_ ht_ hW_ => ⟨⟨(r_11 + rk_19), (Sk_19, adk_19), rfl, hpost, by rw [ht_]; exact hP, va_K.moved hW_.alike hK, hD⟩, hS.F ht_⟩) hS.2.2 dX0_tells_25
  have hFc := va_self hD hS hA
  rcases kq7 hq with rfl | rfl | rfl | rfl | rfl | rfl | rfl
  · exact absurd hq36 (by omega)
  · exact absurd hq36 (by omega)
  · exact absurd hq36 (by omega)
  · refine va_calli (va_runU (As := [.ref (ad_14 i), .int (1), .ref (ad_14 61)]) (rest := [.int (r_11)]) ⟨hx, hb, hml, hown, hT⟩ (c_x5_buys l G ad_14 S_13 H.size (3) (i) (z_18) (1) ((by omega : 3 < 7)) (hpk) (ez_18) (by first | assumption | omega) (hX_15)) (tU 3 hT m5_19 m5_5 m5_20 m4_225 m1_2 m5_7 rfl rfl rfl (by decide +kernel) ⟨Nat.le_of_ble_eq_true rfl, Nat.le_of_ble_eq_true rfl⟩) ⟨PcE_blind, va_recv hK hP (ci := 2) (q0 := 2 + 3) rfl (ix_at (lt71 (by omega)) (cX_knd (by omega))), PcE_of hP hK hD hE hS (fun q h => hFc q h) _⟩ rfl rfl hl.1 rfl (lv_room (Nat.le_of_ble_eq_true rfl)) dX0_tells_21 ⟨(by show ((0 + 1) + 6) + 5 ≤ 12; omega), (by show ((0 + 64) + 384) + 320 ≤ 768; omega)⟩) hS (fun q _ h => hFc q h) hFc (fun r_ u_ t_ H locs ht_ hvm_ hw_ hB_ hz_ hk_ hS => ?_)
    obtain ⟨S1_, ad1_⟩ := u_
    dsimp only at hB_ hw_
    obtain ⟨hP, -, hD1_⟩ := hB_
    rw [ht_] at hP
    have hD : va_D A (wX G ad1_ S1_) := hD1_.weaken (fun k q _ h => hFc q.1 h)
    obtain ⟨hX1_, hF1_, hg1_, z1_, bz1_, ez1_⟩ := hw_
    have hl : lv_has ls 4 [(0, .ref (ad1_ (2 + 3))), (1, .ref (ad1_ i)), (2, .int (x)), (3, .ref (ad1_ 61))] := by rw [hg1_ (2 + 3) ((lt71 (by omega))), hg1_ i ((lt71 (by omega))), hg1_ 61 ((lt71 (by omega)))]; exact hl
    exact kk_k_19 r_ S1_ ad1_ H locs z1_ ls hX1_ (Fr.tr hF_16 hF1_ (fun j k hj h => by have hc_ := (hF_16).1; omega)) (fun j hj => (hg1_ j (Nat.lt_of_lt_of_le hj (Nat.add_le_add_left (hF_16).1 71))).trans (hg_17 j hj)) (by omega) ez1_ hP hD hS hl
  · exact absurd hq36 (by omega)
  · exact absurd hq36 (by omega)
  · refine va_calli (va_runU (As := [.ref (ad_14 i), .int (1), .ref (ad_14 61)]) (rest := [.int (r_11)]) ⟨hx, hb, hml, hown, hT⟩ (c_x10_buys l G ad_14 S_13 H.size (6) (i) (z_18) (1) ((by omega : 6 < 7)) (hpk) (ez_18) (by first | assumption | omega) (hX_15)) (tO 3 hT m5_19 m5_5 m4_225 m5_21 m5_2 m1_8 m5_3 m5_7 rfl rfl (by decide +kernel) ⟨Nat.le_of_ble_eq_true rfl, Nat.le_of_ble_eq_true rfl⟩) ⟨PcE_blind, va_recv hK hP (ci := 12) (q0 := 2 + 6) rfl (ix_at (lt71 (by omega)) (cX_knd (by omega))), PcE_of hP hK hD hE hS (fun q h => hFc q h) _⟩ rfl rfl hl.1 rfl (lv_room (Nat.le_of_ble_eq_true rfl)) dX0_tells_21 ⟨(by show ((0 + 1) + 6) + 5 ≤ 12; omega), (by show ((0 + 64) + 384) + 320 ≤ 768; omega)⟩) hS (fun q _ h => hFc q h) hFc (fun r_ u_ t_ H locs ht_ hvm_ hw_ hB_ hz_ hk_ hS => ?_)
    obtain ⟨S1_, ad1_⟩ := u_
    dsimp only at hB_ hw_
    obtain ⟨hP, -, hD1_⟩ := hB_
    rw [ht_] at hP
    have hD : va_D A (wX G ad1_ S1_) := hD1_.weaken (fun k q _ h => hFc q.1 h)
    obtain ⟨hX1_, hF1_, hg1_, z1_, bz1_, ez1_⟩ := hw_
    have hl : lv_has ls 4 [(0, .ref (ad1_ (2 + 6))), (1, .ref (ad1_ i)), (2, .int (x)), (3, .ref (ad1_ 61))] := by rw [hg1_ (2 + 6) ((lt71 (by omega))), hg1_ i ((lt71 (by omega))), hg1_ 61 ((lt71 (by omega)))]; exact hl
    exact kk_k_19 r_ S1_ ad1_ H locs z1_ ls hX1_ (Fr.tr hF_16 hF1_ (fun j k hj h => by have hc_ := (hF_16).1; omega)) (fun j hj => (hg1_ j (Nat.lt_of_lt_of_le hj (Nat.add_le_add_left (hF_16).1 71))).trans (hg_17 j hj)) (by omega) ez1_ hP hD hS hl
set_option maxHeartbeats 800000 in
set_option maxRecDepth 100000 in
theorem c_x6_tells (l : Launch) (G : GG) (ad : Nat → Nat) (S : FS) (sz : Nat) (qz i z : Nat) (x : Int32) (hq : qz < 7) (hpk : pk i = 7) (hzz : fF S 61 2 = nI z) (hzN : z + 12 ≤ 40) (hX : XI S) : Met l yX6_tells (Cond.code yX6_tells cX6_tells 4 (some .int) :: TBL) ({ frames := 19, cells := 12, slots := 768, locals := 587 } : Room) (PcE G (wX G ad S) sz [.ref (ad (2 + qz)), .ref (ad i), .int (x), .ref (ad 61)]) (va_Qi (fun (r : Int32) (u : FS × (Nat → Nat)) => XI u.1 ∧ Fr (fun j k => j = 61 ∨ 71 ≤ j) S u.1 ∧ (∀ j, j < 71 + fC S → u.2 j = ad j) ∧ ∃ z', z' ≤ z + 12 ∧ fF u.1 61 2 = nI z') (fun u t => BW G (va_A (wX G ad S) sz) (wX G u.2 u.1) t) (va_A (wX G ad S) sz)) 12 768 (va_A (wX G ad S) sz) := by
  refine Met.ofW (cc := cX6_tells) (maxL := 4) (ret := (some .int)) (by decide) rfl ?_
  intro p e s m args below meth c₀ s₁ B hml hv
  obtain ⟨rfl, hsz, hP, hK, hD0, hE⟩ := hv
  have hx := B.exec
  have hb := B.bytes
  have hr := B.returns
  have hT : ∀ w ∈ TBL, w.before ([.ref (ad (2 + qz)), .ref (ad i), .int (x), .ref (ad 61)] : List Value).toArray s = true := fun w h => atoms_spec (ws := Cond.code yX6_tells cX6_tells 4 (some .int) :: TBL) B.pre w (List.mem_cons_of_mem _ h)
  have hown : s.vm.findClass "LittleMore$Leaving" = some m.cls := findClass_of_methodNamed B.named
  have hlocks := B.notSynchronized
  subst hsz
  have hD := hD0.self (sz := s.heap.size)
  generalize hAe : va_A (wX G ad S) s.heap.size = A at hD hE ⊢
  have hA : ∀ q : Nat, s.heap.size ≤ q → A q := fun q h => by rw [← hAe]; exact Or.inr h
  have hS : va_S A s.heap s.heap [] := va_S.rf
  have hP : va_P G.1 vwCl (wX G ad S) s.heap := hP
  have hl := lv_entry ([.ref (ad (2 + qz)), .ref (ad i), .int (x), .ref (ad 61)]) (n := 4) (Nat.le_of_ble_eq_true rfl)
  rw [lg_entry_eq]
  generalize (lg_sl ([.ref (ad (2 + qz)), .ref (ad i), .int (x), .ref (ad 61)]) ++ List.replicate (4 - (lg_sl ([.ref (ad (2 + qz)), .ref (ad i), .int (x), .ref (ad 61)])).length) Slot.unset).toArray = ls at hl ⊢
  have hl : lv_has ls 4 [(0, .ref (ad (2 + qz))), (1, .ref (ad i)), (2, .int (x)), (3, .ref (ad 61))] := hl
  refine W_abs (fun Q hQ => ?_)
  generalize ([.ref (ad (2 + qz)), .ref (ad i), .int (x), .ref (ad 61)] : List Value).toArray = args at hT hQ ⊢
  have hb_i := pk7 hpk
  obtain ⟨r_k, hr_k⟩ := kcl_at hq
  refine lv_aload_n hx hb dX6_tells_0 rfl (lv_at hl 3 rfl) ?_
  refine lv_bipush (v := 60) hx hb dX6_tells_1 (by decide) ?_
  have hFc := va_self hD hS hA
  refine va_csq (W.runS (As := [.int (60)]) (rest := [.ref (ad 61)]) ⟨hx, hb, hml, hown, hT⟩ (c_jvalueOf l G ad S s.heap.size (60) (by first | assumption | omega) (hX)) (tS 1 hT m5_27 m4_130 m1_26 m4_131 rfl rfl (by decide +kernel) ⟨Nat.le_of_ble_eq_true rfl, Nat.le_of_ble_eq_true rfl⟩) ⟨PcE_blind, PcE_of hP hK hD hE hS (fun q h => hFc q h) _⟩ rfl rfl hl.1 rfl (lv_room (Nat.le_of_ble_eq_true rfl)) dX6_tells_3 ⟨Nat.zero_le _, Nat.zero_le _⟩) (fun r_1 hw_2 => ?_)
  try dsimp only at hw_2
  obtain ⟨jb_3, hb_3, eb_3, rfl⟩ := hw_2
  rw [show va_rf (some (G.2.2.2 jb_3)) = .ref (G.2.2.2 jb_3) from rfl]
  have hFc := va_self hD hS hA
  refine va_calli (va_runV (As := [.ref (G.2.2.2 jb_3)]) (rest := []) ⟨hx, hb, hml, hown, hT⟩ (c_jadd l G ad S s.heap.size (z) (jb_3) (hzz) (by first | assumption | omega) (hb_3) (hX)) (tV 1 hT m5_28 m4_150 m4_151 m1_15 m4_152 rfl rfl (by decide +kernel) ⟨Nat.le_of_ble_eq_true rfl, Nat.le_of_ble_eq_true rfl⟩) ⟨PcE_blind, va_recv hK hP (ci := 1) (q0 := 61) rfl (ix_at (lt71 (by omega)) (cX_lst G ad S)), PcE_of hP hK hD hE hS (fun q h => hFc q h) _⟩ rfl rfl hl.1 rfl (lv_room (Nat.le_of_ble_eq_true rfl)) dX6_tells_6 ⟨Nat.le_of_ble_eq_true rfl, Nat.le_of_ble_eq_true rfl⟩) hS (fun q _ h => hFc q h) hFc (fun r_3 u_ t_ H locs ht_ hvm_ hw_4 hB_ hz_ hk_ hS => ?_)
  obtain ⟨S_5, ad_6⟩ := u_
  dsimp only at hB_ hw_4
  obtain ⟨hP, -, hD1_⟩ := hB_
  rw [ht_] at hP
  have hD : va_D A (wX G ad_6 S_5) := hD1_.weaken (fun k q _ h => hFc q.1 h)
  obtain ⟨hX_7, hF_8_, hg_9_, hw_4⟩ := hw_4
  have hg_9 : ∀ j, j < 71 + fC S → ad_6 j = ad j := fun j hj => (hg_9_ j (Nat.lt_of_lt_of_le hj (Nat.add_le_add_left ((Fr.rf : Fr (fun j k => j = 61 ∨ 71 ≤ j) S S)).1 71))).trans ((fun _ _ => rfl) j hj)
  have hF_8 : Fr (fun j k => j = 61 ∨ 71 ≤ j) S S_5 := Fr.tr (Fr.rf : Fr (fun j k => j = 61 ∨ 71 ≤ j) S S) hF_8_ (fun j k hj h => by have hc_ := ((Fr.rf : Fr (fun j k => j = 61 ∨ 71 ≤ j) S S)).1; omega)
  have hl : lv_has ls 4 [(0, .ref (ad_6 (2 + qz))), (1, .ref (ad_6 i)), (2, .int (x)), (3, .ref (ad_6 61))] := by rw [hg_9_ (2 + qz) ((lt71 (by omega))), hg_9_ i ((lt71 (by omega))), hg_9_ 61 ((lt71 (by omega)))]; exact hl
  obtain ⟨ez_10, hw_4_⟩ := hw_4
  refine lv_pop hx hb dX6_tells_9 rfl ?_
  refine lv_aload_n hx hb dX6_tells_10 rfl (lv_at hl 0 rfl) ?_
  refine lv_aload_n hx hb dX6_tells_11 rfl (lv_at hl 1 rfl) ?_
  refine lv_iload_n hx hb dX6_tells_12 rfl (lv_at hl 2 rfl) ?_
  refine lv_aload_n hx hb dX6_tells_13 rfl (lv_at hl 1 rfl) ?_
  refine va_get (D := G.1) (ci := 5) (v := .int (fF S_5 i 0)) (C := RX3) (T := TX3) (N := 10) hx hb hT inX3 hown hK hP i (ix_at (lt71 (by omega)) (cX_cust hpk)) rfl 0 (by decide) (hT _ m1_136) (fun _ h9 => h9) rfl dX6_tells_14 ?_
  refine lv_isub hx hb dX6_tells_17 ?_
  refine lv_aload_n hx hb dX6_tells_18 rfl (lv_at hl 3 rfl) ?_
  have hFc := va_self hD hS hA
  refine va_calli (sx_run (C := r_k.1) (As := [.ref (ad_6 i), .int ((x - (fF S_5 i 0))), .ref (ad_6 61)]) (rest := []) (hK.1 (kcl qz) r_k hr_k).2 ⟨hx, hb, hml, hown, hT⟩ (c_x5_tells6 l G ad_6 S_5 H.size (qz) (i) ((z + 1)) ((x - (fF S_5 i 0))) (hq) (hpk) (ez_10) (by first | assumption | omega) (hX_7)) (sx_of 3 hT m5_29 m5_30 m1_90 m1_66 m5_10 m1_2 m5_34 rfl rfl rfl (by decide +kernel) ⟨Nat.le_of_ble_eq_true rfl, Nat.le_of_ble_eq_true rfl⟩) ⟨PcE_blind, va_recv hK hP hr_k (ix_at (lt71 (by omega)) (cX_knd hq)), PcE_of hP hK hD hE hS (fun q h => hFc q h) _⟩ rfl rfl hl.1 rfl (lv_room (Nat.le_of_ble_eq_true rfl)) dX6_tells_19 ⟨(by show (0 + 1) + 6 ≤ 12; omega), (by show (0 + 64) + 384 ≤ 768; omega)⟩) hS (fun q _ h => hFc q h) hFc (fun r_11 u_ t_ H locs ht_ hvm_ hw_12 hB_ hz_ hk_ hS => ?_)
  obtain ⟨S_13, ad_14⟩ := u_
  dsimp only at hB_ hw_12
  obtain ⟨hP, -, hD1_⟩ := hB_
  rw [ht_] at hP
  have hD : va_D A (wX G ad_14 S_13) := hD1_.weaken (fun k q _ h => hFc q.1 h)
  obtain ⟨hX_15, hF_16_, hg_17_, hw_12⟩ := hw_12
  have hg_17 : ∀ j, j < 71 + fC S → ad_14 j = ad j := fun j hj => (hg_17_ j (Nat.lt_of_lt_of_le hj (Nat.add_le_add_left (hF_8).1 71))).trans (hg_9 j hj)
  have hF_16 : Fr (fun j k => j = 61 ∨ 71 ≤ j) S S_13 := Fr.tr hF_8 hF_16_ (fun j k hj h => by have hc_ := (hF_8).1; omega)
  have hl : lv_has ls 4 [(0, .ref (ad_14 (2 + qz))), (1, .ref (ad_14 i)), (2, .int (x)), (3, .ref (ad_14 61))] := by rw [hg_17_ (2 + qz) ((lt71 (by omega))), hg_17_ i ((lt71 (by omega))), hg_17_ 61 ((lt71 (by omega)))]; exact hl
  obtain ⟨z_18, bz_18, ez_18⟩ := hw_12
  subst hQ
  have hpost : XI S_13 ∧ Fr (fun j k => j = 61 ∨ 71 ≤ j) S S_13 ∧ (∀ j, j < 71 + fC S → ad_14 j = ad j) ∧ ∃ z', z' ≤ z + 12 ∧ fF S_13 61 2 = nI z' := by
    exact ⟨hX_15, hF_16, hg_17, ⟨_, by omega, ez_18⟩⟩
  refine W.widen (k := 12) (n := 768) (by omega) (by omega) ?_
  exact W.iret (v := r_11) hx hb hr (fun t_ ht_ hW_ => ⟨⟨r_11, (S_13, ad_14), rfl, hpost, by rw [ht_]; exact hP, va_K.moved hW_.alike hK, hD⟩, hS.F ht_⟩) hS.2.2 dX6_tells_22
