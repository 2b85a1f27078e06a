set_option maxHeartbeats 800000 in
set_option maxRecDepth 100000 in
theorem c_x11_act (l : Launch) (G : GG) (ad : Nat → Nat) (S : FS) (sz : Nat) (n : Nat) (c_ w_ x : Int32) (hn : fF S (9 + 0) 3 = nI n) (hn6 : n ≤ 6) (hX : XI S) : Met l yX11_act (Cond.code yX11_act cX11_act 5 (some .int) :: TBL) ({ frames := 20, cells := 12, slots := 768, locals := 614 } : Room) (PcE G (wX G ad S) sz [.ref (ad 0), .int (c_), .int (w_), .int (x)]) (va_Qi (fun (r : Int32) (u : FS × (Nat → Nat)) => XI u.1 ∧ Fr (fun j k => j = 61 ∨ 71 ≤ j) S u.1 ∧ (∀ j, j < 71 + fC S → u.2 j = ad j) ∧ ∃ z', z' ≤ 12 ∧ fF u.1 61 2 = nI z') (fun u t => BW G (va_A (wX G ad S) sz) (wX G u.2 u.1) t) (va_A (wX G ad S) sz)) 12 768 (va_A (wX G ad S) sz) := by
  refine Met.ofW (cc := cX11_act) (maxL := 5) (ret := (some .int)) (by decide) rfl ?_
  intro p e s m args below meth c₀ s₁ B hml hv
  obtain ⟨rfl, hsz, hP, hK, hD0, hE⟩ := hv
  have hx := B.exec
  have hb := B.bytes
  have hr := B.returns
  have hT : ∀ w ∈ TBL, w.before ([.ref (ad 0), .int (c_), .int (w_), .int (x)] : List Value).toArray s = true := fun w h => atoms_spec (ws := Cond.code yX11_act cX11_act 5 (some .int) :: TBL) B.pre w (List.mem_cons_of_mem _ h)
  have hown : s.vm.findClass "LittleMore" = some m.cls := findClass_of_methodNamed B.named
  have hlocks := B.notSynchronized
  subst hsz
  have hD := hD0.self (sz := s.heap.size)
  generalize hAe : va_A (wX G ad S) s.heap.size = A at hD hE ⊢
  have hA : ∀ q : Nat, s.heap.size ≤ q → A q := fun q h => by rw [← hAe]; exact Or.inr h
  have hS : va_S A s.heap s.heap [] := va_S.rf
  have hP : va_P G.1 vwCl (wX G ad S) s.heap := hP
  have hl := lv_entry ([.ref (ad 0), .int (c_), .int (w_), .int (x)]) (n := 5) (Nat.le_of_ble_eq_true rfl)
  rw [lg_entry_eq]
  generalize (lg_sl ([.ref (ad 0), .int (c_), .int (w_), .int (x)]) ++ List.replicate (5 - (lg_sl ([.ref (ad 0), .int (c_), .int (w_), .int (x)])).length) Slot.unset).toArray = ls at hl ⊢
  have hl : lv_has ls 5 [(0, .ref (ad 0)), (1, .int (c_)), (2, .int (w_)), (3, .int (x))] := hl
  refine W_abs (fun Q hQ => ?_)
  generalize ([.ref (ad 0), .int (c_), .int (w_), .int (x)] : List Value).toArray = args at hT hQ ⊢
  refine lv_aload_n hx hb dX11_act_0 rfl (lv_at hl 0 rfl) ?_
  refine va_get (D := G.1) (ci := 13) (v := .ref (ad 61)) (C := RX11) (T := TX11) (N := 11) hx hb hT inX11 hown hK hP 0 (ix_at (lt71 (by omega)) (cX_0 G ad S)) rfl 5 (by decide) (hT _ m2_74) (fun _ h9 => h9) rfl dX11_act_1 ?_
  have hFc := va_self hD hS hA
  refine va_callv (va_runV (As := []) (rest := []) ⟨hx, hb, hml, hown, hT⟩ (c_jclear l G ad S s.heap.size  (hX)) (tV 0 hT m4_117 m4_118 m4_119 m1_15 m4_120 rfl rfl (by decide +kernel) ⟨Nat.le_of_ble_eq_true rfl, Nat.le_of_ble_eq_true rfl⟩) ⟨PcW_blind, va_recv hK hP (ci := 1) (q0 := 61) rfl (ix_at (lt71 (by omega)) (cX_lst G ad S)), PcW_of hP hK hD _⟩ rfl rfl hl.1 rfl (lv_room (Nat.le_of_ble_eq_true rfl)) dX11_act_4 ⟨Nat.zero_le _, Nat.zero_le _⟩) hS (fun q _ h => hFc q h) hFc (fun S_3 t_ H locs ht_ hvm_ hw_2 hB_ hz_ hk_ hS => ?_)
  obtain ⟨hP, -, hD1_⟩ := hB_
  rw [ht_] at hP
  have hD : va_D A (wX G ad S_3) := hD1_.weaken (fun k q _ h => hFc q.1 h)
  try dsimp only at hw_2
  obtain ⟨hX_4, hF_5_, hw_2⟩ := hw_2
  have hF_5 : Fr (fun j k => j = 61 ∨ 71 ≤ j) S S_3 := Fr.trans (Fr.rf : Fr (fun j k => j = 61 ∨ 71 ≤ j) S S) (Fr.mono hF_5_ (fun j k h => by omega))
  refine lv_aload_n hx hb dX11_act_7 rfl (lv_at hl 0 rfl) ?_
  refine va_get (D := G.1) (ci := 13) (v := .ref (ad (9 + 0))) (C := RX11) (T := TX11) (N := 11) hx hb hT inX11 hown hK hP 0 (ix_at (lt71 (by omega)) (cX_0 G ad S_3)) rfl 1 (by decide) (hT _ m2_70) (fun _ h9 => h9) rfl dX11_act_8 ?_
  refine lv_iload_n hx hb dX11_act_11 rfl (lv_at hl 1 rfl) ?_
  obtain ⟨n_6, en_6, bn_6⟩ := XI.size hX_4 (by decide : 0 < 3)
  refine va_csq (W.runV (As := [.int (c_)]) (rest := []) ⟨hx, hb, hml, hown, hT⟩ (c_x7_at l G ad S_3 H.size (0) (n_6) (c_) ((by decide : 0 < 3)) (en_6) (bn_6) (hX_4)) (tV 1 hT m2_120 m2_121 m2_122 m1_9 m2_123 rfl rfl (by decide +kernel) ⟨Nat.le_of_ble_eq_true rfl, Nat.le_of_ble_eq_true rfl⟩) ⟨PcW_blind, va_recv hK hP (ci := 9) (q0 := (9 + 0)) rfl (ix_at (lt71 (by omega)) (cX_shop (pk_shop (by decide : 0 < 3)))), PcW_of hP hK hD _⟩ rfl rfl hl.1 rfl (lv_room (Nat.le_of_ble_eq_true rfl)) dX11_act_12 ⟨Nat.zero_le _, Nat.zero_le _⟩) (fun r_7 hw_8 => ?_)
  try dsimp only at hw_8
  rcases hw_8 with ⟨j_12, hj_12, ej_12, rfl⟩ | ⟨rfl, hn_12⟩
  · rw [show va_rf (some (ad (21 + 6 * 0 + j_12))) = .ref (ad (21 + 6 * 0 + j_12)) from rfl]
    generalize hg_i_12 : 21 + 6 * 0 + j_12 = i_12
    have hp_i_12 : pk i_12 = 7 := by rw [← hg_i_12]; exact pk_c (by decide : 0 < 3) (show j_12 < 6 by omega)
    have hb_i_12 := pk7 hp_i_12
    refine lv_astore (lv' := [(4, .ref (ad i_12)), (0, .ref (ad 0)), (1, .int (c_)), (2, .int (w_)), (3, .int (x))]) hx hb dX11_act_15 hl (by decide) rfl (fun ls hl => ?_)
    refine lv_aload hx hb dX11_act_17 (lv_at hl 0 rfl) ?_
    refine lv_ifnonnull (tgt := 24) hx hb dX11_act_19 (by decide) ?_
    refine lv_iload_n hx hb dX11_act_24 rfl (lv_at hl 3 rfl) ?_
    by_cases c_9 : w_ = (0 : Int32)
    · refine lv_tableIn (off := 27) (tgt := 52) hx hb dX11_act_25 (by rw [c_9]; decide) (by rw [c_9]; decide) (by rw [c_9]; rfl) (by decide) ?_
      refine lv_aload hx hb dX11_act_52 (lv_at hl 0 rfl) ?_
      obtain ⟨n_10, en_10, bn_10⟩ := XI.kin hX_4 hp_i_12
      refine va_get (D := G.1) (ci := 5) (v := va_rf ((fR S_3 i_12 2).map ad)) (C := RX3) (T := TX3) (N := 10) hx hb hT inX3 hown hK hP i_12 (ix_at (lt71 (by omega)) (cX_cust hp_i_12)) rfl 2 (by decide) (hT _ m1_144) (fun _ h9 => h9) rfl dX11_act_54 ?_
      rw [show va_rf ((fR S_3 i_12 2).map ad) = .ref (ad (2 + n_10)) from by rw [en_10]; rfl]
      refine lv_aload hx hb dX11_act_57 (lv_at hl 0 rfl) ?_
      refine lv_iload_n hx hb dX11_act_59 rfl (lv_at hl 4 rfl) ?_
      refine lv_aload_n hx hb dX11_act_60 rfl (lv_at hl 1 rfl) ?_
      refine va_get (D := G.1) (ci := 13) (v := .ref (ad 61)) (C := RX11) (T := TX11) (N := 11) hx hb hT inX11 hown hK hP 0 (ix_at (lt71 (by omega)) (cX_0 G ad S_3)) rfl 5 (by decide) (hT _ m2_74) (fun _ h9 => h9) rfl dX11_act_61 ?_
      have kk_k_11 : ∀ (rk_11 : Int32) (Sk_11 : FS) (adk_11 : Nat → Nat) (Hk_11 : Heap) (locsk_11 : List Loc) (zk_11 : Nat) (ls : Array Slot), XI Sk_11 → Fr (fun j k => j = 61 ∨ 71 ≤ j) S Sk_11 → (∀ j, j < 71 + fC S → adk_11 j = ad j) → zk_11 ≤ 0 + 2 → fF Sk_11 61 2 = nI zk_11 → va_P G.1 vwCl (wX G adk_11 Sk_11) Hk_11 → va_D A (wX G adk_11 Sk_11) → va_S A s.heap Hk_11 locsk_11 → lv_has ls 5 [(4, .ref (adk_11 i_12)), (0, .ref (adk_11 0)), (1, .int (c_)), (2, .int (w_)), (3, .int (x))] → W p l e ({ frames := 20, cells := 12, slots := 768, locals := 614 } : Room) s m args below meth c₀ Hk_11 locsk_11 (0 + 2) (0 + 128) Q (F0 m 67 ls [.int (rk_11)]) := by
        intro rk_11 Sk_11 adk_11 Hk_11 locsk_11 zk_11 ls hXk_11 hFk_11 hgk_11 bzk_11 ezk_11 hP hD hS hl
        subst hQ
        have hpost : XI Sk_11 ∧ Fr (fun j k => j = 61 ∨ 71 ≤ j) S Sk_11 ∧ (∀ j, j < 71 + fC S → adk_11 j = ad j) ∧ ∃ z', z' ≤ 12 ∧ fF Sk_11 61 2 = nI z' := by
          exact ⟨hXk_11, hFk_11, hgk_11, ⟨_, by omega, ezk_11⟩⟩
        refine W.widen (k := 12) (n := 768) (by omega) (by omega) ?_
        exact W.iret (v := rk_11) hx hb hr (fun t_ ht_ hW_ => ⟨⟨rk_11, (Sk_11, adk_11), rfl, hpost, by rw [ht_]; exact hP, va_K.moved hW_.alike hK, hD⟩, hS.F ht_⟩) hS.2.2 dX11_act_67
      have hFc := va_self hD hS hA
      rcases kq7 bn_10 with rfl | rfl | rfl | rfl | rfl | rfl | rfl
      · refine va_calli (va_runU (As := [.ref (ad i_12), .int (x), .ref (ad 61)]) (rest := []) ⟨hx, hb, hml, hown, hT⟩ (c_x5_asks l G ad S_3 H.size (0) (i_12) (0) (x) ((by omega : 0 < 7)) (hp_i_12) (hw_2) (by first | assumption | omega) (hX_4)) (tU 3 hT m4_121 m4_124 m4_123 m4_122 m1_2 m4_221 rfl rfl rfl (by decide +kernel) ⟨Nat.le_of_ble_eq_true rfl, Nat.le_of_ble_eq_true rfl⟩) ⟨PcE_blind, va_recv hK hP (ci := 7) (q0 := 2 + 0) rfl (ix_at (lt71 (by omega)) (cX_knd (by omega))), PcE_of hP hK hD hE hS (fun q h => hFc q h) _⟩ rfl rfl hl.1 rfl (lv_room (Nat.le_of_ble_eq_true rfl)) dX11_act_64 ⟨Nat.le_of_ble_eq_true rfl, Nat.le_of_ble_eq_true rfl⟩) hS (fun q _ h => hFc q h) hFc (fun r_ u_ t_ H locs ht_ hvm_ hw_ hB_ hz_ hk_ hS => ?_)
        obtain ⟨S1_, ad1_⟩ := u_
        dsimp only at hB_ hw_
        obtain ⟨hP, -, hD1_⟩ := hB_
        rw [ht_] at hP
        have hD : va_D A (wX G ad1_ S1_) := hD1_.weaken (fun k q _ h => hFc q.1 h)
        obtain ⟨hX1_, hF1_, hg1_, z1_, bz1_, ez1_⟩ := hw_
        have hl : lv_has ls 5 [(4, .ref (ad1_ i_12)), (0, .ref (ad1_ 0)), (1, .int (c_)), (2, .int (w_)), (3, .int (x))] := by rw [hg1_ i_12 ((lt71 (by omega))), hg1_ 0 ((lt71 (by omega)))]; exact hl
        exact kk_k_11 r_ S1_ ad1_ H locs z1_ ls hX1_ (Fr.tr hF_5 hF1_ (fun j k hj h => by have hc_ := (hF_5).1; omega)) (fun j hj => (hg1_ j (Nat.lt_of_lt_of_le hj (Nat.add_le_add_left (hF_5).1 71))).trans ((fun _ _ => rfl) j hj)) (by omega) ez1_ hP hD hS hl
      · refine va_calli (va_runU (As := [.ref (ad i_12), .int (x), .ref (ad 61)]) (rest := []) ⟨hx, hb, hml, hown, hT⟩ (c_x5_asks l G ad S_3 H.size (1) (i_12) (0) (x) ((by omega : 1 < 7)) (hp_i_12) (hw_2) (by first | assumption | omega) (hX_4)) (tU 3 hT m4_121 m4_124 m4_213 m4_122 m1_2 m4_221 rfl rfl rfl (by decide +kernel) ⟨Nat.le_of_ble_eq_true rfl, Nat.le_of_ble_eq_true rfl⟩) ⟨PcE_blind, va_recv hK hP (ci := 10) (q0 := 2 + 1) rfl (ix_at (lt71 (by omega)) (cX_knd (by omega))), PcE_of hP hK hD hE hS (fun q h => hFc q h) _⟩ rfl rfl hl.1 rfl (lv_room (Nat.le_of_ble_eq_true rfl)) dX11_act_64 ⟨Nat.le_of_ble_eq_true rfl, Nat.le_of_ble_eq_true rfl⟩) hS (fun q _ h => hFc q h) hFc (fun r_ u_ t_ H locs ht_ hvm_ hw_ hB_ hz_ hk_ hS => ?_)
        obtain ⟨S1_, ad1_⟩ := u_
        dsimp only at hB_ hw_
        obtain ⟨hP, -, hD1_⟩ := hB_
        rw [ht_] at hP
        have hD : va_D A (wX G ad1_ S1_) := hD1_.weaken (fun k q _ h => hFc q.1 h)
        obtain ⟨hX1_, hF1_, hg1_, z1_, bz1_, ez1_⟩ := hw_
        have hl : lv_has ls 5 [(4, .ref (ad1_ i_12)), (0, .ref (ad1_ 0)), (1, .int (c_)), (2, .int (w_)), (3, .int (x))] := by rw [hg1_ i_12 ((lt71 (by omega))), hg1_ 0 ((lt71 (by omega)))]; exact hl
        exact kk_k_11 r_ S1_ ad1_ H locs z1_ ls hX1_ (Fr.tr hF_5 hF1_ (fun j k hj h => by have hc_ := (hF_5).1; omega)) (fun j hj => (hg1_ j (Nat.lt_of_lt_of_le hj (Nat.add_le_add_left (hF_5).1 71))).trans ((fun _ _ => rfl) j hj)) (by omega) ez1_ hP hD hS hl
      · refine va_calli (va_runU (As := [.ref (ad i_12), .int (x), .ref (ad 61)]) (rest := []) ⟨hx, hb, hml, hown, hT⟩ (c_x4_asks l G ad S_3 H.size (2) (i_12) (0) (x) ((by omega : 2 < 7)) (hp_i_12) (hw_2) (by first | assumption | omega) (hX_4)) (tO 3 hT m4_121 m4_124 m4_122 m4_206 m4_207 m1_4 m4_208 m4_221 rfl rfl (by decide +kernel) ⟨Nat.le_of_ble_eq_true rfl, Nat.le_of_ble_eq_true rfl⟩) ⟨PcE_blind, va_recv hK hP (ci := 6) (q0 := 2 + 2) rfl (ix_at (lt71 (by omega)) (cX_knd (by omega))), PcE_of hP hK hD hE hS (fun q h => hFc q h) _⟩ rfl rfl hl.1 rfl (lv_room (Nat.le_of_ble_eq_true rfl)) dX11_act_64 ⟨Nat.le_of_ble_eq_true rfl, Nat.le_of_ble_eq_true rfl⟩) hS (fun q _ h => hFc q h) hFc (fun r_ u_ t_ H locs ht_ hvm_ hw_ hB_ hz_ hk_ hS => ?_)
        obtain ⟨S1_, ad1_⟩ := u_
        dsimp only at hB_ hw_
        obtain ⟨hP, -, hD1_⟩ := hB_
        rw [ht_] at hP
        have hD : va_D A (wX G ad1_ S1_) := hD1_.weaken (fun k q _ h => hFc q.1 h)
        obtain ⟨hX1_, hF1_, hg1_, z1_, bz1_, ez1_⟩ := hw_
        have hl : lv_has ls 5 [(4, .ref (ad1_ i_12)), (0, .ref (ad1_ 0)), (1, .int (c_)), (2, .int (w_)), (3, .int (x))] := by rw [hg1_ i_12 ((lt71 (by omega))), hg1_ 0 ((lt71 (by omega)))]; exact hl
        exact kk_k_11 r_ S1_ ad1_ H locs z1_ ls hX1_ (Fr.tr hF_5 hF1_ (fun j k hj h => by have hc_ := (hF_5).1; omega)) (fun j hj => (hg1_ j (Nat.lt_of_lt_of_le hj (Nat.add_le_add_left (hF_5).1 71))).trans ((fun _ _ => rfl) j hj)) (by omega) ez1_ hP hD hS hl
      · refine va_calli (va_runU (As := [.ref (ad i_12), .int (x), .ref (ad 61)]) (rest := []) ⟨hx, hb, hml, hown, hT⟩ (c_x5_asks l G ad S_3 H.size (3) (i_12) (0) (x) ((by omega : 3 < 7)) (hp_i_12) (hw_2) (by first | assumption | omega) (hX_4)) (tU 3 hT m4_121 m4_124 m4_125 m4_122 m1_2 m4_221 rfl rfl rfl (by decide +kernel) ⟨Nat.le_of_ble_eq_true rfl, Nat.le_of_ble_eq_true rfl⟩) ⟨PcE_blind, va_recv hK hP (ci := 2) (q0 := 2 + 3) rfl (ix_at (lt71 (by omega)) (cX_knd (by omega))), PcE_of hP hK hD hE hS (fun q h => hFc q h) _⟩ rfl rfl hl.1 rfl (lv_room (Nat.le_of_ble_eq_true rfl)) dX11_act_64 ⟨Nat.le_of_ble_eq_true rfl, Nat.le_of_ble_eq_true rfl⟩) hS (fun q _ h => hFc q h) hFc (fun r_ u_ t_ H locs ht_ hvm_ hw_ hB_ hz_ hk_ hS => ?_)
        obtain ⟨S1_, ad1_⟩ := u_
        dsimp only at hB_ hw_
        obtain ⟨hP, -, hD1_⟩ := hB_
        rw [ht_] at hP
        have hD : va_D A (wX G ad1_ S1_) := hD1_.weaken (fun k q _ h => hFc q.1 h)
        obtain ⟨hX1_, hF1_, hg1_, z1_, bz1_, ez1_⟩ := hw_
        have hl : lv_has ls 5 [(4, .ref (ad1_ i_12)), (0, .ref (ad1_ 0)), (1, .int (c_)), (2, .int (w_)), (3, .int (x))] := by rw [hg1_ i_12 ((lt71 (by omega))), hg1_ 0 ((lt71 (by omega)))]; exact hl
        exact kk_k_11 r_ S1_ ad1_ H locs z1_ ls hX1_ (Fr.tr hF_5 hF1_ (fun j k hj h => by have hc_ := (hF_5).1; omega)) (fun j hj => (hg1_ j (Nat.lt_of_lt_of_le hj (Nat.add_le_add_left (hF_5).1 71))).trans ((fun _ _ => rfl) j hj)) (by omega) ez1_ hP hD hS hl
      · refine va_calli (va_runU (As := [.ref (ad i_12), .int (x), .ref (ad 61)]) (rest := []) ⟨hx, hb, hml, hown, hT⟩ (c_x2_asks l G ad S_3 H.size (4) (i_12) (0) (x) ((by omega : 4 < 7)) (hp_i_12) (hw_2) (by first | assumption | omega) (hX_4)) (tO 3 hT m4_121 m4_124 m4_122 m4_126 m4_127 m1_6 m4_128 m4_221 rfl rfl (by decide +kernel) ⟨Nat.le_of_ble_eq_true rfl, Nat.le_of_ble_eq_true rfl⟩) ⟨PcE_blind, va_recv hK hP (ci := 4) (q0 := 2 + 4) rfl (ix_at (lt71 (by omega)) (cX_knd (by omega))), PcE_of hP hK hD hE hS (fun q h => hFc q h) _⟩ rfl rfl hl.1 rfl (lv_room (Nat.le_of_ble_eq_true rfl)) dX11_act_64 ⟨Nat.le_of_ble_eq_true rfl, Nat.le_of_ble_eq_true rfl⟩) hS (fun q _ h => hFc q h) hFc (fun r_ u_ t_ H locs ht_ hvm_ hw_ hB_ hz_ hk_ hS => ?_)
        obtain ⟨S1_, ad1_⟩ := u_
        dsimp only at hB_ hw_
        obtain ⟨hP, -, hD1_⟩ := hB_
        rw [ht_] at hP
        have hD : va_D A (wX G ad1_ S1_) := hD1_.weaken (fun k q _ h => hFc q.1 h)
        obtain ⟨hX1_, hF1_, hg1_, z1_, bz1_, ez1_⟩ := hw_
        have hl : lv_has ls 5 [(4, .ref (ad1_ i_12)), (0, .ref (ad1_ 0)), (1, .int (c_)), (2, .int (w_)), (3, .int (x))] := by rw [hg1_ i_12 ((lt71 (by omega))), hg1_ 0 ((lt71 (by omega)))]; exact hl
        exact kk_k_11 r_ S1_ ad1_ H locs z1_ ls hX1_ (Fr.tr hF_5 hF1_ (fun j k hj h => by have hc_ := (hF_5).1; omega)) (fun j hj => (hg1_ j (Nat.lt_of_lt_of_le hj (Nat.add_le_add_left (hF_5).1 71))).trans ((fun _ _ => rfl) j hj)) (by omega) ez1_ hP hD hS hl
      · refine va_calli (va_runU (As := [.ref (ad i_12), .int (x), .ref (ad 61)]) (rest := []) ⟨hx, hb, hml, hown, hT⟩ (c_x4_asks l G ad S_3 H.size (5) (i_12) (0) (x) ((by omega : 5 < 7)) (hp_i_12) (hw_2) (by first | assumption | omega) (hX_4)) (tO 3 hT m4_121 m4_124 m4_122 m4_212 m4_207 m1_4 m4_208 m4_221 rfl rfl (by decide +kernel) ⟨Nat.le_of_ble_eq_true rfl, Nat.le_of_ble_eq_true rfl⟩) ⟨PcE_blind, va_recv hK hP (ci := 8) (q0 := 2 + 5) rfl (ix_at (lt71 (by omega)) (cX_knd (by omega))), PcE_of hP hK hD hE hS (fun q h => hFc q h) _⟩ rfl rfl hl.1 rfl (lv_room (Nat.le_of_ble_eq_true rfl)) dX11_act_64 ⟨Nat.le_of_ble_eq_true rfl, Nat.le_of_ble_eq_true rfl⟩) hS (fun q _ h => hFc q h) hFc (fun r_ u_ t_ H locs ht_ hvm_ hw_ hB_ hz_ hk_ hS => ?_)
        obtain ⟨S1_, ad1_⟩ := u_
        dsimp only at hB_ hw_
        obtain ⟨hP, -, hD1_⟩ := hB_
        rw [ht_] at hP
        have hD : va_D A (wX G ad1_ S1_) := hD1_.weaken (fun k q _ h => hFc q.1 h)
        obtain ⟨hX1_, hF1_, hg1_, z1_, bz1_, ez1_⟩ := hw_
        have hl : lv_has ls 5 [(4, .ref (ad1_ i_12)), (0, .ref (ad1_ 0)), (1, .int (c_)), (2, .int (w_)), (3, .int (x))] := by rw [hg1_ i_12 ((lt71 (by omega))), hg1_ 0 ((lt71 (by omega)))]; exact hl
        exact kk_k_11 r_ S1_ ad1_ H locs z1_ ls hX1_ (Fr.tr hF_5 hF1_ (fun j k hj h => by have hc_ := (hF_5).1; omega)) (fun j hj => (hg1_ j (Nat.lt_of_lt_of_le hj (Nat.add_le_add_left (hF_5).1 71))).trans ((fun _ _ => rfl) j hj)) (by omega) ez1_ hP hD hS hl
      · refine va_calli (va_runU (As := [.ref (ad i_12), .int (x), .ref (ad 61)]) (rest := []) ⟨hx, hb, hml, hown, hT⟩ (c_x10_asks l G ad S_3 H.size (6) (i_12) (0) (x) ((by omega : 6 < 7)) (hp_i_12) (hw_2) (by first | assumption | omega) (hX_4)) (tO 3 hT m4_121 m4_124 m4_122 m4_214 m4_215 m1_8 m4_216 m4_221 rfl rfl (by decide +kernel) ⟨Nat.le_of_ble_eq_true rfl, Nat.le_of_ble_eq_true rfl⟩) ⟨PcE_blind, va_recv hK hP (ci := 12) (q0 := 2 + 6) rfl (ix_at (lt71 (by omega)) (cX_knd (by omega))), PcE_of hP hK hD hE hS (fun q h => hFc q h) _⟩ rfl rfl hl.1 rfl (lv_room (Nat.le_of_ble_eq_true rfl)) dX11_act_64 ⟨Nat.le_of_ble_eq_true rfl, Nat.le_of_ble_eq_true rfl⟩) hS (fun q _ h => hFc q h) hFc (fun r_ u_ t_ H locs ht_ hvm_ hw_ hB_ hz_ hk_ hS => ?_)
        obtain ⟨S1_, ad1_⟩ := u_
        dsimp only at hB_ hw_
        obtain ⟨hP, -, hD1_⟩ := hB_
        rw [ht_] at hP
        have hD : va_D A (wX G ad1_ S1_) := hD1_.weaken (fun k q _ h => hFc q.1 h)
        obtain ⟨hX1_, hF1_, hg1_, z1_, bz1_, ez1_⟩ := hw_
        have hl : lv_has ls 5 [(4, .ref (ad1_ i_12)), (0, .ref (ad1_ 0)), (1, .int (c_)), (2, .int (w_)), (3, .int (x))] := by rw [hg1_ i_12 ((lt71 (by omega))), hg1_ 0 ((lt71 (by omega)))]; exact hl
        exact kk_k_11 r_ S1_ ad1_ H locs z1_ ls hX1_ (Fr.tr hF_5 hF1_ (fun j k hj h => by have hc_ := (hF_5).1; omega)) (fun j hj => (hg1_ j (Nat.lt_of_lt_of_le hj (Nat.add_le_add_left (hF_5).1 71))).trans ((fun _ _ => rfl) j hj)) (by omega) ez1_ hP hD hS hl
    by_cases c_12 : w_ = (1 : Int32)
    · refine lv_tableIn (off := 43) (tgt := 68) hx hb dX11_act_25 (by rw [c_12]; decide) (by rw [c_12]; decide) (by rw [c_12]; rfl) (by decide) ?_
      refine lv_aload hx hb dX11_act_68 (lv_at hl 0 rfl) ?_
      obtain ⟨n_13, en_13, bn_13⟩ := XI.kin hX_4 hp_i_12
      refine va_get (D := G.1) (ci := 5) (v := va_rf ((fR S_3 i_12 2).map ad)) (C := RX3) (T := TX3) (N := 10) hx hb hT inX3 hown hK hP i_12 (ix_at (lt71 (by omega)) (cX_cust hp_i_12)) rfl 2 (by decide) (hT _ m1_144) (fun _ h9 => h9) rfl dX11_act_70 ?_
      rw [show va_rf ((fR S_3 i_12 2).map ad) = .ref (ad (2 + n_13)) from by rw [en_13]; rfl]
      refine lv_aload hx hb dX11_act_73 (lv_at hl 0 rfl) ?_
      refine lv_iload_n hx hb dX11_act_75 rfl (lv_at hl 4 rfl) ?_
      refine lv_aload_n hx hb dX11_act_76 rfl (lv_at hl 1 rfl) ?_
      refine va_get (D := G.1) (ci := 13) (v := .ref (ad 61)) (C := RX11) (T := TX11) (N := 11) hx hb hT inX11 hown hK hP 0 (ix_at (lt71 (by omega)) (cX_0 G ad S_3)) rfl 5 (by decide) (hT _ m2_74) (fun _ h9 => h9) rfl dX11_act_77 ?_
      have kk_k_14 : ∀ (rk_14 : Int32) (Sk_14 : FS) (adk_14 : Nat → Nat) (Hk_14 : Heap) (locsk_14 : List Loc) (zk_14 : Nat) (ls : Array Slot), XI Sk_14 → Fr (fun j k => j = 61 ∨ 71 ≤ j) S Sk_14 → (∀ j, j < 71 + fC S → adk_14 j = ad j) → zk_14 ≤ 0 + 5 → fF Sk_14 61 2 = nI zk_14 → va_P G.1 vwCl (wX G adk_14 Sk_14) Hk_14 → va_D A (wX G adk_14 Sk_14) → va_S A s.heap Hk_14 locsk_14 → lv_has ls 5 [(4, .ref (adk_14 i_12)), (0, .ref (adk_14 0)), (1, .int (c_)), (2, .int (w_)), (3, .int (x))] → W p l e ({ frames := 20, cells := 12, slots := 768, locals := 614 } : Room) s m args below meth c₀ Hk_14 locsk_14 (0 + 5) (0 + 320) Q (F0 m 83 ls [.int (rk_14)]) := by
        intro rk_14 Sk_14 adk_14 Hk_14 locsk_14 zk_14 ls hXk_14 hFk_14 hgk_14 bzk_14 ezk_14 hP hD hS hl
        subst hQ
        have hpost : XI Sk_14 ∧ Fr (fun j k => j = 61 ∨ 71 ≤ j) S Sk_14 ∧ (∀ j, j < 71 + fC S → adk_14 j = ad j) ∧ ∃ z', z' ≤ 12 ∧ fF Sk_14 61 2 = nI z' := by
          exact ⟨hXk_14, hFk_14, hgk_14, ⟨_, by omega, ezk_14⟩⟩
        refine W.widen (k := 12) (n := 768) (by omega) (by omega) ?_
        exact W.iret (v := rk_14) hx hb hr (fun t_ ht_ hW_ => ⟨⟨rk_14, (Sk_14, adk_14), rfl, hpost, by rw [ht_]; exact hP, va_K.moved hW_.alike hK, hD⟩, hS.F ht_⟩) hS.2.2 dX11_act_83
      have hFc := va_self hD hS hA
      rcases kq7 bn_13 with rfl | rfl | rfl | rfl | rfl | rfl | rfl
      · refine va_calli (va_runU (As := [.ref (ad i_12), .int (x), .ref (ad 61)]) (rest := []) ⟨hx, hb, hml, hown, hT⟩ (c_x5_buys l G ad S_3 H.size (0) (i_12) (0) (x) ((by omega : 0 < 7)) (hp_i_12) (hw_2) (by first | assumption | omega) (hX_4)) (tU 3 hT m4_224 m4_227 m4_226 m4_225 m1_2 m5_7 rfl rfl rfl (by decide +kernel) ⟨Nat.le_of_ble_eq_true rfl, Nat.le_of_ble_eq_true rfl⟩) ⟨PcE_blind, va_recv hK hP (ci := 7) (q0 := 2 + 0) rfl (ix_at (lt71 (by omega)) (cX_knd (by omega))), PcE_of hP hK hD hE hS (fun q h => hFc q h) _⟩ rfl rfl hl.1 rfl (lv_room (Nat.le_of_ble_eq_true rfl)) dX11_act_80 ⟨Nat.le_of_ble_eq_true rfl, Nat.le_of_ble_eq_true rfl⟩) hS (fun q _ h => hFc q h) hFc (fun r_ u_ t_ H locs ht_ hvm_ hw_ hB_ hz_ hk_ hS => ?_)
        obtain ⟨S1_, ad1_⟩ := u_
        dsimp only at hB_ hw_
        obtain ⟨hP, -, hD1_⟩ := hB_
        rw [ht_] at hP
        have hD : va_D A (wX G ad1_ S1_) := hD1_.weaken (fun k q _ h => hFc q.1 h)
        obtain ⟨hX1_, hF1_, hg1_, z1_, bz1_, ez1_⟩ := hw_
        have hl : lv_has ls 5 [(4, .ref (ad1_ i_12)), (0, .ref (ad1_ 0)), (1, .int (c_)), (2, .int (w_)), (3, .int (x))] := by rw [hg1_ i_12 ((lt71 (by omega))), hg1_ 0 ((lt71 (by omega)))]; exact hl
        exact kk_k_14 r_ S1_ ad1_ H locs z1_ ls hX1_ (Fr.tr hF_5 hF1_ (fun j k hj h => by have hc_ := (hF_5).1; omega)) (fun j hj => (hg1_ j (Nat.lt_of_lt_of_le hj (Nat.add_le_add_left (hF_5).1 71))).trans ((fun _ _ => rfl) j hj)) (by omega) ez1_ hP hD hS hl
      · refine va_calli (va_runU (As := [.ref (ad i_12), .int (x), .ref (ad 61)]) (rest := []) ⟨hx, hb, hml, hown, hT⟩ (c_x8_buys l G ad S_3 H.size (1) (i_12) (0) (x) ((by omega : 1 < 7)) (hp_i_12) (hw_2) (by first | assumption | omega) (hX_4)) (tO 3 hT m4_224 m4_227 m4_225 m5_0 m4_233 m1_3 m4_234 m5_7 rfl rfl (by decide +kernel) ⟨Nat.le_of_ble_eq_true rfl, Nat.le_of_ble_eq_true rfl⟩) ⟨PcE_blind, va_recv hK hP (ci := 10) (q0 := 2 + 1) rfl (ix_at (lt71 (by omega)) (cX_knd (by omega))), PcE_of hP hK hD hE hS (fun q h => hFc q h) _⟩ rfl rfl hl.1 rfl (lv_room (Nat.le_of_ble_eq_true rfl)) dX11_act_80 ⟨Nat.le_of_ble_eq_true rfl, Nat.le_of_ble_eq_true rfl⟩) hS (fun q _ h => hFc q h) hFc (fun r_ u_ t_ H locs ht_ hvm_ hw_ hB_ hz_ hk_ hS => ?_)
        obtain ⟨S1_, ad1_⟩ := u_
        dsimp only at hB_ hw_
        obtain ⟨hP, -, hD1_⟩ := hB_
        rw [ht_] at hP
        have hD : va_D A (wX G ad1_ S1_) := hD1_.weaken (fun k q _ h => hFc q.1 h)
        obtain ⟨hX1_, hF1_, hg1_, z1_, bz1_, ez1_⟩ := hw_
        have hl : lv_has ls 5 [(4, .ref (ad1_ i_12)), (0, .ref (ad1_ 0)), (1, .int (c_)), (2, .int (w_)), (3, .int (x))] := by rw [hg1_ i_12 ((lt71 (by omega))), hg1_ 0 ((lt71 (by omega)))]; exact hl
        exact kk_k_14 r_ S1_ ad1_ H locs z1_ ls hX1_ (Fr.tr hF_5 hF1_ (fun j k hj h => by have hc_ := (hF_5).1; omega)) (fun j hj => (hg1_ j (Nat.lt_of_lt_of_le hj (Nat.add_le_add_left (hF_5).1 71))).trans ((fun _ _ => rfl) j hj)) (by omega) ez1_ hP hD hS hl
      · refine va_calli (va_runU (As := [.ref (ad i_12), .int (x), .ref (ad 61)]) (rest := []) ⟨hx, hb, hml, hown, hT⟩ (c_x5_buys l G ad S_3 H.size (2) (i_12) (0) (x) ((by omega : 2 < 7)) (hp_i_12) (hw_2) (by first | assumption | omega) (hX_4)) (tU 3 hT m4_224 m4_227 m4_238 m4_225 m1_2 m5_7 rfl rfl rfl (by decide +kernel) ⟨Nat.le_of_ble_eq_true rfl, Nat.le_of_ble_eq_true rfl⟩) ⟨PcE_blind, va_recv hK hP (ci := 6) (q0 := 2 + 2) rfl (ix_at (lt71 (by omega)) (cX_knd (by omega))), PcE_of hP hK hD hE hS (fun q h => hFc q h) _⟩ rfl rfl hl.1 rfl (lv_room (Nat.le_of_ble_eq_true rfl)) dX11_act_80 ⟨Nat.le_of_ble_eq_true rfl, Nat.le_of_ble_eq_true rfl⟩) hS (fun q _ h => hFc q h) hFc (fun r_ u_ t_ H locs ht_ hvm_ hw_ hB_ hz_ hk_ hS => ?_)
        obtain ⟨S1_, ad1_⟩ := u_
        dsimp only at hB_ hw_
        obtain ⟨hP, -, hD1_⟩ := hB_
        rw [ht_] at hP
        have hD : va_D A (wX G ad1_ S1_) := hD1_.weaken (fun k q _ h => hFc q.1 h)
        obtain ⟨hX1_, hF1_, hg1_, z1_, bz1_, ez1_⟩ := hw_
        have hl : lv_has ls 5 [(4, .ref (ad1_ i_12)), (0, .ref (ad1_ 0)), (1, .int (c_)), (2, .int (w_)), (3, .int (x))] := by rw [hg1_ i_12 ((lt71 (by omega))), hg1_ 0 ((lt71 (by omega)))]; exact hl
        exact kk_k_14 r_ S1_ ad1_ H locs z1_ ls hX1_ (Fr.tr hF_5 hF1_ (fun j k hj h => by have hc_ := (hF_5).1; omega)) (fun j hj => (hg1_ j (Nat.lt_of_lt_of_le hj (Nat.add_le_add_left (hF_5).1 71))).trans ((fun _ _ => rfl) j hj)) (by omega) ez1_ hP hD hS hl
      · refine va_calli (va_runU (As := [.ref (ad i_12), .int (x), .ref (ad 61)]) (rest := []) ⟨hx, hb, hml, hown, hT⟩ (c_x5_buys l G ad S_3 H.size (3) (i_12) (0) (x) ((by omega : 3 < 7)) (hp_i_12) (hw_2) (by first | assumption | omega) (hX_4)) (tU 3 hT m4_224 m4_227 m4_228 m4_225 m1_2 m5_7 rfl rfl rfl (by decide +kernel) ⟨Nat.le_of_ble_eq_true rfl, Nat.le_of_ble_eq_true rfl⟩) ⟨PcE_blind, va_recv hK hP (ci := 2) (q0 := 2 + 3) rfl (ix_at (lt71 (by omega)) (cX_knd (by omega))), PcE_of hP hK hD hE hS (fun q h => hFc q h) _⟩ rfl rfl hl.1 rfl (lv_room (Nat.le_of_ble_eq_true rfl)) dX11_act_80 ⟨Nat.le_of_ble_eq_true rfl, Nat.le_of_ble_eq_true rfl⟩) hS (fun q _ h => hFc q h) hFc (fun r_ u_ t_ H locs ht_ hvm_ hw_ hB_ hz_ hk_ hS => ?_)
        obtain ⟨S1_, ad1_⟩ := u_
        dsimp only at hB_ hw_
        obtain ⟨hP, -, hD1_⟩ := hB_
        rw [ht_] at hP
        have hD : va_D A (wX G ad1_ S1_) := hD1_.weaken (fun k q _ h => hFc q.1 h)
        obtain ⟨hX1_, hF1_, hg1_, z1_, bz1_, ez1_⟩ := hw_
        have hl : lv_has ls 5 [(4, .ref (ad1_ i_12)), (0, .ref (ad1_ 0)), (1, .int (c_)), (2, .int (w_)), (3, .int (x))] := by rw [hg1_ i_12 ((lt71 (by omega))), hg1_ 0 ((lt71 (by omega)))]; exact hl
        exact kk_k_14 r_ S1_ ad1_ H locs z1_ ls hX1_ (Fr.tr hF_5 hF1_ (fun j k hj h => by have hc_ := (hF_5).1; omega)) (fun j hj => (hg1_ j (Nat.lt_of_lt_of_le hj (Nat.add_le_add_left (hF_5).1 71))).trans ((fun _ _ => rfl) j hj)) (by omega) ez1_ hP hD hS hl
      · refine va_calli (va_runU (As := [.ref (ad i_12), .int (x), .ref (ad 61)]) (rest := []) ⟨hx, hb, hml, hown, hT⟩ (c_x2_buys l G ad S_3 H.size (4) (i_12) (0) (x) ((by omega : 4 < 7)) (hp_i_12) (hw_2) (by first | assumption | omega) (hX_4)) (tO 3 hT m4_224 m4_227 m4_225 m4_229 m4_230 m1_6 m4_231 m5_7 rfl rfl (by decide +kernel) ⟨Nat.le_of_ble_eq_true rfl, Nat.le_of_ble_eq_true rfl⟩) ⟨PcE_blind, va_recv hK hP (ci := 4) (q0 := 2 + 4) rfl (ix_at (lt71 (by omega)) (cX_knd (by omega))), PcE_of hP hK hD hE hS (fun q h => hFc q h) _⟩ rfl rfl hl.1 rfl (lv_room (Nat.le_of_ble_eq_true rfl)) dX11_act_80 ⟨Nat.le_of_ble_eq_true rfl, Nat.le_of_ble_eq_true rfl⟩) hS (fun q _ h => hFc q h) hFc (fun r_ u_ t_ H locs ht_ hvm_ hw_ hB_ hz_ hk_ hS => ?_)
        obtain ⟨S1_, ad1_⟩ := u_
        dsimp only at hB_ hw_
        obtain ⟨hP, -, hD1_⟩ := hB_
        rw [ht_] at hP
        have hD : va_D A (wX G ad1_ S1_) := hD1_.weaken (fun k q _ h => hFc q.1 h)
        obtain ⟨hX1_, hF1_, hg1_, z1_, bz1_, ez1_⟩ := hw_
        have hl : lv_has ls 5 [(4, .ref (ad1_ i_12)), (0, .ref (ad1_ 0)), (1, .int (c_)), (2, .int (w_)), (3, .int (x))] := by rw [hg1_ i_12 ((lt71 (by omega))), hg1_ 0 ((lt71 (by omega)))]; exact hl
        exact kk_k_14 r_ S1_ ad1_ H locs z1_ ls hX1_ (Fr.tr hF_5 hF1_ (fun j k hj h => by have hc_ := (hF_5).1; omega)) (fun j hj => (hg1_ j (Nat.lt_of_lt_of_le hj (Nat.add_le_add_left (hF_5).1 71))).trans ((fun _ _ => rfl) j hj)) (by omega) ez1_ hP hD hS hl
      · refine va_calli (va_runU (As := [.ref (ad i_12), .int (x), .ref (ad 61)]) (rest := []) ⟨hx, hb, hml, hown, hT⟩ (c_x5_buys l G ad S_3 H.size (5) (i_12) (0) (x) ((by omega : 5 < 7)) (hp_i_12) (hw_2) (by first | assumption | omega) (hX_4)) (tU 3 hT m4_224 m4_227 m4_239 m4_225 m1_2 m5_7 rfl rfl rfl (by decide +kernel) ⟨Nat.le_of_ble_eq_true rfl, Nat.le_of_ble_eq_true rfl⟩) ⟨PcE_blind, va_recv hK hP (ci := 8) (q0 := 2 + 5) rfl (ix_at (lt71 (by omega)) (cX_knd (by omega))), PcE_of hP hK hD hE hS (fun q h => hFc q h) _⟩ rfl rfl hl.1 rfl (lv_room (Nat.le_of_ble_eq_true rfl)) dX11_act_80 ⟨Nat.le_of_ble_eq_true rfl, Nat.le_of_ble_eq_true rfl⟩) hS (fun q _ h => hFc q h) hFc (fun r_ u_ t_ H locs ht_ hvm_ hw_ hB_ hz_ hk_ hS => ?_)
        obtain ⟨S1_, ad1_⟩ := u_
        dsimp only at hB_ hw_
        obtain ⟨hP, -, hD1_⟩ := hB_
        rw [ht_] at hP
        have hD : va_D A (wX G ad1_ S1_) := hD1_.weaken (fun k q _ h => hFc q.1 h)
        obtain ⟨hX1_, hF1_, hg1_, z1_, bz1_, ez1_⟩ := hw_
        have hl : lv_has ls 5 [(4, .ref (ad1_ i_12)), (0, .ref (ad1_ 0)), (1, .int (c_)), (2, .int (w_)), (3, .int (x))] := by rw [hg1_ i_12 ((lt71 (by omega))), hg1_ 0 ((lt71 (by omega)))]; exact hl
        exact kk_k_14 r_ S1_ ad1_ H locs z1_ ls hX1_ (Fr.tr hF_5 hF1_ (fun j k hj h => by have hc_ := (hF_5).1; omega)) (fun j hj => (hg1_ j (Nat.lt_of_lt_of_le hj (Nat.add_le_add_left (hF_5).1 71))).trans ((fun _ _ => rfl) j hj)) (by omega) ez1_ hP hD hS hl
      · refine va_calli (va_runU (As := [.ref (ad i_12), .int (x), .ref (ad 61)]) (rest := []) ⟨hx, hb, hml, hown, hT⟩ (c_x10_buys l G ad S_3 H.size (6) (i_12) (0) (x) ((by omega : 6 < 7)) (hp_i_12) (hw_2) (by first | assumption | omega) (hX_4)) (tO 3 hT m4_224 m4_227 m4_225 m5_1 m5_2 m1_8 m5_3 m5_7 rfl rfl (by decide +kernel) ⟨Nat.le_of_ble_eq_true rfl, Nat.le_of_ble_eq_true rfl⟩) ⟨PcE_blind, va_recv hK hP (ci := 12) (q0 := 2 + 6) rfl (ix_at (lt71 (by omega)) (cX_knd (by omega))), PcE_of hP hK hD hE hS (fun q h => hFc q h) _⟩ rfl rfl hl.1 rfl (lv_room (Nat.le_of_ble_eq_true rfl)) dX11_act_80 ⟨Nat.le_of_ble_eq_true rfl, Nat.le_of_ble_eq_true rfl⟩) hS (fun q _ h => hFc q h) hFc (fun r_ u_ t_ H locs ht_ hvm_ hw_ hB_ hz_ hk_ hS => ?_)
        obtain ⟨S1_, ad1_⟩ := u_
        dsimp only at hB_ hw_
        obtain ⟨hP, -, hD1_⟩ := hB_
        rw [ht_] at hP
        have hD : va_D A (wX G ad1_ S1_) := hD1_.weaken (fun k q _ h => hFc q.1 h)
        obtain ⟨hX1_, hF1_, hg1_, z1_, bz1_, ez1_⟩ := hw_
        have hl : lv_has ls 5 [(4, .ref (ad1_ i_12)), (0, .ref (ad1_ 0)), (1, .int (c_)), (2, .int (w_)), (3, .int (x))] := by rw [hg1_ i_12 ((lt71 (by omega))), hg1_ 0 ((lt71 (by omega)))]; exact hl
        exact kk_k_14 r_ S1_ ad1_ H locs z1_ ls hX1_ (Fr.tr hF_5 hF1_ (fun j k hj h => by have hc_ := (hF_5).1; omega)) (fun j hj => (hg1_ j (Nat.lt_of_lt_of_le hj (Nat.add_le_add_left (hF_5).1 71))).trans ((fun _ _ => rfl) j hj)) (by omega) ez1_ hP hD hS hl
    by_cases c_15 : w_ = (2 : Int32)
    · refine lv_tableIn (off := 59) (tgt := 84) hx hb dX11_act_25 (by rw [c_15]; decide) (by rw [c_15]; decide) (by rw [c_15]; rfl) (by decide) ?_
      refine lv_aload hx hb dX11_act_84 (lv_at hl 0 rfl) ?_
      obtain ⟨n_16, en_16, bn_16⟩ := XI.kin hX_4 hp_i_12
      refine va_get (D := G.1) (ci := 5) (v := va_rf ((fR S_3 i_12 2).map ad)) (C := RX3) (T := TX3) (N := 10) hx hb hT inX3 hown hK hP i_12 (ix_at (lt71 (by omega)) (cX_cust hp_i_12)) rfl 2 (by decide) (hT _ m1_144) (fun _ h9 => h9) rfl dX11_act_86 ?_
      rw [show va_rf ((fR S_3 i_12 2).map ad) = .ref (ad (2 + n_16)) from by rw [en_16]; rfl]
      refine lv_aload hx hb dX11_act_89 (lv_at hl 0 rfl) ?_
      refine lv_iload_n hx hb dX11_act_91 rfl (lv_at hl 4 rfl) ?_
      refine lv_aload_n hx hb dX11_act_92 rfl (lv_at hl 1 rfl) ?_
      refine va_get (D := G.1) (ci := 13) (v := .ref (ad 61)) (C := RX11) (T := TX11) (N := 11) hx hb hT inX11 hown hK hP 0 (ix_at (lt71 (by omega)) (cX_0 G ad S_3)) rfl 5 (by decide) (hT _ m2_74) (fun _ h9 => h9) rfl dX11_act_93 ?_
      have kk_k_17 : ∀ (rk_17 : Int32) (Sk_17 : FS) (adk_17 : Nat → Nat) (Hk_17 : Heap) (locsk_17 : List Loc) (zk_17 : Nat) (ls : Array Slot), XI Sk_17 → Fr (fun j k => j = 61 ∨ 71 ≤ j) S Sk_17 → (∀ j, j < 71 + fC S → adk_17 j = ad j) → zk_17 ≤ 0 + 12 → fF Sk_17 61 2 = nI zk_17 → va_P G.1 vwCl (wX G adk_17 Sk_17) Hk_17 → va_D A (wX G adk_17 Sk_17) → va_S A s.heap Hk_17 locsk_17 → lv_has ls 5 [(4, .ref (adk_17 i_12)), (0, .ref (adk_17 0)), (1, .int (c_)), (2, .int (w_)), (3, .int (x))] → W p l e ({ frames := 20, cells := 12, slots := 768, locals := 614 } : Room) s m args below meth c₀ Hk_17 locsk_17 (0 + 12) (0 + 768) Q (F0 m 99 ls [.int (rk_17)]) := by
        intro rk_17 Sk_17 adk_17 Hk_17 locsk_17 zk_17 ls hXk_17 hFk_17 hgk_17 bzk_17 ezk_17 hP hD hS hl
        subst hQ
        have hpost : XI Sk_17 ∧ Fr (fun j k => j = 61 ∨ 71 ≤ j) S Sk_17 ∧ (∀ j, j < 71 + fC S → adk_17 j = ad j) ∧ ∃ z', z' ≤ 12 ∧ fF Sk_17 61 2 = nI z' := by
          exact ⟨hXk_17, hFk_17, hgk_17, ⟨_, by omega, ezk_17⟩⟩
        refine W.widen (k := 12) (n := 768) (by omega) (by omega) ?_
        exact W.iret (v := rk_17) hx hb hr (fun t_ ht_ hW_ => ⟨⟨rk_17, (Sk_17, adk_17), rfl, hpost, by rw [ht_]; exact hP, va_K.moved hW_.alike hK, hD⟩, hS.F ht_⟩) hS.2.2 dX11_act_99
      have hFc := va_self hD hS hA
      rcases kq7 bn_16 with rfl | rfl | rfl | rfl | rfl | rfl | rfl
      · refine va_calli (va_runU (As := [.ref (ad i_12), .int (x), .ref (ad 61)]) (rest := []) ⟨hx, hb, hml, hown, hT⟩ (c_x5_tells l G ad S_3 H.size (0) (i_12) (0) (x) ((by omega : 0 < 7)) (hp_i_12) (hw_2) (by first | assumption | omega) (hX_4)) (tU 3 hT m5_9 m5_12 m5_11 m5_10 m1_2 m5_34 rfl rfl rfl (by decide +kernel) ⟨Nat.le_of_ble_eq_true rfl, Nat.le_of_ble_eq_true rfl⟩) ⟨PcE_blind, va_recv hK hP (ci := 7) (q0 := 2 + 0) rfl (ix_at (lt71 (by omega)) (cX_knd (by omega))), PcE_of hP hK hD hE hS (fun q h => hFc q h) _⟩ rfl rfl hl.1 rfl (lv_room (Nat.le_of_ble_eq_true rfl)) dX11_act_96 ⟨Nat.le_of_ble_eq_true rfl, Nat.le_of_ble_eq_true rfl⟩) hS (fun q _ h => hFc q h) hFc (fun r_ u_ t_ H locs ht_ hvm_ hw_ hB_ hz_ hk_ hS => ?_)
        obtain ⟨S1_, ad1_⟩ := u_
        dsimp only at hB_ hw_
        obtain ⟨hP, -, hD1_⟩ := hB_
        rw [ht_] at hP
        have hD : va_D A (wX G ad1_ S1_) := hD1_.weaken (fun k q _ h => hFc q.1 h)
        obtain ⟨hX1_, hF1_, hg1_, z1_, bz1_, ez1_⟩ := hw_
        have hl : lv_has ls 5 [(4, .ref (ad1_ i_12)), (0, .ref (ad1_ 0)), (1, .int (c_)), (2, .int (w_)), (3, .int (x))] := by rw [hg1_ i_12 ((lt71 (by omega))), hg1_ 0 ((lt71 (by omega)))]; exact hl
        exact kk_k_17 r_ S1_ ad1_ H locs z1_ ls hX1_ (Fr.tr hF_5 hF1_ (fun j k hj h => by have hc_ := (hF_5).1; omega)) (fun j hj => (hg1_ j (Nat.lt_of_lt_of_le hj (Nat.add_le_add_left (hF_5).1 71))).trans ((fun _ _ => rfl) j hj)) (by omega) ez1_ hP hD hS hl
      · refine va_calli (va_runU (As := [.ref (ad i_12), .int (x), .ref (ad 61)]) (rest := []) ⟨hx, hb, hml, hown, hT⟩ (c_x5_tells l G ad S_3 H.size (1) (i_12) (0) (x) ((by omega : 1 < 7)) (hp_i_12) (hw_2) (by first | assumption | omega) (hX_4)) (tU 3 hT m5_9 m5_12 m5_32 m5_10 m1_2 m5_34 rfl rfl rfl (by decide +kernel) ⟨Nat.le_of_ble_eq_true rfl, Nat.le_of_ble_eq_true rfl⟩) ⟨PcE_blind, va_recv hK hP (ci := 10) (q0 := 2 + 1) rfl (ix_at (lt71 (by omega)) (cX_knd (by omega))), PcE_of hP hK hD hE hS (fun q h => hFc q h) _⟩ rfl rfl hl.1 rfl (lv_room (Nat.le_of_ble_eq_true rfl)) dX11_act_96 ⟨Nat.le_of_ble_eq_true rfl, Nat.le_of_ble_eq_true rfl⟩) hS (fun q _ h => hFc q h) hFc (fun r_ u_ t_ H locs ht_ hvm_ hw_ hB_ hz_ hk_ hS => ?_)
        obtain ⟨S1_, ad1_⟩ := u_
        dsimp only at hB_ hw_
        obtain ⟨hP, -, hD1_⟩ := hB_
        rw [ht_] at hP
        have hD : va_D A (wX G ad1_ S1_) := hD1_.weaken (fun k q _ h => hFc q.1 h)
        obtain ⟨hX1_, hF1_, hg1_, z1_, bz1_, ez1_⟩ := hw_
        have hl : lv_has ls 5 [(4, .ref (ad1_ i_12)), (0, .ref (ad1_ 0)), (1, .int (c_)), (2, .int (w_)), (3, .int (x))] := by rw [hg1_ i_12 ((lt71 (by omega))), hg1_ 0 ((lt71 (by omega)))]; exact hl
        exact kk_k_17 r_ S1_ ad1_ H locs z1_ ls hX1_ (Fr.tr hF_5 hF1_ (fun j k hj h => by have hc_ := (hF_5).1; omega)) (fun j hj => (hg1_ j (Nat.lt_of_lt_of_le hj (Nat.add_le_add_left (hF_5).1 71))).trans ((fun _ _ => rfl) j hj)) (by omega) ez1_ hP hD hS hl
      · refine va_calli (va_runU (As := [.ref (ad i_12), .int (x), .ref (ad 61)]) (rest := []) ⟨hx, hb, hml, hown, hT⟩ (c_x5_tells l G ad S_3 H.size (2) (i_12) (0) (x) ((by omega : 2 < 7)) (hp_i_12) (hw_2) (by first | assumption | omega) (hX_4)) (tU 3 hT m5_9 m5_12 m5_23 m5_10 m1_2 m5_34 rfl rfl rfl (by decide +kernel) ⟨Nat.le_of_ble_eq_true rfl, Nat.le_of_ble_eq_true rfl⟩) ⟨PcE_blind, va_recv hK hP (ci := 6) (q0 := 2 + 2) rfl (ix_at (lt71 (by omega)) (cX_knd (by omega))), PcE_of hP hK hD hE hS (fun q h => hFc q h) _⟩ rfl rfl hl.1 rfl (lv_room (Nat.le_of_ble_eq_true rfl)) dX11_act_96 ⟨Nat.le_of_ble_eq_true rfl, Nat.le_of_ble_eq_true rfl⟩) hS (fun q _ h => hFc q h) hFc (fun r_ u_ t_ H locs ht_ hvm_ hw_ hB_ hz_ hk_ hS => ?_)
        obtain ⟨S1_, ad1_⟩ := u_
        dsimp only at hB_ hw_
        obtain ⟨hP, -, hD1_⟩ := hB_
        rw [ht_] at hP
        have hD : va_D A (wX G ad1_ S1_) := hD1_.weaken (fun k q _ h => hFc q.1 h)
        obtain ⟨hX1_, hF1_, hg1_, z1_, bz1_, ez1_⟩ := hw_
        have hl : lv_has ls 5 [(4, .ref (ad1_ i_12)), (0, .ref (ad1_ 0)), (1, .int (c_)), (2, .int (w_)), (3, .int (x))] := by rw [hg1_ i_12 ((lt71 (by omega))), hg1_ 0 ((lt71 (by omega)))]; exact hl
        exact kk_k_17 r_ S1_ ad1_ H locs z1_ ls hX1_ (Fr.tr hF_5 hF1_ (fun j k hj h => by have hc_ := (hF_5).1; omega)) (fun j hj => (hg1_ j (Nat.lt_of_lt_of_le hj (Nat.add_le_add_left (hF_5).1 71))).trans ((fun _ _ => rfl) j hj)) (by omega) ez1_ hP hD hS hl
      · refine va_calli (va_runU (As := [.ref (ad i_12), .int (x), .ref (ad 61)]) (rest := []) ⟨hx, hb, hml, hown, hT⟩ (c_x0_tells l G ad S_3 H.size (3) (i_12) (0) (x) ((by omega : 3 < 7)) (by first | assumption | omega) (hp_i_12) (hw_2) (by first | assumption | omega) (hX_4)) (tO 3 hT m5_9 m5_12 m5_10 m5_13 m5_14 m1_5 m5_15 m5_34 rfl rfl (by decide +kernel) ⟨Nat.le_of_ble_eq_true rfl, Nat.le_of_ble_eq_true rfl⟩) ⟨PcE_blind, va_recv hK hP (ci := 2) (q0 := 2 + 3) rfl (ix_at (lt71 (by omega)) (cX_knd (by omega))), PcE_of hP hK hD hE hS (fun q h => hFc q h) _⟩ rfl rfl hl.1 rfl (lv_room (Nat.le_of_ble_eq_true rfl)) dX11_act_96 ⟨Nat.le_of_ble_eq_true rfl, Nat.le_of_ble_eq_true rfl⟩) hS (fun q _ h => hFc q h) hFc (fun r_ u_ t_ H locs ht_ hvm_ hw_ hB_ hz_ hk_ hS => ?_)
        obtain ⟨S1_, ad1_⟩ := u_
        dsimp only at hB_ hw_
        obtain ⟨hP, -, hD1_⟩ := hB_
        rw [ht_] at hP
        have hD : va_D A (wX G ad1_ S1_) := hD1_.weaken (fun k q _ h => hFc q.1 h)
        obtain ⟨hX1_, hF1_, hg1_, z1_, bz1_, ez1_⟩ := hw_
        have hl : lv_has ls 5 [(4, .ref (ad1_ i_12)), (0, .ref (ad1_ 0)), (1, .int (c_)), (2, .int (w_)), (3, .int (x))] := by rw [hg1_ i_12 ((lt71 (by omega))), hg1_ 0 ((lt71 (by omega)))]; exact hl
        exact kk_k_17 r_ S1_ ad1_ H locs z1_ ls hX1_ (Fr.tr hF_5 hF1_ (fun j k hj h => by have hc_ := (hF_5).1; omega)) (fun j hj => (hg1_ j (Nat.lt_of_lt_of_le hj (Nat.add_le_add_left (hF_5).1 71))).trans ((fun _ _ => rfl) j hj)) (by omega) ez1_ hP hD hS hl
      · refine va_calli (va_runU (As := [.ref (ad i_12), .int (x), .ref (ad 61)]) (rest := []) ⟨hx, hb, hml, hown, hT⟩ (c_x5_tells l G ad S_3 H.size (4) (i_12) (0) (x) ((by omega : 4 < 7)) (hp_i_12) (hw_2) (by first | assumption | omega) (hX_4)) (tU 3 hT m5_9 m5_12 m5_22 m5_10 m1_2 m5_34 rfl rfl rfl (by decide +kernel) ⟨Nat.le_of_ble_eq_true rfl, Nat.le_of_ble_eq_true rfl⟩) ⟨PcE_blind, va_recv hK hP (ci := 4) (q0 := 2 + 4) rfl (ix_at (lt71 (by omega)) (cX_knd (by omega))), PcE_of hP hK hD hE hS (fun q h => hFc q h) _⟩ rfl rfl hl.1 rfl (lv_room (Nat.le_of_ble_eq_true rfl)) dX11_act_96 ⟨Nat.le_of_ble_eq_true rfl, Nat.le_of_ble_eq_true rfl⟩) hS (fun q _ h => hFc q h) hFc (fun r_ u_ t_ H locs ht_ hvm_ hw_ hB_ hz_ hk_ hS => ?_)
        obtain ⟨S1_, ad1_⟩ := u_
        dsimp only at hB_ hw_
        obtain ⟨hP, -, hD1_⟩ := hB_
        rw [ht_] at hP
        have hD : va_D A (wX G ad1_ S1_) := hD1_.weaken (fun k q _ h => hFc q.1 h)
        obtain ⟨hX1_, hF1_, hg1_, z1_, bz1_, ez1_⟩ := hw_
        have hl : lv_has ls 5 [(4, .ref (ad1_ i_12)), (0, .ref (ad1_ 0)), (1, .int (c_)), (2, .int (w_)), (3, .int (x))] := by rw [hg1_ i_12 ((lt71 (by omega))), hg1_ 0 ((lt71 (by omega)))]; exact hl
        exact kk_k_17 r_ S1_ ad1_ H locs z1_ ls hX1_ (Fr.tr hF_5 hF1_ (fun j k hj h => by have hc_ := (hF_5).1; omega)) (fun j hj => (hg1_ j (Nat.lt_of_lt_of_le hj (Nat.add_le_add_left (hF_5).1 71))).trans ((fun _ _ => rfl) j hj)) (by omega) ez1_ hP hD hS hl
      · refine va_calli (va_runU (As := [.ref (ad i_12), .int (x), .ref (ad 61)]) (rest := []) ⟨hx, hb, hml, hown, hT⟩ (c_x6_tells l G ad S_3 H.size (5) (i_12) (0) (x) ((by omega : 5 < 7)) (hp_i_12) (hw_2) (by first | assumption | omega) (hX_4)) (tO 3 hT m5_9 m5_12 m5_10 m5_24 m5_25 m1_7 m5_26 m5_34 rfl rfl (by decide +kernel) ⟨Nat.le_of_ble_eq_true rfl, Nat.le_of_ble_eq_true rfl⟩) ⟨PcE_blind, va_recv hK hP (ci := 8) (q0 := 2 + 5) rfl (ix_at (lt71 (by omega)) (cX_knd (by omega))), PcE_of hP hK hD hE hS (fun q h => hFc q h) _⟩ rfl rfl hl.1 rfl (lv_room (Nat.le_of_ble_eq_true rfl)) dX11_act_96 ⟨Nat.le_of_ble_eq_true rfl, Nat.le_of_ble_eq_true rfl⟩) hS (fun q _ h => hFc q h) hFc (fun r_ u_ t_ H locs ht_ hvm_ hw_ hB_ hz_ hk_ hS => ?_)
        obtain ⟨S1_, ad1_⟩ := u_
        dsimp only at hB_ hw_
        obtain ⟨hP, -, hD1_⟩ := hB_
        rw [ht_] at hP
        have hD : va_D A (wX G ad1_ S1_) := hD1_.weaken (fun k q _ h => hFc q.1 h)
        obtain ⟨hX1_, hF1_, hg1_, z1_, bz1_, ez1_⟩ := hw_
        have hl : lv_has ls 5 [(4, .ref (ad1_ i_12)), (0, .ref (ad1_ 0)), (1, .int (c_)), (2, .int (w_)), (3, .int (x))] := by rw [hg1_ i_12 ((lt71 (by omega))), hg1_ 0 ((lt71 (by omega)))]; exact hl
        exact kk_k_17 r_ S1_ ad1_ H locs z1_ ls hX1_ (Fr.tr hF_5 hF1_ (fun j k hj h => by have hc_ := (hF_5).1; omega)) (fun j hj => (hg1_ j (Nat.lt_of_lt_of_le hj (Nat.add_le_add_left (hF_5).1 71))).trans ((fun _ _ => rfl) j hj)) (by omega) ez1_ hP hD hS hl
      · refine va_calli (va_runU (As := [.ref (ad i_12), .int (x), .ref (ad 61)]) (rest := []) ⟨hx, hb, hml, hown, hT⟩ (c_x0_tells l G ad S_3 H.size (6) (i_12) (0) (x) ((by omega : 6 < 7)) (by first | assumption | omega) (hp_i_12) (hw_2) (by first | assumption | omega) (hX_4)) (tO 3 hT m5_9 m5_12 m5_10 m5_33 m5_14 m1_5 m5_15 m5_34 rfl rfl (by decide +kernel) ⟨Nat.le_of_ble_eq_true rfl, Nat.le_of_ble_eq_true rfl⟩) ⟨PcE_blind, va_recv hK hP (ci := 12) (q0 := 2 + 6) rfl (ix_at (lt71 (by omega)) (cX_knd (by omega))), PcE_of hP hK hD hE hS (fun q h => hFc q h) _⟩ rfl rfl hl.1 rfl (lv_room (Nat.le_of_ble_eq_true rfl)) dX11_act_96 ⟨Nat.le_of_ble_eq_true rfl, Nat.le_of_ble_eq_true rfl⟩) hS (fun q _ h => hFc q h) hFc (fun r_ u_ t_ H locs ht_ hvm_ hw_ hB_ hz_ hk_ hS => ?_)
        obtain ⟨S1_, ad1_⟩ := u_
        dsimp only at hB_ hw_
        obtain ⟨hP, -, hD1_⟩ := hB_
        rw [ht_] at hP
        have hD : va_D A (wX G ad1_ S1_) := hD1_.weaken (fun k q _ h => hFc q.1 h)
        obtain ⟨hX1_, hF1_, hg1_, z1_, bz1_, ez1_⟩ := hw_
        have hl : lv_has ls 5 [(4, .ref (ad1_ i_12)), (0, .ref (ad1_ 0)), (1, .int (c_)), (2, .int (w_)), (3, .int (x))] := by rw [hg1_ i_12 ((lt71 (by omega))), hg1_ 0 ((lt71 (by omega)))]; exact hl
        exact kk_k_17 r_ S1_ ad1_ H locs z1_ ls hX1_ (Fr.tr hF_5 hF1_ (fun j k hj h => by have hc_ := (hF_5).1; omega)) (fun j hj => (hg1_ j (Nat.lt_of_lt_of_le hj (Nat.add_le_add_left (hF_5).1 71))).trans ((fun _ _ => rfl) j hj)) (by omega) ez1_ hP hD hS hl
    have o_18 : (w_).toInt < 0 ∨ 2 < (w_).toInt := by
      have qc_9 : ¬ (w_).toInt = 0 := lv_neT c_9 (by decide)
      have qc_12 : ¬ (w_).toInt = 1 := lv_neT c_12 (by decide)
      have qc_15 : ¬ (w_).toInt = 2 := lv_neT c_15 (by decide)
      omega
    refine lv_tableOut (tgt := 100) hx hb dX11_act_25 o_18 (by decide) ?_
    refine lv_iconst (v := 0) hx hb dX11_act_100 (by decide) ?_
    subst hQ
    have hpost : XI S_3 ∧ Fr (fun j k => j = 61 ∨ 71 ≤ j) S S_3 ∧ (∀ j, j < 71 + fC S → ad j = ad j) ∧ ∃ z', z' ≤ 12 ∧ fF S_3 61 2 = nI z' := by
      exact ⟨hX_4, hF_5, (fun _ _ => rfl), ⟨_, by omega, hw_2⟩⟩
    refine W.widen (k := 12) (n := 768) (by omega) (by omega) ?_
    exact W.iret (v := 0) hx hb hr (fun t_ ht_ hW_ => ⟨⟨0, (S_3, ad), rfl, hpost, by rw [ht_]; exact hP, va_K.moved hW_.alike hK, hD⟩, hS.F ht_⟩) hS.2.2 dX11_act_101
  rw [show va_rf none = .null from rfl]
  refine lv_astoreN (lv' := [(4, .null), (0, .ref (ad 0)), (1, .int (c_)), (2, .int (w_)), (3, .int (x))]) hx hb dX11_act_15 hl (by decide) rfl (fun ls hl => ?_)
  refine lv_aloadN hx hb dX11_act_17 (lv_at hl 0 rfl) ?_
  refine lv_ifnonnullN hx hb dX11_act_19 ?_
  refine lv_iconst (v := 0) hx hb dX11_act_22 (by decide) ?_
  subst hQ
  have hpost : XI S_3 ∧ Fr (fun j k => j = 61 ∨ 71 ≤ j) S S_3 ∧ (∀ j, j < 71 + fC S → ad j = ad j) ∧ ∃ z', z' ≤ 12 ∧ fF S_3 61 2 = nI z' := by
    exact ⟨hX_4, hF_5, (fun _ _ => rfl), ⟨_, by omega, hw_2⟩⟩
  refine W.widen (k := 12) (n := 768) (by omega) (by omega) ?_
  exact W.iret (v := 0) hx hb hr (fun t_ ht_ hW_ => ⟨⟨0, (S_3, ad), rfl, hpost, by rw [ht_]; exact hP, va_K.moved hW_.alike hK, hD⟩, hS.F ht_⟩) hS.2.2 dX11_act_23
