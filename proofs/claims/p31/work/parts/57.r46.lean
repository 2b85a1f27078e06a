set_option maxHeartbeats 800000 in
set_option maxRecDepth 100000 in
theorem c_x9_toCounter (l : Launch) (G : GG) (ad : Nat → Nat) (S : FS) (sz : Nat)  (hX : XI S) : Met l yX9_toCounter (Cond.code yX9_toCounter cX9_toCounter 3 (some (.object "LittleMore$Counter")) :: TBL) ({ frames := 23, cells := 3, slots := 204, locals := 619 } : Room) (PcE G (wX G ad S) sz [.ref (ad 57)]) (va_Qq (fun (r : Option Nat) (u : FS × (Nat → Nat)) => XI u.1 ∧ Fr (fun j k => (j = 57 ∧ (k = 2 ∨ k = 3 ∨ k = 4 ∨ k = 7 ∨ k = 8)) ∨ ((j = 59 ∨ j = 60) ∧ k = 99)) S u.1 ∧ (∀ j, j < 71 + fC S → u.2 j = ad j) ∧ (r = none ∨ ∃ p, r = some (u.2 p) ∧ COK u.1 p)) (fun u t => BW G (va_A (wX G ad S) sz) (wX G u.2 u.1) t) (va_A (wX G ad S) sz)) 3 204 (va_A (wX G ad S) sz) := by
  refine Met.ofW (cc := cX9_toCounter) (maxL := 3) (ret := (some (.object "LittleMore$Counter"))) (by decide) rfl ?_
  intro p e s m args below meth c₀ s₁ B hml hv
  obtain ⟨rfl, hsz, hP, hK, hD0, hE⟩ := hv
  have hx := B.exec
  have hb := B.bytes
  have hr := B.returns
  have hT : ∀ w ∈ TBL, w.before ([.ref (ad 57)] : List Value).toArray s = true := fun w h => atoms_spec (ws := Cond.code yX9_toCounter cX9_toCounter 3 (some (.object "LittleMore$Counter")) :: TBL) B.pre w (List.mem_cons_of_mem _ h)
  have hown : s.vm.findClass "LittleMore$Text" = some m.cls := findClass_of_methodNamed B.named
  have hlocks := B.notSynchronized
  subst hsz
  have hD := hD0.self (sz := s.heap.size)
  generalize hAe : va_A (wX G ad S) s.heap.size = A at hD hE ⊢
  have hA : ∀ q : Nat, s.heap.size ≤ q → A q := fun q h => by rw [← hAe]; exact Or.inr h
  have hS : va_S A s.heap s.heap [] := va_S.rf
  have hP : va_P G.1 vwCl (wX G ad S) s.heap := hP
  have hl := lv_entry ([.ref (ad 57)]) (n := 3) (Nat.le_of_ble_eq_true rfl)
  rw [lg_entry_eq]
  generalize (lg_sl ([.ref (ad 57)]) ++ List.replicate (3 - (lg_sl ([.ref (ad 57)])).length) Slot.unset).toArray = ls at hl ⊢
  have hl : lv_has ls 3 [(0, .ref (ad 57))] := hl
  refine W_abs (fun Q hQ => ?_)
  generalize ([.ref (ad 57)] : List Value).toArray = args at hT hQ ⊢
  refine lv_aload_n hx hb (fk_get fk_cX9_toCounter_0 0 rfl) rfl (lv_at hl 0 rfl) ?_
  refine lv_iconst (v := 0) hx hb (fk_get fk_cX9_toCounter_0 1 rfl) (by decide) ?_
  refine va_put (D := G.1) (ci := 11) (v := .int (0)) (ty := .int) (C := RX9) (T := TX9) (N := 9) hx hb hT inX9 tyX9 tyX9_ok nmX9 hown hK hP hD hS 57 (ix_at (lt71 (by omega)) (cX_text G ad S)) rfl 2 (by decide) (hT _ m2_5) (fun _ h9 => h9) rfl (by decide +kernel) rfl rfl (Nat.le_of_ble_eq_true rfl) (fk_get fk_cX9_toCounter_0 2 rfl) (fun H locs hP hD hS => ?_)
  rw [pX_text_2 (S := S) (0)] at hP hD
  have hX_1 : XI (setF S 57 2 (0)) := XI.sF hX _ ⟨by omega, by omega, by omega, by omega, by omega, by omega, by omega, by omega⟩
  have hF_2 : Fr (fun j k => (j = 57 ∧ (k = 2 ∨ k = 3 ∨ k = 4 ∨ k = 7 ∨ k = 8)) ∨ ((j = 59 ∨ j = 60) ∧ k = 99)) S (setF S 57 2 (0)) := Fr.sF (Fr.rf : Fr (fun j k => (j = 57 ∧ (k = 2 ∨ k = 3 ∨ k = 4 ∨ k = 7 ∨ k = 8)) ∨ ((j = 59 ∨ j = 60) ∧ k = 99)) S S) (by omega)
  refine lv_aload_n hx hb (fk_get fk_cX9_toCounter_0 3 rfl) rfl (lv_at hl 0 rfl) ?_
  refine lv_iconst (v := 5) hx hb (fk_get fk_cX9_toCounter_0 4 rfl) (by decide) ?_
  refine va_put (D := G.1) (ci := 11) (v := .int (5)) (ty := .int) (C := RX9) (T := TX9) (N := 9) hx hb hT inX9 tyX9 tyX9_ok nmX9 hown hK hP hD hS 57 (ix_at (lt71 (by omega)) (cX_text G ad (setF S 57 2 (0)))) rfl 3 (by decide) (hT _ m2_7) (fun _ h9 => h9) rfl (by decide +kernel) rfl rfl (Nat.le_of_ble_eq_true rfl) (fk_get fk_cX9_toCounter_0 5 rfl) (fun H locs hP hD hS => ?_)
  rw [pX_text_3 (S := (setF S 57 2 (0))) (5)] at hP hD
  have hX_3 : XI (setF (setF S 57 2 (0)) 57 3 (5)) := XI.sF hX_1 _ ⟨by omega, by omega, by omega, by omega, by omega, by omega, by omega, by omega⟩
  have hF_4 : Fr (fun j k => (j = 57 ∧ (k = 2 ∨ k = 3 ∨ k = 4 ∨ k = 7 ∨ k = 8)) ∨ ((j = 59 ∨ j = 60) ∧ k = 99)) S (setF (setF S 57 2 (0)) 57 3 (5)) := Fr.sF hF_2 (by omega)
  refine lv_aload_n hx hb (fk_get fk_cX9_toCounter_0 6 rfl) rfl (lv_at hl 0 rfl) ?_
  refine lv_iconst (v := 1) hx hb (fk_get fk_cX9_toCounter_0 7 rfl) (by decide) ?_
  refine va_put (D := G.1) (ci := 11) (v := .int (1)) (ty := .int) (C := RX9) (T := TX9) (N := 9) hx hb hT inX9 tyX9 tyX9_ok nmX9 hown hK hP hD hS 57 (ix_at (lt71 (by omega)) (cX_text G ad (setF (setF S 57 2 (0)) 57 3 (5)))) rfl 4 (by decide) (hT _ m2_9) (fun _ h9 => h9) rfl (by decide +kernel) rfl rfl (Nat.le_of_ble_eq_true rfl) (fk_get fk_cX9_toCounter_0 8 rfl) (fun H locs hP hD hS => ?_)
  rw [pX_text_4 (S := (setF (setF S 57 2 (0)) 57 3 (5))) (1)] at hP hD
  have hX_5 : XI (setF (setF (setF S 57 2 (0)) 57 3 (5)) 57 4 (1)) := XI.sF hX_3 _ ⟨by omega, by omega, by omega, by omega, by omega, by omega, by omega, by omega⟩
  have hF_6 : Fr (fun j k => (j = 57 ∧ (k = 2 ∨ k = 3 ∨ k = 4 ∨ k = 7 ∨ k = 8)) ∨ ((j = 59 ∨ j = 60) ∧ k = 99)) S (setF (setF (setF S 57 2 (0)) 57 3 (5)) 57 4 (1)) := Fr.sF hF_4 (by omega)
  refine lv_aload_n hx hb (fk_get fk_cX9_toCounter_0 9 rfl) rfl (lv_at hl 0 rfl) ?_
  refine lv_iconst (v := 0) hx hb (fk_get fk_cX9_toCounter_0 10 rfl) (by decide) ?_
  refine va_put (D := G.1) (ci := 11) (v := .int (0)) (ty := .int) (C := RX9) (T := TX9) (N := 9) hx hb hT inX9 tyX9 tyX9_ok nmX9 hown hK hP hD hS 57 (ix_at (lt71 (by omega)) (cX_text G ad (setF (setF (setF S 57 2 (0)) 57 3 (5)) 57 4 (1)))) rfl 7 (by decide) (hT _ m2_15) (fun _ h9 => h9) rfl (by decide +kernel) rfl rfl (Nat.le_of_ble_eq_true rfl) (fk_get fk_cX9_toCounter_0 11 rfl) (fun H locs hP hD hS => ?_)
  rw [pX_text_7 (S := (setF (setF (setF S 57 2 (0)) 57 3 (5)) 57 4 (1))) (0)] at hP hD
  have hX_7 : XI (setF (setF (setF (setF S 57 2 (0)) 57 3 (5)) 57 4 (1)) 57 7 (0)) := XI.cc (n := 0) hX_5 (by omega)
  have hF_8 : Fr (fun j k => (j = 57 ∧ (k = 2 ∨ k = 3 ∨ k = 4 ∨ k = 7 ∨ k = 8)) ∨ ((j = 59 ∨ j = 60) ∧ k = 99)) S (setF (setF (setF (setF S 57 2 (0)) 57 3 (5)) 57 4 (1)) 57 7 (0)) := Fr.sF hF_6 (by omega)
  refine lv_iconst (v := 0) hx hb (fk_get fk_cX9_toCounter_0 12 rfl) (by decide) ?_
  refine lv_istore_n (lv' := [(1, .int (0)), (0, .ref (ad 57))]) hx hb (fk_get fk_cX9_toCounter_0 13 rfl) rfl hl (by decide) rfl (fun ls hl => ?_)
  have lp_9 : ∀ (fu : Nat) (c : Nat) (SL22 : FS) (H_11 : Heap) (locs_12 : List Loc) (ls : Array Slot),  (XI SL22) → (Fr (fun j k => (j = 57 ∧ (k = 2 ∨ k = 3 ∨ k = 4 ∨ k = 7 ∨ k = 8)) ∨ ((j = 59 ∨ j = 60) ∧ k = 99)) S SL22) → (c ≤ 10) → (10 < c + fu) → va_P G.1 vwCl (wX G ad SL22) H_11 → va_D A (wX G ad SL22) → va_S A s.heap H_11 locs_12 → lv_has ls 3 [(1, .int ((nI c))), (0, .ref (ad 57))] → W p l e ({ frames := 23, cells := 3, slots := 204, locals := 619 } : Room) s m args below meth c₀ H_11 locs_12 0 0 Q (F0 m 22 ls []) := by
    intro fu
    induction fu with
    | zero =>
      intro c SL22 H_11 locs_12 ls hXl22 hFl22 hk hf hP hD hS hl
      exact absurd hf (by omega)
    | succ fu ih =>
      intro c SL22 H_11 locs_12 ls hXl22 hFl22 hk hf hP hD hS hl
      refine lv_iload_n hx hb (fk_get fk_cX9_toCounter_0 14 rfl) rfl (lv_at hl 0 rfl) ?_
      refine lv_bipush (v := 10) hx hb (fk_get fk_cX9_toCounter_0 15 rfl) (by decide) ?_
      refine lv_icmp_ge (tgt := 86) hx hb (fk_get fk_cX9_toCounter_0 16 rfl) (by decide) (fun c_13 => ?_) (fun c_13 => ?_)
      · have q_c_13 : 10 ≤ c := ci_le (a := 10) (b := c) (by omega) (by omega) c_13
        refine lv_null hx hb (fk_get fk_cX9_toCounter_1 14 rfl) ?_
        subst hQ
        have hpost : XI SL22 ∧ Fr (fun j k => (j = 57 ∧ (k = 2 ∨ k = 3 ∨ k = 4 ∨ k = 7 ∨ k = 8)) ∨ ((j = 59 ∨ j = 60) ∧ k = 99)) S SL22 ∧ (∀ j, j < 71 + fC S → ad j = ad j) ∧ ((none : Option Nat) = none ∨ ∃ p, (none : Option Nat) = some (ad p) ∧ COK SL22 p) := by
          exact ⟨hXl22, hFl22, (fun _ _ => rfl), (by first | exact Or.inl rfl | exact Or.inr ⟨_, rfl, by assumption⟩)⟩
        refine W.widen (k := 3) (n := 204) (by omega) (by omega) ?_
        exact W.aret hx hb hr (Or.inl ⟨_, rfl⟩) (Or.inl rfl) (fun t_ ht_ hW_ => ⟨⟨none, (SL22, ad), rfl, hpost, by rw [ht_]; exact hP, va_K.moved hW_.alike hK, hD⟩, hS.F ht_⟩) hS.2.2 (fk_get fk_cX9_toCounter_1 15 rfl)
      have q_c_13 : c < 10 := ci_nle (a := 10) (b := c) (by omega) (by omega) c_13
      refine lv_iload_n hx hb (fk_get fk_cX9_toCounter_0 17 rfl) rfl (lv_at hl 0 rfl) ?_
      refine lv_if_eq (tgt := 41) hx hb (fk_get fk_cX9_toCounter_0 18 rfl) (by decide) (fun c_14 => ?_) (fun c_14 => ?_)
      · refine lv_iconst (v := 1) hx hb (fk_get fk_cX9_toCounter_0 23 rfl) (by decide) ?_
        refine lv_goto (tgt := 46) hx hb (fk_get fk_cX9_toCounter_0 24 rfl) (by decide) ?_
        refine lv_istore_n (lv' := [(2, .int (1)), (1, .int ((nI c))), (0, .ref (ad 57))]) hx hb (fk_get fk_cX9_toCounter_0 26 rfl) rfl hl (by decide) rfl (fun ls hl => ?_)
        refine lv_iload_n hx hb (fk_get fk_cX9_toCounter_0 27 rfl) rfl (lv_at hl 0 rfl) ?_
        refine lv_if_eq (tgt := 58) hx hb (fk_get fk_cX9_toCounter_0 28 rfl) (by decide) (fun c_15 => absurd c_15 ((by decide))) (fun _ => ?_)
        refine lv_aload_n hx hb (fk_get fk_cX9_toCounter_0 29 rfl) rfl (lv_at hl 2 rfl) ?_
        have hFc := va_self hD hS hA
        refine va_calli (va_runV (As := []) (rest := []) ⟨hx, hb, hml, hown, hT⟩ (c_x9_readClause l G ad SL22 H_11.size  (hXl22)) (tV 0 hT m2_221 m2_223 mp_2 m1_12 m2_224 rfl rfl (by decide +kernel) ⟨Nat.le_of_ble_eq_true rfl, Nat.le_of_ble_eq_true rfl⟩) ⟨PcE_blind, va_recv hK hP (ci := 11) (q0 := 57) rfl (ix_at (lt71 (by omega)) (cX_text G ad SL22)), PcE_of hP hK hD hE hS (fun q h => hFc q h) _⟩ rfl rfl hl.1 rfl (lv_room (Nat.le_of_ble_eq_true rfl)) (fk_get fk_cX9_toCounter_0 30 rfl) ⟨Nat.zero_le _, Nat.zero_le _⟩) hS (fun q _ h => hFc q h) hFc (fun r_16 S_18 t_ H locs ht_ hvm_ hw_17 hB_ hz_ hk_ hS => ?_)
        obtain ⟨hP, -, hD1_⟩ := hB_
        rw [ht_] at hP
        have hD : va_D A (wX G ad S_18) := hD1_.weaken (fun k q _ h => hFc q.1 h)
        try dsimp only at hw_17
        obtain ⟨hX_19, hF_20_, hw_17⟩ := hw_17
        have hF_20 : Fr (fun j k => (j = 57 ∧ (k = 2 ∨ k = 3 ∨ k = 4 ∨ k = 7 ∨ k = 8)) ∨ ((j = 59 ∨ j = 60) ∧ k = 99)) S S_18 := Fr.trans hFl22 (Fr.mono hF_20_ (fun j k h => by omega))
        refine lv_if_ne (tgt := 60) hx hb (fk_get fk_cX9_toCounter_0 31 rfl) (by decide) (fun c_21 => ?_) (fun c_21 => ?_)
        · refine lv_aload_n hx hb (fk_get fk_cX9_toCounter_1 2 rfl) rfl (lv_at hl 2 rfl) ?_
          refine va_get (D := G.1) (ci := 11) (v := .int (fF S_18 57 2)) (C := RX9) (T := TX9) (N := 9) hx hb hT inX9 hown hK hP 57 (ix_at (lt71 (by omega)) (cX_text G ad S_18)) rfl 2 (by decide) (hT _ m2_5) (fun _ h9 => h9) rfl (fk_get fk_cX9_toCounter_1 3 rfl) ?_
          refine lv_aload_n hx hb (fk_get fk_cX9_toCounter_1 4 rfl) rfl (lv_at hl 2 rfl) ?_
          refine va_get (D := G.1) (ci := 11) (v := .int (fF S_18 57 1)) (C := RX9) (T := TX9) (N := 9) hx hb hT inX9 hown hK hP 57 (ix_at (lt71 (by omega)) (cX_text G ad S_18)) rfl 1 (by decide) (hT _ m2_3) (fun _ h9 => h9) rfl (fk_get fk_cX9_toCounter_1 5 rfl) ?_
          obtain ⟨n_22, en_22, bn_22⟩ := XI.tlen hX_19
          rw [en_22]
          refine lv_icmp_ne (tgt := 80) hx hb (fk_get fk_cX9_toCounter_1 6 rfl) (by decide) (fun c_23 => ?_) (fun c_23 => ?_)
          · refine lv_iinc (v := (nI (c + 1))) (lv' := [(1, .int ((nI (c + 1)))), (2, .int (1)), (0, .ref (ad 57))]) hx hb (fk_get fk_cX9_toCounter_1 12 rfl) hl (k := 1) rfl ((nI_1 c)) (by decide) rfl (fun ls hl => ?_)
            refine lv_goto (tgt := 22) hx hb (fk_get fk_cX9_toCounter_1 13 rfl) (by decide) ?_
            exact ih (c + 1) (S_18) _ _ ls (hX_19) (hF_20) (by omega) (by omega) hP hD hS (lv_sub hl [0, 2] rfl)
          refine va_new (ci := 3) (C := RX1) (T := TX1) (N := 4) (fs := [.int 0, .int 0, .null, .null]) hx hb hT inX1 tyX1 tyX1_ok hown (hT _ m3_135) (hT _ m1_108) (hT _ m1_10) hK hP hD hS hA rfl (fun j hj => by rcases (show j = 0 ∨ j = 1 ∨ j = 2 ∨ j = 3 by omega) with rfl | rfl | rfl | rfl <;> rfl) (Nat.le_of_ble_eq_true rfl) (Nat.le_of_ble_eq_true rfl) (fk_get fk_cX9_toCounter_1 7 rfl) (fun q_ H hP hD hS => ?_)
          obtain ⟨ad_25, hg_24_, hq_, hPn_, hDn_⟩ := xb 0 0 (fun _ => 0) (fun _ => 0) (fun _ => none) hX_19 (fun _ => rfl) hP hD
          subst hq_
          have hP := hPn_
          have hD := hDn_
          clear hPn_ hDn_
          obtain ⟨S_26, hS_26⟩ : ∃ T, T = gNew S_18 0 0 (fun _ => 0) (fun _ => 0) (fun _ => none) := ⟨_, rfl⟩
          rw [← hS_26] at hP hD
          have hX_27 : XI S_26 := by rw [hS_26]; exact XI.gnew hX_19 (by intro _ k p h; cases h)
          have hF_28_ : Fr (fun j _ => j = 0 ∧ j = 1) S_18 S_26 := by rw [hS_26]; exact gNew_fr
          have hF_28 : Fr (fun j k => (j = 57 ∧ (k = 2 ∨ k = 3 ∨ k = 4 ∨ k = 7 ∨ k = 8)) ∨ ((j = 59 ∨ j = 60) ∧ k = 99)) S S_26 := Fr.trans hF_20 (Fr.mono hF_28_ (fun j k h => by omega))
          have hg_24 : ∀ j, j < 71 + fC S → ad_25 j = ad j := fun j hj => (hg_24_ j (Nat.lt_of_lt_of_le hj (Nat.add_le_add_left (hF_20).1 71))).trans ((fun _ _ => rfl) j hj)
          obtain ⟨p_29, hp_29⟩ : ∃ p, p = 71 + fC S_18 := ⟨_, rfl⟩
          rw [← hp_29]
          have kp_29 : fK S_26 p_29 = 0 := by rw [hS_26, hp_29]; exact gNew_K _ _ _ _ _ _
          have np_29 : fN S_26 p_29 = 0 := by rw [hS_26, hp_29]; exact gNew_N _ _ _ _ _ _
          have rp_29 : fR S_26 p_29 = (fun _ => none) := by rw [hS_26, hp_29]; exact gNew_R _ _ _ _ _ _
          have cp_29 : fC S_26 = fC S_18 + 1 := by rw [hS_26]; rfl
          have lp_29 : p_29 < 71 + fC S_26 := by omega
          have ep_29 : 71 + fC S ≤ p_29 := by have hc_ := (hF_20).1; omega
          have hl : lv_has ls 3 [(2, .int (1)), (1, .int ((nI c))), (0, .ref (ad_25 57))] := by rw [hg_24_ 57 ((lt71 (by omega)))]; exact hl
          have nsp_29 : noSh S_26 p_29 := by rw [hp_29]; exact (noSh.new hX_19).fr hF_28_ (by omega)
          refine lv_dup hx hb (fk_get fk_cX9_toCounter_1 8 rfl) rfl ?_
          refine lv_aload_n hx hb (fk_get fk_cX9_toCounter_1 9 rfl) rfl (lv_at hl 2 rfl) ?_
          have hFc := va_self hD hS hA
          refine va_callv (va_runI (As := [.ref (ad_25 57)]) (rest := [.ref (ad_25 p_29)]) ⟨hx, hb, hml, hown, hT⟩ (c_x1_init_ l G ad_25 S_26 H.size (p_29) ((show 71 ≤ p_29 by omega)) (lp_29) (kp_29) (nsp_29) (hX_27)) (tI 1 hT m3_136 m3_137 m1_10 m3_138 rfl rfl rfl (by decide +kernel) ⟨Nat.le_of_ble_eq_true rfl, Nat.le_of_ble_eq_true rfl⟩) ⟨PcE_blind, PcE_of hP hK hD hE hS (fun q h => hFc q h) _⟩ rfl rfl hl.1 rfl (lv_room (Nat.le_of_ble_eq_true rfl)) (fk_get fk_cX9_toCounter_1 10 rfl) ⟨(by show (0 + 1) + 2 ≤ 3; omega), (by show (0 + 4) + 200 ≤ 204; omega)⟩) hS (fun q _ h => hFc q h) hFc (fun u_ t_ H locs ht_ hvm_ hw_31 hB_ hz_ hk_ hS => ?_)
          obtain ⟨S_32, ad_33⟩ := u_
          dsimp only at hB_ hw_31
          obtain ⟨hP, -, hD1_⟩ := hB_
          rw [ht_] at hP
          have hD : va_D A (wX G ad_33 S_32) := hD1_.weaken (fun k q _ h => hFc q.1 h)
          obtain ⟨hX_34, hF_35_, hg_36_, hw_31⟩ := hw_31
          have hg_36 : ∀ j, j < 71 + fC S → ad_33 j = ad j := fun j hj => (hg_36_ j (Nat.lt_of_lt_of_le hj (Nat.add_le_add_left (hF_28).1 71))).trans (hg_24 j hj)
          have hF_35 : Fr (fun j k => (j = 57 ∧ (k = 2 ∨ k = 3 ∨ k = 4 ∨ k = 7 ∨ k = 8)) ∨ ((j = 59 ∨ j = 60) ∧ k = 99)) S S_32 := Fr.tr hF_28 hF_35_ (fun j k hj h => by have hc_ := (hF_28).1; omega)
          have hl : lv_has ls 3 [(2, .int (1)), (1, .int ((nI c))), (0, .ref (ad_33 57))] := by rw [hg_36_ 57 ((lt71 (by omega)))]; exact hl
          rw [← hg_36_ p_29 lp_29]
          subst hQ
          have hpost : XI S_32 ∧ Fr (fun j k => (j = 57 ∧ (k = 2 ∨ k = 3 ∨ k = 4 ∨ k = 7 ∨ k = 8)) ∨ ((j = 59 ∨ j = 60) ∧ k = 99)) S S_32 ∧ (∀ j, j < 71 + fC S → ad_33 j = ad j) ∧ (((some (ad_33 p_29)) : Option Nat) = none ∨ ∃ p, ((some (ad_33 p_29)) : Option Nat) = some (ad_33 p) ∧ COK S_32 p) := by
            exact ⟨hX_34, hF_35, hg_36, (by first | exact Or.inl rfl | exact Or.inr ⟨_, rfl, by assumption⟩)⟩
          refine W.widen (k := 3) (n := 204) (by omega) (by omega) ?_
          exact W.aret hx hb hr (Or.inl ⟨_, rfl⟩) (Or.inr ⟨_, rfl⟩) (fun t_ ht_ hW_ => ⟨⟨(some (ad_33 p_29)), (S_32, ad_33), rfl, hpost, by rw [ht_]; exact hP, va_K.moved hW_.alike hK, hD⟩, hS.F ht_⟩) hS.2.2 (fk_get fk_cX9_toCounter_1 11 rfl)
        refine lv_null hx hb (fk_get fk_cX9_toCounter_1 0 rfl) ?_
        subst hQ
        have hpost : XI S_18 ∧ Fr (fun j k => (j = 57 ∧ (k = 2 ∨ k = 3 ∨ k = 4 ∨ k = 7 ∨ k = 8)) ∨ ((j = 59 ∨ j = 60) ∧ k = 99)) S S_18 ∧ (∀ j, j < 71 + fC S → ad j = ad j) ∧ ((none : Option Nat) = none ∨ ∃ p, (none : Option Nat) = some (ad p) ∧ COK S_18 p) := by
          exact ⟨hX_19, hF_20, (fun _ _ => rfl), (by first | exact Or.inl rfl | exact Or.inr ⟨_, rfl, by assumption⟩)⟩
        refine W.widen (k := 3) (n := 204) (by omega) (by omega) ?_
        exact W.aret hx hb hr (Or.inl ⟨_, rfl⟩) (Or.inl rfl) (fun t_ ht_ hW_ => ⟨⟨none, (S_18, ad), rfl, hpost, by rw [ht_]; exact hP, va_K.moved hW_.alike hK, hD⟩, hS.F ht_⟩) hS.2.2 (fk_get fk_cX9_toCounter_1 1 rfl)
      refine lv_aload_n hx hb (fk_get fk_cX9_toCounter_0 19 rfl) rfl (lv_at hl 1 rfl) ?_
      refine lv_bipush (v := 59) hx hb (fk_get fk_cX9_toCounter_0 20 rfl) (by decide) ?_
      have hFc := va_self hD hS hA
      refine va_calli (va_runV (As := [.int (59)]) (rest := []) ⟨hx, hb, hml, hown, hT⟩ (c_x9_takes l G ad SL22 H_11.size (59) (hXl22)) (tV 1 hT m2_213 m2_215 mp_0 m1_12 m2_216 rfl rfl (by decide +kernel) ⟨Nat.le_of_ble_eq_true rfl, Nat.le_of_ble_eq_true rfl⟩) ⟨PcW_blind, va_recv hK hP (ci := 11) (q0 := 57) rfl (ix_at (lt71 (by omega)) (cX_text G ad SL22)), PcW_of hP hK hD _⟩ rfl rfl hl.1 rfl (lv_room (Nat.le_of_ble_eq_true rfl)) (fk_get fk_cX9_toCounter_0 21 rfl) ⟨Nat.zero_le _, Nat.zero_le _⟩) hS (fun q _ h => hFc q h) hFc (fun r_37 S_39 t_ H locs ht_ hvm_ hw_38 hB_ hz_ hk_ hS => ?_)
      obtain ⟨hP, -, hD1_⟩ := hB_
      rw [ht_] at hP
      have hD : va_D A (wX G ad S_39) := hD1_.weaken (fun k q _ h => hFc q.1 h)
      try dsimp only at hw_38
      obtain ⟨hX_40, hF_41_, hw_38⟩ := hw_38
      have hF_41 : Fr (fun j k => (j = 57 ∧ (k = 2 ∨ k = 3 ∨ k = 4 ∨ k = 7 ∨ k = 8)) ∨ ((j = 59 ∨ j = 60) ∧ k = 99)) S S_39 := Fr.trans hFl22 (Fr.mono hF_41_ (fun j k h => by omega))
      refine lv_if_eq (tgt := 45) hx hb (fk_get fk_cX9_toCounter_0 22 rfl) (by decide) (fun c_42 => ?_) (fun c_42 => ?_)
      · refine lv_iconst (v := 0) hx hb (fk_get fk_cX9_toCounter_0 25 rfl) (by decide) ?_
        refine lv_istore_n (lv' := [(2, .int (0)), (1, .int ((nI c))), (0, .ref (ad 57))]) hx hb (fk_get fk_cX9_toCounter_0 26 rfl) rfl hl (by decide) rfl (fun ls hl => ?_)
        refine lv_iload_n hx hb (fk_get fk_cX9_toCounter_0 27 rfl) rfl (lv_at hl 0 rfl) ?_
        refine lv_if_eq (tgt := 58) hx hb (fk_get fk_cX9_toCounter_0 28 rfl) (by decide) (fun _ => ?_) (fun c_43 => absurd ((by decide)) c_43)
        refine lv_null hx hb (fk_get fk_cX9_toCounter_1 0 rfl) ?_
        subst hQ
        have hpost : XI S_39 ∧ Fr (fun j k => (j = 57 ∧ (k = 2 ∨ k = 3 ∨ k = 4 ∨ k = 7 ∨ k = 8)) ∨ ((j = 59 ∨ j = 60) ∧ k = 99)) S S_39 ∧ (∀ j, j < 71 + fC S → ad j = ad j) ∧ ((none : Option Nat) = none ∨ ∃ p, (none : Option Nat) = some (ad p) ∧ COK S_39 p) := by
          exact ⟨hX_40, hF_41, (fun _ _ => rfl), (by first | exact Or.inl rfl | exact Or.inr ⟨_, rfl, by assumption⟩)⟩
        refine W.widen (k := 3) (n := 204) (by omega) (by omega) ?_
        exact W.aret hx hb hr (Or.inl ⟨_, rfl⟩) (Or.inl rfl) (fun t_ ht_ hW_ => ⟨⟨none, (S_39, ad), rfl, hpost, by rw [ht_]; exact hP, va_K.moved hW_.alike hK, hD⟩, hS.F ht_⟩) hS.2.2 (fk_get fk_cX9_toCounter_1 1 rfl)
      refine lv_iconst (v := 1) hx hb (fk_get fk_cX9_toCounter_0 23 rfl) (by decide) ?_
      refine lv_goto (tgt := 46) hx hb (fk_get fk_cX9_toCounter_0 24 rfl) (by decide) ?_
      refine lv_istore_n (lv' := [(2, .int (1)), (1, .int ((nI c))), (0, .ref (ad 57))]) hx hb (fk_get fk_cX9_toCounter_0 26 rfl) rfl hl (by decide) rfl (fun ls hl => ?_)
      refine lv_iload_n hx hb (fk_get fk_cX9_toCounter_0 27 rfl) rfl (lv_at hl 0 rfl) ?_
      refine lv_if_eq (tgt := 58) hx hb (fk_get fk_cX9_toCounter_0 28 rfl) (by decide) (fun c_44 => absurd c_44 ((by decide))) (fun _ => ?_)
      refine lv_aload_n hx hb (fk_get fk_cX9_toCounter_0 29 rfl) rfl (lv_at hl 2 rfl) ?_
      have hFc := va_self hD hS hA
      refine va_calli (va_runV (As := []) (rest := []) ⟨hx, hb, hml, hown, hT⟩ (c_x9_readClause l G ad S_39 H.size  (hX_40)) (tV 0 hT m2_221 m2_223 mp_2 m1_12 m2_224 rfl rfl (by decide +kernel) ⟨Nat.le_of_ble_eq_true rfl, Nat.le_of_ble_eq_true rfl⟩) ⟨PcE_blind, va_recv hK hP (ci := 11) (q0 := 57) rfl (ix_at (lt71 (by omega)) (cX_text G ad S_39)), PcE_of hP hK hD hE hS (fun q h => hFc q h) _⟩ rfl rfl hl.1 rfl (lv_room (Nat.le_of_ble_eq_true rfl)) (fk_get fk_cX9_toCounter_0 30 rfl) ⟨Nat.zero_le _, Nat.zero_le _⟩) hS (fun q _ h => hFc q h) hFc (fun r_45 S_47 t_ H locs ht_ hvm_ hw_46 hB_ hz_ hk_ hS => ?_)
      obtain ⟨hP, -, hD1_⟩ := hB_
      rw [ht_] at hP
      have hD : va_D A (wX G ad S_47) := hD1_.weaken (fun k q _ h => hFc q.1 h)
      try dsimp only at hw_46
      obtain ⟨hX_48, hF_49_, hw_46⟩ := hw_46
      have hF_49 : Fr (fun j k => (j = 57 ∧ (k = 2 ∨ k = 3 ∨ k = 4 ∨ k = 7 ∨ k = 8)) ∨ ((j = 59 ∨ j = 60) ∧ k = 99)) S S_47 := Fr.trans hF_41 (Fr.mono hF_49_ (fun j k h => by omega))
      refine lv_if_ne (tgt := 60) hx hb (fk_get fk_cX9_toCounter_0 31 rfl) (by decide) (fun c_50 => ?_) (fun c_50 => ?_)
      · refine lv_aload_n hx hb (fk_get fk_cX9_toCounter_1 2 rfl) rfl (lv_at hl 2 rfl) ?_
        refine va_get (D := G.1) (ci := 11) (v := .int (fF S_47 57 2)) (C := RX9) (T := TX9) (N := 9) hx hb hT inX9 hown hK hP 57 (ix_at (lt71 (by omega)) (cX_text G ad S_47)) rfl 2 (by decide) (hT _ m2_5) (fun _ h9 => h9) rfl (fk_get fk_cX9_toCounter_1 3 rfl) ?_
        refine lv_aload_n hx hb (fk_get fk_cX9_toCounter_1 4 rfl) rfl (lv_at hl 2 rfl) ?_
        refine va_get (D := G.1) (ci := 11) (v := .int (fF S_47 57 1)) (C := RX9) (T := TX9) (N := 9) hx hb hT inX9 hown hK hP 57 (ix_at (lt71 (by omega)) (cX_text G ad S_47)) rfl 1 (by decide) (hT _ m2_3) (fun _ h9 => h9) rfl (fk_get fk_cX9_toCounter_1 5 rfl) ?_
        obtain ⟨n_51, en_51, bn_51⟩ := XI.tlen hX_48
        rw [en_51]
        refine lv_icmp_ne (tgt := 80) hx hb (fk_get fk_cX9_toCounter_1 6 rfl) (by decide) (fun c_52 => ?_) (fun c_52 => ?_)
        · refine lv_iinc (v := (nI (c + 1))) (lv' := [(1, .int ((nI (c + 1)))), (2, .int (1)), (0, .ref (ad 57))]) hx hb (fk_get fk_cX9_toCounter_1 12 rfl) hl (k := 1) rfl ((nI_1 c)) (by decide) rfl (fun ls hl => ?_)
          refine lv_goto (tgt := 22) hx hb (fk_get fk_cX9_toCounter_1 13 rfl) (by decide) ?_
          exact ih (c + 1) (S_47) _ _ ls (hX_48) (hF_49) (by omega) (by omega) hP hD hS (lv_sub hl [0, 2] rfl)
        refine va_new (ci := 3) (C := RX1) (T := TX1) (N := 4) (fs := [.int 0, .int 0, .null, .null]) hx hb hT inX1 tyX1 tyX1_ok hown (hT _ m3_135) (hT _ m1_108) (hT _ m1_10) hK hP hD hS hA rfl (fun j hj => by rcases (show j = 0 ∨ j = 1 ∨ j = 2 ∨ j = 3 by omega) with rfl | rfl | rfl | rfl <;> rfl) (Nat.le_of_ble_eq_true rfl) (Nat.le_of_ble_eq_true rfl) (fk_get fk_cX9_toCounter_1 7 rfl) (fun q_ H hP hD hS => ?_)
        obtain ⟨ad_54, hg_53_, hq_, hPn_, hDn_⟩ := xb 0 0 (fun _ => 0) (fun _ => 0) (fun _ => none) hX_48 (fun _ => rfl) hP hD
        subst hq_
        have hP := hPn_
        have hD := hDn_
        clear hPn_ hDn_
        obtain ⟨S_55, hS_55⟩ : ∃ T, T = gNew S_47 0 0 (fun _ => 0) (fun _ => 0) (fun _ => none) := ⟨_, rfl⟩
        rw [← hS_55] at hP hD
        have hX_56 : XI S_55 := by rw [hS_55]; exact XI.gnew hX_48 (by intro _ k p h; cases h)
        have hF_57_ : Fr (fun j _ => j = 0 ∧ j = 1) S_47 S_55 := by rw [hS_55]; exact gNew_fr
        have hF_57 : Fr (fun j k => (j = 57 ∧ (k = 2 ∨ k = 3 ∨ k = 4 ∨ k = 7 ∨ k = 8)) ∨ ((j = 59 ∨ j = 60) ∧ k = 99)) S S_55 := Fr.trans hF_49 (Fr.mono hF_57_ (fun j k h => by omega))
        have hg_53 : ∀ j, j < 71 + fC S → ad_54 j = ad j := fun j hj => (hg_53_ j (Nat.lt_of_lt_of_le hj (Nat.add_le_add_left (hF_49).1 71))).trans ((fun _ _ => rfl) j hj)
        obtain ⟨p_58, hp_58⟩ : ∃ p, p = 71 + fC S_47 := ⟨_, rfl⟩
        rw [← hp_58]
        have kp_58 : fK S_55 p_58 = 0 := by rw [hS_55, hp_58]; exact gNew_K _ _ _ _ _ _
        have np_58 : fN S_55 p_58 = 0 := by rw [hS_55, hp_58]; exact gNew_N _ _ _ _ _ _
        have rp_58 : fR S_55 p_58 = (fun _ => none) := by rw [hS_55, hp_58]; exact gNew_R _ _ _ _ _ _
        have cp_58 : fC S_55 = fC S_47 + 1 := by rw [hS_55]; rfl
        have lp_58 : p_58 < 71 + fC S_55 := by omega
        have ep_58 : 71 + fC S ≤ p_58 := by have hc_ := (hF_49).1; omega
        have hl : lv_has ls 3 [(2, .int (1)), (1, .int ((nI c))), (0, .ref (ad_54 57))] := by rw [hg_53_ 57 ((lt71 (by omega)))]; exact hl
        have nsp_58 : noSh S_55 p_58 := by rw [hp_58]; exact (noSh.new hX_48).fr hF_57_ (by omega)
        refine lv_dup hx hb (fk_get fk_cX9_toCounter_1 8 rfl) rfl ?_
        refine lv_aload_n hx hb (fk_get fk_cX9_toCounter_1 9 rfl) rfl (lv_at hl 2 rfl) ?_
        have hFc := va_self hD hS hA
        refine va_callv (va_runI (As := [.ref (ad_54 57)]) (rest := [.ref (ad_54 p_58)]) ⟨hx, hb, hml, hown, hT⟩ (c_x1_init_ l G ad_54 S_55 H.size (p_58) ((show 71 ≤ p_58 by omega)) (lp_58) (kp_58) (nsp_58) (hX_56)) (tI 1 hT m3_136 m3_137 m1_10 m3_138 rfl rfl rfl (by decide +kernel) ⟨Nat.le_of_ble_eq_true rfl, Nat.le_of_ble_eq_true rfl⟩) ⟨PcE_blind, PcE_of hP hK hD hE hS (fun q h => hFc q h) _⟩ rfl rfl hl.1 rfl (lv_room (Nat.le_of_ble_eq_true rfl)) (fk_get fk_cX9_toCounter_1 10 rfl) ⟨(by show (0 + 1) + 2 ≤ 3; omega), (by show (0 + 4) + 200 ≤ 204; omega)⟩) hS (fun q _ h => hFc q h) hFc (fun u_ t_ H locs ht_ hvm_ hw_60 hB_ hz_ hk_ hS => ?_)
        obtain ⟨S_61, ad_62⟩ := u_
        dsimp only at hB_ hw_60
        obtain ⟨hP, -, hD1_⟩ := hB_
        rw [ht_] at hP
        have hD : va_D A (wX G ad_62 S_61) := hD1_.weaken (fun k q _ h => hFc q.1 h)
        obtain ⟨hX_63, hF_64_, hg_65_, hw_60⟩ := hw_60
        have hg_65 : ∀ j, j < 71 + fC S → ad_62 j = ad j := fun j hj => (hg_65_ j (Nat.lt_of_lt_of_le hj (Nat.add_le_add_left (hF_57).1 71))).trans (hg_53 j hj)
        have hF_64 : Fr (fun j k => (j = 57 ∧ (k = 2 ∨ k = 3 ∨ k = 4 ∨ k = 7 ∨ k = 8)) ∨ ((j = 59 ∨ j = 60) ∧ k = 99)) S S_61 := Fr.tr hF_57 hF_64_ (fun j k hj h => by have hc_ := (hF_57).1; omega)
        have hl : lv_has ls 3 [(2, .int (1)), (1, .int ((nI c))), (0, .ref (ad_62 57))] := by rw [hg_65_ 57 ((lt71 (by omega)))]; exact hl
        rw [← hg_65_ p_58 lp_58]
        subst hQ
        have hpost : XI S_61 ∧ Fr (fun j k => (j = 57 ∧ (k = 2 ∨ k = 3 ∨ k = 4 ∨ k = 7 ∨ k = 8)) ∨ ((j = 59 ∨ j = 60) ∧ k = 99)) S S_61 ∧ (∀ j, j < 71 + fC S → ad_62 j = ad j) ∧ (((some (ad_62 p_58)) : Option Nat) = none ∨ ∃ p, ((some (ad_62 p_58)) : Option Nat) = some (ad_62 p) ∧ COK S_61 p) := by
          exact ⟨hX_63, hF_64, hg_65, (by first | exact Or.inl rfl | exact Or.inr ⟨_, rfl, by assumption⟩)⟩
        refine W.widen (k := 3) (n := 204) (by omega) (by omega) ?_
        exact W.aret hx hb hr (Or.inl ⟨_, rfl⟩) (Or.inr ⟨_, rfl⟩) (fun t_ ht_ hW_ => ⟨⟨(some (ad_62 p_58)), (S_61, ad_62), rfl, hpost, by rw [ht_]; exact hP, va_K.moved hW_.alike hK, hD⟩, hS.F ht_⟩) hS.2.2 (fk_get fk_cX9_toCounter_1 11 rfl)
      refine lv_null hx hb (fk_get fk_cX9_toCounter_1 0 rfl) ?_
      subst hQ
      have hpost : XI S_47 ∧ Fr (fun j k => (j = 57 ∧ (k = 2 ∨ k = 3 ∨ k = 4 ∨ k = 7 ∨ k = 8)) ∨ ((j = 59 ∨ j = 60) ∧ k = 99)) S S_47 ∧ (∀ j, j < 71 + fC S → ad j = ad j) ∧ ((none : Option Nat) = none ∨ ∃ p, (none : Option Nat) = some (ad p) ∧ COK S_47 p) := by
        exact ⟨hX_48, hF_49, (fun _ _ => rfl), (by first | exact Or.inl rfl | exact Or.inr ⟨_, rfl, by assumption⟩)⟩
      refine W.widen (k := 3) (n := 204) (by omega) (by omega) ?_
      exact W.aret hx hb hr (Or.inl ⟨_, rfl⟩) (Or.inl rfl) (fun t_ ht_ hW_ => ⟨⟨none, (S_47, ad), rfl, hpost, by rw [ht_]; exact hP, va_K.moved hW_.alike hK, hD⟩, hS.F ht_⟩) hS.2.2 (fk_get fk_cX9_toCounter_1 1 rfl)
  exact lp_9 (10 + 1) (0) (setF (setF (setF (setF S 57 2 (0)) 57 3 (5)) 57 4 (1)) 57 7 (0)) _ _ ls (hX_7) (hF_8) (by omega) (by omega) hP hD hS (lv_sub hl [0, 1] rfl)
set_option maxHeartbeats 800000 in
set_option maxRecDepth 100000 in
theorem c_x11_counter (l : Launch) (G : GG) (ad : Nat → Nat) (S : FS) (sz : Nat) (n : Nat) (hn : fF S (9 + 0) 3 = nI n) (hn6 : n ≤ 6) (hX : XI S) : Met l yX11_counter (Cond.code yX11_counter cX11_counter 2 (some .int) :: TBL) ({ frames := 24, cells := 3, slots := 204, locals := 645 } : Room) (PcE G (wX G ad S) sz [.ref (ad 0)]) (va_Qi (fun (r : Int32) (u : FS × (Nat → Nat)) => XI u.1 ∧ Fr (fun j k => (j = 0 ∧ k = 9) ∨ (j = 9 ∧ k = 7) ∨ (j = 57 ∧ (k = 1 ∨ k = 2 ∨ k = 3 ∨ k = 4 ∨ k = 7 ∨ k = 8)) ∨ ((j = 59 ∨ j = 60) ∧ k = 99)) S u.1 ∧ (∀ j, j < 71 + fC S → u.2 j = ad j) ∧ True) (fun u t => BW G (va_A (wX G ad S) sz) (wX G u.2 u.1) t) (va_A (wX G ad S) sz)) 3 204 (va_A (wX G ad S) sz) := by
  refine Met.ofW (cc := cX11_counter) (maxL := 2) (ret := (some .int)) (by decide) rfl ?_
  intro p e s m args below meth c₀ s₁ B hml hv
  obtain ⟨rfl, hsz, hP, hK, hD0, hE⟩ := hv
  have hx := B.exec
  have hb := B.bytes
  have hr := B.returns
  have hT : ∀ w ∈ TBL, w.before ([.ref (ad 0)] : List Value).toArray s = true := fun w h => atoms_spec (ws := Cond.code yX11_counter cX11_counter 2 (some .int) :: TBL) B.pre w (List.mem_cons_of_mem _ h)
  have hown : s.vm.findClass "LittleMore" = some m.cls := findClass_of_methodNamed B.named
  have hlocks := B.notSynchronized
  subst hsz
  have hD := hD0.self (sz := s.heap.size)
  generalize hAe : va_A (wX G ad S) s.heap.size = A at hD hE ⊢
  have hA : ∀ q : Nat, s.heap.size ≤ q → A q := fun q h => by rw [← hAe]; exact Or.inr h
  have hS : va_S A s.heap s.heap [] := va_S.rf
  have hP : va_P G.1 vwCl (wX G ad S) s.heap := hP
  have hl := lv_entry ([.ref (ad 0)]) (n := 2) (Nat.le_of_ble_eq_true rfl)
  rw [lg_entry_eq]
  generalize (lg_sl ([.ref (ad 0)]) ++ List.replicate (2 - (lg_sl ([.ref (ad 0)])).length) Slot.unset).toArray = ls at hl ⊢
  have hl : lv_has ls 2 [(0, .ref (ad 0))] := hl
  refine W_abs (fun Q hQ => ?_)
  generalize ([.ref (ad 0)] : List Value).toArray = args at hT hQ ⊢
  refine lv_aload_n hx hb (fk_get fk_cX11_counter_0 0 rfl) rfl (lv_at hl 0 rfl) ?_
  refine va_get (D := G.1) (ci := 13) (v := .int (fF S 0 9)) (C := RX11) (T := TX11) (N := 11) hx hb hT inX11 hown hK hP 0 (ix_at (lt71 (by omega)) (cX_0 G ad S)) rfl 9 (by decide) (hT _ m2_78) (fun _ h9 => h9) rfl (fk_get fk_cX11_counter_0 1 rfl) ?_
  refine lv_bipush (v := 6) hx hb (fk_get fk_cX11_counter_0 2 rfl) (by decide) ?_
  refine lv_icmp_lt (tgt := 12) hx hb (fk_get fk_cX11_counter_0 3 rfl) (by decide) (fun c_1 => ?_) (fun c_1 => ?_)
  · refine lv_aload_n hx hb (fk_get fk_cX11_counter_0 6 rfl) rfl (lv_at hl 0 rfl) ?_
    refine va_get (D := G.1) (ci := 13) (v := .ref (ad 57)) (C := RX11) (T := TX11) (N := 11) hx hb hT inX11 hown hK hP 0 (ix_at (lt71 (by omega)) (cX_0 G ad S)) rfl 4 (by decide) (hT _ m2_73) (fun _ h9 => h9) rfl (fk_get fk_cX11_counter_0 7 rfl) ?_
    have hFc := va_self hD hS hA
    refine va_callq (va_runV (As := []) (rest := []) ⟨hx, hb, hml, hown, hT⟩ (c_x9_toCounter l G ad S s.heap.size  (hX)) (tV 0 hT m2_209 m2_210 m2_211 m1_12 m2_212 rfl rfl (by decide +kernel) ⟨Nat.le_of_ble_eq_true rfl, Nat.le_of_ble_eq_true rfl⟩) ⟨PcE_blind, va_recv hK hP (ci := 11) (q0 := 57) rfl (ix_at (lt71 (by omega)) (cX_text G ad S)), PcE_of hP hK hD hE hS (fun q h => hFc q h) _⟩ rfl rfl hl.1 rfl (lv_room (Nat.le_of_ble_eq_true rfl)) (fk_get fk_cX11_counter_0 8 rfl) ⟨Nat.le_of_ble_eq_true rfl, Nat.le_of_ble_eq_true rfl⟩) hS (fun q _ h => hFc q h) hFc (fun r_2 u_ t_ H locs ht_ hvm_ hw_3 hB_ hz_ hk_ hS => ?_)
    obtain ⟨S_4, ad_5⟩ := u_
    dsimp only at hB_ hw_3
    obtain ⟨hP, -, hD1_⟩ := hB_
    rw [ht_] at hP
    have hD : va_D A (wX G ad_5 S_4) := hD1_.weaken (fun k q _ h => hFc q.1 h)
    obtain ⟨hX_6, hF_7_, hg_8_, hw_3⟩ := hw_3
    have hg_8 : ∀ j, j < 71 + fC S → ad_5 j = ad j := fun j hj => (hg_8_ j (Nat.lt_of_lt_of_le hj (Nat.add_le_add_left ((Fr.rf : Fr (fun j k => (j = 0 ∧ k = 9) ∨ (j = 9 ∧ k = 7) ∨ (j = 57 ∧ (k = 1 ∨ k = 2 ∨ k = 3 ∨ k = 4 ∨ k = 7 ∨ k = 8)) ∨ ((j = 59 ∨ j = 60) ∧ k = 99)) S S)).1 71))).trans ((fun _ _ => rfl) j hj)
    have hF_7 : Fr (fun j k => (j = 0 ∧ k = 9) ∨ (j = 9 ∧ k = 7) ∨ (j = 57 ∧ (k = 1 ∨ k = 2 ∨ k = 3 ∨ k = 4 ∨ k = 7 ∨ k = 8)) ∨ ((j = 59 ∨ j = 60) ∧ k = 99)) S S_4 := Fr.tr (Fr.rf : Fr (fun j k => (j = 0 ∧ k = 9) ∨ (j = 9 ∧ k = 7) ∨ (j = 57 ∧ (k = 1 ∨ k = 2 ∨ k = 3 ∨ k = 4 ∨ k = 7 ∨ k = 8)) ∨ ((j = 59 ∨ j = 60) ∧ k = 99)) S S) hF_7_ (fun j k hj h => by have hc_ := ((Fr.rf : Fr (fun j k => (j = 0 ∧ k = 9) ∨ (j = 9 ∧ k = 7) ∨ (j = 57 ∧ (k = 1 ∨ k = 2 ∨ k = 3 ∨ k = 4 ∨ k = 7 ∨ k = 8)) ∨ ((j = 59 ∨ j = 60) ∧ k = 99)) S S)).1; omega)
    have hl : lv_has ls 2 [(0, .ref (ad_5 0))] := by rw [hg_8_ 0 ((lt71 (by omega)))]; exact hl
    rcases hw_3 with rfl | ⟨pc_16, rfl, cd_16⟩
    · rw [show va_rf none = .null from rfl]
      refine lv_astore_nN (lv' := [(1, .null), (0, .ref (ad_5 0))]) hx hb (fk_get fk_cX11_counter_0 9 rfl) rfl hl (by decide) rfl (fun ls hl => ?_)
      refine lv_aload_n hx hb (fk_get fk_cX11_counter_0 10 rfl) rfl (lv_at hl 1 rfl) ?_
      refine va_get (D := G.1) (ci := 13) (v := .ref (ad_5 57)) (C := RX11) (T := TX11) (N := 11) hx hb hT inX11 hown hK hP 0 (ix_at (lt71 (by omega)) (cX_0 G ad_5 S_4)) rfl 4 (by decide) (hT _ m2_73) (fun _ h9 => h9) rfl (fk_get fk_cX11_counter_0 11 rfl) ?_
      refine lv_iconst (v := 0) hx hb (fk_get fk_cX11_counter_0 12 rfl) (by decide) ?_
      refine va_put (D := G.1) (ci := 11) (v := .int (0)) (ty := .int) (C := RX9) (T := TX9) (N := 9) hx hb hT inX9 tyX9 tyX9_ok nmX9 hown hK hP hD hS 57 (ix_at (lt71 (by omega)) (cX_text G ad_5 S_4)) rfl 1 (by decide) (hT _ m2_4) (fun _ h9 => h9) rfl (by decide +kernel) rfl rfl (Nat.le_of_ble_eq_true rfl) (fk_get fk_cX11_counter_0 13 rfl) (fun H locs hP hD hS => ?_)
      rw [pX_text_1 (S := S_4) (0)] at hP hD
      have hX_9 : XI (setF S_4 57 1 (0)) := XI.tl (n := 0) hX_6 (by omega)
      have hF_10 : Fr (fun j k => (j = 0 ∧ k = 9) ∨ (j = 9 ∧ k = 7) ∨ (j = 57 ∧ (k = 1 ∨ k = 2 ∨ k = 3 ∨ k = 4 ∨ k = 7 ∨ k = 8)) ∨ ((j = 59 ∨ j = 60) ∧ k = 99)) S (setF S_4 57 1 (0)) := Fr.sF hF_7 (by omega)
      refine lv_aload_nN hx hb (fk_get fk_cX11_counter_0 14 rfl) rfl (lv_at hl 0 rfl) ?_
      refine lv_ifnonnullN hx hb (fk_get fk_cX11_counter_0 15 rfl) ?_
      refine lv_bipush (v := (-10)) hx hb (fk_get fk_cX11_counter_0 16 rfl) (by decide) ?_
      refine lv_aload_n hx hb (fk_get fk_cX11_counter_0 17 rfl) rfl (lv_at hl 1 rfl) ?_
      refine va_get (D := G.1) (ci := 13) (v := .ref (ad_5 57)) (C := RX11) (T := TX11) (N := 11) hx hb hT inX11 hown hK hP 0 (ix_at (lt71 (by omega)) (cX_0 G ad_5 (setF S_4 57 1 (0)))) rfl 4 (by decide) (hT _ m2_73) (fun _ h9 => h9) rfl (fk_get fk_cX11_counter_0 18 rfl) ?_
      refine va_get (D := G.1) (ci := 11) (v := .int (fF (setF S_4 57 1 (0)) 57 2)) (C := RX9) (T := TX9) (N := 9) hx hb hT inX9 hown hK hP 57 (ix_at (lt71 (by omega)) (cX_text G ad_5 (setF S_4 57 1 (0)))) rfl 2 (by decide) (hT _ m2_6) (fun _ h9 => h9) rfl (fk_get fk_cX11_counter_0 19 rfl) ?_
      rw [show fF (setF S_4 57 1 (0)) 57 2 = (fF S_4 57 2) from by simp [fF_setF, fF_setR, fF_setA, fF_setL]]
      refine lv_isub hx hb (fk_get fk_cX11_counter_0 20 rfl) ?_
      subst hQ
      have hpost : XI (setF S_4 57 1 (0)) ∧ Fr (fun j k => (j = 0 ∧ k = 9) ∨ (j = 9 ∧ k = 7) ∨ (j = 57 ∧ (k = 1 ∨ k = 2 ∨ k = 3 ∨ k = 4 ∨ k = 7 ∨ k = 8)) ∨ ((j = 59 ∨ j = 60) ∧ k = 99)) S (setF S_4 57 1 (0)) ∧ (∀ j, j < 71 + fC S → ad_5 j = ad j) ∧ True := by
        exact ⟨hX_9, hF_10, hg_8, trivial⟩
      refine W.widen (k := 3) (n := 204) (by omega) (by omega) ?_
      exact W.iret (v := ((-10) - (fF S_4 57 2))) hx hb hr (fun t_ ht_ hW_ => ⟨⟨((-10) - (fF S_4 57 2)), ((setF S_4 57 1 (0)), ad_5), rfl, hpost, by rw [ht_]; exact hP, va_K.moved hW_.alike hK, hD⟩, hS.F ht_⟩) hS.2.2 (fk_get fk_cX11_counter_0 21 rfl)
    rw [show va_rf (some (ad_5 pc_16)) = .ref (ad_5 pc_16) from rfl]
    refine lv_astore_n (lv' := [(1, .ref (ad_5 pc_16)), (0, .ref (ad_5 0))]) hx hb (fk_get fk_cX11_counter_0 9 rfl) rfl hl (by decide) rfl (fun ls hl => ?_)
    refine lv_aload_n hx hb (fk_get fk_cX11_counter_0 10 rfl) rfl (lv_at hl 1 rfl) ?_
    refine va_get (D := G.1) (ci := 13) (v := .ref (ad_5 57)) (C := RX11) (T := TX11) (N := 11) hx hb hT inX11 hown hK hP 0 (ix_at (lt71 (by omega)) (cX_0 G ad_5 S_4)) rfl 4 (by decide) (hT _ m2_73) (fun _ h9 => h9) rfl (fk_get fk_cX11_counter_0 11 rfl) ?_
    refine lv_iconst (v := 0) hx hb (fk_get fk_cX11_counter_0 12 rfl) (by decide) ?_
    refine va_put (D := G.1) (ci := 11) (v := .int (0)) (ty := .int) (C := RX9) (T := TX9) (N := 9) hx hb hT inX9 tyX9 tyX9_ok nmX9 hown hK hP hD hS 57 (ix_at (lt71 (by omega)) (cX_text G ad_5 S_4)) rfl 1 (by decide) (hT _ m2_4) (fun _ h9 => h9) rfl (by decide +kernel) rfl rfl (Nat.le_of_ble_eq_true rfl) (fk_get fk_cX11_counter_0 13 rfl) (fun H locs hP hD hS => ?_)
    rw [pX_text_1 (S := S_4) (0)] at hP hD
    have hX_11 : XI (setF S_4 57 1 (0)) := XI.tl (n := 0) hX_6 (by omega)
    have hF_12 : Fr (fun j k => (j = 0 ∧ k = 9) ∨ (j = 9 ∧ k = 7) ∨ (j = 57 ∧ (k = 1 ∨ k = 2 ∨ k = 3 ∨ k = 4 ∨ k = 7 ∨ k = 8)) ∨ ((j = 59 ∨ j = 60) ∧ k = 99)) S (setF S_4 57 1 (0)) := Fr.sF hF_7 (by omega)
    refine lv_aload_n hx hb (fk_get fk_cX11_counter_0 14 rfl) rfl (lv_at hl 0 rfl) ?_
    refine lv_ifnonnull (tgt := 43) hx hb (fk_get fk_cX11_counter_0 15 rfl) (by decide) ?_
    refine lv_aload_n hx hb (fk_get fk_cX11_counter_0 22 rfl) rfl (lv_at hl 1 rfl) ?_
    refine va_get (D := G.1) (ci := 13) (v := .ref (ad_5 (9 + 0))) (C := RX11) (T := TX11) (N := 11) hx hb hT inX11 hown hK hP 0 (ix_at (lt71 (by omega)) (cX_0 G ad_5 (setF S_4 57 1 (0)))) rfl 1 (by decide) (hT _ m2_70) (fun _ h9 => h9) rfl (fk_get fk_cX11_counter_0 23 rfl) ?_
    refine lv_aload_n hx hb (fk_get fk_cX11_counter_0 24 rfl) rfl (lv_at hl 0 rfl) ?_
    refine va_put (D := G.1) (ci := 9) (v := .ref (ad_5 pc_16)) (ty := (.object "LittleMore$Counter")) (C := RX7) (T := TX7) (N := 8) hx hb hT inX7 tyX7 tyX7_ok nmX7 hown hK hP hD hS (9 + 0) (ix_at (lt71 (by omega)) (cX_shop (pk_shop (by decide : 0 < 3)))) rfl 7 (by decide) (hT _ m1_217) (fun _ h9 => h9) rfl (by decide +kernel) rfl rfl (Nat.le_of_ble_eq_true rfl) (fk_get fk_cX11_counter_0 25 rfl) (fun H locs hP hD hS => ?_)
    rw [pX_shop_7 (S := (setF S_4 57 1 (0))) (lt71 (by omega)) (pk_shop (by decide : 0 < 3)) (pc_16)] at hP hD
    have hX_13 : XI (setR (setF S_4 57 1 (0)) (9 + 0) 7 (some (pc_16))) := XI.ct hX_11 (by decide : 0 < 3) cd_16
    have hF_14 : Fr (fun j k => (j = 0 ∧ k = 9) ∨ (j = 9 ∧ k = 7) ∨ (j = 57 ∧ (k = 1 ∨ k = 2 ∨ k = 3 ∨ k = 4 ∨ k = 7 ∨ k = 8)) ∨ ((j = 59 ∨ j = 60) ∧ k = 99)) S (setR (setF S_4 57 1 (0)) (9 + 0) 7 (some (pc_16))) := Fr.sR hF_12 (by omega)
    refine lv_aload_n hx hb (fk_get fk_cX11_counter_0 26 rfl) rfl (lv_at hl 1 rfl) ?_
    refine lv_dup hx hb (fk_get fk_cX11_counter_0 27 rfl) rfl ?_
    refine va_get (D := G.1) (ci := 13) (v := .int (fF (setR (setF S_4 57 1 (0)) (9 + 0) 7 (some (pc_16))) 0 9)) (C := RX11) (T := TX11) (N := 11) hx hb hT inX11 hown hK hP 0 (ix_at (lt71 (by omega)) (cX_0 G ad_5 (setR (setF S_4 57 1 (0)) (9 + 0) 7 (some (pc_16))))) rfl 9 (by decide) (hT _ m2_78) (fun _ h9 => h9) rfl (fk_get fk_cX11_counter_0 28 rfl) ?_
    rw [show fF (setR (setF S_4 57 1 (0)) (9 + 0) 7 (some (pc_16))) 0 9 = (fF S_4 0 9) from by simp [fF_setF, fF_setR, fF_setA, fF_setL]]
    refine lv_iconst (v := 1) hx hb (fk_get fk_cX11_counter_0 29 rfl) (by decide) ?_
    refine lv_iadd hx hb (fk_get fk_cX11_counter_0 30 rfl) ?_
    refine va_put (D := G.1) (ci := 13) (v := .int (((fF S_4 0 9) + 1))) (ty := .int) (C := RX11) (T := TX11) (N := 11) hx hb hT inX11 tyX11 tyX11_ok nmX11 hown hK hP hD hS 0 (ix_at (lt71 (by omega)) (cX_0 G ad_5 (setR (setF S_4 57 1 (0)) (9 + 0) 7 (some (pc_16))))) rfl 9 (by decide) (hT _ m2_78) (fun _ h9 => h9) rfl (by decide +kernel) rfl rfl (Nat.le_of_ble_eq_true rfl) (fk_get fk_cX11_counter_0 31 rfl) (fun H locs hP hD hS => ?_)
    rw [pX_main_9 (S := (setR (setF S_4 57 1 (0)) (9 + 0) 7 (some (pc_16)))) (((fF S_4 0 9) + 1))] at hP hD
    have hX_15 : XI (setF (setR (setF S_4 57 1 (0)) (9 + 0) 7 (some (pc_16))) 0 9 (((fF S_4 0 9) + 1))) := XI.sF hX_13 _ ⟨by omega, by omega, by omega, by omega, by omega, by omega, by omega, by omega⟩
    have hF_16 : Fr (fun j k => (j = 0 ∧ k = 9) ∨ (j = 9 ∧ k = 7) ∨ (j = 57 ∧ (k = 1 ∨ k = 2 ∨ k = 3 ∨ k = 4 ∨ k = 7 ∨ k = 8)) ∨ ((j = 59 ∨ j = 60) ∧ k = 99)) S (setF (setR (setF S_4 57 1 (0)) (9 + 0) 7 (some (pc_16))) 0 9 (((fF S_4 0 9) + 1))) := Fr.sF hF_14 (by omega)
    refine lv_aload_n hx hb (fk_get fk_cX11_counter_1 0 rfl) rfl (lv_at hl 1 rfl) ?_
    refine va_get (D := G.1) (ci := 13) (v := .int (fF (setF (setR (setF S_4 57 1 (0)) (9 + 0) 7 (some (pc_16))) 0 9 (((fF S_4 0 9) + 1))) 0 9)) (C := RX11) (T := TX11) (N := 11) hx hb hT inX11 hown hK hP 0 (ix_at (lt71 (by omega)) (cX_0 G ad_5 (setF (setR (setF S_4 57 1 (0)) (9 + 0) 7 (some (pc_16))) 0 9 (((fF S_4 0 9) + 1))))) rfl 9 (by decide) (hT _ m2_78) (fun _ h9 => h9) rfl (fk_get fk_cX11_counter_1 1 rfl) ?_
    rw [show fF (setF (setR (setF S_4 57 1 (0)) (9 + 0) 7 (some (pc_16))) 0 9 (((fF S_4 0 9) + 1))) 0 9 = ((fF S_4 0 9) + 1) from by simp [fF_setF, fF_setR, fF_setA, fF_setL]]
    refine lv_iconst (v := 1) hx hb (fk_get fk_cX11_counter_1 2 rfl) (by decide) ?_
    refine lv_isub hx hb (fk_get fk_cX11_counter_1 3 rfl) ?_
    subst hQ
    have hpost : XI (setF (setR (setF S_4 57 1 (0)) (9 + 0) 7 (some (pc_16))) 0 9 (((fF S_4 0 9) + 1))) ∧ Fr (fun j k => (j = 0 ∧ k = 9) ∨ (j = 9 ∧ k = 7) ∨ (j = 57 ∧ (k = 1 ∨ k = 2 ∨ k = 3 ∨ k = 4 ∨ k = 7 ∨ k = 8)) ∨ ((j = 59 ∨ j = 60) ∧ k = 99)) S (setF (setR (setF S_4 57 1 (0)) (9 + 0) 7 (some (pc_16))) 0 9 (((fF S_4 0 9) + 1))) ∧ (∀ j, j < 71 + fC S → ad_5 j = ad j) ∧ True := by
      exact ⟨hX_15, hF_16, hg_8, trivial⟩
    refine W.widen (k := 3) (n := 204) (by omega) (by omega) ?_
    exact W.iret (v := (((fF S_4 0 9) + 1) - 1)) hx hb hr (fun t_ ht_ hW_ => ⟨⟨(((fF S_4 0 9) + 1) - 1), ((setF (setR (setF S_4 57 1 (0)) (9 + 0) 7 (some (pc_16))) 0 9 (((fF S_4 0 9) + 1))), ad_5), rfl, hpost, by rw [ht_]; exact hP, va_K.moved hW_.alike hK, hD⟩, hS.F ht_⟩) hS.2.2 (fk_get fk_cX11_counter_1 4 rfl)
  refine lv_bipush (v := (-4)) hx hb (fk_get fk_cX11_counter_0 4 rfl) (by decide) ?_
  subst hQ
  have hpost : XI S ∧ Fr (fun j k => (j = 0 ∧ k = 9) ∨ (j = 9 ∧ k = 7) ∨ (j = 57 ∧ (k = 1 ∨ k = 2 ∨ k = 3 ∨ k = 4 ∨ k = 7 ∨ k = 8)) ∨ ((j = 59 ∨ j = 60) ∧ k = 99)) S S ∧ (∀ j, j < 71 + fC S → ad j = ad j) ∧ True := by
    exact ⟨hX, (Fr.rf : Fr (fun j k => (j = 0 ∧ k = 9) ∨ (j = 9 ∧ k = 7) ∨ (j = 57 ∧ (k = 1 ∨ k = 2 ∨ k = 3 ∨ k = 4 ∨ k = 7 ∨ k = 8)) ∨ ((j = 59 ∨ j = 60) ∧ k = 99)) S S), (fun _ _ => rfl), trivial⟩
  refine W.widen (k := 3) (n := 204) (by omega) (by omega) ?_
  exact W.iret (v := (-4)) hx hb hr (fun t_ ht_ hW_ => ⟨⟨(-4), (S, ad), rfl, hpost, by rw [ht_]; exact hP, va_K.moved hW_.alike hK, hD⟩, hS.F ht_⟩) hS.2.2 (fk_get fk_cX11_counter_0 5 rfl)
