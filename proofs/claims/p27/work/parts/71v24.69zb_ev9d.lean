set_option maxHeartbeats 800000 in
set_option maxRecDepth 100000 in
theorem c_x11_whoX (l : Launch) (G : GG) (ad : Nat → Nat) (S : FS) (sz : Nat) (n pz : Nat) (K : Nat → Nat) (τ : Nat → Int32) (C : Cls) (zs : Nat) (hn : fF S (9 + 0) 3 = nI n) (hn6 : n ≤ 6) (hcf : CuF S 0 n pz τ C K) (hgc : ∀ d, d < n → GC 9999 (gX S (21 + 6 * 0 + d) (K d))) (h99 : N99 C) (hz : fF S (9 + 0) 4 = nI zs) (hz4 : zs ≤ 4) (hX : XI S) : Met l yX11_who (Cond.code yX11_who cX11_who 4 (some .int) :: TBL) ({ frames := 7, cells := 0, slots := 0, locals := 200 } : Room) (PcW G (wX G ad S) sz [.ref (ad 0)]) (va_Qi (fun (r : Int32) (S' : FS) => XI S' ∧ Fr (fun j k => (j = 11 ∧ 3 ≤ k ∧ k ≤ 7) ∨ (33 ≤ j ∧ j < 39 ∧ 2 ≤ k ∧ k ≤ 9) ∨ (51 ≤ j ∧ j < 57 ∧ k = 99) ∨ ((j = 17 ∨ j = 20) ∧ k = 99)) S S' ∧ (r = whoP (fF S (9 + 0) 6) (lstW 3 1 C) τ C n (fun d => gX S (21 + 6 * 0 + d) (K d)) (fA S (9 + 0 + 6)) zs)) (fun S' t => BW G (va_A (wX G ad S) sz) (wX G ad S') t) (va_A (wX G ad S) sz)) 0 0 (va_A (wX G ad S) sz) := by
  refine Met.ofW (cc := cX11_who) (maxL := 4) (ret := (some .int)) (by decide) rfl ?_
  intro p e s m args below meth c₀ s₁ B hml hv
  obtain ⟨rfl, hsz, hP, hK, hD0⟩ := hv
  have hx := B.exec
  have hb := B.bytes
  have hr := B.returns
  have hT : ∀ w ∈ TBL, w.before ([.ref (ad 0)] : List Value).toArray s = true := fun w h => atoms_spec (ws := Cond.code yX11_who cX11_who 4 (some .int) :: TBL) B.pre w (List.mem_cons_of_mem _ h)
  have hown : s.vm.findClass "LittleMore" = some m.cls := findClass_of_methodNamed B.named
  have hlocks := B.notSynchronized
  subst hsz
  have hD := hD0.self (sz := s.heap.size)
  generalize hAe : va_A (wX G ad S) s.heap.size = A at hD ⊢
  have hA : ∀ q : Nat, s.heap.size ≤ q → A q := fun q h => by rw [← hAe]; exact Or.inr h
  have hS : va_S A s.heap s.heap [] := va_S.rf
  have hP : va_P G.1 vwCl (wX G ad S) s.heap := hP
  have hl := lv_entry ([.ref (ad 0)]) (n := 4) (Nat.le_of_ble_eq_true rfl)
  rw [lg_entry_eq]
  generalize (lg_sl ([.ref (ad 0)]) ++ List.replicate (4 - (lg_sl ([.ref (ad 0)])).length) Slot.unset).toArray = ls at hl ⊢
  have hl : lv_has ls 4 [(0, .ref (ad 0))] := hl
  refine W_abs (fun Q hQ => ?_)
  generalize ([.ref (ad 0)] : List Value).toArray = args at hT hQ ⊢
  obtain ⟨-, hpz0, hcok0, hctx0, hsay0⟩ := id hcf
  obtain ⟨lz, hlz, hln⟩ := lst_99 (k := 3) C 1 ⟨1, by omega, rfl⟩ h99.2
  refine lv_aload_n hx hb (fk_get fk_cX11_who_0 0 rfl) rfl (lv_at hl 0 rfl) ?_
  have hFc := va_self hD hS hA
  refine va_callr (va_runV (As := []) (rest := []) ⟨hx, hb, hml, hown, hT⟩ (c_x11_shopToTryX l G ad S s.heap.size (n) (hn) (hn6) (hX)) (tV 0 hT m3_211 m3_213 mp_11 m1_1 m3_214 rfl rfl (by decide +kernel) ⟨Nat.le_of_ble_eq_true rfl, Nat.le_of_ble_eq_true rfl⟩) ⟨PcW_blind, va_recv hK hP (ci := 13) (q0 := 0) rfl (ix_at (lt71 (by omega)) (cX_0 G ad S)), PcW_of hP hK hD _⟩ rfl rfl hl.1 rfl (lv_room (Nat.le_of_ble_eq_true rfl)) (fk_get fk_cX11_who_0 1 rfl) ⟨Nat.zero_le _, Nat.zero_le _⟩) hS (fun q _ h => hFc q h) hFc (fun S_3 r_1 t_ H locs ht_ hvm_ hw_2 hB_ hz_ hk_ hS => ?_)
  obtain ⟨hra_, hB_⟩ := hB_
  subst hra_
  obtain ⟨hP, -, hD1_⟩ := hB_
  rw [ht_] at hP
  have hD : va_D A (wX G ad S_3) := hD1_.weaken (fun k q _ h => hFc q.1 h)
  try dsimp only at hw_2
  obtain ⟨hX_4, hF_5_, hw_2⟩ := hw_2
  have hF_5 : Fr (fun j k => (j = 11 ∧ 3 ≤ k ∧ k ≤ 7) ∨ (33 ≤ j ∧ j < 39 ∧ 2 ≤ k ∧ k ≤ 9) ∨ (51 ≤ j ∧ j < 57 ∧ k = 99) ∨ ((j = 17 ∨ j = 20) ∧ k = 99)) S S_3 := Fr.trans (Fr.rf : Fr (fun j k => (j = 11 ∧ 3 ≤ k ∧ k ≤ 7) ∨ (33 ≤ j ∧ j < 39 ∧ 2 ≤ k ∧ k ≤ 9) ∨ (51 ≤ j ∧ j < 57 ∧ k = 99) ∨ ((j = 17 ∨ j = 20) ∧ k = 99)) S S) (Fr.mono hF_5_ (fun j k h => by omega))
  obtain ⟨hbe_, hrr_⟩ := hw_2
  obtain ⟨hcf2_, hgx2_, hbf_, hsn2_⟩ := try_of hbe_ hrr_ hF_5_ hcf hn6
  have hn2_ : fF S_3 (9 + 2) 3 = nI n := (hbf_ 3 (by omega) (by omega)).trans hn
  have hpz2_ : fR S_3 (9 + 2) 7 = some pz := hcf2_.2.1
  have hcok2_ : COK S_3 pz := hcf2_.2.2.1
  have hof2_ : fF S_3 (9 + 2) 6 = fF S (9 + 0) 6 := hbf_ 6 (by omega) (by omega)
  have hgc2_ : ∀ d, d < n → GC 9999 (gX S_3 (21 + 6 * 2 + d) (K d)) := fun d hd => by rw [hgx2_ d hd]; exact hgc d hd
  refine lv_astore_n (lv' := [(1, .ref (ad (9 + 2))), (0, .ref (ad 0))]) hx hb (fk_get fk_cX11_who_0 2 rfl) rfl hl (by decide) rfl (fun ls hl => ?_)
  refine lv_iconst (v := 0) hx hb (fk_get fk_cX11_who_0 3 rfl) (by decide) ?_
  refine lv_istore_n (lv' := [(2, .int (0)), (1, .ref (ad (9 + 2))), (0, .ref (ad 0))]) hx hb (fk_get fk_cX11_who_0 4 rfl) rfl hl (by decide) rfl (fun ls hl => ?_)
  refine lv_iconst (v := 0) hx hb (fk_get fk_cX11_who_0 5 rfl) (by decide) ?_
  refine lv_istore_n (lv' := [(3, .int (0)), (2, .int (0)), (1, .ref (ad (9 + 2))), (0, .ref (ad 0))]) hx hb (fk_get fk_cX11_who_0 6 rfl) rfl hl (by decide) rfl (fun ls hl => ?_)
  have lp_6 : ∀ (fu : Nat) (c : Nat) (v2 : Int32) (SL9 : FS) (H_8 : Heap) (locs_9 : List Loc) (ls : Array Slot),  (XI SL9) → (Fr (fun j k => (j = 11 ∧ 3 ≤ k ∧ k ≤ 7) ∨ (33 ≤ j ∧ j < 39 ∧ 2 ≤ k ∧ k ≤ 9) ∨ (51 ≤ j ∧ j < 57 ∧ k = 99) ∨ ((j = 17 ∨ j = 20) ∧ k = 99)) S SL9) → (c ≤ n) → (n < c + fu) → (fF SL9 (9 + 2) 3 = nI n) → (CuF SL9 2 n pz τ C K) → (fF SL9 (9 + 2) 6 = (fF S (9 + 0) 6)) → (fF SL9 (9 + 2) 4 = nI zs) → (∀ k, k < 4 → fA SL9 (9 + 2 + 6) k = fA S (9 + 0 + 6) k) → (∀ d, c ≤ d → d < n → gX SL9 (21 + 6 * 2 + d) (K d) = gX S (21 + 6 * 0 + d) (K d)) → (v2 = nI (whN (fun d => csN (fF S (9 + 0) 6) (lstW 3 1 C) τ C (nI d) (fA S (9 + 0 + 6)) zs 0 ((fun d => gX S (21 + 6 * 0 + d) (K d)) d)) c)) → va_P G.1 vwCl (wX G ad SL9) H_8 → va_D A (wX G ad SL9) → va_S A s.heap H_8 locs_9 → lv_has ls 4 [(3, .int ((nI c))), (2, .int (v2)), (1, .ref (ad (9 + 2))), (0, .ref (ad 0))] → W p l e ({ frames := 7, cells := 0, slots := 0, locals := 200 } : Room) s m args below meth c₀ H_8 locs_9 0 0 Q (F0 m 9 ls []) := by
    intro fu
    induction fu with
    | zero =>
      intro c v2 SL9 H_8 locs_9 ls hXl9 hFl9 hk hf hnL hcfL hofL hzL hsnL hgxL hW_ hP hD hS hl
      exact absurd hf (by omega)
    | succ fu ih =>
      intro c v2 SL9 H_8 locs_9 ls hXl9 hFl9 hk hf hnL hcfL hofL hzL hsnL hgxL hW_ hP hD hS hl
      refine lv_iload_n hx hb (fk_get fk_cX11_who_0 7 rfl) rfl (lv_at hl 0 rfl) ?_
      refine lv_aload_n hx hb (fk_get fk_cX11_who_0 8 rfl) rfl (lv_at hl 2 rfl) ?_
      refine va_get (D := G.1) (ci := 9) (v := .int (fF SL9 (9 + 2) 3)) (C := RX7) (T := TX7) (N := 8) hx hb hT inX7 hown hK hP (9 + 2) (ix_at (lt71 (by omega)) (cX_shop (pk_shop (by decide : 2 < 3)))) rfl 3 (by decide) (hT _ m1_209) (fun _ h9 => h9) rfl (fk_get fk_cX11_who_0 9 rfl) ?_
      rw [hnL]
      refine lv_icmp_ge (tgt := 42) hx hb (fk_get fk_cX11_who_0 10 rfl) (by decide) (fun c_10 => ?_) (fun c_10 => ?_)
      · have q_c_10 : n ≤ c := ci_le (a := n) (b := c) (by omega) (by omega) c_10
        have e_ : c = n := by omega
        rw [e_] at hW_
        refine lv_iload_n hx hb (fk_get fk_cX11_who_0 26 rfl) rfl (lv_at hl 1 rfl) ?_
        subst hQ
        have hpost : XI SL9 ∧ Fr (fun j k => (j = 11 ∧ 3 ≤ k ∧ k ≤ 7) ∨ (33 ≤ j ∧ j < 39 ∧ 2 ≤ k ∧ k ≤ 9) ∨ (51 ≤ j ∧ j < 57 ∧ k = 99) ∨ ((j = 17 ∨ j = 20) ∧ k = 99)) S SL9 ∧ ((v2 : Int32) = whoP (fF S (9 + 0) 6) (lstW 3 1 C) τ C n (fun d => gX S (21 + 6 * 0 + d) (K d)) (fA S (9 + 0 + 6)) zs) := by
          exact ⟨hXl9, hFl9, hW_⟩
        exact W.iret (v := v2) hx hb hr (fun t_ ht_ hW_ => ⟨⟨v2, SL9, rfl, hpost, by rw [ht_]; exact hP, va_K.moved hW_.alike hK, hD⟩, hS.F ht_⟩) hS.2.2 (fk_get fk_cX11_who_0 27 rfl)
      have q_c_10 : c < n := ci_nle (a := n) (b := c) (by omega) (by omega) c_10
      refine lv_aload_n hx hb (fk_get fk_cX11_who_0 11 rfl) rfl (lv_at hl 2 rfl) ?_
      refine lv_aload_n hx hb (fk_get fk_cX11_who_0 12 rfl) rfl (lv_at hl 2 rfl) ?_
      refine va_get (D := G.1) (ci := 9) (v := .ref (ad (9 + 2 + 3))) (C := RX7) (T := TX7) (N := 8) hx hb hT inX7 hown hK hP (9 + 2) (ix_at (lt71 (by omega)) (cX_shop (pk_shop (by decide : 2 < 3)))) rfl 0 (by decide) (hT _ m1_203) (fun _ h9 => h9) rfl (fk_get fk_cX11_who_0 13 rfl) ?_
      refine lv_iload_n hx hb (fk_get fk_cX11_who_0 14 rfl) rfl (lv_at hl 0 rfl) ?_
      refine x_ppl hx hb hK hP (by decide : 2 < 3) (k := c) (by omega) (rfl) (fk_get fk_cX11_who_0 15 rfl) ?_
      generalize hg_i_23 : 21 + 6 * 2 + c = i_23
      have hp_i_23 : pk i_23 = 7 := by rw [← hg_i_23]; exact pk_c (by decide : 2 < 3) (by omega)
      have hb_i_23 := pk7 hp_i_23
      have hFc := va_self hD hS hA
      refine va_calli (va_runV (As := [.ref (ad i_23)]) (rest := []) ⟨hx, hb, hml, hown, hT⟩ (c_x7_cutsAreSeenX l G ad SL9 H_8.size (2) (i_23) (K c) (pz) (9999) (lz) (zs) (τ) (C) ((by decide : 2 < 3)) (hp_i_23) ((by rw [← hg_i_23]; exact hcfL.at (by omega))) ((by rw [← hg_i_23, hgxL c (Nat.le_refl c) (by omega)]; exact (hgc c (by omega)).1)) (by omega) (hln) (hlz) (hzL) (hz4) (hXl9)) (tV 1 hT m4_48 m4_49 m4_50 m1_9 m4_51 rfl rfl (by decide +kernel) ⟨Nat.le_of_ble_eq_true rfl, Nat.le_of_ble_eq_true rfl⟩) ⟨PcW_blind, va_recv hK hP (ci := 9) (q0 := (9 + 2)) rfl (ix_at (lt71 (by omega)) (cX_shop (pk_shop (by decide : 2 < 3)))), PcW_of hP hK hD _⟩ rfl rfl hl.1 rfl (lv_room (Nat.le_of_ble_eq_true rfl)) (fk_get fk_cX11_who_0 16 rfl) ⟨Nat.zero_le _, Nat.zero_le _⟩) hS (fun q _ h => hFc q h) hFc (fun r_11 S_13 t_ H locs ht_ hvm_ hw_12 hB_ hz_ hk_ hS => ?_)
      obtain ⟨hP, -, hD1_⟩ := hB_
      rw [ht_] at hP
      have hD : va_D A (wX G ad S_13) := hD1_.weaken (fun k q _ h => hFc q.1 h)
      try dsimp only at hw_12
      obtain ⟨hX_14, hF_15_, hw_12⟩ := hw_12
      have hF_15 : Fr (fun j k => (j = 11 ∧ 3 ≤ k ∧ k ≤ 7) ∨ (33 ≤ j ∧ j < 39 ∧ 2 ≤ k ∧ k ≤ 9) ∨ (51 ≤ j ∧ j < 57 ∧ k = 99) ∨ ((j = 17 ∨ j = 20) ∧ k = 99)) S S_13 := Fr.trans hFl9 (Fr.mono hF_15_ (fun j k h => by omega))
      have hcs_ := hw_12
      rw [hofL, show fF SL9 i_23 0 = nI c by rw [← hg_i_23]; exact XI.num hXl9 (by omega) (by omega), show gX SL9 i_23 (K c) = gX S (21 + 6 * 0 + c) (K c) by rw [← hg_i_23]; exact hgxL c (Nat.le_refl c) (by omega), cs_cg (s := fA SL9 (9 + 2 + 6)) (s' := fA S (9 + 0 + 6)) zs 0 _ (fun i a b => hsnL i (by omega))] at hcs_
      have hnN : fF S_13 (9 + 2) 3 = nI n := (Fr.F hF_15_ (lt71 (by omega)) (by omega)).trans hnL
      have hcfN : CuF S_13 2 n pz τ C K := hcfL.fr (by omega) hn6 hF_15_ (fun d hd_ => by omega) (by omega) (fun j k a b => by omega)
      have hofN := (Fr.F hF_15_ (j := 9 + 2) (k := 6) (lt71 (by omega)) (by omega)).trans hofL
      have hzN : fF S_13 (9 + 2) 4 = nI zs := (Fr.F hF_15_ (lt71 (by omega)) (by omega)).trans hzL
      have hsnN : ∀ k, k < 4 → fA S_13 (9 + 2 + 6) k = fA S (9 + 0 + 6) k := fun k hk => by rw [Fr.A hF_15_ (j := 9 + 2 + 6) (lt71 (by omega)) (by omega)]; exact hsnL k hk
      have hgxN : ∀ d, c + 1 ≤ d → d < n → gX S_13 (21 + 6 * 2 + d) (K d) = gX S (21 + 6 * 0 + d) (K d) := fun d hcd hd => (gx_same hF_15_ (by omega) (by omega) (by omega)).trans (hgxL d (by omega) hd)
      refine lv_if_eq (tgt := 36) hx hb (fk_get fk_cX11_who_0 17 rfl) (by decide) (fun c_16 => ?_) (fun c_16 => ?_)
      · refine lv_iinc (v := (nI (c + 1))) (lv' := [(3, .int ((nI (c + 1)))), (2, .int (v2)), (1, .ref (ad (9 + 2))), (0, .ref (ad 0))]) hx hb (fk_get fk_cX11_who_0 24 rfl) hl (k := 0) rfl ((nI_1 c)) (by decide) rfl (fun ls hl => ?_)
        refine lv_goto (tgt := 9) hx hb (fk_get fk_cX11_who_0 25 rfl) (by decide) ?_
        exact ih (c + 1) (v2) (S_13) _ _ ls (hX_14) (hF_15) (by omega) (by omega) (hnN) (hcfN) (hofN) (hzN) (hsnN) (hgxN) ((by first | exact wh_y (p := (fun d => csN (fF S (9 + 0) 6) (lstW 3 1 C) τ C (nI d) (fA S (9 + 0 + 6)) zs 0 ((fun d => gX S (21 + 6 * 0 + d) (K d)) d))) hW_ (by omega) (i01_t2 hcs_ (by assumption)) | exact wh_n (p := (fun d => csN (fF S (9 + 0) 6) (lstW 3 1 C) τ C (nI d) (fA S (9 + 0 + 6)) zs 0 ((fun d => gX S (21 + 6 * 0 + d) (K d)) d))) hW_ (i01_f hcs_ (by assumption)))) hP hD hS (lv_sub hl [0, 1, 2, 3] rfl)
      refine lv_iload_n hx hb (fk_get fk_cX11_who_0 18 rfl) rfl (lv_at hl 1 rfl) ?_
      refine lv_iconst (v := 1) hx hb (fk_get fk_cX11_who_0 19 rfl) (by decide) ?_
      refine lv_iload_n hx hb (fk_get fk_cX11_who_0 20 rfl) rfl (lv_at hl 0 rfl) ?_
      refine lv_ishl hx hb (fk_get fk_cX11_who_0 21 rfl) ?_
      refine lv_ior hx hb (fk_get fk_cX11_who_0 22 rfl) ?_
      refine lv_istore_n (lv' := [(2, .int ((v2 ||| (1 <<< ((nI c) &&& 31))))), (3, .int ((nI c))), (1, .ref (ad (9 + 2))), (0, .ref (ad 0))]) hx hb (fk_get fk_cX11_who_0 23 rfl) rfl hl (by decide) rfl (fun ls hl => ?_)
      refine lv_iinc (v := (nI (c + 1))) (lv' := [(3, .int ((nI (c + 1)))), (2, .int ((v2 ||| (1 <<< ((nI c) &&& 31))))), (1, .ref (ad (9 + 2))), (0, .ref (ad 0))]) hx hb (fk_get fk_cX11_who_0 24 rfl) hl (k := 1) rfl ((nI_1 c)) (by decide) rfl (fun ls hl => ?_)
      refine lv_goto (tgt := 9) hx hb (fk_get fk_cX11_who_0 25 rfl) (by decide) ?_
      exact ih (c + 1) ((v2 ||| (1 <<< ((nI c) &&& 31)))) (S_13) _ _ ls (hX_14) (hF_15) (by omega) (by omega) (hnN) (hcfN) (hofN) (hzN) (hsnN) (hgxN) ((by first | exact wh_y (p := (fun d => csN (fF S (9 + 0) 6) (lstW 3 1 C) τ C (nI d) (fA S (9 + 0 + 6)) zs 0 ((fun d => gX S (21 + 6 * 0 + d) (K d)) d))) hW_ (by omega) (i01_t2 hcs_ (by assumption)) | exact wh_n (p := (fun d => csN (fF S (9 + 0) 6) (lstW 3 1 C) τ C (nI d) (fA S (9 + 0 + 6)) zs 0 ((fun d => gX S (21 + 6 * 0 + d) (K d)) d))) hW_ (i01_f hcs_ (by assumption)))) hP hD hS (lv_sub hl [0, 1, 2, 3] rfl)
  exact lp_6 (n + 1) (0) (0) (S_3) _ _ ls (hX_4) (hF_5) (by omega) (by omega) (hn2_) (hcf2_) (hof2_) ((hbf_ 4 (by omega) (by omega)).trans hz) (hsn2_) (fun d _ hd => hgx2_ d hd) (rfl) hP hD hS (lv_sub hl [0, 1, 2, 3] rfl)
set_option maxHeartbeats 800000 in
set_option maxRecDepth 100000 in
theorem c_x11_isSeenWithX (l : Launch) (G : GG) (ad : Nat → Nat) (S : FS) (sz : Nat) (n pz zs j : Nat) (K : Nat → Nat) (τ : Nat → Int32) (C : Cls) (o_ x : Int32) (hn : fF S (9 + 0) 3 = nI n) (hn6 : n ≤ 6) (hcf : CuF S 0 n pz τ C K) (hgc : ∀ d, d < n → GC 9999 (gX S (21 + 6 * 0 + d) (K d))) (h99 : N99 C) (hz : fF S (9 + 0) 4 = nI zs) (hz4 : zs ≤ 4) (hj : j < n) (ej : x = nI j) (hX : XI S) : Met l yX11_isSeenWith (Cond.code yX11_isSeenWith cX11_isSeenWith 5 (some .boolean) :: TBL) ({ frames := 7, cells := 0, slots := 0, locals := 200 } : Room) (PcW G (wX G ad S) sz [.ref (ad 0), .int (o_), .int (x)]) (va_Qi (fun (r : Int32) (S' : FS) => XI S' ∧ Fr (fun j k => (j = 11 ∧ 3 ≤ k ∧ k ≤ 7) ∨ (33 ≤ j ∧ j < 39 ∧ 2 ≤ k ∧ k ≤ 9) ∨ (51 ≤ j ∧ j < 57 ∧ k = 99) ∨ ((j = 17 ∨ j = 20) ∧ k = 99)) S S' ∧ (r = i01 (csN o_ (lstW 3 1 C) τ C x (fA S (9 + 0 + 6)) zs 0 (gX S (21 + 6 * 0 + x.toNatClampNeg) (K x.toNatClampNeg))))) (fun S' t => BW G (va_A (wX G ad S) sz) (wX G ad S') t) (va_A (wX G ad S) sz)) 0 0 (va_A (wX G ad S) sz) := by
  refine Met.ofW (cc := cX11_isSeenWith) (maxL := 5) (ret := (some .boolean)) (by decide) rfl ?_
  intro p e s m args below meth c₀ s₁ B hml hv
  obtain ⟨rfl, hsz, hP, hK, hD0⟩ := hv
  have hx := B.exec
  have hb := B.bytes
  have hr := B.returns
  have hT : ∀ w ∈ TBL, w.before ([.ref (ad 0), .int (o_), .int (x)] : List Value).toArray s = true := fun w h => atoms_spec (ws := Cond.code yX11_isSeenWith cX11_isSeenWith 5 (some .boolean) :: TBL) B.pre w (List.mem_cons_of_mem _ h)
  have hown : s.vm.findClass "LittleMore" = some m.cls := findClass_of_methodNamed B.named
  have hlocks := B.notSynchronized
  subst hsz
  have hD := hD0.self (sz := s.heap.size)
  generalize hAe : va_A (wX G ad S) s.heap.size = A at hD ⊢
  have hA : ∀ q : Nat, s.heap.size ≤ q → A q := fun q h => by rw [← hAe]; exact Or.inr h
  have hS : va_S A s.heap s.heap [] := va_S.rf
  have hP : va_P G.1 vwCl (wX G ad S) s.heap := hP
  have hl := lv_entry ([.ref (ad 0), .int (o_), .int (x)]) (n := 5) (Nat.le_of_ble_eq_true rfl)
  rw [lg_entry_eq]
  generalize (lg_sl ([.ref (ad 0), .int (o_), .int (x)]) ++ List.replicate (5 - (lg_sl ([.ref (ad 0), .int (o_), .int (x)])).length) Slot.unset).toArray = ls at hl ⊢
  have hl : lv_has ls 5 [(0, .ref (ad 0)), (1, .int (o_)), (2, .int (x))] := hl
  refine W_abs (fun Q hQ => ?_)
  generalize ([.ref (ad 0), .int (o_), .int (x)] : List Value).toArray = args at hT hQ ⊢
  obtain ⟨-, hpz0, hcok0, hctx0, hsay0⟩ := id hcf
  obtain ⟨lz, hlz, hln⟩ := lst_99 (k := 3) C 1 ⟨1, by omega, rfl⟩ h99.2
  refine lv_aload_n hx hb (fk_get fk_cX11_isSeenWith_0 0 rfl) rfl (lv_at hl 0 rfl) ?_
  have hFc := va_self hD hS hA
  refine va_callr (va_runV (As := []) (rest := []) ⟨hx, hb, hml, hown, hT⟩ (c_x11_shopToTryX l G ad S s.heap.size (n) (hn) (hn6) (hX)) (tV 0 hT m3_211 m3_213 mp_11 m1_1 m3_214 rfl rfl (by decide +kernel) ⟨Nat.le_of_ble_eq_true rfl, Nat.le_of_ble_eq_true rfl⟩) ⟨PcW_blind, va_recv hK hP (ci := 13) (q0 := 0) rfl (ix_at (lt71 (by omega)) (cX_0 G ad S)), PcW_of hP hK hD _⟩ rfl rfl hl.1 rfl (lv_room (Nat.le_of_ble_eq_true rfl)) (fk_get fk_cX11_isSeenWith_0 1 rfl) ⟨Nat.zero_le _, Nat.zero_le _⟩) hS (fun q _ h => hFc q h) hFc (fun S_3 r_1 t_ H locs ht_ hvm_ hw_2 hB_ hz_ hk_ hS => ?_)
  obtain ⟨hra_, hB_⟩ := hB_
  subst hra_
  obtain ⟨hP, -, hD1_⟩ := hB_
  rw [ht_] at hP
  have hD : va_D A (wX G ad S_3) := hD1_.weaken (fun k q _ h => hFc q.1 h)
  try dsimp only at hw_2
  obtain ⟨hX_4, hF_5_, hw_2⟩ := hw_2
  have hF_5 : Fr (fun j k => (j = 11 ∧ 3 ≤ k ∧ k ≤ 7) ∨ (33 ≤ j ∧ j < 39 ∧ 2 ≤ k ∧ k ≤ 9) ∨ (51 ≤ j ∧ j < 57 ∧ k = 99) ∨ ((j = 17 ∨ j = 20) ∧ k = 99)) S S_3 := Fr.trans (Fr.rf : Fr (fun j k => (j = 11 ∧ 3 ≤ k ∧ k ≤ 7) ∨ (33 ≤ j ∧ j < 39 ∧ 2 ≤ k ∧ k ≤ 9) ∨ (51 ≤ j ∧ j < 57 ∧ k = 99) ∨ ((j = 17 ∨ j = 20) ∧ k = 99)) S S) (Fr.mono hF_5_ (fun j k h => by omega))
  obtain ⟨hbe_, hrr_⟩ := hw_2
  obtain ⟨hcf2_, hgx2_, hbf_, hsn2_⟩ := try_of hbe_ hrr_ hF_5_ hcf hn6
  have hn2_ : fF S_3 (9 + 2) 3 = nI n := (hbf_ 3 (by omega) (by omega)).trans hn
  have hpz2_ : fR S_3 (9 + 2) 7 = some pz := hcf2_.2.1
  have hcok2_ : COK S_3 pz := hcf2_.2.2.1
  have hof2_ : fF S_3 (9 + 2) 6 = fF S (9 + 0) 6 := hbf_ 6 (by omega) (by omega)
  have hgc2_ : ∀ d, d < n → GC 9999 (gX S_3 (21 + 6 * 2 + d) (K d)) := fun d hd => by rw [hgx2_ d hd]; exact hgc d hd
  refine lv_astore_n (lv' := [(3, .ref (ad (9 + 2))), (0, .ref (ad 0)), (1, .int (o_)), (2, .int (x))]) hx hb (fk_get fk_cX11_isSeenWith_0 2 rfl) rfl hl (by decide) rfl (fun ls hl => ?_)
  refine lv_aload_n hx hb (fk_get fk_cX11_isSeenWith_0 3 rfl) rfl (lv_at hl 0 rfl) ?_
  refine lv_iload_n hx hb (fk_get fk_cX11_isSeenWith_0 4 rfl) rfl (lv_at hl 2 rfl) ?_
  refine va_put (D := G.1) (ci := 9) (v := .int (o_)) (ty := .int) (C := RX7) (T := TX7) (N := 8) hx hb hT inX7 tyX7 tyX7_ok nmX7 hown hK hP hD hS (9 + 2) (ix_at (lt71 (by omega)) (cX_shop (pk_shop (by decide : 2 < 3)))) rfl 6 (by decide) (hT _ m1_215) (fun _ h9 => h9) rfl (by decide +kernel) rfl rfl (Nat.le_of_ble_eq_true rfl) (fk_get fk_cX11_isSeenWith_0 5 rfl) (fun H locs hP hD hS => ?_)
  rw [pX_shop_6 (S := S_3) (lt71 (by omega)) (pk_shop (by decide : 2 < 3)) (o_)] at hP hD
  have hX_6 : XI (setF S_3 (9 + 2) 6 (o_)) := XI.sF hX_4 _ ⟨by omega, by omega, by omega, by omega, by omega, by omega, by omega, by omega⟩
  have hF_7 : Fr (fun j k => (j = 11 ∧ 3 ≤ k ∧ k ≤ 7) ∨ (33 ≤ j ∧ j < 39 ∧ 2 ≤ k ∧ k ≤ 9) ∨ (51 ≤ j ∧ j < 57 ∧ k = 99) ∨ ((j = 17 ∨ j = 20) ∧ k = 99)) S (setF S_3 (9 + 2) 6 (o_)) := Fr.sF hF_5 (by omega)
  have hfo_ : Fr (fun j k => j = 9 + 2 ∧ k = 6) _ ((setF S_3 (9 + 2) 6 (o_))) := Fr.sF Fr.rf (by omega)
  have hn2o_ : fF ((setF S_3 (9 + 2) 6 (o_))) (9 + 2) 3 = nI n := (hfo_.F (lt71 (by omega)) (by omega)).trans hn2_
  have hcf2o_ : CuF ((setF S_3 (9 + 2) 6 (o_))) 2 n pz τ C K := hcf2_.fr (by omega) hn6 hfo_ (fun d hd_ => by omega) (by omega) (fun j k a b => by omega)
  have hof2o_ : fF ((setF S_3 (9 + 2) 6 (o_))) (9 + 2) 6 = o_ := by simp [fF_setF]
  have hgx2o_ : ∀ d, d < n → gX ((setF S_3 (9 + 2) 6 (o_))) (21 + 6 * 2 + d) (K d) = gX S (21 + 6 * 0 + d) (K d) := fun d hd => (gx_same hfo_ (by omega) (by omega) (by omega)).trans (hgx2_ d hd)
  have hgc2o_ : ∀ d, d < n → GC 9999 (gX ((setF S_3 (9 + 2) 6 (o_))) (21 + 6 * 2 + d) (K d)) := fun d hd => by rw [hgx2o_ d hd]; exact hgc d hd
  have hz2o_ : fF ((setF S_3 (9 + 2) 6 (o_))) (9 + 2) 4 = nI zs := (hfo_.F (lt71 (by omega)) (by omega)).trans ((hbf_ 4 (by omega) (by omega)).trans hz)
  have hsn2o_ : ∀ k, k < 4 → fA ((setF S_3 (9 + 2) 6 (o_))) (9 + 2 + 6) k = fA S (9 + 0 + 6) k := fun k hk => by rw [hfo_.A (j := 9 + 2 + 6) (lt71 (by omega)) (by omega)]; exact hsn2_ k hk
  refine lv_aload_n hx hb (fk_get fk_cX11_isSeenWith_0 6 rfl) rfl (lv_at hl 0 rfl) ?_
  refine lv_iload_n hx hb (fk_get fk_cX11_isSeenWith_0 7 rfl) rfl (lv_at hl 3 rfl) ?_
  refine va_csq (W.runV (As := [.int (x)]) (rest := []) ⟨hx, hb, hml, hown, hT⟩ (c_x7_at l G ad (setF S_3 (9 + 2) 6 (o_)) H.size (2) (n) (x) ((by decide : 2 < 3)) (hn2o_) (hn6) (hX_6)) (tV 1 hT m2_120 m2_121 m2_122 m1_9 m2_123 rfl rfl (by decide +kernel) ⟨Nat.le_of_ble_eq_true rfl, Nat.le_of_ble_eq_true rfl⟩) ⟨PcW_blind, va_recv hK hP (ci := 9) (q0 := (9 + 2)) rfl (ix_at (lt71 (by omega)) (cX_shop (pk_shop (by decide : 2 < 3)))), PcW_of hP hK hD _⟩ rfl rfl hl.1 rfl (lv_room (Nat.le_of_ble_eq_true rfl)) (fk_get fk_cX11_isSeenWith_0 8 rfl) ⟨Nat.zero_le _, Nat.zero_le _⟩) (fun r_8 hw_9 => ?_)
  try dsimp only at hw_9
  rcases hw_9 with ⟨j_12, hj_12, ej_12, rfl⟩ | ⟨rfl, hn_12⟩
  · rw [show va_rf (some (ad (21 + 6 * 2 + j_12))) = .ref (ad (21 + 6 * 2 + j_12)) from rfl]
    generalize hg_i_12 : 21 + 6 * 2 + j_12 = i_12
    have hp_i_12 : pk i_12 = 7 := by rw [← hg_i_12]; exact pk_c (by decide : 2 < 3) (show j_12 < 6 by omega)
    have hb_i_12 := pk7 hp_i_12
    refine lv_astore (lv' := [(4, .ref (ad i_12)), (3, .ref (ad (9 + 2))), (0, .ref (ad 0)), (1, .int (o_)), (2, .int (x))]) hx hb (fk_get fk_cX11_isSeenWith_0 9 rfl) hl (by decide) rfl (fun ls hl => ?_)
    refine lv_aload hx hb (fk_get fk_cX11_isSeenWith_0 10 rfl) (lv_at hl 0 rfl) ?_
    refine lv_ifnull hx hb (fk_get fk_cX11_isSeenWith_0 11 rfl) ?_
    have hcl_ : x.toNatClampNeg = j_12 := by rw [ej_12]; exact nI_clamp (by omega)
    have hcn_ : fF ((setF S_3 (9 + 2) 6 (o_))) i_12 0 = x := by rw [← hg_i_12, ej_12]; exact XI.num hX_6 (by omega) (by omega)
    have hgx_ : gX ((setF S_3 (9 + 2) 6 (o_))) i_12 (K j_12) = gX S (21 + 6 * 0 + x.toNatClampNeg) (K x.toNatClampNeg) := by rw [hcl_, ← hg_i_12]; exact hgx2o_ _ hj_12
    refine lv_aload_n hx hb (fk_get fk_cX11_isSeenWith_0 12 rfl) rfl (lv_at hl 1 rfl) ?_
    refine lv_aload hx hb (fk_get fk_cX11_isSeenWith_0 13 rfl) (lv_at hl 0 rfl) ?_
    have hFc := va_self hD hS hA
    refine va_calli (va_runV (As := [.ref (ad i_12)]) (rest := []) ⟨hx, hb, hml, hown, hT⟩ (c_x7_cutsAreSeenX l G ad (setF S_3 (9 + 2) 6 (o_)) H.size (2) (i_12) (K j_12) (pz) (9999) (lz) (zs) (τ) (C) ((by decide : 2 < 3)) (hp_i_12) ((by rw [← hg_i_12]; exact hcf2o_.at hj_12)) ((by rw [← hg_i_12]; exact (hgc2o_ _ hj_12).1)) (by omega) (hln) (hlz) (hz2o_) (hz4) (hX_6)) (tV 1 hT m4_48 m4_49 m4_50 m1_9 m4_51 rfl rfl (by decide +kernel) ⟨Nat.le_of_ble_eq_true rfl, Nat.le_of_ble_eq_true rfl⟩) ⟨PcW_blind, va_recv hK hP (ci := 9) (q0 := (9 + 2)) rfl (ix_at (lt71 (by omega)) (cX_shop (pk_shop (by decide : 2 < 3)))), PcW_of hP hK hD _⟩ rfl rfl hl.1 rfl (lv_room (Nat.le_of_ble_eq_true rfl)) (fk_get fk_cX11_isSeenWith_0 14 rfl) ⟨Nat.zero_le _, Nat.zero_le _⟩) hS (fun q _ h => hFc q h) hFc (fun r_10 S_12 t_ H locs ht_ hvm_ hw_11 hB_ hz_ hk_ hS => ?_)
    obtain ⟨hP, -, hD1_⟩ := hB_
    rw [ht_] at hP
    have hD : va_D A (wX G ad S_12) := hD1_.weaken (fun k q _ h => hFc q.1 h)
    try dsimp only at hw_11
    obtain ⟨hX_13, hF_14_, hw_11⟩ := hw_11
    have hF_14 : Fr (fun j k => (j = 11 ∧ 3 ≤ k ∧ k ≤ 7) ∨ (33 ≤ j ∧ j < 39 ∧ 2 ≤ k ∧ k ≤ 9) ∨ (51 ≤ j ∧ j < 57 ∧ k = 99) ∨ ((j = 17 ∨ j = 20) ∧ k = 99)) S S_12 := Fr.trans hF_7 (Fr.mono hF_14_ (fun j k h => by omega))
    have hcs_ := hw_11
    rw [hof2o_, hcn_, hgx_, cs_cg (s := fA _ (9 + 2 + 6)) (s' := fA S (9 + 0 + 6)) zs 0 _ (fun i a b => hsn2o_ i (by omega))] at hcs_
    refine lv_if_eq (tgt := 35) hx hb (fk_get fk_cX11_isSeenWith_0 15 rfl) (by decide) (fun c_15 => ?_) (fun c_15 => ?_)
    · refine lv_iconst (v := 0) hx hb (fk_get fk_cX11_isSeenWith_0 18 rfl) (by decide) ?_
      subst hQ
      have hpost : XI S_12 ∧ Fr (fun j k => (j = 11 ∧ 3 ≤ k ∧ k ≤ 7) ∨ (33 ≤ j ∧ j < 39 ∧ 2 ≤ k ∧ k ≤ 9) ∨ (51 ≤ j ∧ j < 57 ∧ k = 99) ∨ ((j = 17 ∨ j = 20) ∧ k = 99)) S S_12 ∧ ((0 : Int32) = i01 (csN o_ (lstW 3 1 C) τ C x (fA S (9 + 0 + 6)) zs 0 (gX S (21 + 6 * 0 + x.toNatClampNeg) (K x.toNatClampNeg)))) := by
        exact ⟨hX_13, hF_14, (by first | exact absurd (inC hn6 hj ej) (outC hn6 hn_12) | (rw [i01_t2 hcs_ (by assumption)]; rfl) | (rw [Bool.eq_false_iff.mpr (i01_f hcs_ (by assumption))]; rfl))⟩
      exact W.zret (v := 0) hx hb hr rfl (fun t_ ht_ hW_ => ⟨⟨0, S_12, rfl, hpost, by rw [ht_]; exact hP, va_K.moved hW_.alike hK, hD⟩, hS.F ht_⟩) hS.2.2 (fk_get fk_cX11_isSeenWith_0 19 rfl)
    refine lv_iconst (v := 1) hx hb (fk_get fk_cX11_isSeenWith_0 16 rfl) (by decide) ?_
    refine lv_goto (tgt := 36) hx hb (fk_get fk_cX11_isSeenWith_0 17 rfl) (by decide) ?_
    subst hQ
    have hpost : XI S_12 ∧ Fr (fun j k => (j = 11 ∧ 3 ≤ k ∧ k ≤ 7) ∨ (33 ≤ j ∧ j < 39 ∧ 2 ≤ k ∧ k ≤ 9) ∨ (51 ≤ j ∧ j < 57 ∧ k = 99) ∨ ((j = 17 ∨ j = 20) ∧ k = 99)) S S_12 ∧ ((1 : Int32) = i01 (csN o_ (lstW 3 1 C) τ C x (fA S (9 + 0 + 6)) zs 0 (gX S (21 + 6 * 0 + x.toNatClampNeg) (K x.toNatClampNeg)))) := by
      exact ⟨hX_13, hF_14, (by first | exact absurd (inC hn6 hj ej) (outC hn6 hn_12) | (rw [i01_t2 hcs_ (by assumption)]; rfl) | (rw [Bool.eq_false_iff.mpr (i01_f hcs_ (by assumption))]; rfl))⟩
    exact W.zret (v := 1) hx hb hr rfl (fun t_ ht_ hW_ => ⟨⟨1, S_12, rfl, hpost, by rw [ht_]; exact hP, va_K.moved hW_.alike hK, hD⟩, hS.F ht_⟩) hS.2.2 (fk_get fk_cX11_isSeenWith_0 19 rfl)
  rw [show va_rf none = .null from rfl]
  refine lv_astoreN (lv' := [(4, .null), (3, .ref (ad (9 + 2))), (0, .ref (ad 0)), (1, .int (o_)), (2, .int (x))]) hx hb (fk_get fk_cX11_isSeenWith_0 9 rfl) hl (by decide) rfl (fun ls hl => ?_)
  refine lv_aloadN hx hb (fk_get fk_cX11_isSeenWith_0 10 rfl) (lv_at hl 0 rfl) ?_
  refine lv_ifnullN (tgt := 35) hx hb (fk_get fk_cX11_isSeenWith_0 11 rfl) (by decide) ?_
  refine lv_iconst (v := 0) hx hb (fk_get fk_cX11_isSeenWith_0 18 rfl) (by decide) ?_
  subst hQ
  have hpost : XI (setF S_3 (9 + 2) 6 (o_)) ∧ Fr (fun j k => (j = 11 ∧ 3 ≤ k ∧ k ≤ 7) ∨ (33 ≤ j ∧ j < 39 ∧ 2 ≤ k ∧ k ≤ 9) ∨ (51 ≤ j ∧ j < 57 ∧ k = 99) ∨ ((j = 17 ∨ j = 20) ∧ k = 99)) S (setF S_3 (9 + 2) 6 (o_)) ∧ ((0 : Int32) = i01 (csN o_ (lstW 3 1 C) τ C x (fA S (9 + 0 + 6)) zs 0 (gX S (21 + 6 * 0 + x.toNatClampNeg) (K x.toNatClampNeg)))) := by
    exact ⟨hX_6, hF_7, (by first | exact absurd (inC hn6 hj ej) (outC hn6 hn_12) | (rw [i01_t2 hcs_ (by assumption)]; rfl) | (rw [Bool.eq_false_iff.mpr (i01_f hcs_ (by assumption))]; rfl))⟩
  exact W.zret (v := 0) hx hb hr rfl (fun t_ ht_ hW_ => ⟨⟨0, (setF S_3 (9 + 2) 6 (o_)), rfl, hpost, by rw [ht_]; exact hP, va_K.moved hW_.alike hK, hD⟩, hS.F ht_⟩) hS.2.2 (fk_get fk_cX11_isSeenWith_0 19 rfl)
set_option maxHeartbeats 800000 in
set_option maxRecDepth 100000 in
theorem c_x11_offsX (l : Launch) (G : GG) (ad : Nat → Nat) (S : FS) (sz : Nat) (n pz : Nat) (K : Nat → Nat) (τ : Nat → Int32) (C : Cls) (zs : Nat) (x w_ : Int32) (hn : fF S (9 + 0) 3 = nI n) (hn6 : n ≤ 6) (hcf : CuF S 0 n pz τ C K) (hgc : ∀ d, d < n → GC 9999 (gX S (21 + 6 * 0 + d) (K d))) (h99 : N99 C) (hz : fF S (9 + 0) 4 = nI zs) (hz4 : zs ≤ 4) (hX : XI S) : Met l yX11_offs (Cond.code yX11_offs cX11_offs 6 (some .int) :: TBL) ({ frames := 8, cells := 0, slots := 0, locals := 228 } : Room) (PcW G (wX G ad S) sz [.ref (ad 0), .int (x), .int (w_)]) (va_Qi (fun (r : Int32) (S' : FS) => XI S' ∧ Fr (fun j k => (j = 11 ∧ 3 ≤ k ∧ k ≤ 7) ∨ (33 ≤ j ∧ j < 39 ∧ 2 ≤ k ∧ k ≤ 9) ∨ (51 ≤ j ∧ j < 57 ∧ k = 99) ∨ ((j = 17 ∨ j = 20) ∧ k = 99)) S S' ∧ (r = offP (lstW 3 1 C) τ C n (fun d => gX S (21 + 6 * 0 + d) (K d)) (fA S (9 + 0 + 6)) zs x w_)) (fun S' t => BW G (va_A (wX G ad S) sz) (wX G ad S') t) (va_A (wX G ad S) sz)) 0 0 (va_A (wX G ad S) sz) := by
  refine Met.ofW (cc := cX11_offs) (maxL := 6) (ret := (some .int)) (by decide) rfl ?_
  intro p e s m args below meth c₀ s₁ B hml hv
  obtain ⟨rfl, hsz, hP, hK, hD0⟩ := hv
  have hx := B.exec
  have hb := B.bytes
  have hr := B.returns
  have hT : ∀ w ∈ TBL, w.before ([.ref (ad 0), .int (x), .int (w_)] : List Value).toArray s = true := fun w h => atoms_spec (ws := Cond.code yX11_offs cX11_offs 6 (some .int) :: TBL) B.pre w (List.mem_cons_of_mem _ h)
  have hown : s.vm.findClass "LittleMore" = some m.cls := findClass_of_methodNamed B.named
  have hlocks := B.notSynchronized
  subst hsz
  have hD := hD0.self (sz := s.heap.size)
  generalize hAe : va_A (wX G ad S) s.heap.size = A at hD ⊢
  have hA : ∀ q : Nat, s.heap.size ≤ q → A q := fun q h => by rw [← hAe]; exact Or.inr h
  have hS : va_S A s.heap s.heap [] := va_S.rf
  have hP : va_P G.1 vwCl (wX G ad S) s.heap := hP
  have hl := lv_entry ([.ref (ad 0), .int (x), .int (w_)]) (n := 6) (Nat.le_of_ble_eq_true rfl)
  rw [lg_entry_eq]
  generalize (lg_sl ([.ref (ad 0), .int (x), .int (w_)]) ++ List.replicate (6 - (lg_sl ([.ref (ad 0), .int (x), .int (w_)])).length) Slot.unset).toArray = ls at hl ⊢
  have hl : lv_has ls 6 [(0, .ref (ad 0)), (1, .int (x)), (2, .int (w_))] := hl
  refine W_abs (fun Q hQ => ?_)
  generalize ([.ref (ad 0), .int (x), .int (w_)] : List Value).toArray = args at hT hQ ⊢
  obtain ⟨-, hpz0, hcok0, hctx0, hsay0⟩ := id hcf
  obtain ⟨lz, hlz, hln⟩ := lst_99 (k := 3) C 1 ⟨1, by omega, rfl⟩ h99.2
  refine lv_aload_n hx hb (fk_get fk_cX11_offs_0 0 rfl) rfl (lv_at hl 0 rfl) ?_
  refine va_get (D := G.1) (ci := 13) (v := .ref (ad (9 + 0))) (C := RX11) (T := TX11) (N := 11) hx hb hT inX11 hown hK hP 0 (ix_at (lt71 (by omega)) (cX_0 G ad S)) rfl 1 (by decide) (hT _ m2_70) (fun _ h9 => h9) rfl (fk_get fk_cX11_offs_0 1 rfl) ?_
  refine lv_iload_n hx hb (fk_get fk_cX11_offs_0 2 rfl) rfl (lv_at hl 1 rfl) ?_
  refine va_csq (W.runV (As := [.int (x)]) (rest := []) ⟨hx, hb, hml, hown, hT⟩ (c_x7_at l G ad S s.heap.size (0) (n) (x) ((by decide : 0 < 3)) (hn) (hn6) (hX)) (tV 1 hT m2_120 m2_121 m2_122 m1_9 m2_123 rfl rfl (by decide +kernel) ⟨Nat.le_of_ble_eq_true rfl, Nat.le_of_ble_eq_true rfl⟩) ⟨PcW_blind, va_recv hK hP (ci := 9) (q0 := (9 + 0)) rfl (ix_at (lt71 (by omega)) (cX_shop (pk_shop (by decide : 0 < 3)))), PcW_of hP hK hD _⟩ rfl rfl hl.1 rfl (lv_room (Nat.le_of_ble_eq_true rfl)) (fk_get fk_cX11_offs_0 3 rfl) ⟨Nat.zero_le _, Nat.zero_le _⟩) (fun r_1 hw_2 => ?_)
  try dsimp only at hw_2
  rcases hw_2 with ⟨j_5, hj_5, ej_5, rfl⟩ | ⟨rfl, hn_5⟩
  · rw [show va_rf (some (ad (21 + 6 * 0 + j_5))) = .ref (ad (21 + 6 * 0 + j_5)) from rfl]
    generalize hg_i_5 : 21 + 6 * 0 + j_5 = i_5
    have hp_i_5 : pk i_5 = 7 := by rw [← hg_i_5]; exact pk_c (by decide : 0 < 3) (show j_5 < 6 by omega)
    have hb_i_5 := pk7 hp_i_5
    refine lv_ifnull hx hb (fk_get fk_cX11_offs_0 4 rfl) ?_
    have hC_ : isC n x := inC hn6 hj_5 ej_5
    have hcl_ : x.toNatClampNeg = j_5 := by rw [ej_5]; exact nI_clamp (by omega)
    have hcn_ : fF S i_5 0 = x := by rw [← hg_i_5, ej_5]; exact XI.num hX (by omega) (by omega)
    have hgx_ : gX S i_5 (K j_5) = gX S (21 + 6 * 0 + x.toNatClampNeg) (K x.toNatClampNeg) := by rw [hcl_, ← hg_i_5]
    have hcu_ : CuC S 0 i_5 (K j_5) pz τ C := by rw [← hg_i_5]; exact hcf.at hj_5
    have hgb_ : GB 9999 (gX S i_5 (K j_5)) := by rw [← hg_i_5]; exact (hgc _ hj_5).1
    refine lv_iload_n hx hb (fk_get fk_cX11_offs_0 5 rfl) rfl (lv_at hl 2 rfl) ?_
    refine lv_iconst (v := 0) hx hb (fk_get fk_cX11_offs_0 6 rfl) (by decide) ?_
    refine lv_iconst (v := 1) hx hb (fk_get fk_cX11_offs_0 7 rfl) (by decide) ?_
    refine vp_callSi (W.runS (As := [.int (w_), .int (0), .int (1)]) (rest := []) ⟨hx, hb, hml, hown, hT⟩ (c_xisOutside l (w_) (0) (1) ) (tS 3 hT m2_108 m2_109 m1_1 m2_110 rfl rfl (by decide +kernel) ⟨Nat.le_of_ble_eq_true rfl, Nat.le_of_ble_eq_true rfl⟩) ⟨PcN_blind, PcN_of _ _ _⟩ rfl rfl hl.1 rfl (lv_room (Nat.le_of_ble_eq_true rfl)) (fk_get fk_cX11_offs_0 8 rfl) ⟨Nat.zero_le _, Nat.zero_le _⟩) (fun r_3 hw_4 => ?_)
    try dsimp only at hw_4
    refine lv_if_eq (tgt := 22) hx hb (fk_get fk_cX11_offs_0 9 rfl) (by decide) (fun c_5 => ?_) (fun c_5 => ?_)
    · have p_c_5 := if1_f hw_4 c_5
      have hw_ := nor2.mp p_c_5
      refine lv_iconst (v := 0) hx hb (fk_get fk_cX11_offs_0 12 rfl) (by decide) ?_
      refine lv_istore_n (lv' := [(3, .int (0)), (0, .ref (ad 0)), (1, .int (x)), (2, .int (w_))]) hx hb (fk_get fk_cX11_offs_0 13 rfl) rfl hl (by decide) rfl (fun ls hl => ?_)
      refine lv_bipush (v := (-5)) hx hb (fk_get fk_cX11_offs_0 14 rfl) (by decide) ?_
      refine lv_istore (lv' := [(4, .int ((-5))), (3, .int (0)), (0, .ref (ad 0)), (1, .int (x)), (2, .int (w_))]) hx hb (fk_get fk_cX11_offs_0 15 rfl) hl (by decide) rfl (fun ls hl => ?_)
      refine lv_bipush (v := 30) hx hb (fk_get fk_cX11_offs_0 16 rfl) (by decide) ?_
      refine lv_istore (lv' := [(5, .int (30)), (4, .int ((-5))), (3, .int (0)), (0, .ref (ad 0)), (1, .int (x)), (2, .int (w_))]) hx hb (fk_get fk_cX11_offs_0 17 rfl) hl (by decide) rfl (fun ls hl => ?_)
      have lp_6 : ∀ (fu : Nat) (c : Nat) (v3 v4 : Int32) (SL32 : FS) (H_8 : Heap) (locs_9 : List Loc) (ls : Array Slot),  (XI SL32) → (Fr (fun j k => (j = 11 ∧ 3 ≤ k ∧ k ≤ 7) ∨ (33 ≤ j ∧ j < 39 ∧ 2 ≤ k ∧ k ≤ 9) ∨ (51 ≤ j ∧ j < 57 ∧ k = 99) ∨ ((j = 17 ∨ j = 20) ∧ k = 99)) S SL32) → (c ≤ 31) → (c < fu) → (fF SL32 (9 + 0) 3 = nI n) → (CuF SL32 0 n pz τ C K) → (fF SL32 (9 + 0) 4 = nI zs) → (∀ k, k < 4 → fA SL32 (9 + 0 + 6) k = fA S (9 + 0 + 6) k) → (∀ d, d < n → gX SL32 (21 + 6 * 0 + d) (K d) = gX S (21 + 6 * 0 + d) (K d)) → ((v3, v4) = ofN (fun o => csN (nI o) (lstW 3 1 C) τ C x (fA S (9 + 0 + 6)) zs 0 (gX S (21 + 6 * 0 + x.toNatClampNeg) (K x.toNatClampNeg))) (31 - c)) → va_P G.1 vwCl (wX G ad SL32) H_8 → va_D A (wX G ad SL32) → va_S A s.heap H_8 locs_9 → lv_has ls 6 [(5, .int ((nI c - 1))), (4, .int (v4)), (3, .int (v3)), (0, .ref (ad 0)), (1, .int (x)), (2, .int (w_))] → W p l e ({ frames := 8, cells := 0, slots := 0, locals := 228 } : Room) s m args below meth c₀ H_8 locs_9 0 0 Q (F0 m 32 ls []) := by
        intro fu
        induction fu with
        | zero =>
          intro c v3 v4 SL32 H_8 locs_9 ls hXl32 hFl32 hk hf hn2 hcfL hzL hsnL hgxL hO_ hP hD hS hl
          exact absurd hf (by omega)
        | succ fu ih =>
          intro c v3 v4 SL32 H_8 locs_9 ls hXl32 hFl32 hk hf hn2 hcfL hzL hsnL hgxL hO_ hP hD hS hl
          refine lv_iload hx hb (fk_get fk_cX11_offs_0 18 rfl) (lv_at hl 0 rfl) ?_
          refine lv_if_lt (tgt := 60) hx hb (fk_get fk_cX11_offs_0 19 rfl) (by decide) (fun c_10 => ?_) (fun c_10 => ?_)
          · have hk0 : c = 0 := Nat.eq_zero_of_not_pos (fun q => absurd c_10 (by
              obtain ⟨j_, rfl⟩ : ∃ j, c = j + 1 := ⟨c - 1, by omega⟩
              rw [nI_pred]
              exact nI_nn (by omega)))
            rw [hk0] at hO_
            have hfi_ := off_r (G := (fun d => gX S (21 + 6 * 0 + d) (K d))) hC_ hw_ hO_
            refine lv_iload_n hx hb (fk_get fk_cX11_offs_0 30 rfl) rfl (lv_at hl 5 rfl) ?_
            refine lv_if_ne (tgt := 68) hx hb (fk_get fk_cX11_offs_0 31 rfl) (by decide) (fun c_11 => ?_) (fun c_11 => ?_)
            · refine lv_iload hx hb (fk_get fk_cX11_offs_1 2 rfl) (lv_at hl 1 rfl) ?_
              subst hQ
              have hpost : XI SL32 ∧ Fr (fun j k => (j = 11 ∧ 3 ≤ k ∧ k ≤ 7) ∨ (33 ≤ j ∧ j < 39 ∧ 2 ≤ k ∧ k ≤ 9) ∨ (51 ≤ j ∧ j < 57 ∧ k = 99) ∨ ((j = 17 ∨ j = 20) ∧ k = 99)) S SL32 ∧ ((v4 : Int32) = offP (lstW 3 1 C) τ C n (fun d => gX S (21 + 6 * 0 + d) (K d)) (fA S (9 + 0 + 6)) zs x w_) := by
                exact ⟨hXl32, hFl32, (by first | exact off_1 (Or.inl (outC hn6 hn_5)) | exact off_1 (Or.inr hnw_) | exact hfi_.1 (by first | assumption | exact Decidable.not_not.mp (by assumption)) | exact hfi_.2 (by assumption))⟩
              exact W.iret (v := v4) hx hb hr (fun t_ ht_ hW_ => ⟨⟨v4, SL32, rfl, hpost, by rw [ht_]; exact hP, va_K.moved hW_.alike hK, hD⟩, hS.F ht_⟩) hS.2.2 (fk_get fk_cX11_offs_1 3 rfl)
            refine lv_iload_n hx hb (fk_get fk_cX11_offs_1 0 rfl) rfl (lv_at hl 2 rfl) ?_
            refine lv_goto (tgt := 70) hx hb (fk_get fk_cX11_offs_1 1 rfl) (by decide) ?_
            subst hQ
            have hpost : XI SL32 ∧ Fr (fun j k => (j = 11 ∧ 3 ≤ k ∧ k ≤ 7) ∨ (33 ≤ j ∧ j < 39 ∧ 2 ≤ k ∧ k ≤ 9) ∨ (51 ≤ j ∧ j < 57 ∧ k = 99) ∨ ((j = 17 ∨ j = 20) ∧ k = 99)) S SL32 ∧ ((v3 : Int32) = offP (lstW 3 1 C) τ C n (fun d => gX S (21 + 6 * 0 + d) (K d)) (fA S (9 + 0 + 6)) zs x w_) := by
              exact ⟨hXl32, hFl32, (by first | exact off_1 (Or.inl (outC hn6 hn_5)) | exact off_1 (Or.inr hnw_) | exact hfi_.1 (by first | assumption | exact Decidable.not_not.mp (by assumption)) | exact hfi_.2 (by assumption))⟩
            exact W.iret (v := v3) hx hb hr (fun t_ ht_ hW_ => ⟨⟨v3, SL32, rfl, hpost, by rw [ht_]; exact hP, va_K.moved hW_.alike hK, hD⟩, hS.F ht_⟩) hS.2.2 (fk_get fk_cX11_offs_1 3 rfl)
          have hk1 : 1 ≤ c := Nat.pos_of_ne_zero (fun q => c_10 (by rw [q]; decide))
          have ek1_ : nI c - 1 = nI (c - 1) := by
            obtain ⟨j_, rfl⟩ : ∃ j, c = j + 1 := ⟨c - 1, by omega⟩
            exact nI_pred j_
          refine lv_aload_n hx hb (fk_get fk_cX11_offs_0 20 rfl) rfl (lv_at hl 3 rfl) ?_
          refine lv_iload hx hb (fk_get fk_cX11_offs_0 21 rfl) (lv_at hl 0 rfl) ?_
          refine lv_iload_n hx hb (fk_get fk_cX11_offs_0 22 rfl) rfl (lv_at hl 4 rfl) ?_
          have hFc := va_self hD hS hA
          refine va_calli (va_runV (As := [.int ((nI c - 1)), .int (x)]) (rest := []) ⟨hx, hb, hml, hown, hT⟩ (c_x11_isSeenWithX l G ad SL32 H_8.size (n) (pz) (zs) (j_5) (K) (τ) (C) ((nI c - 1)) (x) (hn2) (by first | assumption | omega) (hcfL) ((fun d hd => by rw [hgxL d hd]; exact hgc d hd)) (h99) (hzL) (hz4) (hj_5) (ej_5) (hXl32)) (tV 2 hT m4_56 m4_58 mp_14 m1_1 m4_59 rfl rfl (by decide +kernel) ⟨Nat.le_of_ble_eq_true rfl, Nat.le_of_ble_eq_true rfl⟩) ⟨PcW_blind, va_recv hK hP (ci := 13) (q0 := 0) rfl (ix_at (lt71 (by omega)) (cX_0 G ad SL32)), PcW_of hP hK hD _⟩ rfl rfl hl.1 rfl (lv_room (Nat.le_of_ble_eq_true rfl)) (fk_get fk_cX11_offs_0 23 rfl) ⟨Nat.zero_le _, Nat.zero_le _⟩) hS (fun q _ h => hFc q h) hFc (fun r_12 S_14 t_ H locs ht_ hvm_ hw_13 hB_ hz_ hk_ hS => ?_)
          obtain ⟨hP, -, hD1_⟩ := hB_
          rw [ht_] at hP
          have hD : va_D A (wX G ad S_14) := hD1_.weaken (fun k q _ h => hFc q.1 h)
          try dsimp only at hw_13
          obtain ⟨hX_15, hF_16_, hw_13⟩ := hw_13
          have hF_16 : Fr (fun j k => (j = 11 ∧ 3 ≤ k ∧ k ≤ 7) ∨ (33 ≤ j ∧ j < 39 ∧ 2 ≤ k ∧ k ≤ 9) ∨ (51 ≤ j ∧ j < 57 ∧ k = 99) ∨ ((j = 17 ∨ j = 20) ∧ k = 99)) S S_14 := Fr.trans hFl32 (Fr.mono hF_16_ (fun j k h => by omega))
          have hv_ := hw_13
          rw [ek1_, cs_cg (s := fA SL32 (9 + 0 + 6)) (s' := fA S (9 + 0 + 6)) zs 0 _ (fun i a b => hsnL i (by omega)), show gX SL32 (21 + 6 * 0 + x.toNatClampNeg) (K x.toNatClampNeg) = _ from hgxL x.toNatClampNeg (by omega)] at hv_
          have hn2N : fF S_14 (9 + 0) 3 = nI n := (Fr.F hF_16_ (lt71 (by omega)) (by omega)).trans hn2
          have hcfN : CuF S_14 0 n pz τ C K := hcfL.fr (by omega) hn6 hF_16_ (fun d hd_ => by omega) (by omega) (fun j k a b => by omega)
          have hgxN : ∀ d, d < n → gX S_14 (21 + 6 * 0 + d) (K d) = gX S (21 + 6 * 0 + d) (K d) := fun d hd => (gx_same hF_16_ (by omega) (by omega) (by omega)).trans (hgxL d hd)
          have hzN : fF S_14 (9 + 0) 4 = nI zs := (Fr.F hF_16_ (lt71 (by omega)) (by omega)).trans hzL
          have hsnN : ∀ k, k < 4 → fA S_14 (9 + 0 + 6) k = fA S (9 + 0 + 6) k := fun k hk => by rw [Fr.A hF_16_ (j := 9 + 0 + 6) (lt71 (by omega)) (by omega)]; exact hsnL k hk
          refine lv_if_eq (tgt := 54) hx hb (fk_get fk_cX11_offs_0 24 rfl) (by decide) (fun c_17 => ?_) (fun c_17 => ?_)
          · refine lv_iinc (v := (nI (c - 1) - 1)) (lv' := [(5, .int ((nI (c - 1) - 1))), (4, .int (v4)), (3, .int (v3)), (0, .ref (ad 0)), (1, .int (x)), (2, .int (w_))]) hx hb (fk_get fk_cX11_offs_0 28 rfl) hl (k := 0) rfl ((nI_dn hk1)) (by decide) rfl (fun ls hl => ?_)
            refine lv_goto (tgt := 32) hx hb (fk_get fk_cX11_offs_0 29 rfl) (by decide) ?_
            exact ih (c - 1) (v3) (v4) (S_14) _ _ ls (hX_15) (hF_16) (by omega) (by omega) (hn2N) (hcfN) (hzN) (hsnN) (hgxN) ((by first | exact of_y hk hk1 hO_ (i01_t2 hv_ (by assumption)) | exact of_n hk hk1 hO_ (i01_f hv_ (by assumption)))) hP hD hS (lv_sub hl [0, 1, 2, 3, 4, 5] rfl)
          refine lv_iinc (v := v3 + 1) (lv' := [(3, .int (v3 + 1)), (5, .int ((nI c - 1))), (4, .int (v4)), (0, .ref (ad 0)), (1, .int (x)), (2, .int (w_))]) hx hb (fk_get fk_cX11_offs_0 25 rfl) hl (k := 2) rfl (rfl) (by decide) rfl (fun ls hl => ?_)
          refine lv_iload hx hb (fk_get fk_cX11_offs_0 26 rfl) (lv_at hl 1 rfl) ?_
          refine lv_istore (lv' := [(4, .int ((nI c - 1))), (3, .int (v3 + 1)), (5, .int ((nI c - 1))), (0, .ref (ad 0)), (1, .int (x)), (2, .int (w_))]) hx hb (fk_get fk_cX11_offs_0 27 rfl) hl (by decide) rfl (fun ls hl => ?_)
          refine lv_iinc (v := (nI (c - 1) - 1)) (lv' := [(5, .int ((nI (c - 1) - 1))), (4, .int ((nI c - 1))), (3, .int (v3 + 1)), (0, .ref (ad 0)), (1, .int (x)), (2, .int (w_))]) hx hb (fk_get fk_cX11_offs_0 28 rfl) hl (k := 2) rfl ((nI_dn hk1)) (by decide) rfl (fun ls hl => ?_)
          refine lv_goto (tgt := 32) hx hb (fk_get fk_cX11_offs_0 29 rfl) (by decide) ?_
          exact ih (c - 1) (v3 + 1) ((nI c - 1)) (S_14) _ _ ls (hX_15) (hF_16) (by omega) (by omega) (hn2N) (hcfN) (hzN) (hsnN) (hgxN) ((by first | exact of_y hk hk1 hO_ (i01_t2 hv_ (by assumption)) | exact of_n hk hk1 hO_ (i01_f hv_ (by assumption)))) hP hD hS (lv_sub hl [0, 1, 2, 3, 4, 5] rfl)
      exact lp_6 (32) (31) (0) ((-5)) (S) _ _ ls (hX) ((Fr.rf : Fr (fun j k => (j = 11 ∧ 3 ≤ k ∧ k ≤ 7) ∨ (33 ≤ j ∧ j < 39 ∧ 2 ≤ k ∧ k ≤ 9) ∨ (51 ≤ j ∧ j < 57 ∧ k = 99) ∨ ((j = 17 ∨ j = 20) ∧ k = 99)) S S)) (by omega) (by omega) (hn) (hcf) (hz) (fun _ _ => rfl) (fun _ _ => rfl) (rfl) hP hD hS (lv_sub hl [0, 1, 2, 3, 4, 5] rfl)
    have p_c_5 := if1_t hw_4 c_5
    have hnw_ := nan2 p_c_5
    refine lv_iconst (v := (-1)) hx hb (fk_get fk_cX11_offs_0 10 rfl) (by decide) ?_
    subst hQ
    have hpost : XI S ∧ Fr (fun j k => (j = 11 ∧ 3 ≤ k ∧ k ≤ 7) ∨ (33 ≤ j ∧ j < 39 ∧ 2 ≤ k ∧ k ≤ 9) ∨ (51 ≤ j ∧ j < 57 ∧ k = 99) ∨ ((j = 17 ∨ j = 20) ∧ k = 99)) S S ∧ (((-1) : Int32) = offP (lstW 3 1 C) τ C n (fun d => gX S (21 + 6 * 0 + d) (K d)) (fA S (9 + 0 + 6)) zs x w_) := by
      exact ⟨hX, (Fr.rf : Fr (fun j k => (j = 11 ∧ 3 ≤ k ∧ k ≤ 7) ∨ (33 ≤ j ∧ j < 39 ∧ 2 ≤ k ∧ k ≤ 9) ∨ (51 ≤ j ∧ j < 57 ∧ k = 99) ∨ ((j = 17 ∨ j = 20) ∧ k = 99)) S S), (by first | exact off_1 (Or.inl (outC hn6 hn_5)) | exact off_1 (Or.inr hnw_) | exact hfi_.1 (by first | assumption | exact Decidable.not_not.mp (by assumption)) | exact hfi_.2 (by assumption))⟩
    exact W.iret (v := (-1)) hx hb hr (fun t_ ht_ hW_ => ⟨⟨(-1), S, rfl, hpost, by rw [ht_]; exact hP, va_K.moved hW_.alike hK, hD⟩, hS.F ht_⟩) hS.2.2 (fk_get fk_cX11_offs_0 11 rfl)
  rw [show va_rf none = .null from rfl]
  refine lv_ifnullN (tgt := 20) hx hb (fk_get fk_cX11_offs_0 4 rfl) (by decide) ?_
  refine lv_iconst (v := (-1)) hx hb (fk_get fk_cX11_offs_0 10 rfl) (by decide) ?_
  subst hQ
  have hpost : XI S ∧ Fr (fun j k => (j = 11 ∧ 3 ≤ k ∧ k ≤ 7) ∨ (33 ≤ j ∧ j < 39 ∧ 2 ≤ k ∧ k ≤ 9) ∨ (51 ≤ j ∧ j < 57 ∧ k = 99) ∨ ((j = 17 ∨ j = 20) ∧ k = 99)) S S ∧ (((-1) : Int32) = offP (lstW 3 1 C) τ C n (fun d => gX S (21 + 6 * 0 + d) (K d)) (fA S (9 + 0 + 6)) zs x w_) := by
    exact ⟨hX, (Fr.rf : Fr (fun j k => (j = 11 ∧ 3 ≤ k ∧ k ≤ 7) ∨ (33 ≤ j ∧ j < 39 ∧ 2 ≤ k ∧ k ≤ 9) ∨ (51 ≤ j ∧ j < 57 ∧ k = 99) ∨ ((j = 17 ∨ j = 20) ∧ k = 99)) S S), (by first | exact off_1 (Or.inl (outC hn6 hn_5)) | exact off_1 (Or.inr hnw_) | exact hfi_.1 (by first | assumption | exact Decidable.not_not.mp (by assumption)) | exact hfi_.2 (by assumption))⟩
  exact W.iret (v := (-1)) hx hb hr (fun t_ ht_ hW_ => ⟨⟨(-1), S, rfl, hpost, by rw [ht_]; exact hP, va_K.moved hW_.alike hK, hD⟩, hS.F ht_⟩) hS.2.2 (fk_get fk_cX11_offs_0 11 rfl)
