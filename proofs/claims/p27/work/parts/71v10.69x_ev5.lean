set_option maxHeartbeats 800000 in
set_option maxRecDepth 100000 in
theorem c_x7_makeVisitsAloneX (l : Launch) (G : GG) (ad : Nat → Nat) (S : FS) (sz : Nat) (h i q pz bb lz wz : Nat) (τ : Nat → Int32) (C : Cls) (hh : h < 3) (hpk : pk i = 7) (hcu : CuC S h i q pz τ C) (hgb : GB bb (gX S i q)) (hbb : bb < 800000) (hln : lstW 3 1 C = nI lz) (hlz : lz ≤ 99) (hw40 : wz ≤ 40) (hX : XI S) : Met l yX7_makeVisitsAlone (Cond.code yX7_makeVisitsAlone cX7_makeVisitsAlone 5 (some .int) :: TBL) ({ frames := 6, cells := 0, slots := 0, locals := 174 } : Room) (PcW G (wX G ad S) sz [.ref (ad (9 + h)), .ref (ad i), .int ((nI wz))]) (va_Qi (fun (r : Int32) (S' : FS) => XI S' ∧ Fr (fun j k => j = i ∧ 5 ≤ k ∧ k ≤ 9) S S' ∧ ((r, gX S' i q) = alN 1 (fF S (9 + h) 6) (lstW 3 1 C) τ C (fF S i 0) (wz) (gX S i q) ∧ GB (bb + wz) (gX S' i q))) (fun S' t => BW G (va_A (wX G ad S) sz) (wX G ad S') t) (va_A (wX G ad S) sz)) 0 0 (va_A (wX G ad S) sz) := by
  refine Met.ofW (cc := cX7_makeVisitsAlone) (maxL := 5) (ret := (some .int)) (by decide) rfl ?_
  intro p e s m args below meth c₀ s₁ B hml hv
  obtain ⟨rfl, hsz, hP, hK, hD0⟩ := hv
  have hx := B.exec
  have hb := B.bytes
  have hr := B.returns
  have hT : ∀ w ∈ TBL, w.before ([.ref (ad (9 + h)), .ref (ad i), .int ((nI wz))] : List Value).toArray s = true := fun w h => atoms_spec (ws := Cond.code yX7_makeVisitsAlone cX7_makeVisitsAlone 5 (some .int) :: TBL) B.pre w (List.mem_cons_of_mem _ h)
  have hown : s.vm.findClass "LittleMore$Shop" = some m.cls := findClass_of_methodNamed B.named
  have hlocks := B.notSynchronized
  subst hsz
  have hD := hD0.self (sz := s.heap.size)
  generalize hAe : va_A (wX G ad S) s.heap.size = A at hD ⊢
  have hA : ∀ q : Nat, s.heap.size ≤ q → A q := fun q h => by rw [← hAe]; exact Or.inr h
  have hS : va_S A s.heap s.heap [] := va_S.rf
  have hP : va_P G.1 vwCl (wX G ad S) s.heap := hP
  have hl := lv_entry ([.ref (ad (9 + h)), .ref (ad i), .int ((nI wz))]) (n := 5) (Nat.le_of_ble_eq_true rfl)
  rw [lg_entry_eq]
  generalize (lg_sl ([.ref (ad (9 + h)), .ref (ad i), .int ((nI wz))]) ++ List.replicate (5 - (lg_sl ([.ref (ad (9 + h)), .ref (ad i), .int ((nI wz))])).length) Slot.unset).toArray = ls at hl ⊢
  have hl : lv_has ls 5 [(0, .ref (ad (9 + h))), (1, .ref (ad i)), (2, .int ((nI wz)))] := hl
  refine W_abs (fun Q hQ => ?_)
  generalize ([.ref (ad (9 + h)), .ref (ad i), .int ((nI wz))] : List Value).toArray = args at hT hQ ⊢
  have hb_i := pk7 hpk
  obtain ⟨hcx, hsay⟩ := id hcu
  obtain ⟨hkq, hq, hpz, hcok, hctx⟩ := id hcx
  refine lv_iconst (v := 0) hx hb (fk_get fk_cX7_makeVisitsAlone_0 0 rfl) (by decide) ?_
  refine lv_istore_n (lv' := [(3, .int (0)), (0, .ref (ad (9 + h))), (1, .ref (ad i)), (2, .int ((nI wz)))]) hx hb (fk_get fk_cX7_makeVisitsAlone_0 1 rfl) rfl hl (by decide) rfl (fun ls hl => ?_)
  refine lv_iconst (v := 0) hx hb (fk_get fk_cX7_makeVisitsAlone_0 2 rfl) (by decide) ?_
  refine lv_istore (lv' := [(4, .int (0)), (3, .int (0)), (0, .ref (ad (9 + h))), (1, .ref (ad i)), (2, .int ((nI wz)))]) hx hb (fk_get fk_cX7_makeVisitsAlone_0 3 rfl) hl (by decide) rfl (fun ls hl => ?_)
  have lp_1 : ∀ (fu : Nat) (c : Nat) (v3 : Int32) (SL5 : FS) (H_3 : Heap) (locs_4 : List Loc) (ls : Array Slot),  (XI SL5) → (Fr (fun j k => j = i ∧ 5 ≤ k ∧ k ≤ 9) S SL5) → (c ≤ wz) → (wz < c + fu) → (Fr (fun j k => j = i ∧ 5 ≤ k ∧ k ≤ 9) S SL5) → (CuC SL5 h i q pz τ C) → (GB (bb + c) (gX SL5 i q)) → ((v3 + (alN 1 (fF S (9 + h) 6) (lstW 3 1 C) τ C (fF S i 0) (wz - c) (gX SL5 i q)).1, (alN 1 (fF S (9 + h) 6) (lstW 3 1 C) τ C (fF S i 0) (wz - c) (gX SL5 i q)).2) = alN 1 (fF S (9 + h) 6) (lstW 3 1 C) τ C (fF S i 0) (wz) (gX S i q)) → va_P G.1 vwCl (wX G ad SL5) H_3 → va_D A (wX G ad SL5) → va_S A s.heap H_3 locs_4 → lv_has ls 5 [(4, .int ((nI c))), (3, .int (v3)), (0, .ref (ad (9 + h))), (1, .ref (ad i)), (2, .int ((nI wz)))] → W p l e ({ frames := 6, cells := 0, slots := 0, locals := 174 } : Room) s m args below meth c₀ H_3 locs_4 0 0 Q (F0 m 5 ls []) := by
    intro fu
    induction fu with
    | zero =>
      intro c v3 SL5 H_3 locs_4 ls hXl5 hFl5 hk hf hFl_ hcuL hgL hI hP hD hS hl
      exact absurd hf (by omega)
    | succ fu ih =>
      intro c v3 SL5 H_3 locs_4 ls hXl5 hFl5 hk hf hFl_ hcuL hgL hI hP hD hS hl
      obtain ⟨hcxL, hsayL⟩ := id hcuL
      obtain ⟨hkqL, hqL, hpzL, hcokL, hctxL⟩ := id hcxL
      refine lv_iload hx hb (fk_get fk_cX7_makeVisitsAlone_0 4 rfl) (lv_at hl 0 rfl) ?_
      refine lv_iload_n hx hb (fk_get fk_cX7_makeVisitsAlone_0 5 rfl) rfl (lv_at hl 4 rfl) ?_
      refine lv_icmp_ge (tgt := 32) hx hb (fk_get fk_cX7_makeVisitsAlone_0 6 rfl) (by decide) (fun c_5 => ?_) (fun c_5 => ?_)
      · have q_c_5 : wz ≤ c := ci_le (a := wz) (b := c) (by omega) (by omega) c_5
        have hendL : wz ≤ c ∨ gX SL5 i q 7 = 1 := Or.inl ((nI_leI (a := wz) (b := c) (by omega) (by omega)).mp c_5)
        refine lv_iload_n hx hb (fk_get fk_cX7_makeVisitsAlone_0 18 rfl) rfl (lv_at hl 1 rfl) ?_
        subst hQ
        have hpost : XI SL5 ∧ Fr (fun j k => j = i ∧ 5 ≤ k ∧ k ≤ 9) S SL5 ∧ (((v3 : Int32), gX SL5 i q) = alN 1 (fF S (9 + h) 6) (lstW 3 1 C) τ C (fF S i 0) (wz) (gX S i q) ∧ GB (bb + wz) (gX SL5 i q)) := by
          exact ⟨hXl5, hFl5, ⟨al_end hI hendL, hgL.mono (by omega)⟩⟩
        exact W.iret (v := v3) hx hb hr (fun t_ ht_ hW_ => ⟨⟨v3, SL5, rfl, hpost, by rw [ht_]; exact hP, va_K.moved hW_.alike hK, hD⟩, hS.F ht_⟩) hS.2.2 (fk_get fk_cX7_makeVisitsAlone_0 19 rfl)
      have q_c_5 : c < wz := ci_nle (a := wz) (b := c) (by omega) (by omega) c_5
      refine lv_aload_n hx hb (fk_get fk_cX7_makeVisitsAlone_0 7 rfl) rfl (lv_at hl 3 rfl) ?_
      refine va_get (D := G.1) (ci := 5) (v := .int (fF SL5 i 9)) (C := RX3) (T := TX3) (N := 10) hx hb hT inX3 hown hK hP i (ix_at (lt71 (by omega)) (cX_cust hpk)) rfl 9 (by decide) (hT _ m1_180) (fun _ h9 => h9) rfl (fk_get fk_cX7_makeVisitsAlone_0 8 rfl) ?_
      refine lv_if_ne (tgt := 32) hx hb (fk_get fk_cX7_makeVisitsAlone_0 9 rfl) (by decide) (fun c_6 => ?_) (fun c_6 => ?_)
      · have hendL : wz ≤ c ∨ gX SL5 i q 7 = 1 := Or.inr ((hgL.2.2.2).resolve_left c_6)
        refine lv_iload_n hx hb (fk_get fk_cX7_makeVisitsAlone_0 18 rfl) rfl (lv_at hl 1 rfl) ?_
        subst hQ
        have hpost : XI SL5 ∧ Fr (fun j k => j = i ∧ 5 ≤ k ∧ k ≤ 9) S SL5 ∧ (((v3 : Int32), gX SL5 i q) = alN 1 (fF S (9 + h) 6) (lstW 3 1 C) τ C (fF S i 0) (wz) (gX S i q) ∧ GB (bb + wz) (gX SL5 i q)) := by
          exact ⟨hXl5, hFl5, ⟨al_end hI hendL, hgL.mono (by omega)⟩⟩
        exact W.iret (v := v3) hx hb hr (fun t_ ht_ hW_ => ⟨⟨v3, SL5, rfl, hpost, by rw [ht_]; exact hP, va_K.moved hW_.alike hK, hD⟩, hS.F ht_⟩) hS.2.2 (fk_get fk_cX7_makeVisitsAlone_0 19 rfl)
      have hgoL : ¬ gX SL5 i q 7 = 1 := fun z_ => by
        have y_ : fF SL5 i 9 = 0 := by first | exact c_6 | exact Decidable.not_not.mp c_6
        rw [show gX SL5 i q 7 = fF SL5 i 9 from rfl, y_] at z_
        exact absurd z_ (by decide)
      refine lv_iload_n hx hb (fk_get fk_cX7_makeVisitsAlone_0 10 rfl) rfl (lv_at hl 1 rfl) ?_
      refine lv_aload_n hx hb (fk_get fk_cX7_makeVisitsAlone_0 11 rfl) rfl (lv_at hl 2 rfl) ?_
      refine lv_aload_n hx hb (fk_get fk_cX7_makeVisitsAlone_0 12 rfl) rfl (lv_at hl 3 rfl) ?_
      have hFc := va_self hD hS hA
      refine va_calli (va_runV (As := [.ref (ad i)]) (rest := [.int (v3)]) ⟨hx, hb, hml, hown, hT⟩ (c_x7_makeVisitE l G ad SL5 H_3.size (h) (i) (q) (pz) (bb + c) (lz) (τ) (C) (hh) (hpk) (by first | assumption | omega) (by first | assumption | omega) (by first | assumption | omega) (by first | assumption | omega) (by first | assumption | omega) (hXl5)) (tV 1 hT m3_206 m3_170 m3_171 m1_9 m3_172 rfl rfl (by decide +kernel) ⟨Nat.le_of_ble_eq_true rfl, Nat.le_of_ble_eq_true rfl⟩) ⟨PcW_blind, va_recv hK hP (ci := 9) (q0 := (9 + h)) rfl (ix_at (lt71 (by omega)) (cX_shop (pk_shop hh))), PcW_of hP hK hD _⟩ rfl rfl hl.1 rfl (lv_room (Nat.le_of_ble_eq_true rfl)) (fk_get fk_cX7_makeVisitsAlone_0 13 rfl) ⟨Nat.zero_le _, Nat.zero_le _⟩) hS (fun q _ h => hFc q h) hFc (fun r_7 S_9 t_ H locs ht_ hvm_ hw_8 hB_ hz_ hk_ hS => ?_)
      obtain ⟨hP, -, hD1_⟩ := hB_
      rw [ht_] at hP
      have hD : va_D A (wX G ad S_9) := hD1_.weaken (fun k q _ h => hFc q.1 h)
      try dsimp only at hw_8
      obtain ⟨hX_10, hF_11_, hw_8⟩ := hw_8
      have hF_11 : Fr (fun j k => j = i ∧ 5 ≤ k ∧ k ≤ 9) S S_9 := Fr.trans hFl5 (Fr.mono hF_11_ (fun j k h => by omega))
      obtain ⟨hr_, hv_⟩ := hw_8
      have hoL : fF SL5 (9 + h) 6 = fF S (9 + h) 6 := hFl_.F (lt71 (by omega)) (by omega)
      have hcL : fF SL5 i 0 = fF S i 0 := hFl_.F (lt71 (by omega)) (by omega)
      rw [hoL, hcL] at hr_ hv_
      subst hr_
      have hg_ : gX S_9 i q = visF 1 (lstW 3 1 C) (moF (fF S (9 + h) 6) τ C (fF S i 0) (gX SL5 i q)) (gX SL5 i q) := gx_of hF_11_ (by omega) (by omega) (by omega) (by omega) hv_ (fun k hk_ => vis_out hk_)
      have hcuN : CuC S_9 h i q pz τ C := hcuL.fr (by omega) hh hF_11_ (by omega) (by omega) (fun j k a b => by omega)
      refine lv_iadd hx hb (fk_get fk_cX7_makeVisitsAlone_0 14 rfl) ?_
      refine lv_istore_n (lv' := [(3, .int ((v3 + (boF (moF (fF S (9 + h) 6) τ C (fF S i 0) (gX SL5 i q)) (gX SL5 i q))))), (4, .int ((nI c))), (0, .ref (ad (9 + h))), (1, .ref (ad i)), (2, .int ((nI wz)))]) hx hb (fk_get fk_cX7_makeVisitsAlone_0 15 rfl) rfl hl (by decide) rfl (fun ls hl => ?_)
      refine lv_iinc (v := (nI (c + 1))) (lv' := [(4, .int ((nI (c + 1)))), (3, .int ((v3 + (boF (moF (fF S (9 + h) 6) τ C (fF S i 0) (gX SL5 i q)) (gX SL5 i q))))), (0, .ref (ad (9 + h))), (1, .ref (ad i)), (2, .int ((nI wz)))]) hx hb (fk_get fk_cX7_makeVisitsAlone_0 16 rfl) hl (k := 1) rfl ((nI_1 c)) (by decide) rfl (fun ls hl => ?_)
      refine lv_goto (tgt := 5) hx hb (fk_get fk_cX7_makeVisitsAlone_0 17 rfl) (by decide) ?_
      exact ih (c + 1) ((v3 + (boF (moF (fF S (9 + h) 6) τ C (fF S i 0) (gX SL5 i q)) (gX SL5 i q)))) (S_9) _ _ ls (hX_10) (hF_11) (by omega) (by omega) (hF_11) (hcuN) ((by rw [hg_]; exact hgL.vis (by omega))) (al_step (by omega) hgoL hI hg_) hP hD hS (lv_sub hl [0, 1, 2, 3, 4] rfl)
  exact lp_1 (wz + 1) (0) (0) (S) _ _ ls (hX) ((Fr.rf : Fr (fun j k => j = i ∧ 5 ≤ k ∧ k ≤ 9) S S)) (by omega) (by omega) (Fr.rf) (hcu) (hgb) ((by rw [Nat.sub_zero, Int32.zero_add])) hP hD hS (lv_sub hl [0, 1, 2, 3, 4] rfl)
set_option maxHeartbeats 800000 in
set_option maxRecDepth 100000 in
theorem c_x7_makeSaturdayX (l : Launch) (G : GG) (ad : Nat → Nat) (S : FS) (sz : Nat) (h n pz bb lz : Nat) (K : Nat → Nat) (τ : Nat → Int32) (C : Cls) (hh : h < 3) (hn : fF S (9 + h) 3 = nI n) (hn6 : n ≤ 6) (hcf : CuF S h n pz τ C K) (hgb : ∀ c, c < n → GB bb ((fun d => gX S (21 + 6 * h + d) (K d)) c)) (hbb : bb < 800000) (hln : lstW 3 1 C = nI lz) (hlz : lz ≤ 99) (hX : XI S) : Met l yX7_makeSaturday (Cond.code yX7_makeSaturday cX7_makeSaturday 3 (some .int) :: TBL) ({ frames := 6, cells := 0, slots := 0, locals := 174 } : Room) (PcW G (wX G ad S) sz [.ref (ad (9 + h))]) (va_Qi (fun (r : Int32) (S' : FS) => XI S' ∧ Fr (fun j k => 21 + 6 * h ≤ j ∧ j < 27 + 6 * h ∧ 5 ≤ k ∧ k ≤ 9) S S' ∧ (r = sbN (fF S (9 + h) 6) τ C (fun d => gX S (21 + 6 * h + d) (K d)) (n) ∧ ∀ d, d < n → (fun d => gX S' (21 + 6 * h + d) (K d)) d = saG 1 (fF S (9 + h) 6) (lstW 3 1 C) τ C (n) (fun d => gX S (21 + 6 * h + d) (K d)) d)) (fun S' t => BW G (va_A (wX G ad S) sz) (wX G ad S') t) (va_A (wX G ad S) sz)) 0 0 (va_A (wX G ad S) sz) := by
  refine Met.ofW (cc := cX7_makeSaturday) (maxL := 3) (ret := (some .int)) (by decide) rfl ?_
  intro p e s m args below meth c₀ s₁ B hml hv
  obtain ⟨rfl, hsz, hP, hK, hD0⟩ := hv
  have hx := B.exec
  have hb := B.bytes
  have hr := B.returns
  have hT : ∀ w ∈ TBL, w.before ([.ref (ad (9 + h))] : List Value).toArray s = true := fun w h => atoms_spec (ws := Cond.code yX7_makeSaturday cX7_makeSaturday 3 (some .int) :: TBL) B.pre w (List.mem_cons_of_mem _ h)
  have hown : s.vm.findClass "LittleMore$Shop" = some m.cls := findClass_of_methodNamed B.named
  have hlocks := B.notSynchronized
  subst hsz
  have hD := hD0.self (sz := s.heap.size)
  generalize hAe : va_A (wX G ad S) s.heap.size = A at hD ⊢
  have hA : ∀ q : Nat, s.heap.size ≤ q → A q := fun q h => by rw [← hAe]; exact Or.inr h
  have hS : va_S A s.heap s.heap [] := va_S.rf
  have hP : va_P G.1 vwCl (wX G ad S) s.heap := hP
  have hl := lv_entry ([.ref (ad (9 + h))]) (n := 3) (Nat.le_of_ble_eq_true rfl)
  rw [lg_entry_eq]
  generalize (lg_sl ([.ref (ad (9 + h))]) ++ List.replicate (3 - (lg_sl ([.ref (ad (9 + h))])).length) Slot.unset).toArray = ls at hl ⊢
  have hl : lv_has ls 3 [(0, .ref (ad (9 + h)))] := hl
  refine W_abs (fun Q hQ => ?_)
  generalize ([.ref (ad (9 + h))] : List Value).toArray = args at hT hQ ⊢
  refine lv_iconst (v := 0) hx hb (fk_get fk_cX7_makeSaturday_0 0 rfl) (by decide) ?_
  refine lv_istore_n (lv' := [(1, .int (0)), (0, .ref (ad (9 + h)))]) hx hb (fk_get fk_cX7_makeSaturday_0 1 rfl) rfl hl (by decide) rfl (fun ls hl => ?_)
  refine lv_iconst (v := 0) hx hb (fk_get fk_cX7_makeSaturday_0 2 rfl) (by decide) ?_
  refine lv_istore_n (lv' := [(2, .int (0)), (1, .int (0)), (0, .ref (ad (9 + h)))]) hx hb (fk_get fk_cX7_makeSaturday_0 3 rfl) rfl hl (by decide) rfl (fun ls hl => ?_)
  have lp_1 : ∀ (fu : Nat) (c : Nat) (v1 : Int32) (SL4 : FS) (H_3 : Heap) (locs_4 : List Loc) (ls : Array Slot),  (XI SL4) → (Fr (fun j k => 21 + 6 * h ≤ j ∧ j < 27 + 6 * h ∧ 5 ≤ k ∧ k ≤ 9) S SL4) → (c ≤ n) → (n < c + fu) → (fF SL4 (9 + h) 3 = nI n) → (Fr (fun j k => 21 + 6 * h ≤ j ∧ j < 27 + 6 * h ∧ 5 ≤ k ∧ k ≤ 9) S SL4) → (CuF SL4 h n pz τ C K) → (∀ d, d < n → (fun d => gX SL4 (21 + 6 * h + d) (K d)) d = saG 1 (fF S (9 + h) 6) (lstW 3 1 C) τ C (c) (fun d => gX S (21 + 6 * h + d) (K d)) d) → (v1 = sbN (fF S (9 + h) 6) τ C (fun d => gX S (21 + 6 * h + d) (K d)) (c)) → va_P G.1 vwCl (wX G ad SL4) H_3 → va_D A (wX G ad SL4) → va_S A s.heap H_3 locs_4 → lv_has ls 3 [(2, .int ((nI c))), (1, .int (v1)), (0, .ref (ad (9 + h)))] → W p l e ({ frames := 6, cells := 0, slots := 0, locals := 174 } : Room) s m args below meth c₀ H_3 locs_4 0 0 Q (F0 m 4 ls []) := by
    intro fu
    induction fu with
    | zero =>
      intro c v1 SL4 H_3 locs_4 ls hXl4 hFl4 hk hf hnL hFl_ hcfL hGL hvL hP hD hS hl
      exact absurd hf (by omega)
    | succ fu ih =>
      intro c v1 SL4 H_3 locs_4 ls hXl4 hFl4 hk hf hnL hFl_ hcfL hGL hvL hP hD hS hl
      have hgbL := sa_gb (H := (fun d => gX SL4 (21 + 6 * h + d) (K d))) (G := (fun d => gX S (21 + 6 * h + d) (K d))) hGL hgb (by omega)
      have hatL := sa_at (H := (fun d => gX SL4 (21 + 6 * h + d) (K d))) (G := (fun d => gX S (21 + 6 * h + d) (K d))) (c := c) hGL
      refine lv_iload_n hx hb (fk_get fk_cX7_makeSaturday_0 4 rfl) rfl (lv_at hl 0 rfl) ?_
      refine lv_aload_n hx hb (fk_get fk_cX7_makeSaturday_0 5 rfl) rfl (lv_at hl 2 rfl) ?_
      refine va_get (D := G.1) (ci := 9) (v := .int (fF SL4 (9 + h) 3)) (C := RX7) (T := TX7) (N := 8) hx hb hT inX7 hown hK hP (9 + h) (ix_at (lt71 (by omega)) (cX_shop (pk_shop hh))) rfl 3 (by decide) (hT _ m1_208) (fun _ h9 => h9) rfl (fk_get fk_cX7_makeSaturday_0 6 rfl) ?_
      rw [hnL]
      refine lv_icmp_ge (tgt := 43) hx hb (fk_get fk_cX7_makeSaturday_0 7 rfl) (by decide) (fun c_5 => ?_) (fun c_5 => ?_)
      · have q_c_5 : n ≤ c := ci_le (a := n) (b := c) (by omega) (by omega) c_5
        have hend : c = n := by have z_ := (nI_leI (a := n) (b := c) (by omega) (by omega)).mp c_5; omega
        refine lv_iload_n hx hb (fk_get fk_cX7_makeSaturday_0 25 rfl) rfl (lv_at hl 1 rfl) ?_
        subst hQ
        have hpost : XI SL4 ∧ Fr (fun j k => 21 + 6 * h ≤ j ∧ j < 27 + 6 * h ∧ 5 ≤ k ∧ k ≤ 9) S SL4 ∧ ((v1 : Int32) = sbN (fF S (9 + h) 6) τ C (fun d => gX S (21 + 6 * h + d) (K d)) (n) ∧ ∀ d, d < n → (fun d => gX SL4 (21 + 6 * h + d) (K d)) d = saG 1 (fF S (9 + h) 6) (lstW 3 1 C) τ C (n) (fun d => gX S (21 + 6 * h + d) (K d)) d) := by
          exact ⟨hXl4, hFl4, by subst hend; exact ⟨hvL, hGL⟩⟩
        exact W.iret (v := v1) hx hb hr (fun t_ ht_ hW_ => ⟨⟨v1, SL4, rfl, hpost, by rw [ht_]; exact hP, va_K.moved hW_.alike hK, hD⟩, hS.F ht_⟩) hS.2.2 (fk_get fk_cX7_makeSaturday_0 26 rfl)
      have q_c_5 : c < n := ci_nle (a := n) (b := c) (by omega) (by omega) c_5
      refine lv_aload_n hx hb (fk_get fk_cX7_makeSaturday_0 8 rfl) rfl (lv_at hl 2 rfl) ?_
      refine va_get (D := G.1) (ci := 9) (v := .ref (ad (9 + h + 3))) (C := RX7) (T := TX7) (N := 8) hx hb hT inX7 hown hK hP (9 + h) (ix_at (lt71 (by omega)) (cX_shop (pk_shop hh))) rfl 0 (by decide) (hT _ m1_202) (fun _ h9 => h9) rfl (fk_get fk_cX7_makeSaturday_0 9 rfl) ?_
      refine lv_iload_n hx hb (fk_get fk_cX7_makeSaturday_0 10 rfl) rfl (lv_at hl 0 rfl) ?_
      refine x_ppl hx hb hK hP hh (k := c) (by omega) (rfl) (fk_get fk_cX7_makeSaturday_0 11 rfl) ?_
      generalize hg_i_17 : 21 + 6 * h + c = i_17
      have hp_i_17 : pk i_17 = 7 := by rw [← hg_i_17]; exact pk_c hh (by omega)
      have hb_i_17 := pk7 hp_i_17
      refine va_get (D := G.1) (ci := 5) (v := .int (fF SL4 i_17 9)) (C := RX3) (T := TX3) (N := 10) hx hb hT inX3 hown hK hP i_17 (ix_at (lt71 (by omega)) (cX_cust hp_i_17)) rfl 9 (by decide) (hT _ m1_180) (fun _ h9 => h9) rfl (fk_get fk_cX7_makeSaturday_0 12 rfl) ?_
      refine lv_if_ne (tgt := 37) hx hb (fk_get fk_cX7_makeSaturday_0 13 rfl) (by decide) (fun c_6 => ?_) (fun c_6 => ?_)
      · have hgoL : (fun d => gX SL4 (21 + 6 * h + d) (K d)) c 7 = 1 := (show gX SL4 (21 + 6 * h + c) (K c) 7 = 1 from ((hgbL c (by omega)).2.2.2).resolve_left (by rw [hg_i_17]; exact c_6))
        refine lv_iinc (v := (nI (c + 1))) (lv' := [(2, .int ((nI (c + 1)))), (1, .int (v1)), (0, .ref (ad (9 + h)))]) hx hb (fk_get fk_cX7_makeSaturday_0 23 rfl) hl (k := 0) rfl ((nI_1 c)) (by decide) rfl (fun ls hl => ?_)
        refine lv_goto (tgt := 4) hx hb (fk_get fk_cX7_makeSaturday_0 24 rfl) (by decide) ?_
        exact ih (c + 1) (v1) (SL4) _ _ ls (hXl4) (hFl4) (by omega) (by omega) (by first | exact hnN | exact hnL) (hFl4) (by first | exact hcfN | exact hcfL) (by first | exact hGN | exact sa_skip (H := (fun d => gX SL4 (21 + 6 * h + d) (K d))) (G := (fun d => gX S (21 + 6 * h + d) (K d))) hGL (by omega) hgoL) (by first | exact hvN | exact sb_skip hvL (hatL (by omega)) hgoL) hP hD hS (lv_sub hl [0, 1, 2] rfl)
      have hgoL : ¬ (fun d => gX SL4 (21 + 6 * h + d) (K d)) c 7 = 1 := fun z_ => by
        have y_ : fF SL4 i_17 9 = 0 := by first | exact c_6 | exact Decidable.not_not.mp c_6
        rw [show (fun d => gX SL4 (21 + 6 * h + d) (K d)) c 7 = fF SL4 i_17 9 from by rw [← hg_i_17]; rfl, y_] at z_
        exact absurd z_ (by decide)
      refine lv_iload_n hx hb (fk_get fk_cX7_makeSaturday_0 14 rfl) rfl (lv_at hl 1 rfl) ?_
      refine lv_aload_n hx hb (fk_get fk_cX7_makeSaturday_0 15 rfl) rfl (lv_at hl 2 rfl) ?_
      refine lv_aload_n hx hb (fk_get fk_cX7_makeSaturday_0 16 rfl) rfl (lv_at hl 2 rfl) ?_
      refine va_get (D := G.1) (ci := 9) (v := .ref (ad (9 + h + 3))) (C := RX7) (T := TX7) (N := 8) hx hb hT inX7 hown hK hP (9 + h) (ix_at (lt71 (by omega)) (cX_shop (pk_shop hh))) rfl 0 (by decide) (hT _ m1_202) (fun _ h9 => h9) rfl (fk_get fk_cX7_makeSaturday_0 17 rfl) ?_
      refine lv_iload_n hx hb (fk_get fk_cX7_makeSaturday_0 18 rfl) rfl (lv_at hl 0 rfl) ?_
      refine x_ppl hx hb hK hP hh (k := c) (by omega) (rfl) (fk_get fk_cX7_makeSaturday_0 19 rfl) ?_
      generalize hg_i_31 : 21 + 6 * h + c = i_31
      have hp_i_31 : pk i_31 = 7 := by rw [← hg_i_31]; exact pk_c hh (by omega)
      have hb_i_31 := pk7 hp_i_31
      have hFc := va_self hD hS hA
      refine va_calli (va_runV (As := [.ref (ad i_31)]) (rest := [.int (v1)]) ⟨hx, hb, hml, hown, hT⟩ (c_x7_makeVisitE l G ad SL4 H_3.size (h) (i_31) (K c) (pz) (bb + 1) (lz) (τ) (C) (hh) (hp_i_31) ((by rw [← hg_i_31]; exact hcfL.at (by omega))) ((by rw [← hg_i_31]; exact hgbL c (by omega))) (by omega) (hln) (hlz) (hXl4)) (tV 1 hT m3_206 m3_170 m3_171 m1_9 m3_172 rfl rfl (by decide +kernel) ⟨Nat.le_of_ble_eq_true rfl, Nat.le_of_ble_eq_true rfl⟩) ⟨PcW_blind, va_recv hK hP (ci := 9) (q0 := (9 + h)) rfl (ix_at (lt71 (by omega)) (cX_shop (pk_shop hh))), PcW_of hP hK hD _⟩ rfl rfl hl.1 rfl (lv_room (Nat.le_of_ble_eq_true rfl)) (fk_get fk_cX7_makeSaturday_0 20 rfl) ⟨Nat.zero_le _, Nat.zero_le _⟩) hS (fun q _ h => hFc q h) hFc (fun r_7 S_9 t_ H locs ht_ hvm_ hw_8 hB_ hz_ hk_ hS => ?_)
      obtain ⟨hP, -, hD1_⟩ := hB_
      rw [ht_] at hP
      have hD : va_D A (wX G ad S_9) := hD1_.weaken (fun k q _ h => hFc q.1 h)
      try dsimp only at hw_8
      obtain ⟨hX_10, hF_11_, hw_8⟩ := hw_8
      have hF_11 : Fr (fun j k => 21 + 6 * h ≤ j ∧ j < 27 + 6 * h ∧ 5 ≤ k ∧ k ≤ 9) S S_9 := Fr.trans hFl4 (Fr.mono hF_11_ (fun j k h => by omega))
      obtain ⟨hr_, hv_⟩ := hw_8
      have hoL : fF SL4 (9 + h) 6 = fF S (9 + h) 6 := hFl_.F (lt71 (by omega)) (by omega)
      have hcL : fF SL4 i_31 0 = nI c := by rw [← hg_i_31]; exact (hFl_.F (lt71 (by omega)) (by omega)).trans (hX.num hh (by omega))
      rw [hoL, hcL] at hr_ hv_
      subst hr_
      have hg_ : gX S_9 i_31 (K c) = visF 1 (lstW 3 1 C) (moF (fF S (9 + h) 6) τ C (nI c) (gX SL4 i_31 (K c))) (gX SL4 i_31 (K c)) := gx_of hF_11_ (by omega) (by omega) (by omega) (by omega) hv_ (fun k hk_ => vis_out hk_)
      have hcfN : CuF S_9 h n pz τ C K := hcfL.fr hh hn6 hF_11_ (fun d hd_ => by omega) (by omega) (fun j k a b => by omega)
      have hnN : fF S_9 (9 + h) 3 = nI n := (Fr.F hF_11_ (lt71 (by omega)) (by omega)).trans hnL
      have hGN := sa_step (H := (fun d => gX SL4 (21 + 6 * h + d) (K d))) (G := (fun d => gX S (21 + 6 * h + d) (K d))) (H' := (fun d => gX S_9 (21 + 6 * h + d) (K d))) (c := c) hGL (by omega) hgoL (fun d hd_ hne_ => gx_same hF_11_ (by omega) (fun k a b => by omega) (by omega)) (by rw [← hg_i_31] at hg_; exact hg_)
      have hvN := sb_step hvL (hatL (by omega)) hgoL
      rw [hg_i_31] at hvN
      refine lv_iadd hx hb (fk_get fk_cX7_makeSaturday_0 21 rfl) ?_
      refine lv_istore_n (lv' := [(1, .int ((v1 + (boF (moF (fF S (9 + h) 6) τ C (nI c) (gX SL4 i_31 (K c))) (gX SL4 i_31 (K c)))))), (2, .int ((nI c))), (0, .ref (ad (9 + h)))]) hx hb (fk_get fk_cX7_makeSaturday_0 22 rfl) rfl hl (by decide) rfl (fun ls hl => ?_)
      refine lv_iinc (v := (nI (c + 1))) (lv' := [(2, .int ((nI (c + 1)))), (1, .int ((v1 + (boF (moF (fF S (9 + h) 6) τ C (nI c) (gX SL4 i_31 (K c))) (gX SL4 i_31 (K c)))))), (0, .ref (ad (9 + h)))]) hx hb (fk_get fk_cX7_makeSaturday_0 23 rfl) hl (k := 1) rfl ((nI_1 c)) (by decide) rfl (fun ls hl => ?_)
      refine lv_goto (tgt := 4) hx hb (fk_get fk_cX7_makeSaturday_0 24 rfl) (by decide) ?_
      exact ih (c + 1) ((v1 + (boF (moF (fF S (9 + h) 6) τ C (nI c) (gX SL4 i_31 (K c))) (gX SL4 i_31 (K c))))) (S_9) _ _ ls (hX_10) (hF_11) (by omega) (by omega) (by first | exact hnN | exact hnL) (hF_11) (by first | exact hcfN | exact hcfL) (by first | exact hGN | exact sa_skip (H := (fun d => gX SL4 (21 + 6 * h + d) (K d))) (G := (fun d => gX S (21 + 6 * h + d) (K d))) hGL (by omega) hgoL) (by first | exact hvN | exact sb_skip hvL (hatL (by omega)) hgoL) hP hD hS (lv_sub hl [0, 1, 2] rfl)
  exact lp_1 (n + 1) (0) (0) (S) _ _ ls (hX) ((Fr.rf : Fr (fun j k => 21 + 6 * h ≤ j ∧ j < 27 + 6 * h ∧ 5 ≤ k ∧ k ≤ 9) S S)) (by omega) (by omega) (hn) (Fr.rf) (hcf) (sa_0 _ (fun _ _ => rfl)) (rfl) hP hD hS (lv_sub hl [0, 1, 2] rfl)
set_option maxHeartbeats 800000 in
set_option maxRecDepth 100000 in
theorem c_x7_goneBitsX (l : Launch) (G : GG) (ad : Nat → Nat) (S : FS) (sz : Nat) (h n pz bb lz : Nat) (K : Nat → Nat) (τ : Nat → Int32) (C : Cls) (hh : h < 3) (hn : fF S (9 + h) 3 = nI n) (hn6 : n ≤ 6) (hcf : CuF S h n pz τ C K) (hgb : ∀ c, c < n → GB bb ((fun d => gX S (21 + 6 * h + d) (K d)) c)) (hbb : bb < 800000) (hX : XI S) : Met l yX7_goneBits (Cond.code yX7_goneBits cX7_goneBits 3 (some .int) :: TBL) ({ frames := 2, cells := 0, slots := 0, locals := 64 } : Room) (PcW G (wX G ad S) sz [.ref (ad (9 + h))]) (vp_Si (fun (r : Int32) => r = nI (goN (fun d => gX S (21 + 6 * h + d) (K d)) n))) 0 0 (fun _ => False) := by
  refine Met.ofW (cc := cX7_goneBits) (maxL := 3) (ret := (some .int)) (by decide) rfl ?_
  intro p e s m args below meth c₀ s₁ B hml hv
  obtain ⟨rfl, hsz, hP, hK, hD0⟩ := hv
  have hx := B.exec
  have hb := B.bytes
  have hr := B.returns
  have hT : ∀ w ∈ TBL, w.before ([.ref (ad (9 + h))] : List Value).toArray s = true := fun w h => atoms_spec (ws := Cond.code yX7_goneBits cX7_goneBits 3 (some .int) :: TBL) B.pre w (List.mem_cons_of_mem _ h)
  have hown : s.vm.findClass "LittleMore$Shop" = some m.cls := findClass_of_methodNamed B.named
  have hlocks := B.notSynchronized
  have hD := hD0
  have hP : va_P G.1 vwCl (wX G ad S) s.heap := hP
  have hl := lv_entry ([.ref (ad (9 + h))]) (n := 3) (Nat.le_of_ble_eq_true rfl)
  rw [lg_entry_eq]
  generalize (lg_sl ([.ref (ad (9 + h))]) ++ List.replicate (3 - (lg_sl ([.ref (ad (9 + h))])).length) Slot.unset).toArray = ls at hl ⊢
  have hl : lv_has ls 3 [(0, .ref (ad (9 + h)))] := hl
  refine W_abs (fun Q hQ => ?_)
  generalize ([.ref (ad (9 + h))] : List Value).toArray = args at hT hQ ⊢
  have hgbL := hgb
  refine lv_iconst (v := 0) hx hb (fk_get fk_cX7_goneBits_0 0 rfl) (by decide) ?_
  refine lv_istore_n (lv' := [(1, .int (0)), (0, .ref (ad (9 + h)))]) hx hb (fk_get fk_cX7_goneBits_0 1 rfl) rfl hl (by decide) rfl (fun ls hl => ?_)
  refine lv_iconst (v := 0) hx hb (fk_get fk_cX7_goneBits_0 2 rfl) (by decide) ?_
  refine lv_istore_n (lv' := [(2, .int (0)), (1, .int (0)), (0, .ref (ad (9 + h)))]) hx hb (fk_get fk_cX7_goneBits_0 3 rfl) rfl hl (by decide) rfl (fun ls hl => ?_)
  have lp_1 : ∀ (fu : Nat) (c : Nat) (v1 : Int32) (ls : Array Slot),  (c ≤ n) → (n < c + fu) → (v1 = nI (goN (fun d => gX S (21 + 6 * h + d) (K d)) (c))) → lv_has ls 3 [(2, .int ((nI c))), (1, .int (v1)), (0, .ref (ad (9 + h)))] → W p l e ({ frames := 2, cells := 0, slots := 0, locals := 64 } : Room) s m args below meth c₀ s.heap [] 0 0 Q (F0 m 4 ls []) := by
    intro fu
    induction fu with
    | zero =>
      intro c v1 ls hk hf hvL hl
      exact absurd hf (by omega)
    | succ fu ih =>
      intro c v1 ls hk hf hvL hl
      refine lv_iload_n hx hb (fk_get fk_cX7_goneBits_0 4 rfl) rfl (lv_at hl 0 rfl) ?_
      refine lv_aload_n hx hb (fk_get fk_cX7_goneBits_0 5 rfl) rfl (lv_at hl 2 rfl) ?_
      refine va_get (D := G.1) (ci := 9) (v := .int (fF S (9 + h) 3)) (C := RX7) (T := TX7) (N := 8) hx hb hT inX7 hown hK hP (9 + h) (ix_at (lt71 (by omega)) (cX_shop (pk_shop hh))) rfl 3 (by decide) (hT _ m1_208) (fun _ h9 => h9) rfl (fk_get fk_cX7_goneBits_0 6 rfl) ?_
      rw [hn]
      refine lv_icmp_ge (tgt := 36) hx hb (fk_get fk_cX7_goneBits_0 7 rfl) (by decide) (fun c_2 => ?_) (fun c_2 => ?_)
      · have q_c_2 : n ≤ c := ci_le (a := n) (b := c) (by omega) (by omega) c_2
        have hend : c = n := by have z_ := (nI_leI (a := n) (b := c) (by omega) (by omega)).mp c_2; omega
        refine lv_iload_n hx hb (fk_get fk_cX7_goneBits_0 22 rfl) rfl (lv_at hl 1 rfl) ?_
        subst hQ
        have hpost : (v1 : Int32) = nI (goN (fun d => gX S (21 + 6 * h + d) (K d)) n) := by
          subst hend
          exact hvL
        exact W.iret (v := v1) hx hb hr (fun t_ ht_ hW_ => ⟨v1, rfl, hpost, ht_⟩) (fun q h => by cases h) (fk_get fk_cX7_goneBits_0 23 rfl)
      have q_c_2 : c < n := ci_nle (a := n) (b := c) (by omega) (by omega) c_2
      refine lv_aload_n hx hb (fk_get fk_cX7_goneBits_0 8 rfl) rfl (lv_at hl 2 rfl) ?_
      refine va_get (D := G.1) (ci := 9) (v := .ref (ad (9 + h + 3))) (C := RX7) (T := TX7) (N := 8) hx hb hT inX7 hown hK hP (9 + h) (ix_at (lt71 (by omega)) (cX_shop (pk_shop hh))) rfl 0 (by decide) (hT _ m1_202) (fun _ h9 => h9) rfl (fk_get fk_cX7_goneBits_0 9 rfl) ?_
      refine lv_iload_n hx hb (fk_get fk_cX7_goneBits_0 10 rfl) rfl (lv_at hl 0 rfl) ?_
      refine x_ppl hx hb hK hP hh (k := c) (by omega) (rfl) (fk_get fk_cX7_goneBits_0 11 rfl) ?_
      generalize hg_i_17 : 21 + 6 * h + c = i_17
      have hp_i_17 : pk i_17 = 7 := by rw [← hg_i_17]; exact pk_c hh (by omega)
      have hb_i_17 := pk7 hp_i_17
      refine va_get (D := G.1) (ci := 5) (v := .int (fF S i_17 9)) (C := RX3) (T := TX3) (N := 10) hx hb hT inX3 hown hK hP i_17 (ix_at (lt71 (by omega)) (cX_cust hp_i_17)) rfl 9 (by decide) (hT _ m1_180) (fun _ h9 => h9) rfl (fk_get fk_cX7_goneBits_0 12 rfl) ?_
      refine lv_if_eq (tgt := 30) hx hb (fk_get fk_cX7_goneBits_0 13 rfl) (by decide) (fun c_3 => ?_) (fun c_3 => ?_)
      · have hgoL : ¬ (fun d => gX S (21 + 6 * h + d) (K d)) c 7 = 1 := by first | exact gone_n (show (fun d => gX S (21 + 6 * h + d) (K d)) c 7 = fF S i_17 9 from by rw [← hg_i_17]; rfl) c_3 | exact gone_n (show (fun d => gX S (21 + 6 * h + d) (K d)) c 7 = fF S i_17 9 from by rw [← hg_i_17]; rfl) (Decidable.not_not.mp c_3)
        refine lv_iinc (v := (nI (c + 1))) (lv' := [(2, .int ((nI (c + 1)))), (1, .int (v1)), (0, .ref (ad (9 + h)))]) hx hb (fk_get fk_cX7_goneBits_0 20 rfl) hl (k := 0) rfl ((nI_1 c)) (by decide) rfl (fun ls hl => ?_)
        refine lv_goto (tgt := 4) hx hb (fk_get fk_cX7_goneBits_0 21 rfl) (by decide) ?_
        exact ih (c + 1) (v1) ls (by omega) (by omega) (by first | exact go_y hvL (by omega) hgoL | exact go_n hvL hgoL) (lv_sub hl [0, 1, 2] rfl)
      have hgoL : (fun d => gX S (21 + 6 * h + d) (K d)) c 7 = 1 := (show gX S (21 + 6 * h + c) (K c) 7 = 1 from ((hgbL c (by omega)).2.2.2).resolve_left (by show ¬ fF S (21 + 6 * h + c) 9 = 0; rw [hg_i_17]; exact c_3))
      refine lv_iload_n hx hb (fk_get fk_cX7_goneBits_0 14 rfl) rfl (lv_at hl 1 rfl) ?_
      refine lv_iconst (v := 1) hx hb (fk_get fk_cX7_goneBits_0 15 rfl) (by decide) ?_
      refine lv_iload_n hx hb (fk_get fk_cX7_goneBits_0 16 rfl) rfl (lv_at hl 0 rfl) ?_
      refine lv_ishl hx hb (fk_get fk_cX7_goneBits_0 17 rfl) ?_
      refine lv_ior hx hb (fk_get fk_cX7_goneBits_0 18 rfl) ?_
      refine lv_istore_n (lv' := [(1, .int ((v1 ||| (1 <<< ((nI c) &&& 31))))), (2, .int ((nI c))), (0, .ref (ad (9 + h)))]) hx hb (fk_get fk_cX7_goneBits_0 19 rfl) rfl hl (by decide) rfl (fun ls hl => ?_)
      refine lv_iinc (v := (nI (c + 1))) (lv' := [(2, .int ((nI (c + 1)))), (1, .int ((v1 ||| (1 <<< ((nI c) &&& 31))))), (0, .ref (ad (9 + h)))]) hx hb (fk_get fk_cX7_goneBits_0 20 rfl) hl (k := 1) rfl ((nI_1 c)) (by decide) rfl (fun ls hl => ?_)
      refine lv_goto (tgt := 4) hx hb (fk_get fk_cX7_goneBits_0 21 rfl) (by decide) ?_
      exact ih (c + 1) ((v1 ||| (1 <<< ((nI c) &&& 31)))) ls (by omega) (by omega) (by first | exact go_y hvL (by omega) hgoL | exact go_n hvL hgoL) (lv_sub hl [0, 1, 2] rfl)
  exact lp_1 (n + 1) (0) (0) ls (by omega) (by omega) (rfl) (lv_sub hl [0, 1, 2] rfl)
set_option maxHeartbeats 800000 in
set_option maxRecDepth 100000 in
theorem c_x7_howManyRefuseX (l : Launch) (G : GG) (ad : Nat → Nat) (S : FS) (sz : Nat) (h n pz bb lz : Nat) (K : Nat → Nat) (τ : Nat → Int32) (C : Cls) (hh : h < 3) (hn : fF S (9 + h) 3 = nI n) (hn6 : n ≤ 6) (hcf : CuF S h n pz τ C K) (hgb : ∀ c, c < n → GB bb ((fun d => gX S (21 + 6 * h + d) (K d)) c)) (hbb : bb < 800000) (hX : XI S) : Met l yX7_howManyRefuse (Cond.code yX7_howManyRefuse cX7_howManyRefuse 3 (some .int) :: TBL) ({ frames := 6, cells := 0, slots := 0, locals := 171 } : Room) (PcW G (wX G ad S) sz [.ref (ad (9 + h))]) (vp_Si (fun (r : Int32) => r = nI (rfN (fF S (9 + h) 6) τ C (fun d => gX S (21 + 6 * h + d) (K d)) n))) 0 0 (fun _ => False) := by
  refine Met.ofW (cc := cX7_howManyRefuse) (maxL := 3) (ret := (some .int)) (by decide) rfl ?_
  intro p e s m args below meth c₀ s₁ B hml hv
  obtain ⟨rfl, hsz, hP, hK, hD0⟩ := hv
  have hx := B.exec
  have hb := B.bytes
  have hr := B.returns
  have hT : ∀ w ∈ TBL, w.before ([.ref (ad (9 + h))] : List Value).toArray s = true := fun w h => atoms_spec (ws := Cond.code yX7_howManyRefuse cX7_howManyRefuse 3 (some .int) :: TBL) B.pre w (List.mem_cons_of_mem _ h)
  have hown : s.vm.findClass "LittleMore$Shop" = some m.cls := findClass_of_methodNamed B.named
  have hlocks := B.notSynchronized
  have hD := hD0
  have hP : va_P G.1 vwCl (wX G ad S) s.heap := hP
  have hl := lv_entry ([.ref (ad (9 + h))]) (n := 3) (Nat.le_of_ble_eq_true rfl)
  rw [lg_entry_eq]
  generalize (lg_sl ([.ref (ad (9 + h))]) ++ List.replicate (3 - (lg_sl ([.ref (ad (9 + h))])).length) Slot.unset).toArray = ls at hl ⊢
  have hl : lv_has ls 3 [(0, .ref (ad (9 + h)))] := hl
  refine W_abs (fun Q hQ => ?_)
  generalize ([.ref (ad (9 + h))] : List Value).toArray = args at hT hQ ⊢
  have hgbL := hgb
  refine lv_iconst (v := 0) hx hb (fk_get fk_cX7_howManyRefuse_0 0 rfl) (by decide) ?_
  refine lv_istore_n (lv' := [(1, .int (0)), (0, .ref (ad (9 + h)))]) hx hb (fk_get fk_cX7_howManyRefuse_0 1 rfl) rfl hl (by decide) rfl (fun ls hl => ?_)
  refine lv_iconst (v := 0) hx hb (fk_get fk_cX7_howManyRefuse_0 2 rfl) (by decide) ?_
  refine lv_istore_n (lv' := [(2, .int (0)), (1, .int (0)), (0, .ref (ad (9 + h)))]) hx hb (fk_get fk_cX7_howManyRefuse_0 3 rfl) rfl hl (by decide) rfl (fun ls hl => ?_)
  have lp_1 : ∀ (fu : Nat) (c : Nat) (v1 : Int32) (ls : Array Slot),  (c ≤ n) → (n < c + fu) → (v1 = nI (rfN (fF S (9 + h) 6) τ C (fun d => gX S (21 + 6 * h + d) (K d)) (c))) → lv_has ls 3 [(2, .int ((nI c))), (1, .int (v1)), (0, .ref (ad (9 + h)))] → W p l e ({ frames := 6, cells := 0, slots := 0, locals := 171 } : Room) s m args below meth c₀ s.heap [] 0 0 Q (F0 m 4 ls []) := by
    intro fu
    induction fu with
    | zero =>
      intro c v1 ls hk hf hvL hl
      exact absurd hf (by omega)
    | succ fu ih =>
      intro c v1 ls hk hf hvL hl
      refine lv_iload_n hx hb (fk_get fk_cX7_howManyRefuse_0 4 rfl) rfl (lv_at hl 0 rfl) ?_
      refine lv_aload_n hx hb (fk_get fk_cX7_howManyRefuse_0 5 rfl) rfl (lv_at hl 2 rfl) ?_
      refine va_get (D := G.1) (ci := 9) (v := .int (fF S (9 + h) 3)) (C := RX7) (T := TX7) (N := 8) hx hb hT inX7 hown hK hP (9 + h) (ix_at (lt71 (by omega)) (cX_shop (pk_shop hh))) rfl 3 (by decide) (hT _ m1_208) (fun _ h9 => h9) rfl (fk_get fk_cX7_howManyRefuse_0 6 rfl) ?_
      rw [hn]
      refine lv_icmp_ge (tgt := 46) hx hb (fk_get fk_cX7_howManyRefuse_0 7 rfl) (by decide) (fun c_2 => ?_) (fun c_2 => ?_)
      · have q_c_2 : n ≤ c := ci_le (a := n) (b := c) (by omega) (by omega) c_2
        have hend : c = n := by have z_ := (nI_leI (a := n) (b := c) (by omega) (by omega)).mp c_2; omega
        refine lv_iload_n hx hb (fk_get fk_cX7_howManyRefuse_0 24 rfl) rfl (lv_at hl 1 rfl) ?_
        subst hQ
        have hpost : (v1 : Int32) = nI (rfN (fF S (9 + h) 6) τ C (fun d => gX S (21 + 6 * h + d) (K d)) n) := by
          subst hend
          exact hvL
        exact W.iret (v := v1) hx hb hr (fun t_ ht_ hW_ => ⟨v1, rfl, hpost, ht_⟩) (fun q h => by cases h) (fk_get fk_cX7_howManyRefuse_0 25 rfl)
      have q_c_2 : c < n := ci_nle (a := n) (b := c) (by omega) (by omega) c_2
      refine lv_aload_n hx hb (fk_get fk_cX7_howManyRefuse_0 8 rfl) rfl (lv_at hl 2 rfl) ?_
      refine va_get (D := G.1) (ci := 9) (v := .ref (ad (9 + h + 3))) (C := RX7) (T := TX7) (N := 8) hx hb hT inX7 hown hK hP (9 + h) (ix_at (lt71 (by omega)) (cX_shop (pk_shop hh))) rfl 0 (by decide) (hT _ m1_202) (fun _ h9 => h9) rfl (fk_get fk_cX7_howManyRefuse_0 9 rfl) ?_
      refine lv_iload_n hx hb (fk_get fk_cX7_howManyRefuse_0 10 rfl) rfl (lv_at hl 0 rfl) ?_
      refine x_ppl hx hb hK hP hh (k := c) (by omega) (rfl) (fk_get fk_cX7_howManyRefuse_0 11 rfl) ?_
      generalize hg_i_17 : 21 + 6 * h + c = i_17
      have hp_i_17 : pk i_17 = 7 := by rw [← hg_i_17]; exact pk_c hh (by omega)
      have hb_i_17 := pk7 hp_i_17
      refine va_get (D := G.1) (ci := 5) (v := .int (fF S i_17 9)) (C := RX3) (T := TX3) (N := 10) hx hb hT inX3 hown hK hP i_17 (ix_at (lt71 (by omega)) (cX_cust hp_i_17)) rfl 9 (by decide) (hT _ m1_180) (fun _ h9 => h9) rfl (fk_get fk_cX7_howManyRefuse_0 12 rfl) ?_
      refine lv_if_ne (tgt := 40) hx hb (fk_get fk_cX7_howManyRefuse_0 13 rfl) (by decide) (fun c_3 => ?_) (fun c_3 => ?_)
      · have hgoL : (fun d => gX S (21 + 6 * h + d) (K d)) c 7 = 1 := (show gX S (21 + 6 * h + c) (K c) 7 = 1 from ((hgbL c (by omega)).2.2.2).resolve_left (by show ¬ fF S (21 + 6 * h + c) 9 = 0; rw [hg_i_17]; exact c_3))
        refine lv_iinc (v := (nI (c + 1))) (lv' := [(2, .int ((nI (c + 1)))), (1, .int (v1)), (0, .ref (ad (9 + h)))]) hx hb (fk_get fk_cX7_howManyRefuse_0 22 rfl) hl (k := 0) rfl ((nI_1 c)) (by decide) rfl (fun ls hl => ?_)
        refine lv_goto (tgt := 4) hx hb (fk_get fk_cX7_howManyRefuse_0 23 rfl) (by decide) ?_
        exact ih (c + 1) (v1) ls (by omega) (by omega) (by first | exact rf_n hvL (Or.inl hgoL) | exact rf_y hvL hgoL hlY | exact rf_n hvL (Or.inr hlN)) (lv_sub hl [0, 1, 2] rfl)
      have hgoL : ¬ (fun d => gX S (21 + 6 * h + d) (K d)) c 7 = 1 := by first | exact gone_n (show (fun d => gX S (21 + 6 * h + d) (K d)) c 7 = fF S i_17 9 from by rw [← hg_i_17]; rfl) c_3 | exact gone_n (show (fun d => gX S (21 + 6 * h + d) (K d)) c 7 = fF S i_17 9 from by rw [← hg_i_17]; rfl) (Decidable.not_not.mp c_3)
      refine lv_aload_n hx hb (fk_get fk_cX7_howManyRefuse_0 14 rfl) rfl (lv_at hl 2 rfl) ?_
      refine lv_aload_n hx hb (fk_get fk_cX7_howManyRefuse_0 15 rfl) rfl (lv_at hl 2 rfl) ?_
      refine va_get (D := G.1) (ci := 9) (v := .ref (ad (9 + h + 3))) (C := RX7) (T := TX7) (N := 8) hx hb hT inX7 hown hK hP (9 + h) (ix_at (lt71 (by omega)) (cX_shop (pk_shop hh))) rfl 0 (by decide) (hT _ m1_202) (fun _ h9 => h9) rfl (fk_get fk_cX7_howManyRefuse_0 16 rfl) ?_
      refine lv_iload_n hx hb (fk_get fk_cX7_howManyRefuse_0 17 rfl) rfl (lv_at hl 0 rfl) ?_
      refine x_ppl hx hb hK hP hh (k := c) (by omega) (rfl) (fk_get fk_cX7_howManyRefuse_0 18 rfl) ?_
      generalize hg_i_30 : 21 + 6 * h + c = i_30
      have hp_i_30 : pk i_30 = 7 := by rw [← hg_i_30]; exact pk_c hh (by omega)
      have hb_i_30 := pk7 hp_i_30
      refine vp_callSi (W.runV (As := [.ref (ad i_30)]) (rest := []) ⟨hx, hb, hml, hown, hT⟩ (c_x7_refusesE l G ad S s.heap.size (h) (i_30) (K c) (pz) (τ) (C) (hh) (hp_i_30) ((by rw [← hg_i_30]; exact hcf.at (by omega))) (hX)) (tV 1 hT m4_18 m2_188 m2_189 m1_9 m2_190 rfl rfl (by decide +kernel) ⟨Nat.le_of_ble_eq_true rfl, Nat.le_of_ble_eq_true rfl⟩) ⟨PcW_blind, va_recv hK hP (ci := 9) (q0 := (9 + h)) rfl (ix_at (lt71 (by omega)) (cX_shop (pk_shop hh))), PcW_of hP hK hD _⟩ rfl rfl hl.1 rfl (lv_room (Nat.le_of_ble_eq_true rfl)) (fk_get fk_cX7_howManyRefuse_0 19 rfl) ⟨Nat.zero_le _, Nat.zero_le _⟩) (fun r_4 hw_5 => ?_)
      try dsimp only at hw_5
      have hrf_ := hw_5
      refine lv_if_eq (tgt := 40) hx hb (fk_get fk_cX7_howManyRefuse_0 20 rfl) (by decide) (fun c_6 => ?_) (fun c_6 => ?_)
      · have hlN : ¬ letF ((fun d => gX S (21 + 6 * h + d) (K d)) c) < (moF (fF S (9 + h) 6) τ C (nI c) ((fun d => gX S (21 + 6 * h + d) (K d)) c)) := by have z_ := no_f hrf_ c_6; rw [(show fF S i_30 0 = nI c by rw [← hg_i_30]; exact hX.num hh (by omega)), ← hg_i_30] at z_; exact z_
        refine lv_iinc (v := (nI (c + 1))) (lv' := [(2, .int ((nI (c + 1)))), (1, .int (v1)), (0, .ref (ad (9 + h)))]) hx hb (fk_get fk_cX7_howManyRefuse_0 22 rfl) hl (k := 0) rfl ((nI_1 c)) (by decide) rfl (fun ls hl => ?_)
        refine lv_goto (tgt := 4) hx hb (fk_get fk_cX7_howManyRefuse_0 23 rfl) (by decide) ?_
        exact ih (c + 1) (v1) ls (by omega) (by omega) (by first | exact rf_n hvL (Or.inl hgoL) | exact rf_y hvL hgoL hlY | exact rf_n hvL (Or.inr hlN)) (lv_sub hl [0, 1, 2] rfl)
      have hlY : letF ((fun d => gX S (21 + 6 * h + d) (K d)) c) < (moF (fF S (9 + h) 6) τ C (nI c) ((fun d => gX S (21 + 6 * h + d) (K d)) c)) := by have z_ := no_t hrf_ c_6; rw [(show fF S i_30 0 = nI c by rw [← hg_i_30]; exact hX.num hh (by omega)), ← hg_i_30] at z_; exact z_
      refine lv_iinc (v := v1 + 1) (lv' := [(1, .int (v1 + 1)), (2, .int ((nI c))), (0, .ref (ad (9 + h)))]) hx hb (fk_get fk_cX7_howManyRefuse_0 21 rfl) hl (k := 1) rfl (rfl) (by decide) rfl (fun ls hl => ?_)
      refine lv_iinc (v := (nI (c + 1))) (lv' := [(2, .int ((nI (c + 1)))), (1, .int (v1 + 1)), (0, .ref (ad (9 + h)))]) hx hb (fk_get fk_cX7_howManyRefuse_0 22 rfl) hl (k := 1) rfl ((nI_1 c)) (by decide) rfl (fun ls hl => ?_)
      refine lv_goto (tgt := 4) hx hb (fk_get fk_cX7_howManyRefuse_0 23 rfl) (by decide) ?_
      exact ih (c + 1) (v1 + 1) ls (by omega) (by omega) (by first | exact rf_n hvL (Or.inl hgoL) | exact rf_y hvL hgoL hlY | exact rf_n hvL (Or.inr hlN)) (lv_sub hl [0, 1, 2] rfl)
  exact lp_1 (n + 1) (0) (0) ls (by omega) (by omega) (rfl) (lv_sub hl [0, 1, 2] rfl)
set_option maxHeartbeats 800000 in
set_option maxRecDepth 100000 in
theorem c_x7_askedTogetherX (l : Launch) (G : GG) (ad : Nat → Nat) (S : FS) (sz : Nat) (h n pz bb lz : Nat) (K : Nat → Nat) (τ : Nat → Int32) (C : Cls) (hh : h < 3) (hn : fF S (9 + h) 3 = nI n) (hn6 : n ≤ 6) (hcf : CuF S h n pz τ C K) (hgb : ∀ c, c < n → GB bb ((fun d => gX S (21 + 6 * h + d) (K d)) c)) (hbb : bb < 800000) (hX : XI S) : Met l yX7_askedTogether (Cond.code yX7_askedTogether cX7_askedTogether 3 (some .int) :: TBL) ({ frames := 5, cells := 0, slots := 0, locals := 139 } : Room) (PcW G (wX G ad S) sz [.ref (ad (9 + h))]) (vp_Si (fun (r : Int32) => r = asN (fun d => gX S (21 + 6 * h + d) (K d)) n)) 0 0 (fun _ => False) := by
  refine Met.ofW (cc := cX7_askedTogether) (maxL := 3) (ret := (some .int)) (by decide) rfl ?_
  intro p e s m args below meth c₀ s₁ B hml hv
  obtain ⟨rfl, hsz, hP, hK, hD0⟩ := hv
  have hx := B.exec
  have hb := B.bytes
  have hr := B.returns
  have hT : ∀ w ∈ TBL, w.before ([.ref (ad (9 + h))] : List Value).toArray s = true := fun w h => atoms_spec (ws := Cond.code yX7_askedTogether cX7_askedTogether 3 (some .int) :: TBL) B.pre w (List.mem_cons_of_mem _ h)
  have hown : s.vm.findClass "LittleMore$Shop" = some m.cls := findClass_of_methodNamed B.named
  have hlocks := B.notSynchronized
  have hD := hD0
  have hP : va_P G.1 vwCl (wX G ad S) s.heap := hP
  have hl := lv_entry ([.ref (ad (9 + h))]) (n := 3) (Nat.le_of_ble_eq_true rfl)
  rw [lg_entry_eq]
  generalize (lg_sl ([.ref (ad (9 + h))]) ++ List.replicate (3 - (lg_sl ([.ref (ad (9 + h))])).length) Slot.unset).toArray = ls at hl ⊢
  have hl : lv_has ls 3 [(0, .ref (ad (9 + h)))] := hl
  refine W_abs (fun Q hQ => ?_)
  generalize ([.ref (ad (9 + h))] : List Value).toArray = args at hT hQ ⊢
  have hgbL := hgb
  refine lv_iconst (v := 0) hx hb (fk_get fk_cX7_askedTogether_0 0 rfl) (by decide) ?_
  refine lv_istore_n (lv' := [(1, .int (0)), (0, .ref (ad (9 + h)))]) hx hb (fk_get fk_cX7_askedTogether_0 1 rfl) rfl hl (by decide) rfl (fun ls hl => ?_)
  refine lv_iconst (v := 0) hx hb (fk_get fk_cX7_askedTogether_0 2 rfl) (by decide) ?_
  refine lv_istore_n (lv' := [(2, .int (0)), (1, .int (0)), (0, .ref (ad (9 + h)))]) hx hb (fk_get fk_cX7_askedTogether_0 3 rfl) rfl hl (by decide) rfl (fun ls hl => ?_)
  have lp_1 : ∀ (fu : Nat) (c : Nat) (v1 : Int32) (ls : Array Slot),  (c ≤ n) → (n < c + fu) → (v1 = asN (fun d => gX S (21 + 6 * h + d) (K d)) (c)) → lv_has ls 3 [(2, .int ((nI c))), (1, .int (v1)), (0, .ref (ad (9 + h)))] → W p l e ({ frames := 5, cells := 0, slots := 0, locals := 139 } : Room) s m args below meth c₀ s.heap [] 0 0 Q (F0 m 4 ls []) := by
    intro fu
    induction fu with
    | zero =>
      intro c v1 ls hk hf hvL hl
      exact absurd hf (by omega)
    | succ fu ih =>
      intro c v1 ls hk hf hvL hl
      refine lv_iload_n hx hb (fk_get fk_cX7_askedTogether_0 4 rfl) rfl (lv_at hl 0 rfl) ?_
      refine lv_aload_n hx hb (fk_get fk_cX7_askedTogether_0 5 rfl) rfl (lv_at hl 2 rfl) ?_
      refine va_get (D := G.1) (ci := 9) (v := .int (fF S (9 + h) 3)) (C := RX7) (T := TX7) (N := 8) hx hb hT inX7 hown hK hP (9 + h) (ix_at (lt71 (by omega)) (cX_shop (pk_shop hh))) rfl 3 (by decide) (hT _ m1_208) (fun _ h9 => h9) rfl (fk_get fk_cX7_askedTogether_0 6 rfl) ?_
      rw [hn]
      refine lv_icmp_ge (tgt := 51) hx hb (fk_get fk_cX7_askedTogether_0 7 rfl) (by decide) (fun c_2 => ?_) (fun c_2 => ?_)
      · have q_c_2 : n ≤ c := ci_le (a := n) (b := c) (by omega) (by omega) c_2
        have hend : c = n := by have z_ := (nI_leI (a := n) (b := c) (by omega) (by omega)).mp c_2; omega
        refine lv_iload_n hx hb (fk_get fk_cX7_askedTogether_0 29 rfl) rfl (lv_at hl 1 rfl) ?_
        subst hQ
        have hpost : (v1 : Int32) = asN (fun d => gX S (21 + 6 * h + d) (K d)) n := by
          subst hend
          exact hvL
        exact W.iret (v := v1) hx hb hr (fun t_ ht_ hW_ => ⟨v1, rfl, hpost, ht_⟩) (fun q h => by cases h) (fk_get fk_cX7_askedTogether_0 30 rfl)
      have q_c_2 : c < n := ci_nle (a := n) (b := c) (by omega) (by omega) c_2
      refine lv_aload_n hx hb (fk_get fk_cX7_askedTogether_0 8 rfl) rfl (lv_at hl 2 rfl) ?_
      refine va_get (D := G.1) (ci := 9) (v := .ref (ad (9 + h + 3))) (C := RX7) (T := TX7) (N := 8) hx hb hT inX7 hown hK hP (9 + h) (ix_at (lt71 (by omega)) (cX_shop (pk_shop hh))) rfl 0 (by decide) (hT _ m1_202) (fun _ h9 => h9) rfl (fk_get fk_cX7_askedTogether_0 9 rfl) ?_
      refine lv_iload_n hx hb (fk_get fk_cX7_askedTogether_0 10 rfl) rfl (lv_at hl 0 rfl) ?_
      refine x_ppl hx hb hK hP hh (k := c) (by omega) (rfl) (fk_get fk_cX7_askedTogether_0 11 rfl) ?_
      generalize hg_i_17 : 21 + 6 * h + c = i_17
      have hp_i_17 : pk i_17 = 7 := by rw [← hg_i_17]; exact pk_c hh (by omega)
      have hb_i_17 := pk7 hp_i_17
      refine va_get (D := G.1) (ci := 5) (v := .int (fF S i_17 9)) (C := RX3) (T := TX3) (N := 10) hx hb hT inX3 hown hK hP i_17 (ix_at (lt71 (by omega)) (cX_cust hp_i_17)) rfl 9 (by decide) (hT _ m1_180) (fun _ h9 => h9) rfl (fk_get fk_cX7_askedTogether_0 12 rfl) ?_
      refine lv_if_ne (tgt := 45) hx hb (fk_get fk_cX7_askedTogether_0 13 rfl) (by decide) (fun c_3 => ?_) (fun c_3 => ?_)
      · have hgoL : (fun d => gX S (21 + 6 * h + d) (K d)) c 7 = 1 := (show gX S (21 + 6 * h + c) (K c) 7 = 1 from ((hgbL c (by omega)).2.2.2).resolve_left (by show ¬ fF S (21 + 6 * h + c) 9 = 0; rw [hg_i_17]; exact c_3))
        refine lv_iinc (v := (nI (c + 1))) (lv' := [(2, .int ((nI (c + 1)))), (1, .int (v1)), (0, .ref (ad (9 + h)))]) hx hb (fk_get fk_cX7_askedTogether_0 27 rfl) hl (k := 0) rfl ((nI_1 c)) (by decide) rfl (fun ls hl => ?_)
        refine lv_goto (tgt := 4) hx hb (fk_get fk_cX7_askedTogether_0 28 rfl) (by decide) ?_
        exact ih (c + 1) (v1) ls (by omega) (by omega) (by first | exact as_n hvL hgoL | (have z_ := as_y hvL hgoL; rw [evq_, ← hg_i_39]; exact z_)) (lv_sub hl [0, 1, 2] rfl)
      have hgoL : ¬ (fun d => gX S (21 + 6 * h + d) (K d)) c 7 = 1 := by first | exact gone_n (show (fun d => gX S (21 + 6 * h + d) (K d)) c 7 = fF S i_17 9 from by rw [← hg_i_17]; rfl) c_3 | exact gone_n (show (fun d => gX S (21 + 6 * h + d) (K d)) c 7 = fF S i_17 9 from by rw [← hg_i_17]; rfl) (Decidable.not_not.mp c_3)
      obtain ⟨xv, hxv, hx8_⟩ := (hgb c (by omega)).2.2.1
      have hx30 : xv < 1000000 := by omega
      refine lv_iload_n hx hb (fk_get fk_cX7_askedTogether_0 14 rfl) rfl (lv_at hl 1 rfl) ?_
      refine lv_aload_n hx hb (fk_get fk_cX7_askedTogether_0 15 rfl) rfl (lv_at hl 2 rfl) ?_
      refine va_get (D := G.1) (ci := 9) (v := .ref (ad (9 + h + 3))) (C := RX7) (T := TX7) (N := 8) hx hb hT inX7 hown hK hP (9 + h) (ix_at (lt71 (by omega)) (cX_shop (pk_shop hh))) rfl 0 (by decide) (hT _ m1_202) (fun _ h9 => h9) rfl (fk_get fk_cX7_askedTogether_0 16 rfl) ?_
      refine lv_iload_n hx hb (fk_get fk_cX7_askedTogether_0 17 rfl) rfl (lv_at hl 0 rfl) ?_
      refine x_ppl hx hb hK hP hh (k := c) (by omega) (rfl) (fk_get fk_cX7_askedTogether_0 18 rfl) ?_
      generalize hg_i_30 : 21 + 6 * h + c = i_30
      have hp_i_30 : pk i_30 = 7 := by rw [← hg_i_30]; exact pk_c hh (by omega)
      have hb_i_30 := pk7 hp_i_30
      obtain ⟨n_4, en_4, bn_4⟩ := XI.kin hX hp_i_30
      refine va_get (D := G.1) (ci := 5) (v := va_rf ((fR S i_30 2).map ad)) (C := RX3) (T := TX3) (N := 10) hx hb hT inX3 hown hK hP i_30 (ix_at (lt71 (by omega)) (cX_cust hp_i_30)) rfl 2 (by decide) (hT _ m1_146) (fun _ h9 => h9) rfl (fk_get fk_cX7_askedTogether_0 19 rfl) ?_
      rw [show va_rf ((fR S i_30 2).map ad) = .ref (ad (2 + n_4)) from by rw [en_4]; rfl]
      refine lv_aload_n hx hb (fk_get fk_cX7_askedTogether_0 20 rfl) rfl (lv_at hl 2 rfl) ?_
      refine va_get (D := G.1) (ci := 9) (v := .ref (ad (9 + h + 3))) (C := RX7) (T := TX7) (N := 8) hx hb hT inX7 hown hK hP (9 + h) (ix_at (lt71 (by omega)) (cX_shop (pk_shop hh))) rfl 0 (by decide) (hT _ m1_202) (fun _ h9 => h9) rfl (fk_get fk_cX7_askedTogether_0 21 rfl) ?_
      refine lv_iload_n hx hb (fk_get fk_cX7_askedTogether_0 22 rfl) rfl (lv_at hl 0 rfl) ?_
      refine x_ppl hx hb hK hP hh (k := c) (by omega) (rfl) (fk_get fk_cX7_askedTogether_0 23 rfl) ?_
      generalize hg_i_39 : 21 + 6 * h + c = i_39
      have hp_i_39 : pk i_39 = 7 := by rw [← hg_i_39]; exact pk_c hh (by omega)
      have hb_i_39 := pk7 hp_i_39
      have evq_ : n_4 = K c := by have y_ := (hcf.1 c (by omega)).1; rw [hg_i_30] at y_; have z_ := Option.some.inj (en_4.symm.trans y_); omega
      have hx8 : fF S i_39 8 = nI xv := by rw [← hg_i_39]; exact hx8_
      have kk_40 : ∀ rv_40 : Int32, rv_40 = (askF (gX S i_39 n_4)) → W p l e ({ frames := 5, cells := 0, slots := 0, locals := 139 } : Room) s m args below meth c₀ s.heap [] 0 0 Q (F0 m 43 ls [.int (rv_40), .int (v1)]) := by
        intro rv_40 hv_40
        subst hv_40
        refine lv_iadd hx hb (fk_get fk_cX7_askedTogether_0 25 rfl) ?_
        refine lv_istore_n (lv' := [(1, .int ((v1 + (askF (gX S i_39 n_4))))), (2, .int ((nI c))), (0, .ref (ad (9 + h)))]) hx hb (fk_get fk_cX7_askedTogether_0 26 rfl) rfl hl (by decide) rfl (fun ls hl => ?_)
        refine lv_iinc (v := (nI (c + 1))) (lv' := [(2, .int ((nI (c + 1)))), (1, .int ((v1 + (askF (gX S i_39 n_4))))), (0, .ref (ad (9 + h)))]) hx hb (fk_get fk_cX7_askedTogether_0 27 rfl) hl (k := 1) rfl ((nI_1 c)) (by decide) rfl (fun ls hl => ?_)
        refine lv_goto (tgt := 4) hx hb (fk_get fk_cX7_askedTogether_0 28 rfl) (by decide) ?_
        exact ih (c + 1) ((v1 + (askF (gX S i_39 n_4)))) ls (by omega) (by omega) (by first | exact as_n hvL hgoL | (have z_ := as_y hvL hgoL; rw [evq_, ← hg_i_39]; exact z_)) (lv_sub hl [0, 1, 2] rfl)
      rcases kq7 bn_4 with rfl | rfl | rfl | rfl | rfl | rfl | rfl
      · exact vp_callSi (va_Run.run (va_runU (As := [.ref (ad i_39)]) (rest := [.int (v1)]) ⟨hx, hb, hml, hown, hT⟩ (c_x5_portion l G ad S s.heap.size (2 + 0) (i_39) ((lt71 (by omega))) (hp_i_39)) (tU 1 hT m3_173 m2_144 m2_143 m2_142 m1_2 m2_166 rfl rfl rfl (by decide +kernel) ⟨Nat.le_of_ble_eq_true rfl, Nat.le_of_ble_eq_true rfl⟩) ⟨PcW_blind, va_recv hK hP (ci := 7) (q0 := 2 + 0) rfl (ix_at (lt71 (by omega)) (cX_knd (by omega))), PcW_of hP hK hD _⟩ rfl rfl hl.1 rfl (lv_room (Nat.le_of_ble_eq_true rfl)) (fk_get fk_cX7_askedTogether_0 24 rfl) ⟨Nat.zero_le _, Nat.zero_le _⟩)) (fun r h_ => kk_40 r (h_.trans aX_0.symm))
      · exact vp_callSi (va_Run.run (va_runU (As := [.ref (ad i_39)]) (rest := [.int (v1)]) ⟨hx, hb, hml, hown, hT⟩ (c_x8_portion l G ad S s.heap.size (2 + 1) (i_39) ((lt71 (by omega))) (hp_i_39)) (tO 1 hT m3_173 m2_144 m2_142 m2_158 m2_152 m1_3 m2_153 m2_166 rfl rfl (by decide +kernel) ⟨Nat.le_of_ble_eq_true rfl, Nat.le_of_ble_eq_true rfl⟩) ⟨PcW_blind, va_recv hK hP (ci := 10) (q0 := 2 + 1) rfl (ix_at (lt71 (by omega)) (cX_knd (by omega))), PcW_of hP hK hD _⟩ rfl rfl hl.1 rfl (lv_room (Nat.le_of_ble_eq_true rfl)) (fk_get fk_cX7_askedTogether_0 24 rfl) ⟨Nat.zero_le _, Nat.zero_le _⟩)) (fun r h_ => kk_40 r (h_.trans aX_1.symm))
      · exact vp_callSi (va_Run.run (va_runU (As := [.ref (ad i_39)]) (rest := [.int (v1)]) ⟨hx, hb, hml, hown, hT⟩ (c_x5_portion l G ad S s.heap.size (2 + 2) (i_39) ((lt71 (by omega))) (hp_i_39)) (tU 1 hT m3_173 m2_144 m2_156 m2_142 m1_2 m2_166 rfl rfl rfl (by decide +kernel) ⟨Nat.le_of_ble_eq_true rfl, Nat.le_of_ble_eq_true rfl⟩) ⟨PcW_blind, va_recv hK hP (ci := 6) (q0 := 2 + 2) rfl (ix_at (lt71 (by omega)) (cX_knd (by omega))), PcW_of hP hK hD _⟩ rfl rfl hl.1 rfl (lv_room (Nat.le_of_ble_eq_true rfl)) (fk_get fk_cX7_askedTogether_0 24 rfl) ⟨Nat.zero_le _, Nat.zero_le _⟩)) (fun r h_ => kk_40 r (h_.trans aX_2.symm))
      · exact vp_callSi (va_Run.run (va_runU (As := [.ref (ad i_39)]) (rest := [.int (v1)]) ⟨hx, hb, hml, hown, hT⟩ (c_x0_portion l G ad S s.heap.size (2 + 3) (i_39) ((lt71 (by omega))) (hp_i_39)) (tO 1 hT m3_173 m2_144 m2_142 m2_145 m2_146 m1_5 m2_147 m2_166 rfl rfl (by decide +kernel) ⟨Nat.le_of_ble_eq_true rfl, Nat.le_of_ble_eq_true rfl⟩) ⟨PcW_blind, va_recv hK hP (ci := 2) (q0 := 2 + 3) rfl (ix_at (lt71 (by omega)) (cX_knd (by omega))), PcW_of hP hK hD _⟩ rfl rfl hl.1 rfl (lv_room (Nat.le_of_ble_eq_true rfl)) (fk_get fk_cX7_askedTogether_0 24 rfl) ⟨Nat.zero_le _, Nat.zero_le _⟩)) (fun r h_ => kk_40 r (h_.trans aX_3.symm))
      · exact vp_callSi (va_Run.run (va_runU (As := [.ref (ad i_39)]) (rest := [.int (v1)]) ⟨hx, hb, hml, hown, hT⟩ (c_x2_portionE l G ad S s.heap.size (4) (i_39) ((by omega)) (hp_i_39) (hX)) (tO 1 hT m3_173 m2_144 m2_142 m2_148 m2_149 m1_6 m2_150 m2_166 rfl rfl (by decide +kernel) ⟨Nat.le_of_ble_eq_true rfl, Nat.le_of_ble_eq_true rfl⟩) ⟨PcW_blind, va_recv hK hP (ci := 4) (q0 := 2 + 4) rfl (ix_at (lt71 (by omega)) (cX_knd (by omega))), PcW_of hP hK hD _⟩ rfl rfl hl.1 rfl (lv_room (Nat.le_of_ble_eq_true rfl)) (fk_get fk_cX7_askedTogether_0 24 rfl) ⟨Nat.zero_le _, Nat.zero_le _⟩)) (fun r h_ => kk_40 r (h_.trans aX_4.symm))
      · exact vp_callSi (va_Run.run (va_runU (As := [.ref (ad i_39)]) (rest := [.int (v1)]) ⟨hx, hb, hml, hown, hT⟩ (c_x5_portion l G ad S s.heap.size (2 + 5) (i_39) ((lt71 (by omega))) (hp_i_39)) (tU 1 hT m3_173 m2_144 m2_157 m2_142 m1_2 m2_166 rfl rfl rfl (by decide +kernel) ⟨Nat.le_of_ble_eq_true rfl, Nat.le_of_ble_eq_true rfl⟩) ⟨PcW_blind, va_recv hK hP (ci := 8) (q0 := 2 + 5) rfl (ix_at (lt71 (by omega)) (cX_knd (by omega))), PcW_of hP hK hD _⟩ rfl rfl hl.1 rfl (lv_room (Nat.le_of_ble_eq_true rfl)) (fk_get fk_cX7_askedTogether_0 24 rfl) ⟨Nat.zero_le _, Nat.zero_le _⟩)) (fun r h_ => kk_40 r (h_.trans aX_5.symm))
      · exact vp_callSi (va_Run.run (va_runU (As := [.ref (ad i_39)]) (rest := [.int (v1)]) ⟨hx, hb, hml, hown, hT⟩ (c_x10_portionE l G ad S s.heap.size (6) (i_39) (xv) ((by omega)) (hp_i_39) (hx8) (hx30) (hX)) (tO 1 hT m3_173 m2_144 m2_142 m2_159 m2_160 m1_8 m2_161 m2_166 rfl rfl (by decide +kernel) ⟨Nat.le_of_ble_eq_true rfl, Nat.le_of_ble_eq_true rfl⟩) ⟨PcW_blind, va_recv hK hP (ci := 12) (q0 := 2 + 6) rfl (ix_at (lt71 (by omega)) (cX_knd (by omega))), PcW_of hP hK hD _⟩ rfl rfl hl.1 rfl (lv_room (Nat.le_of_ble_eq_true rfl)) (fk_get fk_cX7_askedTogether_0 24 rfl) ⟨Nat.zero_le _, Nat.zero_le _⟩)) (fun r h_ => kk_40 r (h_.trans (aX_6 hx8 hx30).symm))
  exact lp_1 (n + 1) (0) (0) ls (by omega) (by omega) (rfl) (lv_sub hl [0, 1, 2] rfl)
set_option maxHeartbeats 800000 in
set_option maxRecDepth 100000 in
theorem c_x7_cutsAreSeenX (l : Launch) (G : GG) (ad : Nat → Nat) (S : FS) (sz : Nat) (h i q pz bb lz ms : Nat) (τ : Nat → Int32) (C : Cls) (hh : h < 3) (hpk : pk i = 7) (hcu : CuC S h i q pz τ C) (hgb : GB bb (gX S i q)) (hbb : bb < 800000) (hln : lstW 3 1 C = nI lz) (hlz : lz ≤ 99) (hs : fF S (9 + h) 4 = nI ms) (hs4 : ms ≤ 4) (hX : XI S) : Met l yX7_cutsAreSeen (Cond.code yX7_cutsAreSeen cX7_cutsAreSeen 3 (some .boolean) :: TBL) ({ frames := 6, cells := 0, slots := 0, locals := 174 } : Room) (PcW G (wX G ad S) sz [.ref (ad (9 + h)), .ref (ad i)]) (va_Qi (fun (r : Int32) (S' : FS) => XI S' ∧ Fr (fun j k => j = i ∧ 5 ≤ k ∧ k ≤ 9) S S' ∧ (r = i01 (csN (fF S (9 + h) 6) (lstW 3 1 C) τ C (fF S i 0) (fA S (9 + h + 6)) (ms) (0) (gX S i q)))) (fun S' t => BW G (va_A (wX G ad S) sz) (wX G ad S') t) (va_A (wX G ad S) sz)) 0 0 (va_A (wX G ad S) sz) := by
  refine Met.ofW (cc := cX7_cutsAreSeen) (maxL := 3) (ret := (some .boolean)) (by decide) rfl ?_
  intro p e s m args below meth c₀ s₁ B hml hv
  obtain ⟨rfl, hsz, hP, hK, hD0⟩ := hv
  have hx := B.exec
  have hb := B.bytes
  have hr := B.returns
  have hT : ∀ w ∈ TBL, w.before ([.ref (ad (9 + h)), .ref (ad i)] : List Value).toArray s = true := fun w h => atoms_spec (ws := Cond.code yX7_cutsAreSeen cX7_cutsAreSeen 3 (some .boolean) :: TBL) B.pre w (List.mem_cons_of_mem _ h)
  have hown : s.vm.findClass "LittleMore$Shop" = some m.cls := findClass_of_methodNamed B.named
  have hlocks := B.notSynchronized
  subst hsz
  have hD := hD0.self (sz := s.heap.size)
  generalize hAe : va_A (wX G ad S) s.heap.size = A at hD ⊢
  have hA : ∀ q : Nat, s.heap.size ≤ q → A q := fun q h => by rw [← hAe]; exact Or.inr h
  have hS : va_S A s.heap s.heap [] := va_S.rf
  have hP : va_P G.1 vwCl (wX G ad S) s.heap := hP
  have hl := lv_entry ([.ref (ad (9 + h)), .ref (ad i)]) (n := 3) (Nat.le_of_ble_eq_true rfl)
  rw [lg_entry_eq]
  generalize (lg_sl ([.ref (ad (9 + h)), .ref (ad i)]) ++ List.replicate (3 - (lg_sl ([.ref (ad (9 + h)), .ref (ad i)])).length) Slot.unset).toArray = ls at hl ⊢
  have hl : lv_has ls 3 [(0, .ref (ad (9 + h))), (1, .ref (ad i))] := hl
  refine W_abs (fun Q hQ => ?_)
  generalize ([.ref (ad (9 + h)), .ref (ad i)] : List Value).toArray = args at hT hQ ⊢
  have hb_i := pk7 hpk
  obtain ⟨hcx, hsay⟩ := id hcu
  obtain ⟨hkq, hq, hpz, hcok, hctx⟩ := id hcx
  refine lv_iconst (v := 0) hx hb (fk_get fk_cX7_cutsAreSeen_0 0 rfl) (by decide) ?_
  refine lv_istore_n (lv' := [(2, .int (0)), (0, .ref (ad (9 + h))), (1, .ref (ad i))]) hx hb (fk_get fk_cX7_cutsAreSeen_0 1 rfl) rfl hl (by decide) rfl (fun ls hl => ?_)
  have lp_1 : ∀ (fu : Nat) (c : Nat) (SL2 : FS) (H_3 : Heap) (locs_4 : List Loc) (ls : Array Slot),  (XI SL2) → (Fr (fun j k => j = i ∧ 5 ≤ k ∧ k ≤ 9) S SL2) → (c ≤ ms) → (ms < c + fu) → (Fr (fun j k => j = i ∧ 5 ≤ k ∧ k ≤ 9) S SL2) → (CuC SL2 h i q pz τ C) → (GB (bb + c) (gX SL2 i q)) → (fF SL2 (9 + h) 4 = nI ms) → (csN (fF S (9 + h) 6) (lstW 3 1 C) τ C (fF S i 0) (fA S (9 + h + 6)) (ms - c) (c) (gX SL2 i q) = csN (fF S (9 + h) 6) (lstW 3 1 C) τ C (fF S i 0) (fA S (9 + h + 6)) (ms) (0) (gX S i q)) → va_P G.1 vwCl (wX G ad SL2) H_3 → va_D A (wX G ad SL2) → va_S A s.heap H_3 locs_4 → lv_has ls 3 [(2, .int ((nI c))), (0, .ref (ad (9 + h))), (1, .ref (ad i))] → W p l e ({ frames := 6, cells := 0, slots := 0, locals := 174 } : Room) s m args below meth c₀ H_3 locs_4 0 0 Q (F0 m 2 ls []) := by
    intro fu
    induction fu with
    | zero =>
      intro c SL2 H_3 locs_4 ls hXl2 hFl2 hk hf hFl_ hcuL hgL hsL hI hP hD hS hl
      exact absurd hf (by omega)
    | succ fu ih =>
      intro c SL2 H_3 locs_4 ls hXl2 hFl2 hk hf hFl_ hcuL hgL hsL hI hP hD hS hl
      obtain ⟨hcxL, hsayL⟩ := id hcuL
      obtain ⟨hkqL, hqL, hpzL, hcokL, hctxL⟩ := id hcxL
      obtain ⟨xL, hxL, hx8L_⟩ := hgL.2.2.1
      have hx8L : fF SL2 i 8 = nI xL := hx8L_
      have hx30L : xL < 1000000 := by omega
      refine lv_iload_n hx hb (fk_get fk_cX7_cutsAreSeen_0 2 rfl) rfl (lv_at hl 0 rfl) ?_
      refine lv_aload_n hx hb (fk_get fk_cX7_cutsAreSeen_0 3 rfl) rfl (lv_at hl 1 rfl) ?_
      refine va_get (D := G.1) (ci := 9) (v := .int (fF SL2 (9 + h) 4)) (C := RX7) (T := TX7) (N := 8) hx hb hT inX7 hown hK hP (9 + h) (ix_at (lt71 (by omega)) (cX_shop (pk_shop hh))) rfl 4 (by decide) (hT _ m1_210) (fun _ h9 => h9) rfl (fk_get fk_cX7_cutsAreSeen_0 4 rfl) ?_
      rw [hsL]
      refine lv_icmp_ge (tgt := 54) hx hb (fk_get fk_cX7_cutsAreSeen_0 5 rfl) (by decide) (fun c_5 => ?_) (fun c_5 => ?_)
      · have q_c_5 : ms ≤ c := ci_le (a := ms) (b := c) (by omega) (by omega) c_5
        have hend : ms ≤ c := (nI_leI (a := ms) (b := c) (by omega) (by omega)).mp c_5
        refine lv_iconst (v := 1) hx hb (fk_get fk_cX7_cutsAreSeen_0 30 rfl) (by decide) ?_
        subst hQ
        have hpost : XI SL2 ∧ Fr (fun j k => j = i ∧ 5 ≤ k ∧ k ≤ 9) S SL2 ∧ ((1 : Int32) = i01 (csN (fF S (9 + h) 6) (lstW 3 1 C) τ C (fF S i 0) (fA S (9 + h + 6)) (ms) (0) (gX S i q))) := by
          exact ⟨hXl2, hFl2, (by first | (rw [cs_f hI (by omega) (Or.inl hgoT)]; rfl) | (rw [cs_f hI (by omega) (Or.inr hmf_)]; rfl) | (rw [cs_e hI hend]; rfl))⟩
        exact W.zret (v := 1) hx hb hr rfl (fun t_ ht_ hW_ => ⟨⟨1, SL2, rfl, hpost, by rw [ht_]; exact hP, va_K.moved hW_.alike hK, hD⟩, hS.F ht_⟩) hS.2.2 (fk_get fk_cX7_cutsAreSeen_0 31 rfl)
      have q_c_5 : c < ms := ci_nle (a := ms) (b := c) (by omega) (by omega) c_5
      refine lv_aload_n hx hb (fk_get fk_cX7_cutsAreSeen_0 6 rfl) rfl (lv_at hl 2 rfl) ?_
      refine va_get (D := G.1) (ci := 5) (v := .int (fF SL2 i 9)) (C := RX3) (T := TX3) (N := 10) hx hb hT inX3 hown hK hP i (ix_at (lt71 (by omega)) (cX_cust hpk)) rfl 9 (by decide) (hT _ m1_180) (fun _ h9 => h9) rfl (fk_get fk_cX7_cutsAreSeen_0 7 rfl) ?_
      refine lv_if_ne (tgt := 40) hx hb (fk_get fk_cX7_cutsAreSeen_0 8 rfl) (by decide) (fun c_6 => ?_) (fun c_6 => ?_)
      · have hgoT : gX SL2 i q 7 = 1 := (hgL.2.2.2).resolve_left c_6
        refine lv_iconst (v := 0) hx hb (fk_get fk_cX7_cutsAreSeen_0 22 rfl) (by decide) ?_
        subst hQ
        have hpost : XI SL2 ∧ Fr (fun j k => j = i ∧ 5 ≤ k ∧ k ≤ 9) S SL2 ∧ ((0 : Int32) = i01 (csN (fF S (9 + h) 6) (lstW 3 1 C) τ C (fF S i 0) (fA S (9 + h + 6)) (ms) (0) (gX S i q))) := by
          exact ⟨hXl2, hFl2, (by first | (rw [cs_f hI (by omega) (Or.inl hgoT)]; rfl) | (rw [cs_f hI (by omega) (Or.inr hmf_)]; rfl) | (rw [cs_e hI hend]; rfl))⟩
        exact W.zret (v := 0) hx hb hr rfl (fun t_ ht_ hW_ => ⟨⟨0, SL2, rfl, hpost, by rw [ht_]; exact hP, va_K.moved hW_.alike hK, hD⟩, hS.F ht_⟩) hS.2.2 (fk_get fk_cX7_cutsAreSeen_0 23 rfl)
      have hgoL : ¬ gX SL2 i q 7 = 1 := by first | exact gone_n (show gX SL2 i q 7 = fF SL2 i 9 from rfl) c_6 | exact gone_n (show gX SL2 i q 7 = fF SL2 i 9 from rfl) (Decidable.not_not.mp c_6)
      refine lv_aload_n hx hb (fk_get fk_cX7_cutsAreSeen_0 9 rfl) rfl (lv_at hl 2 rfl) ?_
      refine va_get (D := G.1) (ci := 5) (v := va_rf ((fR SL2 i 2).map ad)) (C := RX3) (T := TX3) (N := 10) hx hb hT inX3 hown hK hP i (ix_at (lt71 (by omega)) (cX_cust hpk)) rfl 2 (by decide) (hT _ m1_146) (fun _ h9 => h9) rfl (fk_get fk_cX7_cutsAreSeen_0 10 rfl) ?_
      rw [show va_rf ((fR SL2 i 2).map ad) = .ref (ad (2 + q)) from by rw [hkqL]; rfl]
      refine lv_aload_n hx hb (fk_get fk_cX7_cutsAreSeen_0 11 rfl) rfl (lv_at hl 2 rfl) ?_
      have kk_22 : ∀ rv_22 : Int32, rv_22 = (askF (gX SL2 i q)) → W p l e ({ frames := 6, cells := 0, slots := 0, locals := 174 } : Room) s m args below meth c₀ H_3 locs_4 0 0 Q (F0 m 25 ls [.int (rv_22)]) := by
        intro rv_22 hv_22
        subst hv_22
        refine lv_aload_n hx hb (fk_get fk_cX7_cutsAreSeen_0 13 rfl) rfl (lv_at hl 1 rfl) ?_
        refine lv_aload_n hx hb (fk_get fk_cX7_cutsAreSeen_0 14 rfl) rfl (lv_at hl 2 rfl) ?_
        refine vp_callSi (W.runV (As := [.ref (ad i)]) (rest := [.int ((askF (gX SL2 i q)))]) ⟨hx, hb, hml, hown, hT⟩ (c_x7_moreF l G ad SL2 H_3.size (h) (i) (q) (pz) (τ) (C) (hh) (hpk) (hcuL) (hXl2)) (tV 1 hT m2_191 m2_125 m2_126 m1_9 m2_127 rfl rfl (by decide +kernel) ⟨Nat.le_of_ble_eq_true rfl, Nat.le_of_ble_eq_true rfl⟩) ⟨PcW_blind, va_recv hK hP (ci := 9) (q0 := (9 + h)) rfl (ix_at (lt71 (by omega)) (cX_shop (pk_shop hh))), PcW_of hP hK hD _⟩ rfl rfl hl.1 rfl (lv_room (Nat.le_of_ble_eq_true rfl)) (fk_get fk_cX7_cutsAreSeen_0 15 rfl) ⟨Nat.zero_le _, Nat.zero_le _⟩) (fun r_7 hw_8 => ?_)
        try dsimp only at hw_8
        rw [show fF SL2 (9 + h) 6 = fF S (9 + h) 6 from hFl_.F (lt71 (by omega)) (by omega), show fF SL2 i 0 = fF S i 0 from hFl_.F (lt71 (by omega)) (by omega)] at hw_8
        subst hw_8
        refine lv_iadd hx hb (fk_get fk_cX7_cutsAreSeen_0 16 rfl) ?_
        refine lv_aload_n hx hb (fk_get fk_cX7_cutsAreSeen_0 17 rfl) rfl (lv_at hl 1 rfl) ?_
        refine va_get (D := G.1) (ci := 9) (v := .ref (ad (9 + h + 6))) (C := RX7) (T := TX7) (N := 8) hx hb hT inX7 hown hK hP (9 + h) (ix_at (lt71 (by omega)) (cX_shop (pk_shop hh))) rfl 1 (by decide) (hT _ m1_204) (fun _ h9 => h9) rfl (fk_get fk_cX7_cutsAreSeen_0 18 rfl) ?_
        refine lv_iload_n hx hb (fk_get fk_cX7_cutsAreSeen_0 19 rfl) rfl (lv_at hl 0 rfl) ?_
        refine r_iald (f := fA SL2 (9 + h + 6)) hx hb hK hP (9 + h + 6) 0 (ix_at (lt71 (by omega)) (cX_arr (Or.inl ⟨rfl, rfl, Or.inl (pk_sn hh)⟩))) rfl (j := c) (rfl) (by omega) (by decide) (fk_get fk_cX7_cutsAreSeen_0 20 rfl) ?_
        refine lv_icmp_eq (tgt := 42) hx hb (fk_get fk_cX7_cutsAreSeen_0 21 rfl) (by decide) (fun c_9 => ?_) (fun c_9 => ?_)
        · have hmt_ : askF (gX SL2 i q) + (moF (fF S (9 + h) 6) τ C (fF S i 0) (gX SL2 i q)) = fA S (9 + h + 6) c := by rw [← hFl_.A (j := 9 + h + 6) (lt71 (by omega)) (by omega)]; exact c_9
          refine lv_aload_n hx hb (fk_get fk_cX7_cutsAreSeen_0 24 rfl) rfl (lv_at hl 1 rfl) ?_
          refine lv_aload_n hx hb (fk_get fk_cX7_cutsAreSeen_0 25 rfl) rfl (lv_at hl 2 rfl) ?_
          have hFc := va_self hD hS hA
          refine va_calli (va_runV (As := [.ref (ad i)]) (rest := []) ⟨hx, hb, hml, hown, hT⟩ (c_x7_makeVisitE l G ad SL2 H_3.size (h) (i) (q) (pz) (bb + c) (lz) (τ) (C) (hh) (hpk) (by first | assumption | omega) (by first | assumption | omega) (by first | assumption | omega) (by first | assumption | omega) (by first | assumption | omega) (hXl2)) (tV 1 hT m3_206 m3_170 m3_171 m1_9 m3_172 rfl rfl (by decide +kernel) ⟨Nat.le_of_ble_eq_true rfl, Nat.le_of_ble_eq_true rfl⟩) ⟨PcW_blind, va_recv hK hP (ci := 9) (q0 := (9 + h)) rfl (ix_at (lt71 (by omega)) (cX_shop (pk_shop hh))), PcW_of hP hK hD _⟩ rfl rfl hl.1 rfl (lv_room (Nat.le_of_ble_eq_true rfl)) (fk_get fk_cX7_cutsAreSeen_0 26 rfl) ⟨Nat.zero_le _, Nat.zero_le _⟩) hS (fun q _ h => hFc q h) hFc (fun r_10 S_12 t_ H locs ht_ hvm_ hw_11 hB_ hz_ hk_ hS => ?_)
          obtain ⟨hP, -, hD1_⟩ := hB_
          rw [ht_] at hP
          have hD : va_D A (wX G ad S_12) := hD1_.weaken (fun k q _ h => hFc q.1 h)
          try dsimp only at hw_11
          obtain ⟨hX_13, hF_14_, hw_11⟩ := hw_11
          have hF_14 : Fr (fun j k => j = i ∧ 5 ≤ k ∧ k ≤ 9) S S_12 := Fr.trans hFl2 (Fr.mono hF_14_ (fun j k h => by omega))
          obtain ⟨hr_, hv_⟩ := hw_11
          have hoL : fF SL2 (9 + h) 6 = fF S (9 + h) 6 := hFl_.F (lt71 (by omega)) (by omega)
          have hcL : fF SL2 i 0 = fF S i 0 := hFl_.F (lt71 (by omega)) (by omega)
          rw [hoL, hcL] at hr_ hv_
          subst hr_
          have hg_ : gX S_12 i q = visF 1 (lstW 3 1 C) (moF (fF S (9 + h) 6) τ C (fF S i 0) (gX SL2 i q)) (gX SL2 i q) := gx_of hF_14_ (by omega) (by omega) (by omega) (by omega) hv_ (fun k hk_ => vis_out hk_)
          have hcuN : CuC S_12 h i q pz τ C := hcuL.fr (by omega) hh hF_14_ (by omega) (by omega) (fun j k a b => by omega)
          refine lv_pop hx hb (fk_get fk_cX7_cutsAreSeen_0 27 rfl) rfl ?_
          refine lv_iinc (v := (nI (c + 1))) (lv' := [(2, .int ((nI (c + 1)))), (0, .ref (ad (9 + h))), (1, .ref (ad i))]) hx hb (fk_get fk_cX7_cutsAreSeen_0 28 rfl) hl (k := 0) rfl ((nI_1 c)) (by decide) rfl (fun ls hl => ?_)
          refine lv_goto (tgt := 2) hx hb (fk_get fk_cX7_cutsAreSeen_0 29 rfl) (by decide) ?_
          exact ih (c + 1) (S_12) _ _ ls (hX_13) (hF_14) (by omega) (by omega) (hF_14) (hcuN) ((by rw [hg_]; exact hgL.vis (by omega))) ((Fr.F hF_14_ (lt71 (by omega)) (by omega)).trans hsL) (cs_s hI (by omega) hgoL hmt_ hg_) hP hD hS (lv_sub hl [0, 1, 2] rfl)
        have hmf_ : ¬ askF (gX SL2 i q) + (moF (fF S (9 + h) 6) τ C (fF S i 0) (gX SL2 i q)) = fA S (9 + h + 6) c := by rw [← hFl_.A (j := 9 + h + 6) (lt71 (by omega)) (by omega)]; exact c_9
        refine lv_iconst (v := 0) hx hb (fk_get fk_cX7_cutsAreSeen_0 22 rfl) (by decide) ?_
        subst hQ
        have hpost : XI SL2 ∧ Fr (fun j k => j = i ∧ 5 ≤ k ∧ k ≤ 9) S SL2 ∧ ((0 : Int32) = i01 (csN (fF S (9 + h) 6) (lstW 3 1 C) τ C (fF S i 0) (fA S (9 + h + 6)) (ms) (0) (gX S i q))) := by
          exact ⟨hXl2, hFl2, (by first | (rw [cs_f hI (by omega) (Or.inl hgoT)]; rfl) | (rw [cs_f hI (by omega) (Or.inr hmf_)]; rfl) | (rw [cs_e hI hend]; rfl))⟩
        exact W.zret (v := 0) hx hb hr rfl (fun t_ ht_ hW_ => ⟨⟨0, SL2, rfl, hpost, by rw [ht_]; exact hP, va_K.moved hW_.alike hK, hD⟩, hS.F ht_⟩) hS.2.2 (fk_get fk_cX7_cutsAreSeen_0 23 rfl)
      rcases kq7 hq with rfl | rfl | rfl | rfl | rfl | rfl | rfl
      · exact vp_callSi (va_Run.run (va_runU (As := [.ref (ad i)]) (rest := []) ⟨hx, hb, hml, hown, hT⟩ (c_x5_portion l G ad SL2 H_3.size (2 + 0) (i) ((lt71 (by omega))) (hpk)) (tU 1 hT m3_173 m2_144 m2_143 m2_142 m1_2 m2_166 rfl rfl rfl (by decide +kernel) ⟨Nat.le_of_ble_eq_true rfl, Nat.le_of_ble_eq_true rfl⟩) ⟨PcW_blind, va_recv hK hP (ci := 7) (q0 := 2 + 0) rfl (ix_at (lt71 (by omega)) (cX_knd (by omega))), PcW_of hP hK hD _⟩ rfl rfl hl.1 rfl (lv_room (Nat.le_of_ble_eq_true rfl)) (fk_get fk_cX7_cutsAreSeen_0 12 rfl) ⟨Nat.zero_le _, Nat.zero_le _⟩)) (fun r h_ => kk_22 r (h_.trans aX_0.symm))
      · exact vp_callSi (va_Run.run (va_runU (As := [.ref (ad i)]) (rest := []) ⟨hx, hb, hml, hown, hT⟩ (c_x8_portion l G ad SL2 H_3.size (2 + 1) (i) ((lt71 (by omega))) (hpk)) (tO 1 hT m3_173 m2_144 m2_142 m2_158 m2_152 m1_3 m2_153 m2_166 rfl rfl (by decide +kernel) ⟨Nat.le_of_ble_eq_true rfl, Nat.le_of_ble_eq_true rfl⟩) ⟨PcW_blind, va_recv hK hP (ci := 10) (q0 := 2 + 1) rfl (ix_at (lt71 (by omega)) (cX_knd (by omega))), PcW_of hP hK hD _⟩ rfl rfl hl.1 rfl (lv_room (Nat.le_of_ble_eq_true rfl)) (fk_get fk_cX7_cutsAreSeen_0 12 rfl) ⟨Nat.zero_le _, Nat.zero_le _⟩)) (fun r h_ => kk_22 r (h_.trans aX_1.symm))
      · exact vp_callSi (va_Run.run (va_runU (As := [.ref (ad i)]) (rest := []) ⟨hx, hb, hml, hown, hT⟩ (c_x5_portion l G ad SL2 H_3.size (2 + 2) (i) ((lt71 (by omega))) (hpk)) (tU 1 hT m3_173 m2_144 m2_156 m2_142 m1_2 m2_166 rfl rfl rfl (by decide +kernel) ⟨Nat.le_of_ble_eq_true rfl, Nat.le_of_ble_eq_true rfl⟩) ⟨PcW_blind, va_recv hK hP (ci := 6) (q0 := 2 + 2) rfl (ix_at (lt71 (by omega)) (cX_knd (by omega))), PcW_of hP hK hD _⟩ rfl rfl hl.1 rfl (lv_room (Nat.le_of_ble_eq_true rfl)) (fk_get fk_cX7_cutsAreSeen_0 12 rfl) ⟨Nat.zero_le _, Nat.zero_le _⟩)) (fun r h_ => kk_22 r (h_.trans aX_2.symm))
      · exact vp_callSi (va_Run.run (va_runU (As := [.ref (ad i)]) (rest := []) ⟨hx, hb, hml, hown, hT⟩ (c_x0_portion l G ad SL2 H_3.size (2 + 3) (i) ((lt71 (by omega))) (hpk)) (tO 1 hT m3_173 m2_144 m2_142 m2_145 m2_146 m1_5 m2_147 m2_166 rfl rfl (by decide +kernel) ⟨Nat.le_of_ble_eq_true rfl, Nat.le_of_ble_eq_true rfl⟩) ⟨PcW_blind, va_recv hK hP (ci := 2) (q0 := 2 + 3) rfl (ix_at (lt71 (by omega)) (cX_knd (by omega))), PcW_of hP hK hD _⟩ rfl rfl hl.1 rfl (lv_room (Nat.le_of_ble_eq_true rfl)) (fk_get fk_cX7_cutsAreSeen_0 12 rfl) ⟨Nat.zero_le _, Nat.zero_le _⟩)) (fun r h_ => kk_22 r (h_.trans aX_3.symm))
      · exact vp_callSi (va_Run.run (va_runU (As := [.ref (ad i)]) (rest := []) ⟨hx, hb, hml, hown, hT⟩ (c_x2_portionE l G ad SL2 H_3.size (4) (i) ((by omega)) (hpk) (hXl2)) (tO 1 hT m3_173 m2_144 m2_142 m2_148 m2_149 m1_6 m2_150 m2_166 rfl rfl (by decide +kernel) ⟨Nat.le_of_ble_eq_true rfl, Nat.le_of_ble_eq_true rfl⟩) ⟨PcW_blind, va_recv hK hP (ci := 4) (q0 := 2 + 4) rfl (ix_at (lt71 (by omega)) (cX_knd (by omega))), PcW_of hP hK hD _⟩ rfl rfl hl.1 rfl (lv_room (Nat.le_of_ble_eq_true rfl)) (fk_get fk_cX7_cutsAreSeen_0 12 rfl) ⟨Nat.zero_le _, Nat.zero_le _⟩)) (fun r h_ => kk_22 r (h_.trans aX_4.symm))
      · exact vp_callSi (va_Run.run (va_runU (As := [.ref (ad i)]) (rest := []) ⟨hx, hb, hml, hown, hT⟩ (c_x5_portion l G ad SL2 H_3.size (2 + 5) (i) ((lt71 (by omega))) (hpk)) (tU 1 hT m3_173 m2_144 m2_157 m2_142 m1_2 m2_166 rfl rfl rfl (by decide +kernel) ⟨Nat.le_of_ble_eq_true rfl, Nat.le_of_ble_eq_true rfl⟩) ⟨PcW_blind, va_recv hK hP (ci := 8) (q0 := 2 + 5) rfl (ix_at (lt71 (by omega)) (cX_knd (by omega))), PcW_of hP hK hD _⟩ rfl rfl hl.1 rfl (lv_room (Nat.le_of_ble_eq_true rfl)) (fk_get fk_cX7_cutsAreSeen_0 12 rfl) ⟨Nat.zero_le _, Nat.zero_le _⟩)) (fun r h_ => kk_22 r (h_.trans aX_5.symm))
      · exact vp_callSi (va_Run.run (va_runU (As := [.ref (ad i)]) (rest := []) ⟨hx, hb, hml, hown, hT⟩ (c_x10_portionE l G ad SL2 H_3.size (6) (i) (xL) ((by omega)) (hpk) (hx8L) (hx30L) (hXl2)) (tO 1 hT m3_173 m2_144 m2_142 m2_159 m2_160 m1_8 m2_161 m2_166 rfl rfl (by decide +kernel) ⟨Nat.le_of_ble_eq_true rfl, Nat.le_of_ble_eq_true rfl⟩) ⟨PcW_blind, va_recv hK hP (ci := 12) (q0 := 2 + 6) rfl (ix_at (lt71 (by omega)) (cX_knd (by omega))), PcW_of hP hK hD _⟩ rfl rfl hl.1 rfl (lv_room (Nat.le_of_ble_eq_true rfl)) (fk_get fk_cX7_cutsAreSeen_0 12 rfl) ⟨Nat.zero_le _, Nat.zero_le _⟩)) (fun r h_ => kk_22 r (h_.trans (aX_6 hx8L hx30L).symm))
  exact lp_1 (ms + 1) (0) (S) _ _ ls (hX) ((Fr.rf : Fr (fun j k => j = i ∧ 5 ≤ k ∧ k ≤ 9) S S)) (by omega) (by omega) (Fr.rf) (hcu) (hgb) (hs) (rfl) hP hD hS (lv_sub hl [0, 1, 2] rfl)
set_option maxHeartbeats 800000 in
set_option maxRecDepth 100000 in
theorem c_jbitCountX (l : Launch) (pz : Nat) (v : Int32) (hv : v = nI pz) (hp64 : pz < 64) : Met l yJ6_bitCount_0f7a4 (Cond.code yJ6_bitCount_0f7a4 cJ6_bitCount_0f7a4 1 (some .int) :: TBL) ({ frames := 2, cells := 0, slots := 0, locals := 64 } : Room) (PcN [.int (v)]) (vp_Si (fun (r : Int32) => r = nI (pc6 pz))) 0 0 (fun _ => False) := by
  refine va_MetF (cc := cJ6_bitCount_0f7a4) (maxL := 1) (ret := (some .int)) (by decide +kernel) rfl ?_
  intro p e s m args below meth c₀ s₁ B hml hv
  obtain ⟨rfl, -⟩ := hv
  have hx := B.exec
  have hb := B.bytes
  have hr := B.returns
  have hT : ∀ w ∈ TBL, w.before ([.int (v)] : List Value).toArray s = true := fun w h => atoms_spec (ws := Cond.code yJ6_bitCount_0f7a4 cJ6_bitCount_0f7a4 1 (some .int) :: TBL) B.pre w (List.mem_cons_of_mem _ h)
  have hown : s.vm.findClass "java/lang/Integer" = some m.cls := findClass_of_methodNamed B.named
  have hlocks := B.notSynchronized
  have hl := lv_entry ([.int (v)]) (n := 1) (Nat.le_of_ble_eq_true rfl)
  rw [lg_entry_eq]
  generalize (lg_sl ([.int (v)]) ++ List.replicate (1 - (lg_sl ([.int (v)])).length) Slot.unset).toArray = ls at hl ⊢
  have hl : lv_has ls 1 [(0, .int (v))] := hl
  refine W_abs (fun Q hQ => ?_)
  generalize ([.int (v)] : List Value).toArray = args at hT hQ ⊢
  refine lv_iload_n hx hb (fk_get fk_cJ6_bitCount_0f7a4_0 0 rfl) rfl (lv_at hl 0 rfl) ?_
  refine lv_iload_n hx hb (fk_get fk_cJ6_bitCount_0f7a4_0 1 rfl) rfl (lv_at hl 0 rfl) ?_
  refine lv_iconst (v := 1) hx hb (fk_get fk_cJ6_bitCount_0f7a4_0 2 rfl) (by decide) ?_
  refine lv_iushr (v := ((v : Int32).toUInt32 >>> ((1 : Int32).toUInt32 &&& Int32.toUInt32 31)).toInt32) hx hb (fk_get fk_cJ6_bitCount_0f7a4_0 3 rfl) rfl ?_
  refine lv_ldcw (v := 1431655765) hx hb hown (hT _ m4_73) (fk_get fk_cJ6_bitCount_0f7a4_0 4 rfl) ?_
  refine lv_iand hx hb (fk_get fk_cJ6_bitCount_0f7a4_0 5 rfl) ?_
  refine lv_isub hx hb (fk_get fk_cJ6_bitCount_0f7a4_0 6 rfl) ?_
  refine lv_istore_n (lv' := [(0, .int ((v - (((v : Int32).toUInt32 >>> ((1 : Int32).toUInt32 &&& Int32.toUInt32 31)).toInt32 &&& 1431655765))))]) hx hb (fk_get fk_cJ6_bitCount_0f7a4_0 7 rfl) rfl hl (by decide) rfl (fun ls hl => ?_)
  refine lv_iload_n hx hb (fk_get fk_cJ6_bitCount_0f7a4_0 8 rfl) rfl (lv_at hl 0 rfl) ?_
  refine lv_ldcw (v := 858993459) hx hb hown (hT _ m4_74) (fk_get fk_cJ6_bitCount_0f7a4_0 9 rfl) ?_
  refine lv_iand hx hb (fk_get fk_cJ6_bitCount_0f7a4_0 10 rfl) ?_
  refine lv_iload_n hx hb (fk_get fk_cJ6_bitCount_0f7a4_0 11 rfl) rfl (lv_at hl 0 rfl) ?_
  refine lv_iconst (v := 2) hx hb (fk_get fk_cJ6_bitCount_0f7a4_0 12 rfl) (by decide) ?_
  refine lv_iushr (v := (((v - (((v : Int32).toUInt32 >>> ((1 : Int32).toUInt32 &&& Int32.toUInt32 31)).toInt32 &&& 1431655765)) : Int32).toUInt32 >>> ((2 : Int32).toUInt32 &&& Int32.toUInt32 31)).toInt32) hx hb (fk_get fk_cJ6_bitCount_0f7a4_0 13 rfl) rfl ?_
  refine lv_ldcw (v := 858993459) hx hb hown (hT _ m4_74) (fk_get fk_cJ6_bitCount_0f7a4_0 14 rfl) ?_
  refine lv_iand hx hb (fk_get fk_cJ6_bitCount_0f7a4_0 15 rfl) ?_
  refine lv_iadd hx hb (fk_get fk_cJ6_bitCount_0f7a4_0 16 rfl) ?_
  refine lv_istore_n (lv' := [(0, .int ((((v - (((v : Int32).toUInt32 >>> ((1 : Int32).toUInt32 &&& Int32.toUInt32 31)).toInt32 &&& 1431655765)) &&& 858993459) + ((((v - (((v : Int32).toUInt32 >>> ((1 : Int32).toUInt32 &&& Int32.toUInt32 31)).toInt32 &&& 1431655765)) : Int32).toUInt32 >>> ((2 : Int32).toUInt32 &&& Int32.toUInt32 31)).toInt32 &&& 858993459))))]) hx hb (fk_get fk_cJ6_bitCount_0f7a4_0 17 rfl) rfl hl (by decide) rfl (fun ls hl => ?_)
  refine lv_iload_n hx hb (fk_get fk_cJ6_bitCount_0f7a4_0 18 rfl) rfl (lv_at hl 0 rfl) ?_
  refine lv_iload_n hx hb (fk_get fk_cJ6_bitCount_0f7a4_0 19 rfl) rfl (lv_at hl 0 rfl) ?_
  refine lv_iconst (v := 4) hx hb (fk_get fk_cJ6_bitCount_0f7a4_0 20 rfl) (by decide) ?_
  refine lv_iushr (v := (((((v - (((v : Int32).toUInt32 >>> ((1 : Int32).toUInt32 &&& Int32.toUInt32 31)).toInt32 &&& 1431655765)) &&& 858993459) + ((((v - (((v : Int32).toUInt32 >>> ((1 : Int32).toUInt32 &&& Int32.toUInt32 31)).toInt32 &&& 1431655765)) : Int32).toUInt32 >>> ((2 : Int32).toUInt32 &&& Int32.toUInt32 31)).toInt32 &&& 858993459)) : Int32).toUInt32 >>> ((4 : Int32).toUInt32 &&& Int32.toUInt32 31)).toInt32) hx hb (fk_get fk_cJ6_bitCount_0f7a4_0 21 rfl) rfl ?_
  refine lv_iadd hx hb (fk_get fk_cJ6_bitCount_0f7a4_0 22 rfl) ?_
  refine lv_ldcw (v := 252645135) hx hb hown (hT _ m4_75) (fk_get fk_cJ6_bitCount_0f7a4_0 23 rfl) ?_
  refine lv_iand hx hb (fk_get fk_cJ6_bitCount_0f7a4_0 24 rfl) ?_
  refine lv_istore_n (lv' := [(0, .int ((((((v - (((v : Int32).toUInt32 >>> ((1 : Int32).toUInt32 &&& Int32.toUInt32 31)).toInt32 &&& 1431655765)) &&& 858993459) + ((((v - (((v : Int32).toUInt32 >>> ((1 : Int32).toUInt32 &&& Int32.toUInt32 31)).toInt32 &&& 1431655765)) : Int32).toUInt32 >>> ((2 : Int32).toUInt32 &&& Int32.toUInt32 31)).toInt32 &&& 858993459)) + (((((v - (((v : Int32).toUInt32 >>> ((1 : Int32).toUInt32 &&& Int32.toUInt32 31)).toInt32 &&& 1431655765)) &&& 858993459) + ((((v - (((v : Int32).toUInt32 >>> ((1 : Int32).toUInt32 &&& Int32.toUInt32 31)).toInt32 &&& 1431655765)) : Int32).toUInt32 >>> ((2 : Int32).toUInt32 &&& Int32.toUInt32 31)).toInt32 &&& 858993459)) : Int32).toUInt32 >>> ((4 : Int32).toUInt32 &&& Int32.toUInt32 31)).toInt32) &&& 252645135)))]) hx hb (fk_get fk_cJ6_bitCount_0f7a4_0 25 rfl) rfl hl (by decide) rfl (fun ls hl => ?_)
  refine lv_iload_n hx hb (fk_get fk_cJ6_bitCount_0f7a4_0 26 rfl) rfl (lv_at hl 0 rfl) ?_
  refine lv_iload_n hx hb (fk_get fk_cJ6_bitCount_0f7a4_0 27 rfl) rfl (lv_at hl 0 rfl) ?_
  refine lv_bipush (v := 8) hx hb (fk_get fk_cJ6_bitCount_0f7a4_0 28 rfl) (by decide) ?_
  refine lv_iushr (v := (((((((v - (((v : Int32).toUInt32 >>> ((1 : Int32).toUInt32 &&& Int32.toUInt32 31)).toInt32 &&& 1431655765)) &&& 858993459) + ((((v - (((v : Int32).toUInt32 >>> ((1 : Int32).toUInt32 &&& Int32.toUInt32 31)).toInt32 &&& 1431655765)) : Int32).toUInt32 >>> ((2 : Int32).toUInt32 &&& Int32.toUInt32 31)).toInt32 &&& 858993459)) + (((((v - (((v : Int32).toUInt32 >>> ((1 : Int32).toUInt32 &&& Int32.toUInt32 31)).toInt32 &&& 1431655765)) &&& 858993459) + ((((v - (((v : Int32).toUInt32 >>> ((1 : Int32).toUInt32 &&& Int32.toUInt32 31)).toInt32 &&& 1431655765)) : Int32).toUInt32 >>> ((2 : Int32).toUInt32 &&& Int32.toUInt32 31)).toInt32 &&& 858993459)) : Int32).toUInt32 >>> ((4 : Int32).toUInt32 &&& Int32.toUInt32 31)).toInt32) &&& 252645135) : Int32).toUInt32 >>> ((8 : Int32).toUInt32 &&& Int32.toUInt32 31)).toInt32) hx hb (fk_get fk_cJ6_bitCount_0f7a4_0 29 rfl) rfl ?_
  refine lv_iadd hx hb (fk_get fk_cJ6_bitCount_0f7a4_0 30 rfl) ?_
  refine lv_istore_n (lv' := [(0, .int (((((((v - (((v : Int32).toUInt32 >>> ((1 : Int32).toUInt32 &&& Int32.toUInt32 31)).toInt32 &&& 1431655765)) &&& 858993459) + ((((v - (((v : Int32).toUInt32 >>> ((1 : Int32).toUInt32 &&& Int32.toUInt32 31)).toInt32 &&& 1431655765)) : Int32).toUInt32 >>> ((2 : Int32).toUInt32 &&& Int32.toUInt32 31)).toInt32 &&& 858993459)) + (((((v - (((v : Int32).toUInt32 >>> ((1 : Int32).toUInt32 &&& Int32.toUInt32 31)).toInt32 &&& 1431655765)) &&& 858993459) + ((((v - (((v : Int32).toUInt32 >>> ((1 : Int32).toUInt32 &&& Int32.toUInt32 31)).toInt32 &&& 1431655765)) : Int32).toUInt32 >>> ((2 : Int32).toUInt32 &&& Int32.toUInt32 31)).toInt32 &&& 858993459)) : Int32).toUInt32 >>> ((4 : Int32).toUInt32 &&& Int32.toUInt32 31)).toInt32) &&& 252645135) + (((((((v - (((v : Int32).toUInt32 >>> ((1 : Int32).toUInt32 &&& Int32.toUInt32 31)).toInt32 &&& 1431655765)) &&& 858993459) + ((((v - (((v : Int32).toUInt32 >>> ((1 : Int32).toUInt32 &&& Int32.toUInt32 31)).toInt32 &&& 1431655765)) : Int32).toUInt32 >>> ((2 : Int32).toUInt32 &&& Int32.toUInt32 31)).toInt32 &&& 858993459)) + (((((v - (((v : Int32).toUInt32 >>> ((1 : Int32).toUInt32 &&& Int32.toUInt32 31)).toInt32 &&& 1431655765)) &&& 858993459) + ((((v - (((v : Int32).toUInt32 >>> ((1 : Int32).toUInt32 &&& Int32.toUInt32 31)).toInt32 &&& 1431655765)) : Int32).toUInt32 >>> ((2 : Int32).toUInt32 &&& Int32.toUInt32 31)).toInt32 &&& 858993459)) : Int32).toUInt32 >>> ((4 : Int32).toUInt32 &&& Int32.toUInt32 31)).toInt32) &&& 252645135) : Int32).toUInt32 >>> ((8 : Int32).toUInt32 &&& Int32.toUInt32 31)).toInt32)))]) hx hb (fk_get fk_cJ6_bitCount_0f7a4_0 31 rfl) rfl hl (by decide) rfl (fun ls hl => ?_)
  refine lv_iload_n hx hb (fk_get fk_cJ6_bitCount_0f7a4_1 0 rfl) rfl (lv_at hl 0 rfl) ?_
  refine lv_iload_n hx hb (fk_get fk_cJ6_bitCount_0f7a4_1 1 rfl) rfl (lv_at hl 0 rfl) ?_
  refine lv_bipush (v := 16) hx hb (fk_get fk_cJ6_bitCount_0f7a4_1 2 rfl) (by decide) ?_
  refine lv_iushr (v := ((((((((v - (((v : Int32).toUInt32 >>> ((1 : Int32).toUInt32 &&& Int32.toUInt32 31)).toInt32 &&& 1431655765)) &&& 858993459) + ((((v - (((v : Int32).toUInt32 >>> ((1 : Int32).toUInt32 &&& Int32.toUInt32 31)).toInt32 &&& 1431655765)) : Int32).toUInt32 >>> ((2 : Int32).toUInt32 &&& Int32.toUInt32 31)).toInt32 &&& 858993459)) + (((((v - (((v : Int32).toUInt32 >>> ((1 : Int32).toUInt32 &&& Int32.toUInt32 31)).toInt32 &&& 1431655765)) &&& 858993459) + ((((v - (((v : Int32).toUInt32 >>> ((1 : Int32).toUInt32 &&& Int32.toUInt32 31)).toInt32 &&& 1431655765)) : Int32).toUInt32 >>> ((2 : Int32).toUInt32 &&& Int32.toUInt32 31)).toInt32 &&& 858993459)) : Int32).toUInt32 >>> ((4 : Int32).toUInt32 &&& Int32.toUInt32 31)).toInt32) &&& 252645135) + (((((((v - (((v : Int32).toUInt32 >>> ((1 : Int32).toUInt32 &&& Int32.toUInt32 31)).toInt32 &&& 1431655765)) &&& 858993459) + ((((v - (((v : Int32).toUInt32 >>> ((1 : Int32).toUInt32 &&& Int32.toUInt32 31)).toInt32 &&& 1431655765)) : Int32).toUInt32 >>> ((2 : Int32).toUInt32 &&& Int32.toUInt32 31)).toInt32 &&& 858993459)) + (((((v - (((v : Int32).toUInt32 >>> ((1 : Int32).toUInt32 &&& Int32.toUInt32 31)).toInt32 &&& 1431655765)) &&& 858993459) + ((((v - (((v : Int32).toUInt32 >>> ((1 : Int32).toUInt32 &&& Int32.toUInt32 31)).toInt32 &&& 1431655765)) : Int32).toUInt32 >>> ((2 : Int32).toUInt32 &&& Int32.toUInt32 31)).toInt32 &&& 858993459)) : Int32).toUInt32 >>> ((4 : Int32).toUInt32 &&& Int32.toUInt32 31)).toInt32) &&& 252645135) : Int32).toUInt32 >>> ((8 : Int32).toUInt32 &&& Int32.toUInt32 31)).toInt32) : Int32).toUInt32 >>> ((16 : Int32).toUInt32 &&& Int32.toUInt32 31)).toInt32) hx hb (fk_get fk_cJ6_bitCount_0f7a4_1 3 rfl) rfl ?_
  refine lv_iadd hx hb (fk_get fk_cJ6_bitCount_0f7a4_1 4 rfl) ?_
  refine lv_istore_n (lv' := [(0, .int ((((((((v - (((v : Int32).toUInt32 >>> ((1 : Int32).toUInt32 &&& Int32.toUInt32 31)).toInt32 &&& 1431655765)) &&& 858993459) + ((((v - (((v : Int32).toUInt32 >>> ((1 : Int32).toUInt32 &&& Int32.toUInt32 31)).toInt32 &&& 1431655765)) : Int32).toUInt32 >>> ((2 : Int32).toUInt32 &&& Int32.toUInt32 31)).toInt32 &&& 858993459)) + (((((v - (((v : Int32).toUInt32 >>> ((1 : Int32).toUInt32 &&& Int32.toUInt32 31)).toInt32 &&& 1431655765)) &&& 858993459) + ((((v - (((v : Int32).toUInt32 >>> ((1 : Int32).toUInt32 &&& Int32.toUInt32 31)).toInt32 &&& 1431655765)) : Int32).toUInt32 >>> ((2 : Int32).toUInt32 &&& Int32.toUInt32 31)).toInt32 &&& 858993459)) : Int32).toUInt32 >>> ((4 : Int32).toUInt32 &&& Int32.toUInt32 31)).toInt32) &&& 252645135) + (((((((v - (((v : Int32).toUInt32 >>> ((1 : Int32).toUInt32 &&& Int32.toUInt32 31)).toInt32 &&& 1431655765)) &&& 858993459) + ((((v - (((v : Int32).toUInt32 >>> ((1 : Int32).toUInt32 &&& Int32.toUInt32 31)).toInt32 &&& 1431655765)) : Int32).toUInt32 >>> ((2 : Int32).toUInt32 &&& Int32.toUInt32 31)).toInt32 &&& 858993459)) + (((((v - (((v : Int32).toUInt32 >>> ((1 : Int32).toUInt32 &&& Int32.toUInt32 31)).toInt32 &&& 1431655765)) &&& 858993459) + ((((v - (((v : Int32).toUInt32 >>> ((1 : Int32).toUInt32 &&& Int32.toUInt32 31)).toInt32 &&& 1431655765)) : Int32).toUInt32 >>> ((2 : Int32).toUInt32 &&& Int32.toUInt32 31)).toInt32 &&& 858993459)) : Int32).toUInt32 >>> ((4 : Int32).toUInt32 &&& Int32.toUInt32 31)).toInt32) &&& 252645135) : Int32).toUInt32 >>> ((8 : Int32).toUInt32 &&& Int32.toUInt32 31)).toInt32) + ((((((((v - (((v : Int32).toUInt32 >>> ((1 : Int32).toUInt32 &&& Int32.toUInt32 31)).toInt32 &&& 1431655765)) &&& 858993459) + ((((v - (((v : Int32).toUInt32 >>> ((1 : Int32).toUInt32 &&& Int32.toUInt32 31)).toInt32 &&& 1431655765)) : Int32).toUInt32 >>> ((2 : Int32).toUInt32 &&& Int32.toUInt32 31)).toInt32 &&& 858993459)) + (((((v - (((v : Int32).toUInt32 >>> ((1 : Int32).toUInt32 &&& Int32.toUInt32 31)).toInt32 &&& 1431655765)) &&& 858993459) + ((((v - (((v : Int32).toUInt32 >>> ((1 : Int32).toUInt32 &&& Int32.toUInt32 31)).toInt32 &&& 1431655765)) : Int32).toUInt32 >>> ((2 : Int32).toUInt32 &&& Int32.toUInt32 31)).toInt32 &&& 858993459)) : Int32).toUInt32 >>> ((4 : Int32).toUInt32 &&& Int32.toUInt32 31)).toInt32) &&& 252645135) + (((((((v - (((v : Int32).toUInt32 >>> ((1 : Int32).toUInt32 &&& Int32.toUInt32 31)).toInt32 &&& 1431655765)) &&& 858993459) + ((((v - (((v : Int32).toUInt32 >>> ((1 : Int32).toUInt32 &&& Int32.toUInt32 31)).toInt32 &&& 1431655765)) : Int32).toUInt32 >>> ((2 : Int32).toUInt32 &&& Int32.toUInt32 31)).toInt32 &&& 858993459)) + (((((v - (((v : Int32).toUInt32 >>> ((1 : Int32).toUInt32 &&& Int32.toUInt32 31)).toInt32 &&& 1431655765)) &&& 858993459) + ((((v - (((v : Int32).toUInt32 >>> ((1 : Int32).toUInt32 &&& Int32.toUInt32 31)).toInt32 &&& 1431655765)) : Int32).toUInt32 >>> ((2 : Int32).toUInt32 &&& Int32.toUInt32 31)).toInt32 &&& 858993459)) : Int32).toUInt32 >>> ((4 : Int32).toUInt32 &&& Int32.toUInt32 31)).toInt32) &&& 252645135) : Int32).toUInt32 >>> ((8 : Int32).toUInt32 &&& Int32.toUInt32 31)).toInt32) : Int32).toUInt32 >>> ((16 : Int32).toUInt32 &&& Int32.toUInt32 31)).toInt32)))]) hx hb (fk_get fk_cJ6_bitCount_0f7a4_1 5 rfl) rfl hl (by decide) rfl (fun ls hl => ?_)
  refine lv_iload_n hx hb (fk_get fk_cJ6_bitCount_0f7a4_1 6 rfl) rfl (lv_at hl 0 rfl) ?_
  refine lv_bipush (v := 63) hx hb (fk_get fk_cJ6_bitCount_0f7a4_1 7 rfl) (by decide) ?_
  refine lv_iand hx hb (fk_get fk_cJ6_bitCount_0f7a4_1 8 rfl) ?_
  subst hQ
  have hpost : (((((((((v - (((v : Int32).toUInt32 >>> ((1 : Int32).toUInt32 &&& Int32.toUInt32 31)).toInt32 &&& 1431655765)) &&& 858993459) + ((((v - (((v : Int32).toUInt32 >>> ((1 : Int32).toUInt32 &&& Int32.toUInt32 31)).toInt32 &&& 1431655765)) : Int32).toUInt32 >>> ((2 : Int32).toUInt32 &&& Int32.toUInt32 31)).toInt32 &&& 858993459)) + (((((v - (((v : Int32).toUInt32 >>> ((1 : Int32).toUInt32 &&& Int32.toUInt32 31)).toInt32 &&& 1431655765)) &&& 858993459) + ((((v - (((v : Int32).toUInt32 >>> ((1 : Int32).toUInt32 &&& Int32.toUInt32 31)).toInt32 &&& 1431655765)) : Int32).toUInt32 >>> ((2 : Int32).toUInt32 &&& Int32.toUInt32 31)).toInt32 &&& 858993459)) : Int32).toUInt32 >>> ((4 : Int32).toUInt32 &&& Int32.toUInt32 31)).toInt32) &&& 252645135) + (((((((v - (((v : Int32).toUInt32 >>> ((1 : Int32).toUInt32 &&& Int32.toUInt32 31)).toInt32 &&& 1431655765)) &&& 858993459) + ((((v - (((v : Int32).toUInt32 >>> ((1 : Int32).toUInt32 &&& Int32.toUInt32 31)).toInt32 &&& 1431655765)) : Int32).toUInt32 >>> ((2 : Int32).toUInt32 &&& Int32.toUInt32 31)).toInt32 &&& 858993459)) + (((((v - (((v : Int32).toUInt32 >>> ((1 : Int32).toUInt32 &&& Int32.toUInt32 31)).toInt32 &&& 1431655765)) &&& 858993459) + ((((v - (((v : Int32).toUInt32 >>> ((1 : Int32).toUInt32 &&& Int32.toUInt32 31)).toInt32 &&& 1431655765)) : Int32).toUInt32 >>> ((2 : Int32).toUInt32 &&& Int32.toUInt32 31)).toInt32 &&& 858993459)) : Int32).toUInt32 >>> ((4 : Int32).toUInt32 &&& Int32.toUInt32 31)).toInt32) &&& 252645135) : Int32).toUInt32 >>> ((8 : Int32).toUInt32 &&& Int32.toUInt32 31)).toInt32) + ((((((((v - (((v : Int32).toUInt32 >>> ((1 : Int32).toUInt32 &&& Int32.toUInt32 31)).toInt32 &&& 1431655765)) &&& 858993459) + ((((v - (((v : Int32).toUInt32 >>> ((1 : Int32).toUInt32 &&& Int32.toUInt32 31)).toInt32 &&& 1431655765)) : Int32).toUInt32 >>> ((2 : Int32).toUInt32 &&& Int32.toUInt32 31)).toInt32 &&& 858993459)) + (((((v - (((v : Int32).toUInt32 >>> ((1 : Int32).toUInt32 &&& Int32.toUInt32 31)).toInt32 &&& 1431655765)) &&& 858993459) + ((((v - (((v : Int32).toUInt32 >>> ((1 : Int32).toUInt32 &&& Int32.toUInt32 31)).toInt32 &&& 1431655765)) : Int32).toUInt32 >>> ((2 : Int32).toUInt32 &&& Int32.toUInt32 31)).toInt32 &&& 858993459)) : Int32).toUInt32 >>> ((4 : Int32).toUInt32 &&& Int32.toUInt32 31)).toInt32) &&& 252645135) + (((((((v - (((v : Int32).toUInt32 >>> ((1 : Int32).toUInt32 &&& Int32.toUInt32 31)).toInt32 &&& 1431655765)) &&& 858993459) + ((((v - (((v : Int32).toUInt32 >>> ((1 : Int32).toUInt32 &&& Int32.toUInt32 31)).toInt32 &&& 1431655765)) : Int32).toUInt32 >>> ((2 : Int32).toUInt32 &&& Int32.toUInt32 31)).toInt32 &&& 858993459)) + (((((v - (((v : Int32).toUInt32 >>> ((1 : Int32).toUInt32 &&& Int32.toUInt32 31)).toInt32 &&& 1431655765)) &&& 858993459) + ((((v - (((v : Int32).toUInt32 >>> ((1 : Int32).toUInt32 &&& Int32.toUInt32 31)).toInt32 &&& 1431655765)) : Int32).toUInt32 >>> ((2 : Int32).toUInt32 &&& Int32.toUInt32 31)).toInt32 &&& 858993459)) : Int32).toUInt32 >>> ((4 : Int32).toUInt32 &&& Int32.toUInt32 31)).toInt32) &&& 252645135) : Int32).toUInt32 >>> ((8 : Int32).toUInt32 &&& Int32.toUInt32 31)).toInt32) : Int32).toUInt32 >>> ((16 : Int32).toUInt32 &&& Int32.toUInt32 31)).toInt32) &&& 63) : Int32) = nI (pc6 pz) := by
    rw [hv]
    exact (by decide +kernel : ∀ y : Nat, y < 64 → (fun v : Int32 => (((((((((v - (((v : Int32).toUInt32 >>> ((1 : Int32).toUInt32 &&& Int32.toUInt32 31)).toInt32 &&& 1431655765)) &&& 858993459) + ((((v - (((v : Int32).toUInt32 >>> ((1 : Int32).toUInt32 &&& Int32.toUInt32 31)).toInt32 &&& 1431655765)) : Int32).toUInt32 >>> ((2 : Int32).toUInt32 &&& Int32.toUInt32 31)).toInt32 &&& 858993459)) + (((((v - (((v : Int32).toUInt32 >>> ((1 : Int32).toUInt32 &&& Int32.toUInt32 31)).toInt32 &&& 1431655765)) &&& 858993459) + ((((v - (((v : Int32).toUInt32 >>> ((1 : Int32).toUInt32 &&& Int32.toUInt32 31)).toInt32 &&& 1431655765)) : Int32).toUInt32 >>> ((2 : Int32).toUInt32 &&& Int32.toUInt32 31)).toInt32 &&& 858993459)) : Int32).toUInt32 >>> ((4 : Int32).toUInt32 &&& Int32.toUInt32 31)).toInt32) &&& 252645135) + (((((((v - (((v : Int32).toUInt32 >>> ((1 : Int32).toUInt32 &&& Int32.toUInt32 31)).toInt32 &&& 1431655765)) &&& 858993459) + ((((v - (((v : Int32).toUInt32 >>> ((1 : Int32).toUInt32 &&& Int32.toUInt32 31)).toInt32 &&& 1431655765)) : Int32).toUInt32 >>> ((2 : Int32).toUInt32 &&& Int32.toUInt32 31)).toInt32 &&& 858993459)) + (((((v - (((v : Int32).toUInt32 >>> ((1 : Int32).toUInt32 &&& Int32.toUInt32 31)).toInt32 &&& 1431655765)) &&& 858993459) + ((((v - (((v : Int32).toUInt32 >>> ((1 : Int32).toUInt32 &&& Int32.toUInt32 31)).toInt32 &&& 1431655765)) : Int32).toUInt32 >>> ((2 : Int32).toUInt32 &&& Int32.toUInt32 31)).toInt32 &&& 858993459)) : Int32).toUInt32 >>> ((4 : Int32).toUInt32 &&& Int32.toUInt32 31)).toInt32) &&& 252645135) : Int32).toUInt32 >>> ((8 : Int32).toUInt32 &&& Int32.toUInt32 31)).toInt32) + ((((((((v - (((v : Int32).toUInt32 >>> ((1 : Int32).toUInt32 &&& Int32.toUInt32 31)).toInt32 &&& 1431655765)) &&& 858993459) + ((((v - (((v : Int32).toUInt32 >>> ((1 : Int32).toUInt32 &&& Int32.toUInt32 31)).toInt32 &&& 1431655765)) : Int32).toUInt32 >>> ((2 : Int32).toUInt32 &&& Int32.toUInt32 31)).toInt32 &&& 858993459)) + (((((v - (((v : Int32).toUInt32 >>> ((1 : Int32).toUInt32 &&& Int32.toUInt32 31)).toInt32 &&& 1431655765)) &&& 858993459) + ((((v - (((v : Int32).toUInt32 >>> ((1 : Int32).toUInt32 &&& Int32.toUInt32 31)).toInt32 &&& 1431655765)) : Int32).toUInt32 >>> ((2 : Int32).toUInt32 &&& Int32.toUInt32 31)).toInt32 &&& 858993459)) : Int32).toUInt32 >>> ((4 : Int32).toUInt32 &&& Int32.toUInt32 31)).toInt32) &&& 252645135) + (((((((v - (((v : Int32).toUInt32 >>> ((1 : Int32).toUInt32 &&& Int32.toUInt32 31)).toInt32 &&& 1431655765)) &&& 858993459) + ((((v - (((v : Int32).toUInt32 >>> ((1 : Int32).toUInt32 &&& Int32.toUInt32 31)).toInt32 &&& 1431655765)) : Int32).toUInt32 >>> ((2 : Int32).toUInt32 &&& Int32.toUInt32 31)).toInt32 &&& 858993459)) + (((((v - (((v : Int32).toUInt32 >>> ((1 : Int32).toUInt32 &&& Int32.toUInt32 31)).toInt32 &&& 1431655765)) &&& 858993459) + ((((v - (((v : Int32).toUInt32 >>> ((1 : Int32).toUInt32 &&& Int32.toUInt32 31)).toInt32 &&& 1431655765)) : Int32).toUInt32 >>> ((2 : Int32).toUInt32 &&& Int32.toUInt32 31)).toInt32 &&& 858993459)) : Int32).toUInt32 >>> ((4 : Int32).toUInt32 &&& Int32.toUInt32 31)).toInt32) &&& 252645135) : Int32).toUInt32 >>> ((8 : Int32).toUInt32 &&& Int32.toUInt32 31)).toInt32) : Int32).toUInt32 >>> ((16 : Int32).toUInt32 &&& Int32.toUInt32 31)).toInt32) &&& 63))) (nI y) = nI (pc6 y)) pz hp64
  exact W.iret (v := ((((((((v - (((v : Int32).toUInt32 >>> ((1 : Int32).toUInt32 &&& Int32.toUInt32 31)).toInt32 &&& 1431655765)) &&& 858993459) + ((((v - (((v : Int32).toUInt32 >>> ((1 : Int32).toUInt32 &&& Int32.toUInt32 31)).toInt32 &&& 1431655765)) : Int32).toUInt32 >>> ((2 : Int32).toUInt32 &&& Int32.toUInt32 31)).toInt32 &&& 858993459)) + (((((v - (((v : Int32).toUInt32 >>> ((1 : Int32).toUInt32 &&& Int32.toUInt32 31)).toInt32 &&& 1431655765)) &&& 858993459) + ((((v - (((v : Int32).toUInt32 >>> ((1 : Int32).toUInt32 &&& Int32.toUInt32 31)).toInt32 &&& 1431655765)) : Int32).toUInt32 >>> ((2 : Int32).toUInt32 &&& Int32.toUInt32 31)).toInt32 &&& 858993459)) : Int32).toUInt32 >>> ((4 : Int32).toUInt32 &&& Int32.toUInt32 31)).toInt32) &&& 252645135) + (((((((v - (((v : Int32).toUInt32 >>> ((1 : Int32).toUInt32 &&& Int32.toUInt32 31)).toInt32 &&& 1431655765)) &&& 858993459) + ((((v - (((v : Int32).toUInt32 >>> ((1 : Int32).toUInt32 &&& Int32.toUInt32 31)).toInt32 &&& 1431655765)) : Int32).toUInt32 >>> ((2 : Int32).toUInt32 &&& Int32.toUInt32 31)).toInt32 &&& 858993459)) + (((((v - (((v : Int32).toUInt32 >>> ((1 : Int32).toUInt32 &&& Int32.toUInt32 31)).toInt32 &&& 1431655765)) &&& 858993459) + ((((v - (((v : Int32).toUInt32 >>> ((1 : Int32).toUInt32 &&& Int32.toUInt32 31)).toInt32 &&& 1431655765)) : Int32).toUInt32 >>> ((2 : Int32).toUInt32 &&& Int32.toUInt32 31)).toInt32 &&& 858993459)) : Int32).toUInt32 >>> ((4 : Int32).toUInt32 &&& Int32.toUInt32 31)).toInt32) &&& 252645135) : Int32).toUInt32 >>> ((8 : Int32).toUInt32 &&& Int32.toUInt32 31)).toInt32) + ((((((((v - (((v : Int32).toUInt32 >>> ((1 : Int32).toUInt32 &&& Int32.toUInt32 31)).toInt32 &&& 1431655765)) &&& 858993459) + ((((v - (((v : Int32).toUInt32 >>> ((1 : Int32).toUInt32 &&& Int32.toUInt32 31)).toInt32 &&& 1431655765)) : Int32).toUInt32 >>> ((2 : Int32).toUInt32 &&& Int32.toUInt32 31)).toInt32 &&& 858993459)) + (((((v - (((v : Int32).toUInt32 >>> ((1 : Int32).toUInt32 &&& Int32.toUInt32 31)).toInt32 &&& 1431655765)) &&& 858993459) + ((((v - (((v : Int32).toUInt32 >>> ((1 : Int32).toUInt32 &&& Int32.toUInt32 31)).toInt32 &&& 1431655765)) : Int32).toUInt32 >>> ((2 : Int32).toUInt32 &&& Int32.toUInt32 31)).toInt32 &&& 858993459)) : Int32).toUInt32 >>> ((4 : Int32).toUInt32 &&& Int32.toUInt32 31)).toInt32) &&& 252645135) + (((((((v - (((v : Int32).toUInt32 >>> ((1 : Int32).toUInt32 &&& Int32.toUInt32 31)).toInt32 &&& 1431655765)) &&& 858993459) + ((((v - (((v : Int32).toUInt32 >>> ((1 : Int32).toUInt32 &&& Int32.toUInt32 31)).toInt32 &&& 1431655765)) : Int32).toUInt32 >>> ((2 : Int32).toUInt32 &&& Int32.toUInt32 31)).toInt32 &&& 858993459)) + (((((v - (((v : Int32).toUInt32 >>> ((1 : Int32).toUInt32 &&& Int32.toUInt32 31)).toInt32 &&& 1431655765)) &&& 858993459) + ((((v - (((v : Int32).toUInt32 >>> ((1 : Int32).toUInt32 &&& Int32.toUInt32 31)).toInt32 &&& 1431655765)) : Int32).toUInt32 >>> ((2 : Int32).toUInt32 &&& Int32.toUInt32 31)).toInt32 &&& 858993459)) : Int32).toUInt32 >>> ((4 : Int32).toUInt32 &&& Int32.toUInt32 31)).toInt32) &&& 252645135) : Int32).toUInt32 >>> ((8 : Int32).toUInt32 &&& Int32.toUInt32 31)).toInt32) : Int32).toUInt32 >>> ((16 : Int32).toUInt32 &&& Int32.toUInt32 31)).toInt32) &&& 63)) hx hb hr (fun t_ ht_ hW_ => ⟨((((((((v - (((v : Int32).toUInt32 >>> ((1 : Int32).toUInt32 &&& Int32.toUInt32 31)).toInt32 &&& 1431655765)) &&& 858993459) + ((((v - (((v : Int32).toUInt32 >>> ((1 : Int32).toUInt32 &&& Int32.toUInt32 31)).toInt32 &&& 1431655765)) : Int32).toUInt32 >>> ((2 : Int32).toUInt32 &&& Int32.toUInt32 31)).toInt32 &&& 858993459)) + (((((v - (((v : Int32).toUInt32 >>> ((1 : Int32).toUInt32 &&& Int32.toUInt32 31)).toInt32 &&& 1431655765)) &&& 858993459) + ((((v - (((v : Int32).toUInt32 >>> ((1 : Int32).toUInt32 &&& Int32.toUInt32 31)).toInt32 &&& 1431655765)) : Int32).toUInt32 >>> ((2 : Int32).toUInt32 &&& Int32.toUInt32 31)).toInt32 &&& 858993459)) : Int32).toUInt32 >>> ((4 : Int32).toUInt32 &&& Int32.toUInt32 31)).toInt32) &&& 252645135) + (((((((v - (((v : Int32).toUInt32 >>> ((1 : Int32).toUInt32 &&& Int32.toUInt32 31)).toInt32 &&& 1431655765)) &&& 858993459) + ((((v - (((v : Int32).toUInt32 >>> ((1 : Int32).toUInt32 &&& Int32.toUInt32 31)).toInt32 &&& 1431655765)) : Int32).toUInt32 >>> ((2 : Int32).toUInt32 &&& Int32.toUInt32 31)).toInt32 &&& 858993459)) + (((((v - (((v : Int32).toUInt32 >>> ((1 : Int32).toUInt32 &&& Int32.toUInt32 31)).toInt32 &&& 1431655765)) &&& 858993459) + ((((v - (((v : Int32).toUInt32 >>> ((1 : Int32).toUInt32 &&& Int32.toUInt32 31)).toInt32 &&& 1431655765)) : Int32).toUInt32 >>> ((2 : Int32).toUInt32 &&& Int32.toUInt32 31)).toInt32 &&& 858993459)) : Int32).toUInt32 >>> ((4 : Int32).toUInt32 &&& Int32.toUInt32 31)).toInt32) &&& 252645135) : Int32).toUInt32 >>> ((8 : Int32).toUInt32 &&& Int32.toUInt32 31)).toInt32) + ((((((((v - (((v : Int32).toUInt32 >>> ((1 : Int32).toUInt32 &&& Int32.toUInt32 31)).toInt32 &&& 1431655765)) &&& 858993459) + ((((v - (((v : Int32).toUInt32 >>> ((1 : Int32).toUInt32 &&& Int32.toUInt32 31)).toInt32 &&& 1431655765)) : Int32).toUInt32 >>> ((2 : Int32).toUInt32 &&& Int32.toUInt32 31)).toInt32 &&& 858993459)) + (((((v - (((v : Int32).toUInt32 >>> ((1 : Int32).toUInt32 &&& Int32.toUInt32 31)).toInt32 &&& 1431655765)) &&& 858993459) + ((((v - (((v : Int32).toUInt32 >>> ((1 : Int32).toUInt32 &&& Int32.toUInt32 31)).toInt32 &&& 1431655765)) : Int32).toUInt32 >>> ((2 : Int32).toUInt32 &&& Int32.toUInt32 31)).toInt32 &&& 858993459)) : Int32).toUInt32 >>> ((4 : Int32).toUInt32 &&& Int32.toUInt32 31)).toInt32) &&& 252645135) + (((((((v - (((v : Int32).toUInt32 >>> ((1 : Int32).toUInt32 &&& Int32.toUInt32 31)).toInt32 &&& 1431655765)) &&& 858993459) + ((((v - (((v : Int32).toUInt32 >>> ((1 : Int32).toUInt32 &&& Int32.toUInt32 31)).toInt32 &&& 1431655765)) : Int32).toUInt32 >>> ((2 : Int32).toUInt32 &&& Int32.toUInt32 31)).toInt32 &&& 858993459)) + (((((v - (((v : Int32).toUInt32 >>> ((1 : Int32).toUInt32 &&& Int32.toUInt32 31)).toInt32 &&& 1431655765)) &&& 858993459) + ((((v - (((v : Int32).toUInt32 >>> ((1 : Int32).toUInt32 &&& Int32.toUInt32 31)).toInt32 &&& 1431655765)) : Int32).toUInt32 >>> ((2 : Int32).toUInt32 &&& Int32.toUInt32 31)).toInt32 &&& 858993459)) : Int32).toUInt32 >>> ((4 : Int32).toUInt32 &&& Int32.toUInt32 31)).toInt32) &&& 252645135) : Int32).toUInt32 >>> ((8 : Int32).toUInt32 &&& Int32.toUInt32 31)).toInt32) : Int32).toUInt32 >>> ((16 : Int32).toUInt32 &&& Int32.toUInt32 31)).toInt32) &&& 63), rfl, hpost, ht_⟩) (fun q h => by cases h) (fk_get fk_cJ6_bitCount_0f7a4_1 9 rfl)
set_option maxHeartbeats 800000 in
set_option maxRecDepth 100000 in
theorem c_x7_howManyStayX (l : Launch) (G : GG) (ad : Nat → Nat) (S : FS) (sz : Nat) (h n pz bb lz : Nat) (K : Nat → Nat) (τ : Nat → Int32) (C : Cls) (hh : h < 3) (hn : fF S (9 + h) 3 = nI n) (hn6 : n ≤ 6) (hcf : CuF S h n pz τ C K) (hgb : ∀ c, c < n → GB bb ((fun d => gX S (21 + 6 * h + d) (K d)) c)) (hbb : bb < 800000) (hX : XI S) : Met l yX7_howManyStay (Cond.code yX7_howManyStay cX7_howManyStay 1 (some .int) :: TBL) ({ frames := 3, cells := 0, slots := 0, locals := 90 } : Room) (PcW G (wX G ad S) sz [.ref (ad (9 + h))]) (vp_Si (fun (r : Int32) => r = nI (stN (fun d => gX S (21 + 6 * h + d) (K d)) n))) 0 0 (fun _ => False) := by
  refine Met.ofW (cc := cX7_howManyStay) (maxL := 1) (ret := (some .int)) (by decide) rfl ?_
  intro p e s m args below meth c₀ s₁ B hml hv
  obtain ⟨rfl, hsz, hP, hK, hD0⟩ := hv
  have hx := B.exec
  have hb := B.bytes
  have hr := B.returns
  have hT : ∀ w ∈ TBL, w.before ([.ref (ad (9 + h))] : List Value).toArray s = true := fun w h => atoms_spec (ws := Cond.code yX7_howManyStay cX7_howManyStay 1 (some .int) :: TBL) B.pre w (List.mem_cons_of_mem _ h)
  have hown : s.vm.findClass "LittleMore$Shop" = some m.cls := findClass_of_methodNamed B.named
  have hlocks := B.notSynchronized
  have hD := hD0
  have hP : va_P G.1 vwCl (wX G ad S) s.heap := hP
  have hl := lv_entry ([.ref (ad (9 + h))]) (n := 1) (Nat.le_of_ble_eq_true rfl)
  rw [lg_entry_eq]
  generalize (lg_sl ([.ref (ad (9 + h))]) ++ List.replicate (1 - (lg_sl ([.ref (ad (9 + h))])).length) Slot.unset).toArray = ls at hl ⊢
  have hl : lv_has ls 1 [(0, .ref (ad (9 + h)))] := hl
  refine W_abs (fun Q hQ => ?_)
  generalize ([.ref (ad (9 + h))] : List Value).toArray = args at hT hQ ⊢
  refine lv_aload_n hx hb (fk_get fk_cX7_howManyStay_0 0 rfl) rfl (lv_at hl 0 rfl) ?_
  refine va_get (D := G.1) (ci := 9) (v := .int (fF S (9 + h) 3)) (C := RX7) (T := TX7) (N := 8) hx hb hT inX7 hown hK hP (9 + h) (ix_at (lt71 (by omega)) (cX_shop (pk_shop hh))) rfl 3 (by decide) (hT _ m1_208) (fun _ h9 => h9) rfl (fk_get fk_cX7_howManyStay_0 1 rfl) ?_
  rw [hn]
  refine lv_aload_n hx hb (fk_get fk_cX7_howManyStay_0 2 rfl) rfl (lv_at hl 0 rfl) ?_
  refine vp_callSi (W.runV (As := []) (rest := [.int ((nI n))]) ⟨hx, hb, hml, hown, hT⟩ (c_x7_goneBitsX l G ad S s.heap.size (h) (n) (pz) (bb) (lz) (K) (τ) (C) (hh) (by first | assumption | omega) (by first | assumption | omega) (by first | assumption | omega) (by first | assumption | omega) (by first | assumption | omega) (hX)) (tV 0 hT m4_69 m3_162 m3_163 m1_9 m3_164 rfl rfl (by decide +kernel) ⟨Nat.le_of_ble_eq_true rfl, Nat.le_of_ble_eq_true rfl⟩) ⟨PcW_blind, va_recv hK hP (ci := 9) (q0 := (9 + h)) rfl (ix_at (lt71 (by omega)) (cX_shop (pk_shop hh))), PcW_of hP hK hD _⟩ rfl rfl hl.1 rfl (lv_room (Nat.le_of_ble_eq_true rfl)) (fk_get fk_cX7_howManyStay_0 3 rfl) ⟨Nat.zero_le _, Nat.zero_le _⟩) (fun r_1 hw_2 => ?_)
  try dsimp only at hw_2
  subst hw_2
  refine vp_callSi (W.runS (As := [.int ((nI (goN (fun d => gX S (21 + 6 * h + d) (K d)) n)))]) (rest := [.int ((nI n))]) ⟨hx, hb, hml, hown, hT⟩ (c_jbitCountX l (goN (fun d => gX S (21 + 6 * h + d) (K d)) n) ((nI (goN (fun d => gX S (21 + 6 * h + d) (K d)) n))) (rfl) (go_64 _ hn6)) (tS 1 hT m4_70 m4_71 m1_26 m4_72 rfl rfl (by decide +kernel) ⟨Nat.le_of_ble_eq_true rfl, Nat.le_of_ble_eq_true rfl⟩) ⟨PcN_blind, PcN_of _ _ _⟩ rfl rfl hl.1 rfl (lv_room (Nat.le_of_ble_eq_true rfl)) (fk_get fk_cX7_howManyStay_0 4 rfl) ⟨Nat.zero_le _, Nat.zero_le _⟩) (fun r_3 hw_4 => ?_)
  try dsimp only at hw_4
  subst hw_4
  refine lv_isub hx hb (fk_get fk_cX7_howManyStay_0 5 rfl) ?_
  subst hQ
  have hpost : (((nI n) - (nI (pc6 (goN (fun d => gX S (21 + 6 * h + d) (K d)) n)))) : Int32) = nI (stN (fun d => gX S (21 + 6 * h + d) (K d)) n) := by
    exact stay_r hn6
  exact W.iret (v := ((nI n) - (nI (pc6 (goN (fun d => gX S (21 + 6 * h + d) (K d)) n))))) hx hb hr (fun t_ ht_ hW_ => ⟨((nI n) - (nI (pc6 (goN (fun d => gX S (21 + 6 * h + d) (K d)) n)))), rfl, hpost, ht_⟩) (fun q h => by cases h) (fk_get fk_cX7_howManyStay_0 6 rfl)
set_option maxHeartbeats 800000 in
set_option maxRecDepth 100000 in
theorem c_x7_boundVisitsX (l : Launch) (G : GG) (ad : Nat → Nat) (S : FS) (sz : Nat) (h n pz bb lz : Nat) (K : Nat → Nat) (τ : Nat → Int32) (C : Cls) (hh : h < 3) (hn : fF S (9 + h) 3 = nI n) (hn6 : n ≤ 6) (hcf : CuF S h n pz τ C K) (hgb : ∀ c, c < n → GB bb ((fun d => gX S (21 + 6 * h + d) (K d)) c)) (hbb : bb < 800000) (hX : XI S) : Met l yX7_boundVisits (Cond.code yX7_boundVisits cX7_boundVisits 2 none :: TBL) ({ frames := 3, cells := 0, slots := 0, locals := 89 } : Room) (PcW G (wX G ad S) sz [.ref (ad (9 + h))]) (va_Qv (fun (S' : FS) => XI S' ∧ Fr (fun j k => 21 + 6 * h ≤ j ∧ j < 27 + 6 * h ∧ 5 ≤ k ∧ k ≤ 9) S S' ∧ (∀ d, d < n → (fun d => gX S' (21 + 6 * h + d) (K d)) d = bdV ((fun d => gX S (21 + 6 * h + d) (K d)) d))) (fun S' t => BW G (va_A (wX G ad S) sz) (wX G ad S') t) (va_A (wX G ad S) sz)) 0 0 (va_A (wX G ad S) sz) := by
  refine Met.ofW (cc := cX7_boundVisits) (maxL := 2) (ret := none) (by decide) rfl ?_
  intro p e s m args below meth c₀ s₁ B hml hv
  obtain ⟨rfl, hsz, hP, hK, hD0⟩ := hv
  have hx := B.exec
  have hb := B.bytes
  have hr := B.returns
  have hT : ∀ w ∈ TBL, w.before ([.ref (ad (9 + h))] : List Value).toArray s = true := fun w h => atoms_spec (ws := Cond.code yX7_boundVisits cX7_boundVisits 2 none :: TBL) B.pre w (List.mem_cons_of_mem _ h)
  have hown : s.vm.findClass "LittleMore$Shop" = some m.cls := findClass_of_methodNamed B.named
  have hlocks := B.notSynchronized
  subst hsz
  have hD := hD0.self (sz := s.heap.size)
  generalize hAe : va_A (wX G ad S) s.heap.size = A at hD ⊢
  have hA : ∀ q : Nat, s.heap.size ≤ q → A q := fun q h => by rw [← hAe]; exact Or.inr h
  have hS : va_S A s.heap s.heap [] := va_S.rf
  have hP : va_P G.1 vwCl (wX G ad S) s.heap := hP
  have hl := lv_entry ([.ref (ad (9 + h))]) (n := 2) (Nat.le_of_ble_eq_true rfl)
  rw [lg_entry_eq]
  generalize (lg_sl ([.ref (ad (9 + h))]) ++ List.replicate (2 - (lg_sl ([.ref (ad (9 + h))])).length) Slot.unset).toArray = ls at hl ⊢
  have hl : lv_has ls 2 [(0, .ref (ad (9 + h)))] := hl
  refine W_abs (fun Q hQ => ?_)
  generalize ([.ref (ad (9 + h))] : List Value).toArray = args at hT hQ ⊢
  refine lv_iconst (v := 0) hx hb (fk_get fk_cX7_boundVisits_0 0 rfl) (by decide) ?_
  refine lv_istore_n (lv' := [(1, .int (0)), (0, .ref (ad (9 + h)))]) hx hb (fk_get fk_cX7_boundVisits_0 1 rfl) rfl hl (by decide) rfl (fun ls hl => ?_)
  have lp_1 : ∀ (fu : Nat) (c : Nat) (SL2 : FS) (H_3 : Heap) (locs_4 : List Loc) (ls : Array Slot),  (XI SL2) → (Fr (fun j k => 21 + 6 * h ≤ j ∧ j < 27 + 6 * h ∧ 5 ≤ k ∧ k ≤ 9) S SL2) → (c ≤ n) → (n < c + fu) → (fF SL2 (9 + h) 3 = nI n) → (∀ d, d < n → (fun d => gX SL2 (21 + 6 * h + d) (K d)) d = if d < c then bdV ((fun d => gX S (21 + 6 * h + d) (K d)) d) else (fun d => gX S (21 + 6 * h + d) (K d)) d) → va_P G.1 vwCl (wX G ad SL2) H_3 → va_D A (wX G ad SL2) → va_S A s.heap H_3 locs_4 → lv_has ls 2 [(1, .int ((nI c))), (0, .ref (ad (9 + h)))] → W p l e ({ frames := 3, cells := 0, slots := 0, locals := 89 } : Room) s m args below meth c₀ H_3 locs_4 0 0 Q (F0 m 2 ls []) := by
    intro fu
    induction fu with
    | zero =>
      intro c SL2 H_3 locs_4 ls hXl2 hFl2 hk hf hnL hdL hP hD hS hl
      exact absurd hf (by omega)
    | succ fu ih =>
      intro c SL2 H_3 locs_4 ls hXl2 hFl2 hk hf hnL hdL hP hD hS hl
      refine lv_iload_n hx hb (fk_get fk_cX7_boundVisits_0 2 rfl) rfl (lv_at hl 0 rfl) ?_
      refine lv_aload_n hx hb (fk_get fk_cX7_boundVisits_0 3 rfl) rfl (lv_at hl 1 rfl) ?_
      refine va_get (D := G.1) (ci := 9) (v := .int (fF SL2 (9 + h) 3)) (C := RX7) (T := TX7) (N := 8) hx hb hT inX7 hown hK hP (9 + h) (ix_at (lt71 (by omega)) (cX_shop (pk_shop hh))) rfl 3 (by decide) (hT _ m1_208) (fun _ h9 => h9) rfl (fk_get fk_cX7_boundVisits_0 4 rfl) ?_
      rw [hnL]
      refine lv_icmp_ge (tgt := 40) hx hb (fk_get fk_cX7_boundVisits_0 5 rfl) (by decide) (fun c_5 => ?_) (fun c_5 => ?_)
      · have q_c_5 : n ≤ c := ci_le (a := n) (b := c) (by omega) (by omega) c_5
        have hend : c = n := by have z_ := (nI_leI (a := n) (b := c) (by omega) (by omega)).mp c_5; omega
        subst hQ
        have hpost : XI SL2 ∧ Fr (fun j k => 21 + 6 * h ≤ j ∧ j < 27 + 6 * h ∧ 5 ≤ k ∧ k ≤ 9) S SL2 ∧ (∀ d, d < n → (fun d => gX SL2 (21 + 6 * h + d) (K d)) d = bdV ((fun d => gX S (21 + 6 * h + d) (K d)) d)) := by
          exact ⟨hXl2, hFl2, fun d hd => (hdL d hd).trans (if_pos (by omega))⟩
        exact W.vret hx hb hr (fun t_ ht_ hW_ => ⟨⟨SL2, rfl, hpost, by rw [ht_]; exact hP, va_K.moved hW_.alike hK, hD⟩, hS.F ht_⟩) hS.2.2 (fk_get fk_cX7_boundVisits_0 20 rfl)
      have q_c_5 : c < n := ci_nle (a := n) (b := c) (by omega) (by omega) c_5
      refine lv_aload_n hx hb (fk_get fk_cX7_boundVisits_0 6 rfl) rfl (lv_at hl 1 rfl) ?_
      refine va_get (D := G.1) (ci := 9) (v := .ref (ad (9 + h + 3))) (C := RX7) (T := TX7) (N := 8) hx hb hT inX7 hown hK hP (9 + h) (ix_at (lt71 (by omega)) (cX_shop (pk_shop hh))) rfl 0 (by decide) (hT _ m1_202) (fun _ h9 => h9) rfl (fk_get fk_cX7_boundVisits_0 7 rfl) ?_
      refine lv_iload_n hx hb (fk_get fk_cX7_boundVisits_0 8 rfl) rfl (lv_at hl 0 rfl) ?_
      refine x_ppl hx hb hK hP hh (k := c) (by omega) (rfl) (fk_get fk_cX7_boundVisits_0 9 rfl) ?_
      generalize hg_i_15 : 21 + 6 * h + c = i_15
      have hp_i_15 : pk i_15 = 7 := by rw [← hg_i_15]; exact pk_c hh (by omega)
      have hb_i_15 := pk7 hp_i_15
      refine lv_sipush (v := 9999) hx hb (fk_get fk_cX7_boundVisits_0 10 rfl) (by decide) ?_
      refine lv_aload_n hx hb (fk_get fk_cX7_boundVisits_0 11 rfl) rfl (lv_at hl 1 rfl) ?_
      refine va_get (D := G.1) (ci := 9) (v := .ref (ad (9 + h + 3))) (C := RX7) (T := TX7) (N := 8) hx hb hT inX7 hown hK hP (9 + h) (ix_at (lt71 (by omega)) (cX_shop (pk_shop hh))) rfl 0 (by decide) (hT _ m1_202) (fun _ h9 => h9) rfl (fk_get fk_cX7_boundVisits_0 12 rfl) ?_
      refine lv_iload_n hx hb (fk_get fk_cX7_boundVisits_0 13 rfl) rfl (lv_at hl 0 rfl) ?_
      refine x_ppl hx hb hK hP hh (k := c) (by omega) (rfl) (fk_get fk_cX7_boundVisits_0 14 rfl) ?_
      generalize hg_i_24 : 21 + 6 * h + c = i_24
      have hp_i_24 : pk i_24 = 7 := by rw [← hg_i_24]; exact pk_c hh (by omega)
      have hb_i_24 := pk7 hp_i_24
      refine va_get (D := G.1) (ci := 5) (v := .int (fF SL2 i_24 8)) (C := RX3) (T := TX3) (N := 10) hx hb hT inX3 hown hK hP i_24 (ix_at (lt71 (by omega)) (cX_cust hp_i_24)) rfl 8 (by decide) (hT _ m1_177) (fun _ h9 => h9) rfl (fk_get fk_cX7_boundVisits_0 15 rfl) ?_
      refine vp_callSi (W.runS (As := [.int (9999), .int ((fF SL2 i_24 8))]) (rest := [.ref (ad i_15)]) ⟨hx, hb, hml, hown, hT⟩ (c_jmin l (9999) ((fF SL2 i_24 8)) ) (tS 2 hT m3_193 m3_94 m1_18 m3_95 rfl rfl (by decide +kernel) ⟨Nat.le_of_ble_eq_true rfl, Nat.le_of_ble_eq_true rfl⟩) ⟨PcN_blind, PcN_of _ _ _⟩ rfl rfl hl.1 rfl (lv_room (Nat.le_of_ble_eq_true rfl)) (fk_get fk_cX7_boundVisits_0 16 rfl) ⟨Nat.zero_le _, Nat.zero_le _⟩) (fun r_6 hw_7 => ?_)
      try dsimp only at hw_7
      have hmn_ := hw_7
      refine va_put (D := G.1) (ci := 5) (v := .int (r_6)) (ty := .int) (C := RX3) (T := TX3) (N := 10) hx hb hT inX3 tyX3 tyX3_ok nmX3 hown hK hP hD hS i_15 (ix_at (lt71 (by omega)) (cX_cust hp_i_15)) rfl 8 (by decide) (hT _ m1_177) (fun _ h9 => h9) rfl (by decide +kernel) rfl rfl (Nat.le_of_ble_eq_true rfl) (fk_get fk_cX7_boundVisits_0 17 rfl) (fun H locs hP hD hS => ?_)
      rw [pX_cust_8 (S := SL2) (lt71 (by omega)) (hp_i_15) (r_6)] at hP hD
      have hX_8 : XI (setF SL2 i_15 8 (r_6)) := XI.sF hXl2 _ ⟨by omega, by omega, by omega, by omega, by omega, by omega, by omega, by omega⟩
      have hF_9 : Fr (fun j k => 21 + 6 * h ≤ j ∧ j < 27 + 6 * h ∧ 5 ≤ k ∧ k ≤ 9) S (setF SL2 i_15 8 (r_6)) := Fr.sF hFl2 (by omega)
      refine lv_iinc (v := (nI (c + 1))) (lv' := [(1, .int ((nI (c + 1)))), (0, .ref (ad (9 + h)))]) hx hb (fk_get fk_cX7_boundVisits_0 18 rfl) hl (k := 0) rfl ((nI_1 c)) (by decide) rfl (fun ls hl => ?_)
      refine lv_goto (tgt := 2) hx hb (fk_get fk_cX7_boundVisits_0 19 rfl) (by decide) ?_
      exact ih (c + 1) (setF SL2 i_15 8 (r_6)) _ _ ls (hX_8) (hF_9) (by omega) (by omega) (by simp [fF_setF]; exact hnL) (bd_step hdL (by omega) hh hg_i_15 (by rw [hg_i_24]; exact hmn_)) hP hD hS (lv_sub hl [0, 1] rfl)
  exact lp_1 (n + 1) (0) (S) _ _ ls (hX) ((Fr.rf : Fr (fun j k => 21 + 6 * h ≤ j ∧ j < 27 + 6 * h ∧ 5 ≤ k ∧ k ≤ 9) S S)) (by omega) (by omega) (hn) (fun d hd => (if_neg (Nat.not_lt_zero d)).symm) hP hD hS (lv_sub hl [0, 1] rfl)
