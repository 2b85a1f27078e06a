set_option maxHeartbeats 800000 in
set_option maxRecDepth 100000 in
theorem c_counterX (l : Launch) (G : GG) (ad : Nat → Nat) (S : FS) (sz : Nat) (z nc : Nat) (hz : fF S 0 17 = nI z) (hz1 : z ≤ 100) (hnc : fF S 0 20 = nI nc) (hnc6 : nc ≤ 6) : Met l yX12_counter (Cond.code yX12_counter cX12_counter 5 (some .int) :: TBL) ({ frames := 8, cells := 0, slots := 0, locals := 219 } : Room) (PcW G (wR G ad S) sz [.ref (ad 0)]) (va_Qi (fun (r : Int32) (S' : FS) => CNT nc S S' ∧ CNx (hrS (fA S 6) z) z nc r S S' ∧ CNE (hrS (fA S 6) z) z nc S S') (fun S' t => BW G (va_A (wR G ad S) sz) (wR G ad S') t) (va_A (wR G ad S) sz)) 0 0 (va_A (wR G ad S) sz) := by
  refine Met.ofW (cc := cX12_counter) (maxL := 5) (ret := (some .int)) (by decide) rfl ?_
  intro p e s m args below meth c₀ s₁ B hml hv
  obtain ⟨rfl, hsz, hP, hK, hD0⟩ := hv
  have hx := B.exec
  have hb := B.bytes
  have hr := B.returns
  have hT : ∀ w ∈ TBL, w.before ([.ref (ad 0)] : List Value).toArray s = true := fun w h => atoms_spec (ws := Cond.code yX12_counter cX12_counter 5 (some .int) :: TBL) B.pre w (List.mem_cons_of_mem _ h)
  have hown : s.vm.findClass "LittleMoreModel" = some m.cls := findClass_of_methodNamed B.named
  have hlocks := B.notSynchronized
  subst hsz
  have hD := hD0.self (sz := s.heap.size)
  generalize hAe : va_A (wR G ad S) s.heap.size = A at hD ⊢
  have hA : ∀ q : Nat, s.heap.size ≤ q → A q := fun q h => by rw [← hAe]; exact Or.inr h
  have hS : va_S A s.heap s.heap [] := va_S.rf
  have hP : va_P G.1 vwCl (wR G ad S) s.heap := hP
  have hl := lv_entry ([.ref (ad 0)]) (n := 5) (Nat.le_of_ble_eq_true rfl)
  rw [lg_entry_eq]
  generalize (lg_sl ([.ref (ad 0)]) ++ List.replicate (5 - (lg_sl ([.ref (ad 0)])).length) Slot.unset).toArray = ls at hl ⊢
  have hl : lv_has ls 5 [(0, .ref (ad 0))] := hl
  refine W_abs (fun Q hQ => ?_)
  generalize ([.ref (ad 0)] : List Value).toArray = args at hT hQ ⊢
  refine lv_aload_n hx hb (fk_get fk_cX12_counter_0 0 rfl) rfl (lv_at hl 0 rfl) ?_
  refine lv_iconst (v := 0) hx hb (fk_get fk_cX12_counter_0 1 rfl) (by decide) ?_
  refine va_put (D := G.1) (ci := 14) (v := .int (0)) (ty := .int) (C := RX12) (T := TX12) (N := 49) hx hb hT inX12 tyX12 tyX12_ok nmX12 hown hK hP hD hS 0 (ix_at (by decide) (cR_0 G ad S)) rfl 8 (by decide) (hT _ m5_109) (fun _ h9 => h9) rfl (by decide +kernel) rfl rfl (Nat.le_of_ble_eq_true rfl) (fk_get fk_cX12_counter_0 2 rfl) (fun H locs hP hD hS => ?_)
  rw [pR_thrown G ad S (0)] at hP hD
  refine lv_aload_n hx hb (fk_get fk_cX12_counter_0 3 rfl) rfl (lv_at hl 0 rfl) ?_
  refine va_get (D := G.1) (ci := 14) (v := .int ((fF S 0 20))) (C := RX12) (T := TX12) (N := 49) hx hb hT inX12 hown hK hP 0 (ix_at (by decide) (cR_0 G ad (setF S 0 8 (0)))) rfl 20 (by decide) (hT _ m5_121) (fun _ h9 => h9) rfl (fk_get fk_cX12_counter_0 4 rfl) ?_
  refine lv_bipush (v := 6) hx hb (fk_get fk_cX12_counter_0 5 rfl) (by decide) ?_
  refine lv_icmp_ne (tgt := 17) hx hb (fk_get fk_cX12_counter_0 6 rfl) (by decide) (fun c_1 => ?_) (fun c_1 => ?_)
  · have hnc5 : nc < 6 := by
      have h2 : nc ≠ 6 := nI_ne (by rw [← hnc]; exact c_1)
      omega
    refine lv_aload_n hx hb (fk_get fk_cX12_counter_0 9 rfl) rfl (lv_at hl 0 rfl) ?_
    refine lv_iconst (v := 0) hx hb (fk_get fk_cX12_counter_0 10 rfl) (by decide) ?_
    refine va_put (D := G.1) (ci := 14) (v := .int (0)) (ty := .int) (C := RX12) (T := TX12) (N := 49) hx hb hT inX12 tyX12 tyX12_ok nmX12 hown hK hP hD hS 0 (ix_at (by decide) (cR_0 G ad (setF S 0 8 (0)))) rfl 25 (by decide) (hT _ m5_126) (fun _ h9 => h9) rfl (by decide +kernel) rfl rfl (Nat.le_of_ble_eq_true rfl) (fk_get fk_cX12_counter_0 11 rfl) (fun H locs hP hD hS => ?_)
    rw [pR_at G ad (setF S 0 8 (0)) (0)] at hP hD
    refine lv_aload_n hx hb (fk_get fk_cX12_counter_0 12 rfl) rfl (lv_at hl 0 rfl) ?_
    refine lv_iconst (v := 0) hx hb (fk_get fk_cX12_counter_0 13 rfl) (by decide) ?_
    refine va_put (D := G.1) (ci := 14) (v := .int (0)) (ty := .boolean) (C := RX12) (T := TX12) (N := 49) hx hb hT inX12 tyX12 tyX12_ok nmX12 hown hK hP hD hS 0 (ix_at (by decide) (cR_0 G ad (setF (setF S 0 8 (0)) 0 25 (0)))) rfl 26 (by decide) (hT _ m5_127) (fun _ h9 => h9) rfl (by decide +kernel) rfl rfl (Nat.le_of_ble_eq_true rfl) (fk_get fk_cX12_counter_0 14 rfl) (fun H locs hP hD hS => ?_)
    rw [pR_isBad G ad (setF (setF S 0 8 (0)) 0 25 (0)) (0)] at hP hD
    refine lv_iconst (v := 0) hx hb (fk_get fk_cX12_counter_0 15 rfl) (by decide) ?_
    refine lv_istore_n (lv' := [(1, .int (0)), (0, .ref (ad 0))]) hx hb (fk_get fk_cX12_counter_0 16 rfl) rfl hl (by decide) rfl (fun ls hl => ?_)
    refine lv_iconst (v := 0) hx hb (fk_get fk_cX12_counter_0 17 rfl) (by decide) ?_
    refine lv_istore_n (lv' := [(2, .int (0)), (1, .int (0)), (0, .ref (ad 0))]) hx hb (fk_get fk_cX12_counter_0 18 rfl) rfl hl (by decide) rfl (fun ls hl => ?_)
    have lp_2 : ∀ (fu : Nat) (n : Nat) (en : Int32) (SL : FS) (H_4 : Heap) (locs_5 : List Loc) (ls : Array Slot),  (KI (setF S 0 8 0) SL z nc n en fu) → (KCo (hrS (fA S 6) z) z nc n en SL) → va_P G.1 vwCl (wR G ad SL) H_4 → va_D A (wR G ad SL) → va_S A s.heap H_4 locs_5 → lv_has ls 5 [(2, .int (en)), (1, .int ((nI n))), (0, .ref (ad 0))] → W p l e ({ frames := 8, cells := 0, slots := 0, locals := 219 } : Room) s m args below meth c₀ H_4 locs_5 0 0 Q (F0 m 31 ls []) := by
      intro fu
      induction fu with
      | zero =>
        intro n en SL H_4 locs_5 ls hKI hKx hP hD hS hl
        exact absurd hKI.2.2.2.1 (by omega)
      | succ fu ih =>
        intro n en SL H_4 locs_5 ls hKI hKx hP hD hS hl
        obtain ⟨hC, hn10, hen, -, u, hu, hp2, hb2⟩ := id hKI
        refine lv_aload_n hx hb (fk_get fk_cX12_counter_0 19 rfl) rfl (lv_at hl 2 rfl) ?_
        refine va_get (D := G.1) (ci := 14) (v := .int ((fF SL 0 26))) (C := RX12) (T := TX12) (N := 49) hx hb hT inX12 hown hK hP 0 (ix_at (by decide) (cR_0 G ad SL)) rfl 26 (by decide) (hT _ m5_127) (fun _ h9 => h9) rfl (fk_get fk_cX12_counter_0 20 rfl) ?_
        refine lv_if_ne (tgt := 113) hx hb (fk_get fk_cX12_counter_0 21 rfl) (by decide) (fun c_6 => ?_) (fun c_6 => ?_)
        · refine lv_aload_n hx hb (fk_get fk_cX12_counter_1 28 rfl) rfl (lv_at hl 2 rfl) ?_
          refine va_get (D := G.1) (ci := 14) (v := .int ((fF SL 0 17))) (C := RX12) (T := TX12) (N := 49) hx hb hT inX12 hown hK hP 0 (ix_at (by decide) (cR_0 G ad SL)) rfl 17 (by decide) (hT _ m5_118) (fun _ h9 => h9) rfl (fk_get fk_cX12_counter_1 29 rfl) ?_
          refine lv_istore_n (lv' := [(3, .int ((fF SL 0 17))), (2, .int (en)), (1, .int ((nI n))), (0, .ref (ad 0))]) hx hb (fk_get fk_cX12_counter_1 30 rfl) rfl hl (by decide) rfl (fun ls hl => ?_)
          refine lv_aload_n hx hb (fk_get fk_cX12_counter_1 31 rfl) rfl (lv_at hl 3 rfl) ?_
          refine lv_iconst (v := 0) hx hb (fk_get fk_cX12_counter_2 0 rfl) (by decide) ?_
          refine va_put (D := G.1) (ci := 14) (v := .int (0)) (ty := .int) (C := RX12) (T := TX12) (N := 49) hx hb hT inX12 tyX12 tyX12_ok nmX12 hown hK hP hD hS 0 (ix_at (by decide) (cR_0 G ad SL)) rfl 17 (by decide) (hT _ m5_118) (fun _ h9 => h9) rfl (by decide +kernel) rfl rfl (Nat.le_of_ble_eq_true rfl) (fk_get fk_cX12_counter_2 1 rfl) (fun H locs hP hD hS => ?_)
          rw [pR_size G ad SL (0)] at hP hD
          refine lv_aload_n hx hb (fk_get fk_cX12_counter_2 2 rfl) rfl (lv_at hl 3 rfl) ?_
          refine va_get (D := G.1) (ci := 14) (v := .int ((fF SL 0 26))) (C := RX12) (T := TX12) (N := 49) hx hb hT inX12 hown hK hP 0 (ix_at (by decide) (cR_0 G ad (setF SL 0 17 (0)))) rfl 26 (by decide) (hT _ m5_127) (fun _ h9 => h9) rfl (fk_get fk_cX12_counter_2 3 rfl) ?_
          refine lv_if_eq (tgt := 138) hx hb (fk_get fk_cX12_counter_2 4 rfl) (by decide) (fun c_7 => absurd c_7 (by first | assumption | exact Int32.not_lt.mp (by assumption) | exact Int32.not_le.mp (by assumption) | exact Int32.not_lt.mpr (by assumption) | exact Int32.not_le.mpr (by assumption) )) (fun _ => ?_)
          have hb9 : ¬ fF SL 0 26 = 0 := (by assumption)
          refine lv_bipush (v := (-10)) hx hb (fk_get fk_cX12_counter_2 5 rfl) (by decide) ?_
          refine lv_aload_n hx hb (fk_get fk_cX12_counter_2 6 rfl) rfl (lv_at hl 3 rfl) ?_
          refine va_get (D := G.1) (ci := 14) (v := .int ((fF SL 0 25))) (C := RX12) (T := TX12) (N := 49) hx hb hT inX12 hown hK hP 0 (ix_at (by decide) (cR_0 G ad (setF SL 0 17 (0)))) rfl 25 (by decide) (hT _ m5_126) (fun _ h9 => h9) rfl (fk_get fk_cX12_counter_2 7 rfl) ?_
          refine lv_isub hx hb (fk_get fk_cX12_counter_2 8 rfl) ?_
          subst hQ
          have hpost : CNT nc S (setF SL 0 17 (0)) ∧ CNx (hrS (fA S 6) z) z nc (((-10) - (fF SL 0 25)) : Int32) S (setF SL 0 17 (0)) ∧ CNE (hrS (fA S 6) z) z nc S (setF SL 0 17 (0)) := by
            refine ⟨?_, ?_, ?_⟩
            · first | exact CNT_full hnc | exact CNT_bad rfl hC hnc | exact CNT_ok rfl hC hnc5 hn10 hz hz1 hCL hSM rfl
            · first
              | exact Or.inl ⟨hnc6e, rfl, rfl⟩
              | exact Or.inr ⟨hnc5, rfl, Or.inl ⟨(KX_out hKx.X hb9).1, by rw [(KX_out hKx.X hb9).2], hC.f20 hnc⟩⟩
              | (obtain ⟨C, eC⟩ := KX_ok hKx.X hb9 hen9
                 exact Or.inr ⟨hnc5, (by rw [hSM]; rfl), Or.inr ⟨C, eC, rfl, rfl, rfl⟩⟩)
              | exact absurd hb9 (by assumption)
            · first
              | exact CNE_full hnc6e
              | exact CNE_bad rfl hC (KX_out hKx.X hb9).1
              | exact CNE_ok rfl hC hnc5 hn10 hz hz1 hKx hb9 hen9 hSM rfl
              | exact absurd hb9 (by assumption)
          exact W.iret (v := ((-10) - (fF SL 0 25))) hx hb hr (fun t_ ht_ hW_ => ⟨⟨((-10) - (fF SL 0 25)), (setF SL 0 17 (0)), rfl, hpost, by rw [ht_]; exact hP, va_K.moved hW_.alike hK, hD⟩, hS.F ht_⟩) hS.2.2 (fk_get fk_cX12_counter_2 9 rfl)
        have hb0 := c_6
        refine lv_iload_n hx hb (fk_get fk_cX12_counter_0 22 rfl) rfl (lv_at hl 0 rfl) ?_
        refine lv_if_ne (tgt := 113) hx hb (fk_get fk_cX12_counter_0 23 rfl) (by decide) (fun c_8 => ?_) (fun c_8 => ?_)
        · have hen9 : ¬ en = 0 := c_8
          refine lv_aload_n hx hb (fk_get fk_cX12_counter_1 28 rfl) rfl (lv_at hl 2 rfl) ?_
          refine va_get (D := G.1) (ci := 14) (v := .int ((fF SL 0 17))) (C := RX12) (T := TX12) (N := 49) hx hb hT inX12 hown hK hP 0 (ix_at (by decide) (cR_0 G ad SL)) rfl 17 (by decide) (hT _ m5_118) (fun _ h9 => h9) rfl (fk_get fk_cX12_counter_1 29 rfl) ?_
          refine lv_istore_n (lv' := [(3, .int ((fF SL 0 17))), (2, .int (en)), (1, .int ((nI n))), (0, .ref (ad 0))]) hx hb (fk_get fk_cX12_counter_1 30 rfl) rfl hl (by decide) rfl (fun ls hl => ?_)
          refine lv_aload_n hx hb (fk_get fk_cX12_counter_1 31 rfl) rfl (lv_at hl 3 rfl) ?_
          refine lv_iconst (v := 0) hx hb (fk_get fk_cX12_counter_2 0 rfl) (by decide) ?_
          refine va_put (D := G.1) (ci := 14) (v := .int (0)) (ty := .int) (C := RX12) (T := TX12) (N := 49) hx hb hT inX12 tyX12 tyX12_ok nmX12 hown hK hP hD hS 0 (ix_at (by decide) (cR_0 G ad SL)) rfl 17 (by decide) (hT _ m5_118) (fun _ h9 => h9) rfl (by decide +kernel) rfl rfl (Nat.le_of_ble_eq_true rfl) (fk_get fk_cX12_counter_2 1 rfl) (fun H locs hP hD hS => ?_)
          rw [pR_size G ad SL (0)] at hP hD
          refine lv_aload_n hx hb (fk_get fk_cX12_counter_2 2 rfl) rfl (lv_at hl 3 rfl) ?_
          refine va_get (D := G.1) (ci := 14) (v := .int ((fF SL 0 26))) (C := RX12) (T := TX12) (N := 49) hx hb hT inX12 hown hK hP 0 (ix_at (by decide) (cR_0 G ad (setF SL 0 17 (0)))) rfl 26 (by decide) (hT _ m5_127) (fun _ h9 => h9) rfl (fk_get fk_cX12_counter_2 3 rfl) ?_
          refine lv_if_eq (tgt := 138) hx hb (fk_get fk_cX12_counter_2 4 rfl) (by decide) (fun _ => ?_) (fun c_9 => absurd (by first | assumption | exact Int32.not_lt.mp (by assumption) | exact Int32.not_le.mp (by assumption) | exact Int32.not_lt.mpr (by assumption) | exact Int32.not_le.mpr (by assumption) ) c_9)
          have hCL := (bad0 hb2 (by assumption)).1
          have hb9 : fF SL 0 26 = 0 := (by assumption)
          refine lv_iconst (v := 0) hx hb (fk_get fk_cX12_counter_2 10 rfl) (by decide) ?_
          refine lv_istore (lv' := [(4, .int (0)), (3, .int ((fF SL 0 17))), (2, .int (en)), (1, .int ((nI n))), (0, .ref (ad 0))]) hx hb (fk_get fk_cX12_counter_2 11 rfl) hl (by decide) rfl (fun ls hl => ?_)
          have lp_10 : ∀ (fu : Nat) (k : Nat) (SM : FS) (H_12 : Heap) (locs_13 : List Loc) (ls : Array Slot),  (k ≤ z) → (z < k + fu) → (SM = setA (setF SL 0 17 0) 7 (cpt (fA SL 7) (fA S 6) (100 * nc) k)) → va_P G.1 vwCl (wR G ad SM) H_12 → va_D A (wR G ad SM) → va_S A s.heap H_12 locs_13 → lv_has ls 5 [(4, .int ((nI k))), (3, .int ((fF SL 0 17))), (2, .int (en)), (1, .int ((nI n))), (0, .ref (ad 0))] → W p l e ({ frames := 8, cells := 0, slots := 0, locals := 219 } : Room) s m args below meth c₀ H_12 locs_13 0 0 Q (F0 m 141 ls []) := by
            intro fu
            induction fu with
            | zero =>
              intro k SM H_12 locs_13 ls hk hf hSM hP hD hS hl
              exact absurd hf (by omega)
            | succ fu ih =>
              intro k SM H_12 locs_13 ls hk hf hSM hP hD hS hl
              refine lv_iload hx hb (fk_get fk_cX12_counter_2 12 rfl) (lv_at hl 0 rfl) ?_
              refine lv_iload_n hx hb (fk_get fk_cX12_counter_2 13 rfl) rfl (lv_at hl 1 rfl) ?_
              refine lv_icmp_ge (tgt := 175) hx hb (fk_get fk_cX12_counter_2 14 rfl) (by decide) (fun c_14 => ?_) (fun c_14 => ?_)
              · have hge : z ≤ k := (nI_leI (a := z) (b := k) (by omega) (by omega)).mp (by rw [← hC.f17 hz]; exact c_14)
                obtain rfl : z = k := by omega
                refine lv_aload_n hx hb (fk_get fk_cX12_counter_2 30 rfl) rfl (lv_at hl 4 rfl) ?_
                refine va_get (D := G.1) (ci := 14) (v := .ref (ad 8)) (C := RX12) (T := TX12) (N := 49) hx hb hT inX12 hown hK hP 0 (ix_at (by decide) (cR_0 G ad SM)) rfl 19 (by decide) (hT _ m5_120) (fun _ h9 => h9) rfl (fk_get fk_cX12_counter_2 31 rfl) ?_
                refine lv_aload_n hx hb (fk_get fk_cX12_counter_3 0 rfl) rfl (lv_at hl 4 rfl) ?_
                refine va_get (D := G.1) (ci := 14) (v := .int ((fF SM 0 20))) (C := RX12) (T := TX12) (N := 49) hx hb hT inX12 hown hK hP 0 (ix_at (by decide) (cR_0 G ad SM)) rfl 20 (by decide) (hT _ m5_121) (fun _ h9 => h9) rfl (fk_get fk_cX12_counter_3 1 rfl) ?_
                refine lv_iload_n hx hb (fk_get fk_cX12_counter_3 2 rfl) rfl (lv_at hl 1 rfl) ?_
                refine r_iast hx hb hK hP hD hS 8 0 (ix_at (by decide) (cR_sizes G ad SM)) rfl (nc) ((show fF SM 0 20 = nI nc by rw [hSM]; exact hC.f20 hnc)) (by omega) (by decide) (fk_get fk_cX12_counter_3 3 rfl) (fun H locs hP hD hS => ?_)
                rw [pR_A G ad SM (by decide) (by decide) (by decide) (cR_sizes G ad SM) (upd (fA SM 8) (nc) ((fF SL 0 17)))] at hP hD
                refine lv_aload_n hx hb (fk_get fk_cX12_counter_3 4 rfl) rfl (lv_at hl 4 rfl) ?_
                refine va_get (D := G.1) (ci := 14) (v := .ref (ad 12)) (C := RX12) (T := TX12) (N := 49) hx hb hT inX12 hown hK hP 0 (ix_at (by decide) (cR_0 G ad (setA SM 8 (upd (fA SM 8) (nc) ((fF SL 0 17)))))) rfl 24 (by decide) (hT _ m5_125) (fun _ h9 => h9) rfl (fk_get fk_cX12_counter_3 5 rfl) ?_
                refine lv_aload_n hx hb (fk_get fk_cX12_counter_3 6 rfl) rfl (lv_at hl 4 rfl) ?_
                refine va_get (D := G.1) (ci := 14) (v := .int ((fF SM 0 20))) (C := RX12) (T := TX12) (N := 49) hx hb hT inX12 hown hK hP 0 (ix_at (by decide) (cR_0 G ad (setA SM 8 (upd (fA SM 8) (nc) ((fF SL 0 17)))))) rfl 20 (by decide) (hT _ m5_121) (fun _ h9 => h9) rfl (fk_get fk_cX12_counter_3 7 rfl) ?_
                refine lv_iload_n hx hb (fk_get fk_cX12_counter_3 8 rfl) rfl (lv_at hl 3 rfl) ?_
                refine r_iast hx hb hK hP hD hS 12 0 (ix_at (by decide) (cR_clauses G ad (setA SM 8 (upd (fA SM 8) (nc) ((fF SL 0 17)))))) rfl (nc) ((show fF SM 0 20 = nI nc by rw [hSM]; exact hC.f20 hnc)) (by omega) (by decide) (fk_get fk_cX12_counter_3 9 rfl) (fun H locs hP hD hS => ?_)
                rw [pR_A G ad (setA SM 8 (upd (fA SM 8) (nc) ((fF SL 0 17)))) (by decide) (by decide) (by decide) (cR_clauses G ad (setA SM 8 (upd (fA SM 8) (nc) ((fF SL 0 17))))) (upd (fA (setA SM 8 (upd (fA SM 8) (nc) ((fF SL 0 17)))) 12) (nc) ((nI n)))] at hP hD
                refine lv_aload_n hx hb (fk_get fk_cX12_counter_3 10 rfl) rfl (lv_at hl 4 rfl) ?_
                refine lv_aload_n hx hb (fk_get fk_cX12_counter_3 11 rfl) rfl (lv_at hl 4 rfl) ?_
                refine va_get (D := G.1) (ci := 14) (v := .int ((fF SM 0 20))) (C := RX12) (T := TX12) (N := 49) hx hb hT inX12 hown hK hP 0 (ix_at (by decide) (cR_0 G ad (setA (setA SM 8 (upd (fA SM 8) (nc) ((fF SL 0 17)))) 12 (upd (fA (setA SM 8 (upd (fA SM 8) (nc) ((fF SL 0 17)))) 12) (nc) ((nI n)))))) rfl 20 (by decide) (hT _ m5_121) (fun _ h9 => h9) rfl (fk_get fk_cX12_counter_3 12 rfl) ?_
                rw [show (fF SM 0 20) = (nI nc) from (by rw [hSM]; exact hC.f20 hnc)]
                refine va_put (D := G.1) (ci := 14) (v := .int ((nI nc))) (ty := .int) (C := RX12) (T := TX12) (N := 49) hx hb hT inX12 tyX12 tyX12_ok nmX12 hown hK hP hD hS 0 (ix_at (by decide) (cR_0 G ad (setA (setA SM 8 (upd (fA SM 8) (nc) ((fF SL 0 17)))) 12 (upd (fA (setA SM 8 (upd (fA SM 8) (nc) ((fF SL 0 17)))) 12) (nc) ((nI n)))))) rfl 3 (by decide) (hT _ m5_104) (fun _ h9 => h9) rfl (by decide +kernel) rfl rfl (Nat.le_of_ble_eq_true rfl) (fk_get fk_cX12_counter_3 13 rfl) (fun H locs hP hD hS => ?_)
                rw [pR_holding G ad (setA (setA SM 8 (upd (fA SM 8) (nc) ((fF SL 0 17)))) 12 (upd (fA (setA SM 8 (upd (fA SM 8) (nc) ((fF SL 0 17)))) 12) (nc) ((nI n)))) ((nI nc))] at hP hD
                refine lv_aload_n hx hb (fk_get fk_cX12_counter_3 14 rfl) rfl (lv_at hl 4 rfl) ?_
                refine lv_dup hx hb (fk_get fk_cX12_counter_3 15 rfl) rfl ?_
                refine va_get (D := G.1) (ci := 14) (v := .int ((fF SM 0 20))) (C := RX12) (T := TX12) (N := 49) hx hb hT inX12 hown hK hP 0 (ix_at (by decide) (cR_0 G ad (setF (setA (setA SM 8 (upd (fA SM 8) (nc) ((fF SL 0 17)))) 12 (upd (fA (setA SM 8 (upd (fA SM 8) (nc) ((fF SL 0 17)))) 12) (nc) ((nI n)))) 0 3 ((nI nc))))) rfl 20 (by decide) (hT _ m5_121) (fun _ h9 => h9) rfl (fk_get fk_cX12_counter_3 16 rfl) ?_
                refine lv_iconst (v := 1) hx hb (fk_get fk_cX12_counter_3 17 rfl) (by decide) ?_
                refine lv_iadd hx hb (fk_get fk_cX12_counter_3 18 rfl) ?_
                rw [show ((fF SM 0 20) + 1) = (nI (nc + 1)) from (by rw [show fF SM 0 20 = nI nc by rw [hSM]; exact hC.f20 hnc]; exact nI_1 nc)]
                refine va_put (D := G.1) (ci := 14) (v := .int ((nI (nc + 1)))) (ty := .int) (C := RX12) (T := TX12) (N := 49) hx hb hT inX12 tyX12 tyX12_ok nmX12 hown hK hP hD hS 0 (ix_at (by decide) (cR_0 G ad (setF (setA (setA SM 8 (upd (fA SM 8) (nc) ((fF SL 0 17)))) 12 (upd (fA (setA SM 8 (upd (fA SM 8) (nc) ((fF SL 0 17)))) 12) (nc) ((nI n)))) 0 3 ((nI nc))))) rfl 20 (by decide) (hT _ m5_121) (fun _ h9 => h9) rfl (by decide +kernel) rfl rfl (Nat.le_of_ble_eq_true rfl) (fk_get fk_cX12_counter_3 19 rfl) (fun H locs hP hD hS => ?_)
                rw [pR_counters G ad (setF (setA (setA SM 8 (upd (fA SM 8) (nc) ((fF SL 0 17)))) 12 (upd (fA (setA SM 8 (upd (fA SM 8) (nc) ((fF SL 0 17)))) 12) (nc) ((nI n)))) 0 3 ((nI nc))) ((nI (nc + 1)))] at hP hD
                refine lv_aload_n hx hb (fk_get fk_cX12_counter_3 20 rfl) rfl (lv_at hl 4 rfl) ?_
                refine va_get (D := G.1) (ci := 14) (v := .int ((nI nc))) (C := RX12) (T := TX12) (N := 49) hx hb hT inX12 hown hK hP 0 (ix_at (by decide) (cR_0 G ad (setF (setF (setA (setA SM 8 (upd (fA SM 8) (nc) ((fF SL 0 17)))) 12 (upd (fA (setA SM 8 (upd (fA SM 8) (nc) ((fF SL 0 17)))) 12) (nc) ((nI n)))) 0 3 ((nI nc))) 0 20 ((nI (nc + 1)))))) rfl 3 (by decide) (hT _ m5_104) (fun _ h9 => h9) rfl (fk_get fk_cX12_counter_3 21 rfl) ?_
                subst hQ
                have hpost : CNT nc S (setF (setF (setA (setA SM 8 (upd (fA SM 8) (nc) ((fF SL 0 17)))) 12 (upd (fA (setA SM 8 (upd (fA SM 8) (nc) ((fF SL 0 17)))) 12) (nc) ((nI n)))) 0 3 ((nI nc))) 0 20 ((nI (nc + 1)))) ∧ CNx (hrS (fA S 6) z) z nc ((nI nc) : Int32) S (setF (setF (setA (setA SM 8 (upd (fA SM 8) (nc) ((fF SL 0 17)))) 12 (upd (fA (setA SM 8 (upd (fA SM 8) (nc) ((fF SL 0 17)))) 12) (nc) ((nI n)))) 0 3 ((nI nc))) 0 20 ((nI (nc + 1)))) ∧ CNE (hrS (fA S 6) z) z nc S (setF (setF (setA (setA SM 8 (upd (fA SM 8) (nc) ((fF SL 0 17)))) 12 (upd (fA (setA SM 8 (upd (fA SM 8) (nc) ((fF SL 0 17)))) 12) (nc) ((nI n)))) 0 3 ((nI nc))) 0 20 ((nI (nc + 1)))) := by
                  refine ⟨?_, ?_, ?_⟩
                  · first | exact CNT_full hnc | exact CNT_bad rfl hC hnc | exact CNT_ok rfl hC hnc5 hn10 hz hz1 hCL hSM rfl
                  · first
                    | exact Or.inl ⟨hnc6e, rfl, rfl⟩
                    | exact Or.inr ⟨hnc5, rfl, Or.inl ⟨(KX_out hKx.X hb9).1, by rw [(KX_out hKx.X hb9).2], hC.f20 hnc⟩⟩
                    | (obtain ⟨C, eC⟩ := KX_ok hKx.X hb9 hen9
                       exact Or.inr ⟨hnc5, (by rw [hSM]; rfl), Or.inr ⟨C, eC, rfl, rfl, rfl⟩⟩)
                    | exact absurd hb9 (by assumption)
                  · first
                    | exact CNE_full hnc6e
                    | exact CNE_bad rfl hC (KX_out hKx.X hb9).1
                    | exact CNE_ok rfl hC hnc5 hn10 hz hz1 hKx hb9 hen9 hSM rfl
                    | exact absurd hb9 (by assumption)
                exact W.iret (v := (nI nc)) hx hb hr (fun t_ ht_ hW_ => ⟨⟨(nI nc), (setF (setF (setA (setA SM 8 (upd (fA SM 8) (nc) ((fF SL 0 17)))) 12 (upd (fA (setA SM 8 (upd (fA SM 8) (nc) ((fF SL 0 17)))) 12) (nc) ((nI n)))) 0 3 ((nI nc))) 0 20 ((nI (nc + 1)))), rfl, hpost, by rw [ht_]; exact hP, va_K.moved hW_.alike hK, hD⟩, hS.F ht_⟩) hS.2.2 (fk_get fk_cX12_counter_3 22 rfl)
              have hlt : k < z := Nat.lt_of_not_le (fun q => c_14 (by rw [hC.f17 hz]; exact (nI_leI (a := z) (b := k) (by omega) (by omega)).mpr q))
              refine lv_aload_n hx hb (fk_get fk_cX12_counter_2 15 rfl) rfl (lv_at hl 4 rfl) ?_
              refine va_get (D := G.1) (ci := 14) (v := .ref (ad 7)) (C := RX12) (T := TX12) (N := 49) hx hb hT inX12 hown hK hP 0 (ix_at (by decide) (cR_0 G ad SM)) rfl 18 (by decide) (hT _ m5_119) (fun _ h9 => h9) rfl (fk_get fk_cX12_counter_2 16 rfl) ?_
              refine lv_bipush (v := 100) hx hb (fk_get fk_cX12_counter_2 17 rfl) (by decide) ?_
              refine lv_aload_n hx hb (fk_get fk_cX12_counter_2 18 rfl) rfl (lv_at hl 4 rfl) ?_
              refine va_get (D := G.1) (ci := 14) (v := .int ((fF SM 0 20))) (C := RX12) (T := TX12) (N := 49) hx hb hT inX12 hown hK hP 0 (ix_at (by decide) (cR_0 G ad SM)) rfl 20 (by decide) (hT _ m5_121) (fun _ h9 => h9) rfl (fk_get fk_cX12_counter_2 19 rfl) ?_
              refine lv_imul hx hb (fk_get fk_cX12_counter_2 20 rfl) ?_
              refine lv_iload hx hb (fk_get fk_cX12_counter_2 21 rfl) (lv_at hl 0 rfl) ?_
              refine lv_iadd hx hb (fk_get fk_cX12_counter_2 22 rfl) ?_
              refine lv_aload_n hx hb (fk_get fk_cX12_counter_2 23 rfl) rfl (lv_at hl 4 rfl) ?_
              refine va_get (D := G.1) (ci := 14) (v := .ref (ad 6)) (C := RX12) (T := TX12) (N := 49) hx hb hT inX12 hown hK hP 0 (ix_at (by decide) (cR_0 G ad SM)) rfl 16 (by decide) (hT _ m5_117) (fun _ h9 => h9) rfl (fk_get fk_cX12_counter_2 24 rfl) ?_
              refine lv_iload hx hb (fk_get fk_cX12_counter_2 25 rfl) (lv_at hl 0 rfl) ?_
              refine r_iald (f := fA SM 6) hx hb hK hP 6 0 (ix_at (by decide) (cR_text G ad SM)) rfl (k) (rfl) (by omega) (by decide) (fk_get fk_cX12_counter_2 26 rfl) ?_
              rw [show (fA SM 6 (k)) = (fA S 6 k) from (by rw [hSM]; exact congrFun hC.a6 k)]
              refine r_iast hx hb hK hP hD hS 7 0 (ix_at (by decide) (cR_texts G ad SM)) rfl (((100 * nc) + k)) (n_add (n_mul (rfl) ((show fF SM 0 20 = nI nc by rw [hSM]; exact hC.f20 hnc))) (rfl)) (by omega) (by decide) (fk_get fk_cX12_counter_2 27 rfl) (fun H locs hP hD hS => ?_)
              rw [pR_A G ad SM (by decide) (by decide) (by decide) (cR_texts G ad SM) (upd (fA SM 7) (((100 * nc) + k)) ((fA S 6 k)))] at hP hD
              refine lv_iinc (v := (nI (k + 1))) (lv' := [(4, .int ((nI (k + 1)))), (3, .int ((fF SL 0 17))), (2, .int (en)), (1, .int ((nI n))), (0, .ref (ad 0))]) hx hb (fk_get fk_cX12_counter_2 28 rfl) hl (k := 0) rfl ((nI_1 k)) (by decide) rfl (fun ls hl => ?_)
              refine lv_goto (tgt := 141) hx hb (fk_get fk_cX12_counter_2 29 rfl) (by decide) ?_
              exact ih (k + 1) (setA SM 7 (upd (fA SM 7) (((100 * nc) + k)) ((fA S 6 k)))) _ _ ls (by omega) (by omega) (by rw [hSM]; exact cpt_step _ _ _ _ k) hP hD hS (lv_sub hl [0, 1, 2, 3, 4] rfl)
          exact lp_10 (z + 1) (0) (setF SL 0 17 (0)) _ _ ls (by omega) (by omega) (cpt_0 _ _ _) hP hD hS (lv_sub hl [0, 1, 2, 3, 4] rfl)
        obtain ⟨hCL, hn9, h11⟩ : CLs SL (fA (setF S 0 8 0) 6) z nc n ∧ n < 10 ∧ 11 < n + (fu + 1) := by
          have q := bad0 hb2 hb0
          exact ⟨q.1, (q.2 c_8).1, (q.2 c_8).2⟩
        obtain ⟨C, hCn, hCc, hCG⟩ := KC_run hKx hb0 c_8 hp2 hu hz1
        refine lv_aload_n hx hb (fk_get fk_cX12_counter_0 24 rfl) rfl (lv_at hl 2 rfl) ?_
        refine lv_bipush (v := 10) hx hb (fk_get fk_cX12_counter_0 25 rfl) (by decide) ?_
        refine lv_aload_n hx hb (fk_get fk_cX12_counter_0 26 rfl) rfl (lv_at hl 2 rfl) ?_
        refine va_get (D := G.1) (ci := 14) (v := .int ((fF SL 0 20))) (C := RX12) (T := TX12) (N := 49) hx hb hT inX12 hown hK hP 0 (ix_at (by decide) (cR_0 G ad SL)) rfl 20 (by decide) (hT _ m5_121) (fun _ h9 => h9) rfl (fk_get fk_cX12_counter_0 27 rfl) ?_
        refine lv_imul hx hb (fk_get fk_cX12_counter_0 28 rfl) ?_
        refine lv_iload_n hx hb (fk_get fk_cX12_counter_0 29 rfl) rfl (lv_at hl 1 rfl) ?_
        refine lv_iadd hx hb (fk_get fk_cX12_counter_0 30 rfl) ?_
        have hFc := va_self hD hS hA
        refine va_callv (va_runV (As := [.int (((10 * (fF SL 0 20)) + (nI n)))]) (rest := []) ⟨hx, hb, hml, hown, hT⟩ (c_readClauseE l G ad SL H_4.size (z) (u) (10 * nc + n) (((10 * (fF SL 0 20)) + (nI n))) (hC.f17 hz) (hz1) (hp2) (hu) (hb0) (n_add (n_mul rfl (hC.f20 hnc)) rfl) (by omega)) (tV 1 hT m6_38 m6_40 mp_20 m1_17 m6_41 rfl rfl (by decide +kernel) ⟨Nat.le_of_ble_eq_true rfl, Nat.le_of_ble_eq_true rfl⟩) ⟨PcW_blind, va_recv hK hP (ci := 14) (q0 := 0) rfl (ix_at (by decide) (cR_0 G ad SL)), PcW_of hP hK hD _⟩ rfl rfl hl.1 rfl (lv_room (Nat.le_of_ble_eq_true rfl)) (fk_get fk_cX12_counter_0 31 rfl) ⟨Nat.zero_le _, Nat.zero_le _⟩) hS (fun q _ h => hFc q h) hFc (fun S_17 t_ H locs ht_ hvm_ hw_16 hB_ hz_ hk_ hS => ?_)
        obtain ⟨hP, -, hD1_⟩ := hB_
        rw [ht_] at hP
        have hD : va_D A (wR G ad S_17) := hD1_.weaken (fun k q _ h => hFc q.1 h)
        try dsimp only at hw_16
        obtain ⟨hR, hRx0⟩ := hw_16
        have hCF := hR.1
        obtain ⟨hC2, u2, hu2, hq2, hb3⟩ := KI_step hKI hR hn9
        have hRx : RcX (clP uA (hrS (fA S 6) z) u) z (10 * nc + n) S_17 := by
          have q_ := hRx0
          rw [hC.a6] at q_
          exact q_
        refine lv_iinc (v := (nI (n + 1))) (lv' := [(1, .int ((nI (n + 1)))), (2, .int (en)), (0, .ref (ad 0))]) hx hb (fk_get fk_cX12_counter_1 0 rfl) hl (k := 1) rfl ((nI_1 n)) (by decide) rfl (fun ls hl => ?_)
        refine lv_aload_n hx hb (fk_get fk_cX12_counter_1 1 rfl) rfl (lv_at hl 2 rfl) ?_
        refine va_get (D := G.1) (ci := 14) (v := .int ((fF S_17 0 26))) (C := RX12) (T := TX12) (N := 49) hx hb hT inX12 hown hK hP 0 (ix_at (by decide) (cR_0 G ad S_17)) rfl 26 (by decide) (hT _ m5_127) (fun _ h9 => h9) rfl (fk_get fk_cX12_counter_1 2 rfl) ?_
        refine lv_if_ne (tgt := 80) hx hb (fk_get fk_cX12_counter_1 3 rfl) (by decide) (fun c_18 => ?_) (fun c_18 => ?_)
        · refine lv_iconst (v := 0) hx hb (fk_get fk_cX12_counter_1 11 rfl) (by decide) ?_
          refine lv_istore_n (lv' := [(2, .int (0)), (1, .int ((nI (n + 1)))), (0, .ref (ad 0))]) hx hb (fk_get fk_cX12_counter_1 12 rfl) rfl hl (by decide) rfl (fun ls hl => ?_)
          refine lv_iload_n hx hb (fk_get fk_cX12_counter_1 13 rfl) rfl (lv_at hl 0 rfl) ?_
          refine lv_if_ne (tgt := 100) hx hb (fk_get fk_cX12_counter_1 14 rfl) (by decide) (fun c_19 => absurd ((by decide)) c_19) (fun _ => ?_)
          refine lv_iload_n hx hb (fk_get fk_cX12_counter_1 15 rfl) rfl (lv_at hl 1 rfl) ?_
          refine lv_bipush (v := 10) hx hb (fk_get fk_cX12_counter_1 16 rfl) (by decide) ?_
          refine lv_icmp_ne (tgt := 100) hx hb (fk_get fk_cX12_counter_1 17 rfl) (by decide) (fun c_20 => ?_) (fun c_20 => ?_)
          · have hn10_ : n + 1 ≠ 10 := nI_ne c_20
            refine lv_iload_n hx hb (fk_get fk_cX12_counter_1 22 rfl) rfl (lv_at hl 0 rfl) ?_
            refine lv_if_ne (tgt := 31) hx hb (fk_get fk_cX12_counter_1 23 rfl) (by decide) (fun c_21 => absurd ((by decide)) c_21) (fun _ => ?_)
            refine lv_aload_n hx hb (fk_get fk_cX12_counter_1 24 rfl) rfl (lv_at hl 2 rfl) ?_
            refine lv_bipush (v := 59) hx hb (fk_get fk_cX12_counter_1 25 rfl) (by decide) ?_
            have hFc := va_self hD hS hA
            refine va_callv (va_runV (As := [.int (59)]) (rest := []) ⟨hx, hb, hml, hown, hT⟩ (c_take l G ad S_17 H.size (z) (u2) (59) (hC2.f17 hz) (hz1) (hq2) (by omega)) (tV 1 hT m6_57 m6_59 mp_24 m1_17 m6_60 rfl rfl (by decide +kernel) ⟨Nat.le_of_ble_eq_true rfl, Nat.le_of_ble_eq_true rfl⟩) ⟨PcW_blind, va_recv hK hP (ci := 14) (q0 := 0) rfl (ix_at (by decide) (cR_0 G ad S_17)), PcW_of hP hK hD _⟩ rfl rfl hl.1 rfl (lv_room (Nat.le_of_ble_eq_true rfl)) (fk_get fk_cX12_counter_1 26 rfl) ⟨Nat.zero_le _, Nat.zero_le _⟩) hS (fun q _ h => hFc q h) hFc (fun S_24 t_ H locs ht_ hvm_ hw_23 hB_ hz_ hk_ hS => ?_)
            obtain ⟨hP, -, hD1_⟩ := hB_
            rw [ht_] at hP
            have hD : va_D A (wR G ad S_24) := hD1_.weaken (fun k q _ h => hFc q.1 h)
            try dsimp only at hw_23
            have hTK := hw_23
            refine lv_goto (tgt := 31) hx hb (fk_get fk_cX12_counter_1 27 rfl) (by decide) ?_
            exact ih (n + 1) (0) (S_24) _ _ ls ((by first | exact KI_end hC2 hn9 (by omega) hu2 hq2 (by assumption) hb3 hzu | exact KI_bad hC2 hn9 (by omega) hu2 hq2 | exact KI_take hC2 hn10_ hn9 h11 hu2 hb3 hTK)) ((by first | exact KC_end hz1 hCG hCn hCc hCF hRx hq2 hu2 (by assumption) hzu | exact KC_bad hz1 hCG hCn hCc hCF hRx hq2 hu2 hn10e (by first | exact Or.inl (by assumption) | exact Or.inr hzn) | exact KC_take hz1 hCG hCn hCc hCF hRx hq2 hu2 hn9 hn10_ (by first | exact Or.inl (by assumption) | exact Or.inr hzn) (by rw [hC2.a6]; rfl) hTK)) hP hD hS (lv_sub hl [0, 1, 2] rfl)
          have hn10e : n + 1 = 10 := (nI_eq (by omega) (by decide)).mp (by first | exact c_20 | exact Decidable.not_not.mp c_20)
          refine lv_aload_n hx hb (fk_get fk_cX12_counter_1 18 rfl) rfl (lv_at hl 2 rfl) ?_
          refine lv_iconst (v := 1) hx hb (fk_get fk_cX12_counter_1 19 rfl) (by decide) ?_
          refine va_put (D := G.1) (ci := 14) (v := .int (1)) (ty := .boolean) (C := RX12) (T := TX12) (N := 49) hx hb hT inX12 tyX12 tyX12_ok nmX12 hown hK hP hD hS 0 (ix_at (by decide) (cR_0 G ad S_17)) rfl 26 (by decide) (hT _ m5_127) (fun _ h9 => h9) rfl (by decide +kernel) rfl rfl (Nat.le_of_ble_eq_true rfl) (fk_get fk_cX12_counter_1 20 rfl) (fun H locs hP hD hS => ?_)
          rw [pR_isBad G ad S_17 (1)] at hP hD
          refine lv_goto (tgt := 31) hx hb (fk_get fk_cX12_counter_1 21 rfl) (by decide) ?_
          exact ih (n + 1) (0) (setF S_17 0 26 (1)) _ _ ls ((by first | exact KI_end hC2 hn9 (by omega) hu2 hq2 (by assumption) hb3 hzu | exact KI_bad hC2 hn9 (by omega) hu2 hq2 | exact KI_take hC2 hn10_ hn9 h11 hu2 hb3 hTK)) ((by first | exact KC_end hz1 hCG hCn hCc hCF hRx hq2 hu2 (by assumption) hzu | exact KC_bad hz1 hCG hCn hCc hCF hRx hq2 hu2 hn10e (by first | exact Or.inl (by assumption) | exact Or.inr hzn) | exact KC_take hz1 hCG hCn hCc hCF hRx hq2 hu2 hn9 hn10_ (by first | exact Or.inl (by assumption) | exact Or.inr hzn) (by rw [hC2.a6]; rfl) hTK)) hP hD hS (lv_sub hl [0, 1, 2] rfl)
        refine lv_aload_n hx hb (fk_get fk_cX12_counter_1 4 rfl) rfl (lv_at hl 2 rfl) ?_
        refine va_get (D := G.1) (ci := 14) (v := .int ((fF S_17 0 25))) (C := RX12) (T := TX12) (N := 49) hx hb hT inX12 hown hK hP 0 (ix_at (by decide) (cR_0 G ad S_17)) rfl 25 (by decide) (hT _ m5_126) (fun _ h9 => h9) rfl (fk_get fk_cX12_counter_1 5 rfl) ?_
        refine lv_aload_n hx hb (fk_get fk_cX12_counter_1 6 rfl) rfl (lv_at hl 2 rfl) ?_
        refine va_get (D := G.1) (ci := 14) (v := .int ((fF S_17 0 17))) (C := RX12) (T := TX12) (N := 49) hx hb hT inX12 hown hK hP 0 (ix_at (by decide) (cR_0 G ad S_17)) rfl 17 (by decide) (hT _ m5_118) (fun _ h9 => h9) rfl (fk_get fk_cX12_counter_1 7 rfl) ?_
        refine lv_icmp_ne (tgt := 80) hx hb (fk_get fk_cX12_counter_1 8 rfl) (by decide) (fun c_25 => ?_) (fun c_25 => ?_)
        · have hzn : ¬ u2 = z := fun q => c_25 (hq2.trans ((congrArg nI q).trans (hC2.f17 hz).symm))
          refine lv_iconst (v := 0) hx hb (fk_get fk_cX12_counter_1 11 rfl) (by decide) ?_
          refine lv_istore_n (lv' := [(2, .int (0)), (1, .int ((nI (n + 1)))), (0, .ref (ad 0))]) hx hb (fk_get fk_cX12_counter_1 12 rfl) rfl hl (by decide) rfl (fun ls hl => ?_)
          refine lv_iload_n hx hb (fk_get fk_cX12_counter_1 13 rfl) rfl (lv_at hl 0 rfl) ?_
          refine lv_if_ne (tgt := 100) hx hb (fk_get fk_cX12_counter_1 14 rfl) (by decide) (fun c_26 => absurd ((by decide)) c_26) (fun _ => ?_)
          refine lv_iload_n hx hb (fk_get fk_cX12_counter_1 15 rfl) rfl (lv_at hl 1 rfl) ?_
          refine lv_bipush (v := 10) hx hb (fk_get fk_cX12_counter_1 16 rfl) (by decide) ?_
          refine lv_icmp_ne (tgt := 100) hx hb (fk_get fk_cX12_counter_1 17 rfl) (by decide) (fun c_27 => ?_) (fun c_27 => ?_)
          · have hn10_ : n + 1 ≠ 10 := nI_ne c_27
            refine lv_iload_n hx hb (fk_get fk_cX12_counter_1 22 rfl) rfl (lv_at hl 0 rfl) ?_
            refine lv_if_ne (tgt := 31) hx hb (fk_get fk_cX12_counter_1 23 rfl) (by decide) (fun c_28 => absurd ((by decide)) c_28) (fun _ => ?_)
            refine lv_aload_n hx hb (fk_get fk_cX12_counter_1 24 rfl) rfl (lv_at hl 2 rfl) ?_
            refine lv_bipush (v := 59) hx hb (fk_get fk_cX12_counter_1 25 rfl) (by decide) ?_
            have hFc := va_self hD hS hA
            refine va_callv (va_runV (As := [.int (59)]) (rest := []) ⟨hx, hb, hml, hown, hT⟩ (c_take l G ad S_17 H.size (z) (u2) (59) (hC2.f17 hz) (hz1) (hq2) (by omega)) (tV 1 hT m6_57 m6_59 mp_24 m1_17 m6_60 rfl rfl (by decide +kernel) ⟨Nat.le_of_ble_eq_true rfl, Nat.le_of_ble_eq_true rfl⟩) ⟨PcW_blind, va_recv hK hP (ci := 14) (q0 := 0) rfl (ix_at (by decide) (cR_0 G ad S_17)), PcW_of hP hK hD _⟩ rfl rfl hl.1 rfl (lv_room (Nat.le_of_ble_eq_true rfl)) (fk_get fk_cX12_counter_1 26 rfl) ⟨Nat.zero_le _, Nat.zero_le _⟩) hS (fun q _ h => hFc q h) hFc (fun S_31 t_ H locs ht_ hvm_ hw_30 hB_ hz_ hk_ hS => ?_)
            obtain ⟨hP, -, hD1_⟩ := hB_
            rw [ht_] at hP
            have hD : va_D A (wR G ad S_31) := hD1_.weaken (fun k q _ h => hFc q.1 h)
            try dsimp only at hw_30
            have hTK := hw_30
            refine lv_goto (tgt := 31) hx hb (fk_get fk_cX12_counter_1 27 rfl) (by decide) ?_
            exact ih (n + 1) (0) (S_31) _ _ ls ((by first | exact KI_end hC2 hn9 (by omega) hu2 hq2 (by assumption) hb3 hzu | exact KI_bad hC2 hn9 (by omega) hu2 hq2 | exact KI_take hC2 hn10_ hn9 h11 hu2 hb3 hTK)) ((by first | exact KC_end hz1 hCG hCn hCc hCF hRx hq2 hu2 (by assumption) hzu | exact KC_bad hz1 hCG hCn hCc hCF hRx hq2 hu2 hn10e (by first | exact Or.inl (by assumption) | exact Or.inr hzn) | exact KC_take hz1 hCG hCn hCc hCF hRx hq2 hu2 hn9 hn10_ (by first | exact Or.inl (by assumption) | exact Or.inr hzn) (by rw [hC2.a6]; rfl) hTK)) hP hD hS (lv_sub hl [0, 1, 2] rfl)
          have hn10e : n + 1 = 10 := (nI_eq (by omega) (by decide)).mp (by first | exact c_27 | exact Decidable.not_not.mp c_27)
          refine lv_aload_n hx hb (fk_get fk_cX12_counter_1 18 rfl) rfl (lv_at hl 2 rfl) ?_
          refine lv_iconst (v := 1) hx hb (fk_get fk_cX12_counter_1 19 rfl) (by decide) ?_
          refine va_put (D := G.1) (ci := 14) (v := .int (1)) (ty := .boolean) (C := RX12) (T := TX12) (N := 49) hx hb hT inX12 tyX12 tyX12_ok nmX12 hown hK hP hD hS 0 (ix_at (by decide) (cR_0 G ad S_17)) rfl 26 (by decide) (hT _ m5_127) (fun _ h9 => h9) rfl (by decide +kernel) rfl rfl (Nat.le_of_ble_eq_true rfl) (fk_get fk_cX12_counter_1 20 rfl) (fun H locs hP hD hS => ?_)
          rw [pR_isBad G ad S_17 (1)] at hP hD
          refine lv_goto (tgt := 31) hx hb (fk_get fk_cX12_counter_1 21 rfl) (by decide) ?_
          exact ih (n + 1) (0) (setF S_17 0 26 (1)) _ _ ls ((by first | exact KI_end hC2 hn9 (by omega) hu2 hq2 (by assumption) hb3 hzu | exact KI_bad hC2 hn9 (by omega) hu2 hq2 | exact KI_take hC2 hn10_ hn9 h11 hu2 hb3 hTK)) ((by first | exact KC_end hz1 hCG hCn hCc hCF hRx hq2 hu2 (by assumption) hzu | exact KC_bad hz1 hCG hCn hCc hCF hRx hq2 hu2 hn10e (by first | exact Or.inl (by assumption) | exact Or.inr hzn) | exact KC_take hz1 hCG hCn hCc hCF hRx hq2 hu2 hn9 hn10_ (by first | exact Or.inl (by assumption) | exact Or.inr hzn) (by rw [hC2.a6]; rfl) hTK)) hP hD hS (lv_sub hl [0, 1, 2] rfl)
        have hzu : u2 = z := (nI_eq (by omega) (by omega)).mp (hq2.symm.trans (c_25.trans (hC2.f17 hz)))
        refine lv_iconst (v := 1) hx hb (fk_get fk_cX12_counter_1 9 rfl) (by decide) ?_
        refine lv_goto (tgt := 81) hx hb (fk_get fk_cX12_counter_1 10 rfl) (by decide) ?_
        refine lv_istore_n (lv' := [(2, .int (1)), (1, .int ((nI (n + 1)))), (0, .ref (ad 0))]) hx hb (fk_get fk_cX12_counter_1 12 rfl) rfl hl (by decide) rfl (fun ls hl => ?_)
        refine lv_iload_n hx hb (fk_get fk_cX12_counter_1 13 rfl) rfl (lv_at hl 0 rfl) ?_
        refine lv_if_ne (tgt := 100) hx hb (fk_get fk_cX12_counter_1 14 rfl) (by decide) (fun _ => ?_) (fun c_32 => absurd c_32 ((by decide)))
        refine lv_iload_n hx hb (fk_get fk_cX12_counter_1 22 rfl) rfl (lv_at hl 0 rfl) ?_
        refine lv_if_ne (tgt := 31) hx hb (fk_get fk_cX12_counter_1 23 rfl) (by decide) (fun _ => ?_) (fun c_33 => absurd c_33 ((by decide)))
        exact ih (n + 1) (1) (S_17) _ _ ls ((by first | exact KI_end hC2 hn9 (by omega) hu2 hq2 (by assumption) hb3 hzu | exact KI_bad hC2 hn9 (by omega) hu2 hq2 | exact KI_take hC2 hn10_ hn9 h11 hu2 hb3 hTK)) ((by first | exact KC_end hz1 hCG hCn hCc hCF hRx hq2 hu2 (by assumption) hzu | exact KC_bad hz1 hCG hCn hCc hCF hRx hq2 hu2 hn10e (by first | exact Or.inl (by assumption) | exact Or.inr hzn) | exact KC_take hz1 hCG hCn hCc hCF hRx hq2 hu2 hn9 hn10_ (by first | exact Or.inl (by assumption) | exact Or.inr hzn) (by rw [hC2.a6]; rfl) hTK)) hP hD hS (lv_sub hl [0, 1, 2] rfl)
    exact lp_2 (12) (0) (0) (setF (setF (setF S 0 8 (0)) 0 25 (0)) 0 26 (0)) _ _ ls (⟨((PFr.rf _).setF (by decide) _ |>.setF (by decide) _).C _ _, by omega, Or.inl rfl, by omega, 0, by omega, rfl, Or.inr ⟨rfl, fun i hi => absurd hi (by omega), fun _ => ⟨by omega, by omega⟩⟩⟩) (KC_start rfl rfl) hP hD hS (lv_sub hl [0, 1, 2] rfl)
  have hnc6e : nc = 6 := (nI_eq (by omega) (by decide)).mp (hnc.symm.trans (by first | exact c_1 | exact Decidable.not_not.mp c_1))
  refine lv_bipush (v := (-4)) hx hb (fk_get fk_cX12_counter_0 7 rfl) (by decide) ?_
  subst hQ
  have hpost : CNT nc S (setF S 0 8 (0)) ∧ CNx (hrS (fA S 6) z) z nc ((-4) : Int32) S (setF S 0 8 (0)) ∧ CNE (hrS (fA S 6) z) z nc S (setF S 0 8 (0)) := by
    refine ⟨?_, ?_, ?_⟩
    · first | exact CNT_full hnc | exact CNT_bad rfl hC hnc | exact CNT_ok rfl hC hnc5 hn10 hz hz1 hCL hSM rfl
    · first
      | exact Or.inl ⟨hnc6e, rfl, rfl⟩
      | exact Or.inr ⟨hnc5, rfl, Or.inl ⟨(KX_out hKx.X hb9).1, by rw [(KX_out hKx.X hb9).2], hC.f20 hnc⟩⟩
      | (obtain ⟨C, eC⟩ := KX_ok hKx.X hb9 hen9
         exact Or.inr ⟨hnc5, (by rw [hSM]; rfl), Or.inr ⟨C, eC, rfl, rfl, rfl⟩⟩)
      | exact absurd hb9 (by assumption)
    · first
      | exact CNE_full hnc6e
      | exact CNE_bad rfl hC (KX_out hKx.X hb9).1
      | exact CNE_ok rfl hC hnc5 hn10 hz hz1 hKx hb9 hen9 hSM rfl
      | exact absurd hb9 (by assumption)
  exact W.iret (v := (-4)) hx hb hr (fun t_ ht_ hW_ => ⟨⟨(-4), (setF S 0 8 (0)), rfl, hpost, by rw [ht_]; exact hP, va_K.moved hW_.alike hK, hD⟩, hS.F ht_⟩) hS.2.2 (fk_get fk_cX12_counter_0 8 rfl)
