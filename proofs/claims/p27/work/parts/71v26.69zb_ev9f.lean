set_option maxHeartbeats 800000 in
set_option maxRecDepth 100000 in
theorem c_x11_ofX (l : Launch) (G : GG) (ad : Nat → Nat) (S : FS) (sz : Nat) (n pz : Nat) (K : Nat → Nat) (τ : Nat → Int32) (C : Cls) (x w_ : Int32) (hn : fF S (9 + 0) 3 = nI n) (hn6 : n ≤ 6) (hcf : CuF S 0 n pz τ C K) (hgc : ∀ d, d < n → GC 9999 (gX S (21 + 6 * 0 + d) (K d))) (h99 : N99 C) (hX : XI S) : Met l yX11_of (Cond.code yX11_of cX11_of 4 (some .int) :: TBL) ({ frames := 6, cells := 0, slots := 0, locals := 171 } : Room) (PcW G (wX G ad S) sz [.ref (ad 0), .int (x), .int (w_)]) (vp_Si (fun (r : Int32) => r = ofP (fF S (9 + 0) 6) τ C n (fun d => gX S (21 + 6 * 0 + d) (K d)) x w_)) 0 0 (fun _ => False) := by
  refine Met.ofW (cc := cX11_of) (maxL := 4) (ret := (some .int)) (by decide) rfl ?_
  intro p e s m args below meth c₀ s₁ B hml hv
  obtain ⟨rfl, hsz, hP, hK, hD0⟩ := hv
  have hx := B.exec
  have hb := B.bytes
  have hr := B.returns
  have hT : ∀ w ∈ TBL, w.before ([.ref (ad 0), .int (x), .int (w_)] : List Value).toArray s = true := fun w h => atoms_spec (ws := Cond.code yX11_of cX11_of 4 (some .int) :: TBL) B.pre w (List.mem_cons_of_mem _ h)
  have hown : s.vm.findClass "LittleMore" = some m.cls := findClass_of_methodNamed B.named
  have hlocks := B.notSynchronized
  have hD := hD0
  have hP : va_P G.1 vwCl (wX G ad S) s.heap := hP
  have hl := lv_entry ([.ref (ad 0), .int (x), .int (w_)]) (n := 4) (Nat.le_of_ble_eq_true rfl)
  rw [lg_entry_eq]
  generalize (lg_sl ([.ref (ad 0), .int (x), .int (w_)]) ++ List.replicate (4 - (lg_sl ([.ref (ad 0), .int (x), .int (w_)])).length) Slot.unset).toArray = ls at hl ⊢
  have hl : lv_has ls 4 [(0, .ref (ad 0)), (1, .int (x)), (2, .int (w_))] := hl
  refine W_abs (fun Q hQ => ?_)
  generalize ([.ref (ad 0), .int (x), .int (w_)] : List Value).toArray = args at hT hQ ⊢
  obtain ⟨-, hpz0, hcok0, hctx0, hsay0⟩ := id hcf
  obtain ⟨lz, hlz, hln⟩ := lst_99 (k := 3) C 1 ⟨1, by omega, rfl⟩ h99.2
  refine lv_aload_n hx hb (fk_get fk_cX11_of_0 0 rfl) rfl (lv_at hl 0 rfl) ?_
  refine va_get (D := G.1) (ci := 13) (v := .ref (ad (9 + 0))) (C := RX11) (T := TX11) (N := 11) hx hb hT inX11 hown hK hP 0 (ix_at (lt71 (by omega)) (cX_0 G ad S)) rfl 1 (by decide) (hT _ m2_70) (fun _ h9 => h9) rfl (fk_get fk_cX11_of_0 1 rfl) ?_
  refine lv_iload_n hx hb (fk_get fk_cX11_of_0 2 rfl) rfl (lv_at hl 1 rfl) ?_
  refine va_csq (W.runV (As := [.int (x)]) (rest := []) ⟨hx, hb, hml, hown, hT⟩ (c_x7_at l G ad S s.heap.size (0) (n) (x) ((by decide : 0 < 3)) (hn) (hn6) (hX)) (tV 1 hT m2_120 m2_121 m2_122 m1_9 m2_123 rfl rfl (by decide +kernel) ⟨Nat.le_of_ble_eq_true rfl, Nat.le_of_ble_eq_true rfl⟩) ⟨PcW_blind, va_recv hK hP (ci := 9) (q0 := (9 + 0)) rfl (ix_at (lt71 (by omega)) (cX_shop (pk_shop (by decide : 0 < 3)))), PcW_of hP hK hD _⟩ rfl rfl hl.1 rfl (lv_room (Nat.le_of_ble_eq_true rfl)) (fk_get fk_cX11_of_0 3 rfl) ⟨Nat.zero_le _, Nat.zero_le _⟩) (fun r_1 hw_2 => ?_)
  try dsimp only at hw_2
  rcases hw_2 with ⟨j_5, hj_5, ej_5, rfl⟩ | ⟨rfl, hn_5⟩
  · rw [show va_rf (some (ad (21 + 6 * 0 + j_5))) = .ref (ad (21 + 6 * 0 + j_5)) from rfl]
    generalize hg_i_5 : 21 + 6 * 0 + j_5 = i_5
    have hp_i_5 : pk i_5 = 7 := by rw [← hg_i_5]; exact pk_c (by decide : 0 < 3) (show j_5 < 6 by omega)
    have hb_i_5 := pk7 hp_i_5
    refine lv_astore_n (lv' := [(3, .ref (ad i_5)), (0, .ref (ad 0)), (1, .int (x)), (2, .int (w_))]) hx hb (fk_get fk_cX11_of_0 4 rfl) rfl hl (by decide) rfl (fun ls hl => ?_)
    refine lv_aload_n hx hb (fk_get fk_cX11_of_0 5 rfl) rfl (lv_at hl 0 rfl) ?_
    refine lv_ifnonnull (tgt := 15) hx hb (fk_get fk_cX11_of_0 6 rfl) (by decide) ?_
    have hC_ : isC n x := inC hn6 hj_5 ej_5
    have hcl_ : x.toNatClampNeg = j_5 := by rw [ej_5]; exact nI_clamp (by omega)
    have hcn_ : fF S i_5 0 = x := by rw [← hg_i_5, ej_5]; exact XI.num hX (by omega) (by omega)
    have hgx_ : gX S i_5 (K j_5) = gX S (21 + 6 * 0 + x.toNatClampNeg) (K x.toNatClampNeg) := by rw [hcl_, ← hg_i_5]
    have hcu_ : CuC S 0 i_5 (K j_5) pz τ C := by rw [← hg_i_5]; exact hcf.at hj_5
    have hgb_ : GB 9999 (gX S i_5 (K j_5)) := by rw [← hg_i_5]; exact (hgc _ hj_5).1
    have hkq_ : fR S i_5 2 = some (2 + K j_5) := hcu_.1.1
    obtain ⟨xv, hxv, hx8_⟩ := hgb_.2.2.1
    have hx8 : fF S i_5 8 = nI xv := hx8_
    have hx30 : xv < 1000000 := by omega
    have hg7_ : gX S i_5 (K j_5) 7 = fF S i_5 9 := rfl
    have hg7z_ := hgb_.2.2.2
    refine lv_iload_n hx hb (fk_get fk_cX11_of_0 9 rfl) rfl (lv_at hl 3 rfl) ?_
    by_cases c_3 : w_ = (0 : Int32)
    · refine lv_tableIn (off := 64) (tgt := 80) hx hb (dk_get dk_cX11_of_0 0 rfl) (by rw [c_3]; decide) (by rw [c_3]; decide) (by rw [c_3]; rfl) (by decide) ?_
      refine lv_aload_n hx hb (fk_get fk_cX11_of_0 10 rfl) rfl (lv_at hl 0 rfl) ?_
      obtain ⟨n_4, en_4, bn_4⟩ := XI.kin hX hp_i_5
      refine va_get (D := G.1) (ci := 5) (v := va_rf ((fR S i_5 2).map ad)) (C := RX3) (T := TX3) (N := 10) hx hb hT inX3 hown hK hP i_5 (ix_at (lt71 (by omega)) (cX_cust hp_i_5)) rfl 2 (by decide) (hT _ m1_144) (fun _ h9 => h9) rfl (fk_get fk_cX11_of_0 11 rfl) ?_
      rw [show va_rf ((fR S i_5 2).map ad) = .ref (ad (2 + n_4)) from by rw [en_4]; rfl]
      have kk_84 : W p l e ({ frames := 6, cells := 0, slots := 0, locals := 171 } : Room) s m args below meth c₀ s.heap [] 0 0 Q (F0 m 87 ls [.int (fF S (2 + n_4) 0)]) := by
        rw [XI.knum hX bn_4]
        subst hQ
        have hpost : ((nI n_4) : Int32) = ofP (fF S (9 + 0) 6) τ C n (fun d => gX S (21 + 6 * 0 + d) (K d)) x w_ := by
          first
          | exact of_o (Or.inl (outC hn6 hn_5))
          | exact of_kx (G := (fun d => gX S (21 + 6 * 0 + d) (K d))) (by assumption) hkq_ hgx_ hC_ (by subst_vars; decide) (by assumption)
          | exact of_nx (G := (fun d => gX S (21 + 6 * 0 + d) (K d))) (m := 1) (by omega) rfl hgx_ hC_ (by assumption)
          | exact of_nx (G := (fun d => gX S (21 + 6 * 0 + d) (K d))) (m := 2) (by omega) rfl hgx_ hC_ (by assumption)
          | exact of_nx (G := (fun d => gX S (21 + 6 * 0 + d) (K d))) (m := 3) (by omega) rfl hgx_ hC_ (by assumption)
          | exact of_nx (G := (fun d => gX S (21 + 6 * 0 + d) (K d))) (m := 4) (by omega) rfl hgx_ hC_ (by assumption)
          | exact of_nx (G := (fun d => gX S (21 + 6 * 0 + d) (K d))) (m := 5) (by omega) rfl hgx_ hC_ (by assumption)
          | exact of_nx (G := (fun d => gX S (21 + 6 * 0 + d) (K d))) (m := 6) (by omega) rfl hgx_ hC_ (by assumption)
          | exact of_nx (G := (fun d => gX S (21 + 6 * 0 + d) (K d))) (m := 7) (by omega) (g7_1 hg7z_ (by assumption)) hgx_ hC_ (by assumption)
          | exact of_nx (G := (fun d => gX S (21 + 6 * 0 + d) (K d))) (m := 7) (by omega) (g7_0 (g := gX S i_5 (K j_5)) (by assumption)) hgx_ hC_ (by assumption)
          | exact of_8 (G := (fun d => gX S (21 + 6 * 0 + d) (K d))) hC_ (by subst_vars; decide) (by assumption)
          | (rw [evq_, hgx_]; exact of_9 (G := (fun d => gX S (21 + 6 * 0 + d) (K d))) hC_ (by subst_vars; decide) (by assumption))
          | (rw [evq_, hgx_]; exact of_10 (G := (fun d => gX S (21 + 6 * 0 + d) (K d))) hC_ (by subst_vars; decide) (by assumption))
          | exact of_11y (G := (fun d => gX S (21 + 6 * 0 + d) (K d))) hC_ (by subst_vars; decide) (by assumption) (no_t hrf_ (by assumption))
          | exact of_11n (G := (fun d => gX S (21 + 6 * 0 + d) (K d))) hC_ (by subst_vars; decide) (by assumption) (no_f hrf_ (by first | assumption | exact Decidable.not_not.mp (by assumption)))
          | exact of_o (Or.inr (out_12 (fun k hk => by
              rcases (show k = 0 ∨ k = 1 ∨ k = 2 ∨ k = 3 ∨ k = 4 ∨ k = 5 ∨ k = 6 ∨ k = 7 ∨ k = 8 ∨ k = 9 ∨ k = 10 ∨ k = 11 by omega) with rfl | rfl | rfl | rfl | rfl | rfl | rfl | rfl | rfl | rfl | rfl | rfl <;> assumption)))
        exact W.iret (v := (nI n_4)) hx hb hr (fun t_ ht_ hW_ => ⟨(nI n_4), rfl, hpost, ht_⟩) (fun q h => by cases h) (fk_get fk_cX11_of_0 13 rfl)
      rcases kq7 bn_4 with rfl | rfl | rfl | rfl | rfl | rfl | rfl
      · exact va_get (D := G.1) (ci := 7) (v := .int (fF S (2 + 0) 0)) (C := RX5) (T := TX5) (N := 1) hx hb hT inX5 hown hK hP (2 + 0) (ix_at (lt71 (by omega)) (cX_knd (by omega))) rfl 0 (by decide) (hT _ m1_46) (fun _ h9 => h9) rfl (fk_get fk_cX11_of_0 12 rfl) kk_84
      · exact va_get (D := G.1) (ci := 10) (v := .int (fF S (2 + 1) 0)) (C := RX8) (T := TX8) (N := 1) hx hb hT inX8 hown hK hP (2 + 1) (ix_at (lt71 (by omega)) (cX_knd (by omega))) rfl 0 (by decide) (hT _ m1_46) (fun _ h9 => h9) rfl (fk_get fk_cX11_of_0 12 rfl) kk_84
      · exact va_get (D := G.1) (ci := 6) (v := .int (fF S (2 + 2) 0)) (C := RX4) (T := TX4) (N := 1) hx hb hT inX4 hown hK hP (2 + 2) (ix_at (lt71 (by omega)) (cX_knd (by omega))) rfl 0 (by decide) (hT _ m1_46) (fun _ h9 => h9) rfl (fk_get fk_cX11_of_0 12 rfl) kk_84
      · exact va_get (D := G.1) (ci := 2) (v := .int (fF S (2 + 3) 0)) (C := RX0) (T := TX0) (N := 1) hx hb hT inX0 hown hK hP (2 + 3) (ix_at (lt71 (by omega)) (cX_knd (by omega))) rfl 0 (by decide) (hT _ m1_46) (fun _ h9 => h9) rfl (fk_get fk_cX11_of_0 12 rfl) kk_84
      · exact va_get (D := G.1) (ci := 4) (v := .int (fF S (2 + 4) 0)) (C := RX2) (T := TX2) (N := 1) hx hb hT inX2 hown hK hP (2 + 4) (ix_at (lt71 (by omega)) (cX_knd (by omega))) rfl 0 (by decide) (hT _ m1_46) (fun _ h9 => h9) rfl (fk_get fk_cX11_of_0 12 rfl) kk_84
      · exact va_get (D := G.1) (ci := 8) (v := .int (fF S (2 + 5) 0)) (C := RX6) (T := TX6) (N := 1) hx hb hT inX6 hown hK hP (2 + 5) (ix_at (lt71 (by omega)) (cX_knd (by omega))) rfl 0 (by decide) (hT _ m1_46) (fun _ h9 => h9) rfl (fk_get fk_cX11_of_0 12 rfl) kk_84
      · exact va_get (D := G.1) (ci := 12) (v := .int (fF S (2 + 6) 0)) (C := RX10) (T := TX10) (N := 1) hx hb hT inX10 hown hK hP (2 + 6) (ix_at (lt71 (by omega)) (cX_knd (by omega))) rfl 0 (by decide) (hT _ m1_46) (fun _ h9 => h9) rfl (fk_get fk_cX11_of_0 12 rfl) kk_84
    by_cases c_5 : w_ = (1 : Int32)
    · refine lv_tableIn (off := 72) (tgt := 88) hx hb (dk_get dk_cX11_of_0 0 rfl) (by rw [c_5]; decide) (by rw [c_5]; decide) (by rw [c_5]; rfl) (by decide) ?_
      refine lv_aload_n hx hb (fk_get fk_cX11_of_0 14 rfl) rfl (lv_at hl 0 rfl) ?_
      refine va_get (D := G.1) (ci := 5) (v := .int (fF S i_5 3)) (C := RX3) (T := TX3) (N := 10) hx hb hT inX3 hown hK hP i_5 (ix_at (lt71 (by omega)) (cX_cust hp_i_5)) rfl 3 (by decide) (hT _ m1_151) (fun _ h9 => h9) rfl (fk_get fk_cX11_of_0 15 rfl) ?_
      subst hQ
      have hpost : ((fF S i_5 3) : Int32) = ofP (fF S (9 + 0) 6) τ C n (fun d => gX S (21 + 6 * 0 + d) (K d)) x w_ := by
        first
        | exact of_o (Or.inl (outC hn6 hn_5))
        | exact of_kx (G := (fun d => gX S (21 + 6 * 0 + d) (K d))) (by assumption) hkq_ hgx_ hC_ (by subst_vars; decide) (by assumption)
        | exact of_nx (G := (fun d => gX S (21 + 6 * 0 + d) (K d))) (m := 1) (by omega) rfl hgx_ hC_ (by assumption)
        | exact of_nx (G := (fun d => gX S (21 + 6 * 0 + d) (K d))) (m := 2) (by omega) rfl hgx_ hC_ (by assumption)
        | exact of_nx (G := (fun d => gX S (21 + 6 * 0 + d) (K d))) (m := 3) (by omega) rfl hgx_ hC_ (by assumption)
        | exact of_nx (G := (fun d => gX S (21 + 6 * 0 + d) (K d))) (m := 4) (by omega) rfl hgx_ hC_ (by assumption)
        | exact of_nx (G := (fun d => gX S (21 + 6 * 0 + d) (K d))) (m := 5) (by omega) rfl hgx_ hC_ (by assumption)
        | exact of_nx (G := (fun d => gX S (21 + 6 * 0 + d) (K d))) (m := 6) (by omega) rfl hgx_ hC_ (by assumption)
        | exact of_nx (G := (fun d => gX S (21 + 6 * 0 + d) (K d))) (m := 7) (by omega) (g7_1 hg7z_ (by assumption)) hgx_ hC_ (by assumption)
        | exact of_nx (G := (fun d => gX S (21 + 6 * 0 + d) (K d))) (m := 7) (by omega) (g7_0 (g := gX S i_5 (K j_5)) (by assumption)) hgx_ hC_ (by assumption)
        | exact of_8 (G := (fun d => gX S (21 + 6 * 0 + d) (K d))) hC_ (by subst_vars; decide) (by assumption)
        | (rw [evq_, hgx_]; exact of_9 (G := (fun d => gX S (21 + 6 * 0 + d) (K d))) hC_ (by subst_vars; decide) (by assumption))
        | (rw [evq_, hgx_]; exact of_10 (G := (fun d => gX S (21 + 6 * 0 + d) (K d))) hC_ (by subst_vars; decide) (by assumption))
        | exact of_11y (G := (fun d => gX S (21 + 6 * 0 + d) (K d))) hC_ (by subst_vars; decide) (by assumption) (no_t hrf_ (by assumption))
        | exact of_11n (G := (fun d => gX S (21 + 6 * 0 + d) (K d))) hC_ (by subst_vars; decide) (by assumption) (no_f hrf_ (by first | assumption | exact Decidable.not_not.mp (by assumption)))
        | exact of_o (Or.inr (out_12 (fun k hk => by
            rcases (show k = 0 ∨ k = 1 ∨ k = 2 ∨ k = 3 ∨ k = 4 ∨ k = 5 ∨ k = 6 ∨ k = 7 ∨ k = 8 ∨ k = 9 ∨ k = 10 ∨ k = 11 by omega) with rfl | rfl | rfl | rfl | rfl | rfl | rfl | rfl | rfl | rfl | rfl | rfl <;> assumption)))
      exact W.iret (v := (fF S i_5 3)) hx hb hr (fun t_ ht_ hW_ => ⟨(fF S i_5 3), rfl, hpost, ht_⟩) (fun q h => by cases h) (fk_get fk_cX11_of_0 16 rfl)
    by_cases c_6 : w_ = (2 : Int32)
    · refine lv_tableIn (off := 77) (tgt := 93) hx hb (dk_get dk_cX11_of_0 0 rfl) (by rw [c_6]; decide) (by rw [c_6]; decide) (by rw [c_6]; rfl) (by decide) ?_
      refine lv_aload_n hx hb (fk_get fk_cX11_of_0 17 rfl) rfl (lv_at hl 0 rfl) ?_
      refine va_get (D := G.1) (ci := 5) (v := .int (fF S i_5 4)) (C := RX3) (T := TX3) (N := 10) hx hb hT inX3 hown hK hP i_5 (ix_at (lt71 (by omega)) (cX_cust hp_i_5)) rfl 4 (by decide) (hT _ m1_157) (fun _ h9 => h9) rfl (fk_get fk_cX11_of_0 18 rfl) ?_
      subst hQ
      have hpost : ((fF S i_5 4) : Int32) = ofP (fF S (9 + 0) 6) τ C n (fun d => gX S (21 + 6 * 0 + d) (K d)) x w_ := by
        first
        | exact of_o (Or.inl (outC hn6 hn_5))
        | exact of_kx (G := (fun d => gX S (21 + 6 * 0 + d) (K d))) (by assumption) hkq_ hgx_ hC_ (by subst_vars; decide) (by assumption)
        | exact of_nx (G := (fun d => gX S (21 + 6 * 0 + d) (K d))) (m := 1) (by omega) rfl hgx_ hC_ (by assumption)
        | exact of_nx (G := (fun d => gX S (21 + 6 * 0 + d) (K d))) (m := 2) (by omega) rfl hgx_ hC_ (by assumption)
        | exact of_nx (G := (fun d => gX S (21 + 6 * 0 + d) (K d))) (m := 3) (by omega) rfl hgx_ hC_ (by assumption)
        | exact of_nx (G := (fun d => gX S (21 + 6 * 0 + d) (K d))) (m := 4) (by omega) rfl hgx_ hC_ (by assumption)
        | exact of_nx (G := (fun d => gX S (21 + 6 * 0 + d) (K d))) (m := 5) (by omega) rfl hgx_ hC_ (by assumption)
        | exact of_nx (G := (fun d => gX S (21 + 6 * 0 + d) (K d))) (m := 6) (by omega) rfl hgx_ hC_ (by assumption)
        | exact of_nx (G := (fun d => gX S (21 + 6 * 0 + d) (K d))) (m := 7) (by omega) (g7_1 hg7z_ (by assumption)) hgx_ hC_ (by assumption)
        | exact of_nx (G := (fun d => gX S (21 + 6 * 0 + d) (K d))) (m := 7) (by omega) (g7_0 (g := gX S i_5 (K j_5)) (by assumption)) hgx_ hC_ (by assumption)
        | exact of_8 (G := (fun d => gX S (21 + 6 * 0 + d) (K d))) hC_ (by subst_vars; decide) (by assumption)
        | (rw [evq_, hgx_]; exact of_9 (G := (fun d => gX S (21 + 6 * 0 + d) (K d))) hC_ (by subst_vars; decide) (by assumption))
        | (rw [evq_, hgx_]; exact of_10 (G := (fun d => gX S (21 + 6 * 0 + d) (K d))) hC_ (by subst_vars; decide) (by assumption))
        | exact of_11y (G := (fun d => gX S (21 + 6 * 0 + d) (K d))) hC_ (by subst_vars; decide) (by assumption) (no_t hrf_ (by assumption))
        | exact of_11n (G := (fun d => gX S (21 + 6 * 0 + d) (K d))) hC_ (by subst_vars; decide) (by assumption) (no_f hrf_ (by first | assumption | exact Decidable.not_not.mp (by assumption)))
        | exact of_o (Or.inr (out_12 (fun k hk => by
            rcases (show k = 0 ∨ k = 1 ∨ k = 2 ∨ k = 3 ∨ k = 4 ∨ k = 5 ∨ k = 6 ∨ k = 7 ∨ k = 8 ∨ k = 9 ∨ k = 10 ∨ k = 11 by omega) with rfl | rfl | rfl | rfl | rfl | rfl | rfl | rfl | rfl | rfl | rfl | rfl <;> assumption)))
      exact W.iret (v := (fF S i_5 4)) hx hb hr (fun t_ ht_ hW_ => ⟨(fF S i_5 4), rfl, hpost, ht_⟩) (fun q h => by cases h) (fk_get fk_cX11_of_0 19 rfl)
    by_cases c_7 : w_ = (3 : Int32)
    · refine lv_tableIn (off := 82) (tgt := 98) hx hb (dk_get dk_cX11_of_0 0 rfl) (by rw [c_7]; decide) (by rw [c_7]; decide) (by rw [c_7]; rfl) (by decide) ?_
      refine lv_aload_n hx hb (fk_get fk_cX11_of_0 20 rfl) rfl (lv_at hl 0 rfl) ?_
      refine va_get (D := G.1) (ci := 5) (v := .int (fF S i_5 5)) (C := RX3) (T := TX3) (N := 10) hx hb hT inX3 hown hK hP i_5 (ix_at (lt71 (by omega)) (cX_cust hp_i_5)) rfl 5 (by decide) (hT _ m1_160) (fun _ h9 => h9) rfl (fk_get fk_cX11_of_0 21 rfl) ?_
      subst hQ
      have hpost : ((fF S i_5 5) : Int32) = ofP (fF S (9 + 0) 6) τ C n (fun d => gX S (21 + 6 * 0 + d) (K d)) x w_ := by
        first
        | exact of_o (Or.inl (outC hn6 hn_5))
        | exact of_kx (G := (fun d => gX S (21 + 6 * 0 + d) (K d))) (by assumption) hkq_ hgx_ hC_ (by subst_vars; decide) (by assumption)
        | exact of_nx (G := (fun d => gX S (21 + 6 * 0 + d) (K d))) (m := 1) (by omega) rfl hgx_ hC_ (by assumption)
        | exact of_nx (G := (fun d => gX S (21 + 6 * 0 + d) (K d))) (m := 2) (by omega) rfl hgx_ hC_ (by assumption)
        | exact of_nx (G := (fun d => gX S (21 + 6 * 0 + d) (K d))) (m := 3) (by omega) rfl hgx_ hC_ (by assumption)
        | exact of_nx (G := (fun d => gX S (21 + 6 * 0 + d) (K d))) (m := 4) (by omega) rfl hgx_ hC_ (by assumption)
        | exact of_nx (G := (fun d => gX S (21 + 6 * 0 + d) (K d))) (m := 5) (by omega) rfl hgx_ hC_ (by assumption)
        | exact of_nx (G := (fun d => gX S (21 + 6 * 0 + d) (K d))) (m := 6) (by omega) rfl hgx_ hC_ (by assumption)
        | exact of_nx (G := (fun d => gX S (21 + 6 * 0 + d) (K d))) (m := 7) (by omega) (g7_1 hg7z_ (by assumption)) hgx_ hC_ (by assumption)
        | exact of_nx (G := (fun d => gX S (21 + 6 * 0 + d) (K d))) (m := 7) (by omega) (g7_0 (g := gX S i_5 (K j_5)) (by assumption)) hgx_ hC_ (by assumption)
        | exact of_8 (G := (fun d => gX S (21 + 6 * 0 + d) (K d))) hC_ (by subst_vars; decide) (by assumption)
        | (rw [evq_, hgx_]; exact of_9 (G := (fun d => gX S (21 + 6 * 0 + d) (K d))) hC_ (by subst_vars; decide) (by assumption))
        | (rw [evq_, hgx_]; exact of_10 (G := (fun d => gX S (21 + 6 * 0 + d) (K d))) hC_ (by subst_vars; decide) (by assumption))
        | exact of_11y (G := (fun d => gX S (21 + 6 * 0 + d) (K d))) hC_ (by subst_vars; decide) (by assumption) (no_t hrf_ (by assumption))
        | exact of_11n (G := (fun d => gX S (21 + 6 * 0 + d) (K d))) hC_ (by subst_vars; decide) (by assumption) (no_f hrf_ (by first | assumption | exact Decidable.not_not.mp (by assumption)))
        | exact of_o (Or.inr (out_12 (fun k hk => by
            rcases (show k = 0 ∨ k = 1 ∨ k = 2 ∨ k = 3 ∨ k = 4 ∨ k = 5 ∨ k = 6 ∨ k = 7 ∨ k = 8 ∨ k = 9 ∨ k = 10 ∨ k = 11 by omega) with rfl | rfl | rfl | rfl | rfl | rfl | rfl | rfl | rfl | rfl | rfl | rfl <;> assumption)))
      exact W.iret (v := (fF S i_5 5)) hx hb hr (fun t_ ht_ hW_ => ⟨(fF S i_5 5), rfl, hpost, ht_⟩) (fun q h => by cases h) (fk_get fk_cX11_of_0 22 rfl)
    by_cases c_8 : w_ = (4 : Int32)
    · refine lv_tableIn (off := 87) (tgt := 103) hx hb (dk_get dk_cX11_of_0 0 rfl) (by rw [c_8]; decide) (by rw [c_8]; decide) (by rw [c_8]; rfl) (by decide) ?_
      refine lv_aload_n hx hb (fk_get fk_cX11_of_0 23 rfl) rfl (lv_at hl 0 rfl) ?_
      refine va_get (D := G.1) (ci := 5) (v := .int (fF S i_5 6)) (C := RX3) (T := TX3) (N := 10) hx hb hT inX3 hown hK hP i_5 (ix_at (lt71 (by omega)) (cX_cust hp_i_5)) rfl 6 (by decide) (hT _ m1_166) (fun _ h9 => h9) rfl (fk_get fk_cX11_of_0 24 rfl) ?_
      subst hQ
      have hpost : ((fF S i_5 6) : Int32) = ofP (fF S (9 + 0) 6) τ C n (fun d => gX S (21 + 6 * 0 + d) (K d)) x w_ := by
        first
        | exact of_o (Or.inl (outC hn6 hn_5))
        | exact of_kx (G := (fun d => gX S (21 + 6 * 0 + d) (K d))) (by assumption) hkq_ hgx_ hC_ (by subst_vars; decide) (by assumption)
        | exact of_nx (G := (fun d => gX S (21 + 6 * 0 + d) (K d))) (m := 1) (by omega) rfl hgx_ hC_ (by assumption)
        | exact of_nx (G := (fun d => gX S (21 + 6 * 0 + d) (K d))) (m := 2) (by omega) rfl hgx_ hC_ (by assumption)
        | exact of_nx (G := (fun d => gX S (21 + 6 * 0 + d) (K d))) (m := 3) (by omega) rfl hgx_ hC_ (by assumption)
        | exact of_nx (G := (fun d => gX S (21 + 6 * 0 + d) (K d))) (m := 4) (by omega) rfl hgx_ hC_ (by assumption)
        | exact of_nx (G := (fun d => gX S (21 + 6 * 0 + d) (K d))) (m := 5) (by omega) rfl hgx_ hC_ (by assumption)
        | exact of_nx (G := (fun d => gX S (21 + 6 * 0 + d) (K d))) (m := 6) (by omega) rfl hgx_ hC_ (by assumption)
        | exact of_nx (G := (fun d => gX S (21 + 6 * 0 + d) (K d))) (m := 7) (by omega) (g7_1 hg7z_ (by assumption)) hgx_ hC_ (by assumption)
        | exact of_nx (G := (fun d => gX S (21 + 6 * 0 + d) (K d))) (m := 7) (by omega) (g7_0 (g := gX S i_5 (K j_5)) (by assumption)) hgx_ hC_ (by assumption)
        | exact of_8 (G := (fun d => gX S (21 + 6 * 0 + d) (K d))) hC_ (by subst_vars; decide) (by assumption)
        | (rw [evq_, hgx_]; exact of_9 (G := (fun d => gX S (21 + 6 * 0 + d) (K d))) hC_ (by subst_vars; decide) (by assumption))
        | (rw [evq_, hgx_]; exact of_10 (G := (fun d => gX S (21 + 6 * 0 + d) (K d))) hC_ (by subst_vars; decide) (by assumption))
        | exact of_11y (G := (fun d => gX S (21 + 6 * 0 + d) (K d))) hC_ (by subst_vars; decide) (by assumption) (no_t hrf_ (by assumption))
        | exact of_11n (G := (fun d => gX S (21 + 6 * 0 + d) (K d))) hC_ (by subst_vars; decide) (by assumption) (no_f hrf_ (by first | assumption | exact Decidable.not_not.mp (by assumption)))
        | exact of_o (Or.inr (out_12 (fun k hk => by
            rcases (show k = 0 ∨ k = 1 ∨ k = 2 ∨ k = 3 ∨ k = 4 ∨ k = 5 ∨ k = 6 ∨ k = 7 ∨ k = 8 ∨ k = 9 ∨ k = 10 ∨ k = 11 by omega) with rfl | rfl | rfl | rfl | rfl | rfl | rfl | rfl | rfl | rfl | rfl | rfl <;> assumption)))
      exact W.iret (v := (fF S i_5 6)) hx hb hr (fun t_ ht_ hW_ => ⟨(fF S i_5 6), rfl, hpost, ht_⟩) (fun q h => by cases h) (fk_get fk_cX11_of_0 25 rfl)
    by_cases c_9 : w_ = (5 : Int32)
    · refine lv_tableIn (off := 92) (tgt := 108) hx hb (dk_get dk_cX11_of_0 0 rfl) (by rw [c_9]; decide) (by rw [c_9]; decide) (by rw [c_9]; rfl) (by decide) ?_
      refine lv_aload_n hx hb (fk_get fk_cX11_of_0 26 rfl) rfl (lv_at hl 0 rfl) ?_
      refine va_get (D := G.1) (ci := 5) (v := .int (fF S i_5 7)) (C := RX3) (T := TX3) (N := 10) hx hb hT inX3 hown hK hP i_5 (ix_at (lt71 (by omega)) (cX_cust hp_i_5)) rfl 7 (by decide) (hT _ m1_171) (fun _ h9 => h9) rfl (fk_get fk_cX11_of_0 27 rfl) ?_
      subst hQ
      have hpost : ((fF S i_5 7) : Int32) = ofP (fF S (9 + 0) 6) τ C n (fun d => gX S (21 + 6 * 0 + d) (K d)) x w_ := by
        first
        | exact of_o (Or.inl (outC hn6 hn_5))
        | exact of_kx (G := (fun d => gX S (21 + 6 * 0 + d) (K d))) (by assumption) hkq_ hgx_ hC_ (by subst_vars; decide) (by assumption)
        | exact of_nx (G := (fun d => gX S (21 + 6 * 0 + d) (K d))) (m := 1) (by omega) rfl hgx_ hC_ (by assumption)
        | exact of_nx (G := (fun d => gX S (21 + 6 * 0 + d) (K d))) (m := 2) (by omega) rfl hgx_ hC_ (by assumption)
        | exact of_nx (G := (fun d => gX S (21 + 6 * 0 + d) (K d))) (m := 3) (by omega) rfl hgx_ hC_ (by assumption)
        | exact of_nx (G := (fun d => gX S (21 + 6 * 0 + d) (K d))) (m := 4) (by omega) rfl hgx_ hC_ (by assumption)
        | exact of_nx (G := (fun d => gX S (21 + 6 * 0 + d) (K d))) (m := 5) (by omega) rfl hgx_ hC_ (by assumption)
        | exact of_nx (G := (fun d => gX S (21 + 6 * 0 + d) (K d))) (m := 6) (by omega) rfl hgx_ hC_ (by assumption)
        | exact of_nx (G := (fun d => gX S (21 + 6 * 0 + d) (K d))) (m := 7) (by omega) (g7_1 hg7z_ (by assumption)) hgx_ hC_ (by assumption)
        | exact of_nx (G := (fun d => gX S (21 + 6 * 0 + d) (K d))) (m := 7) (by omega) (g7_0 (g := gX S i_5 (K j_5)) (by assumption)) hgx_ hC_ (by assumption)
        | exact of_8 (G := (fun d => gX S (21 + 6 * 0 + d) (K d))) hC_ (by subst_vars; decide) (by assumption)
        | (rw [evq_, hgx_]; exact of_9 (G := (fun d => gX S (21 + 6 * 0 + d) (K d))) hC_ (by subst_vars; decide) (by assumption))
        | (rw [evq_, hgx_]; exact of_10 (G := (fun d => gX S (21 + 6 * 0 + d) (K d))) hC_ (by subst_vars; decide) (by assumption))
        | exact of_11y (G := (fun d => gX S (21 + 6 * 0 + d) (K d))) hC_ (by subst_vars; decide) (by assumption) (no_t hrf_ (by assumption))
        | exact of_11n (G := (fun d => gX S (21 + 6 * 0 + d) (K d))) hC_ (by subst_vars; decide) (by assumption) (no_f hrf_ (by first | assumption | exact Decidable.not_not.mp (by assumption)))
        | exact of_o (Or.inr (out_12 (fun k hk => by
            rcases (show k = 0 ∨ k = 1 ∨ k = 2 ∨ k = 3 ∨ k = 4 ∨ k = 5 ∨ k = 6 ∨ k = 7 ∨ k = 8 ∨ k = 9 ∨ k = 10 ∨ k = 11 by omega) with rfl | rfl | rfl | rfl | rfl | rfl | rfl | rfl | rfl | rfl | rfl | rfl <;> assumption)))
      exact W.iret (v := (fF S i_5 7)) hx hb hr (fun t_ ht_ hW_ => ⟨(fF S i_5 7), rfl, hpost, ht_⟩) (fun q h => by cases h) (fk_get fk_cX11_of_0 28 rfl)
    by_cases c_10 : w_ = (6 : Int32)
    · refine lv_tableIn (off := 97) (tgt := 113) hx hb (dk_get dk_cX11_of_0 0 rfl) (by rw [c_10]; decide) (by rw [c_10]; decide) (by rw [c_10]; rfl) (by decide) ?_
      refine lv_aload_n hx hb (fk_get fk_cX11_of_0 29 rfl) rfl (lv_at hl 0 rfl) ?_
      refine va_get (D := G.1) (ci := 5) (v := .int (fF S i_5 8)) (C := RX3) (T := TX3) (N := 10) hx hb hT inX3 hown hK hP i_5 (ix_at (lt71 (by omega)) (cX_cust hp_i_5)) rfl 8 (by decide) (hT _ m1_175) (fun _ h9 => h9) rfl (fk_get fk_cX11_of_0 30 rfl) ?_
      subst hQ
      have hpost : ((fF S i_5 8) : Int32) = ofP (fF S (9 + 0) 6) τ C n (fun d => gX S (21 + 6 * 0 + d) (K d)) x w_ := by
        first
        | exact of_o (Or.inl (outC hn6 hn_5))
        | exact of_kx (G := (fun d => gX S (21 + 6 * 0 + d) (K d))) (by assumption) hkq_ hgx_ hC_ (by subst_vars; decide) (by assumption)
        | exact of_nx (G := (fun d => gX S (21 + 6 * 0 + d) (K d))) (m := 1) (by omega) rfl hgx_ hC_ (by assumption)
        | exact of_nx (G := (fun d => gX S (21 + 6 * 0 + d) (K d))) (m := 2) (by omega) rfl hgx_ hC_ (by assumption)
        | exact of_nx (G := (fun d => gX S (21 + 6 * 0 + d) (K d))) (m := 3) (by omega) rfl hgx_ hC_ (by assumption)
        | exact of_nx (G := (fun d => gX S (21 + 6 * 0 + d) (K d))) (m := 4) (by omega) rfl hgx_ hC_ (by assumption)
        | exact of_nx (G := (fun d => gX S (21 + 6 * 0 + d) (K d))) (m := 5) (by omega) rfl hgx_ hC_ (by assumption)
        | exact of_nx (G := (fun d => gX S (21 + 6 * 0 + d) (K d))) (m := 6) (by omega) rfl hgx_ hC_ (by assumption)
        | exact of_nx (G := (fun d => gX S (21 + 6 * 0 + d) (K d))) (m := 7) (by omega) (g7_1 hg7z_ (by assumption)) hgx_ hC_ (by assumption)
        | exact of_nx (G := (fun d => gX S (21 + 6 * 0 + d) (K d))) (m := 7) (by omega) (g7_0 (g := gX S i_5 (K j_5)) (by assumption)) hgx_ hC_ (by assumption)
        | exact of_8 (G := (fun d => gX S (21 + 6 * 0 + d) (K d))) hC_ (by subst_vars; decide) (by assumption)
        | (rw [evq_, hgx_]; exact of_9 (G := (fun d => gX S (21 + 6 * 0 + d) (K d))) hC_ (by subst_vars; decide) (by assumption))
        | (rw [evq_, hgx_]; exact of_10 (G := (fun d => gX S (21 + 6 * 0 + d) (K d))) hC_ (by subst_vars; decide) (by assumption))
        | exact of_11y (G := (fun d => gX S (21 + 6 * 0 + d) (K d))) hC_ (by subst_vars; decide) (by assumption) (no_t hrf_ (by assumption))
        | exact of_11n (G := (fun d => gX S (21 + 6 * 0 + d) (K d))) hC_ (by subst_vars; decide) (by assumption) (no_f hrf_ (by first | assumption | exact Decidable.not_not.mp (by assumption)))
        | exact of_o (Or.inr (out_12 (fun k hk => by
            rcases (show k = 0 ∨ k = 1 ∨ k = 2 ∨ k = 3 ∨ k = 4 ∨ k = 5 ∨ k = 6 ∨ k = 7 ∨ k = 8 ∨ k = 9 ∨ k = 10 ∨ k = 11 by omega) with rfl | rfl | rfl | rfl | rfl | rfl | rfl | rfl | rfl | rfl | rfl | rfl <;> assumption)))
      exact W.iret (v := (fF S i_5 8)) hx hb hr (fun t_ ht_ hW_ => ⟨(fF S i_5 8), rfl, hpost, ht_⟩) (fun q h => by cases h) (fk_get fk_cX11_of_0 31 rfl)
    by_cases c_11 : w_ = (7 : Int32)
    · refine lv_tableIn (off := 102) (tgt := 118) hx hb (dk_get dk_cX11_of_0 0 rfl) (by rw [c_11]; decide) (by rw [c_11]; decide) (by rw [c_11]; rfl) (by decide) ?_
      refine lv_aload_n hx hb (fk_get fk_cX11_of_1 0 rfl) rfl (lv_at hl 0 rfl) ?_
      refine va_get (D := G.1) (ci := 5) (v := .int (fF S i_5 9)) (C := RX3) (T := TX3) (N := 10) hx hb hT inX3 hown hK hP i_5 (ix_at (lt71 (by omega)) (cX_cust hp_i_5)) rfl 9 (by decide) (hT _ m1_179) (fun _ h9 => h9) rfl (fk_get fk_cX11_of_1 1 rfl) ?_
      refine lv_if_eq (tgt := 129) hx hb (fk_get fk_cX11_of_1 2 rfl) (by decide) (fun c_12 => ?_) (fun c_12 => ?_)
      · refine lv_iconst (v := 0) hx hb (fk_get fk_cX11_of_1 5 rfl) (by decide) ?_
        subst hQ
        have hpost : (0 : Int32) = ofP (fF S (9 + 0) 6) τ C n (fun d => gX S (21 + 6 * 0 + d) (K d)) x w_ := by
          first
          | exact of_o (Or.inl (outC hn6 hn_5))
          | exact of_kx (G := (fun d => gX S (21 + 6 * 0 + d) (K d))) (by assumption) hkq_ hgx_ hC_ (by subst_vars; decide) (by assumption)
          | exact of_nx (G := (fun d => gX S (21 + 6 * 0 + d) (K d))) (m := 1) (by omega) rfl hgx_ hC_ (by assumption)
          | exact of_nx (G := (fun d => gX S (21 + 6 * 0 + d) (K d))) (m := 2) (by omega) rfl hgx_ hC_ (by assumption)
          | exact of_nx (G := (fun d => gX S (21 + 6 * 0 + d) (K d))) (m := 3) (by omega) rfl hgx_ hC_ (by assumption)
          | exact of_nx (G := (fun d => gX S (21 + 6 * 0 + d) (K d))) (m := 4) (by omega) rfl hgx_ hC_ (by assumption)
          | exact of_nx (G := (fun d => gX S (21 + 6 * 0 + d) (K d))) (m := 5) (by omega) rfl hgx_ hC_ (by assumption)
          | exact of_nx (G := (fun d => gX S (21 + 6 * 0 + d) (K d))) (m := 6) (by omega) rfl hgx_ hC_ (by assumption)
          | exact of_nx (G := (fun d => gX S (21 + 6 * 0 + d) (K d))) (m := 7) (by omega) (g7_1 hg7z_ (by assumption)) hgx_ hC_ (by assumption)
          | exact of_nx (G := (fun d => gX S (21 + 6 * 0 + d) (K d))) (m := 7) (by omega) (g7_0 (g := gX S i_5 (K j_5)) (by assumption)) hgx_ hC_ (by assumption)
          | exact of_8 (G := (fun d => gX S (21 + 6 * 0 + d) (K d))) hC_ (by subst_vars; decide) (by assumption)
          | (rw [evq_, hgx_]; exact of_9 (G := (fun d => gX S (21 + 6 * 0 + d) (K d))) hC_ (by subst_vars; decide) (by assumption))
          | (rw [evq_, hgx_]; exact of_10 (G := (fun d => gX S (21 + 6 * 0 + d) (K d))) hC_ (by subst_vars; decide) (by assumption))
          | exact of_11y (G := (fun d => gX S (21 + 6 * 0 + d) (K d))) hC_ (by subst_vars; decide) (by assumption) (no_t hrf_ (by assumption))
          | exact of_11n (G := (fun d => gX S (21 + 6 * 0 + d) (K d))) hC_ (by subst_vars; decide) (by assumption) (no_f hrf_ (by first | assumption | exact Decidable.not_not.mp (by assumption)))
          | exact of_o (Or.inr (out_12 (fun k hk => by
              rcases (show k = 0 ∨ k = 1 ∨ k = 2 ∨ k = 3 ∨ k = 4 ∨ k = 5 ∨ k = 6 ∨ k = 7 ∨ k = 8 ∨ k = 9 ∨ k = 10 ∨ k = 11 by omega) with rfl | rfl | rfl | rfl | rfl | rfl | rfl | rfl | rfl | rfl | rfl | rfl <;> assumption)))
        exact W.iret (v := 0) hx hb hr (fun t_ ht_ hW_ => ⟨0, rfl, hpost, ht_⟩) (fun q h => by cases h) (fk_get fk_cX11_of_1 6 rfl)
      refine lv_iconst (v := 1) hx hb (fk_get fk_cX11_of_1 3 rfl) (by decide) ?_
      refine lv_goto (tgt := 130) hx hb (fk_get fk_cX11_of_1 4 rfl) (by decide) ?_
      subst hQ
      have hpost : (1 : Int32) = ofP (fF S (9 + 0) 6) τ C n (fun d => gX S (21 + 6 * 0 + d) (K d)) x w_ := by
        first
        | exact of_o (Or.inl (outC hn6 hn_5))
        | exact of_kx (G := (fun d => gX S (21 + 6 * 0 + d) (K d))) (by assumption) hkq_ hgx_ hC_ (by subst_vars; decide) (by assumption)
        | exact of_nx (G := (fun d => gX S (21 + 6 * 0 + d) (K d))) (m := 1) (by omega) rfl hgx_ hC_ (by assumption)
        | exact of_nx (G := (fun d => gX S (21 + 6 * 0 + d) (K d))) (m := 2) (by omega) rfl hgx_ hC_ (by assumption)
        | exact of_nx (G := (fun d => gX S (21 + 6 * 0 + d) (K d))) (m := 3) (by omega) rfl hgx_ hC_ (by assumption)
        | exact of_nx (G := (fun d => gX S (21 + 6 * 0 + d) (K d))) (m := 4) (by omega) rfl hgx_ hC_ (by assumption)
        | exact of_nx (G := (fun d => gX S (21 + 6 * 0 + d) (K d))) (m := 5) (by omega) rfl hgx_ hC_ (by assumption)
        | exact of_nx (G := (fun d => gX S (21 + 6 * 0 + d) (K d))) (m := 6) (by omega) rfl hgx_ hC_ (by assumption)
        | exact of_nx (G := (fun d => gX S (21 + 6 * 0 + d) (K d))) (m := 7) (by omega) (g7_1 hg7z_ (by assumption)) hgx_ hC_ (by assumption)
        | exact of_nx (G := (fun d => gX S (21 + 6 * 0 + d) (K d))) (m := 7) (by omega) (g7_0 (g := gX S i_5 (K j_5)) (by assumption)) hgx_ hC_ (by assumption)
        | exact of_8 (G := (fun d => gX S (21 + 6 * 0 + d) (K d))) hC_ (by subst_vars; decide) (by assumption)
        | (rw [evq_, hgx_]; exact of_9 (G := (fun d => gX S (21 + 6 * 0 + d) (K d))) hC_ (by subst_vars; decide) (by assumption))
        | (rw [evq_, hgx_]; exact of_10 (G := (fun d => gX S (21 + 6 * 0 + d) (K d))) hC_ (by subst_vars; decide) (by assumption))
        | exact of_11y (G := (fun d => gX S (21 + 6 * 0 + d) (K d))) hC_ (by subst_vars; decide) (by assumption) (no_t hrf_ (by assumption))
        | exact of_11n (G := (fun d => gX S (21 + 6 * 0 + d) (K d))) hC_ (by subst_vars; decide) (by assumption) (no_f hrf_ (by first | assumption | exact Decidable.not_not.mp (by assumption)))
        | exact of_o (Or.inr (out_12 (fun k hk => by
            rcases (show k = 0 ∨ k = 1 ∨ k = 2 ∨ k = 3 ∨ k = 4 ∨ k = 5 ∨ k = 6 ∨ k = 7 ∨ k = 8 ∨ k = 9 ∨ k = 10 ∨ k = 11 by omega) with rfl | rfl | rfl | rfl | rfl | rfl | rfl | rfl | rfl | rfl | rfl | rfl <;> assumption)))
      exact W.iret (v := 1) hx hb hr (fun t_ ht_ hW_ => ⟨1, rfl, hpost, ht_⟩) (fun q h => by cases h) (fk_get fk_cX11_of_1 6 rfl)
    by_cases c_13 : w_ = (8 : Int32)
    · refine lv_tableIn (off := 115) (tgt := 131) hx hb (dk_get dk_cX11_of_0 0 rfl) (by rw [c_13]; decide) (by rw [c_13]; decide) (by rw [c_13]; rfl) (by decide) ?_
      refine lv_aload_n hx hb (fk_get fk_cX11_of_1 7 rfl) rfl (lv_at hl 1 rfl) ?_
      refine va_get (D := G.1) (ci := 13) (v := .ref (ad (9 + 0))) (C := RX11) (T := TX11) (N := 11) hx hb hT inX11 hown hK hP 0 (ix_at (lt71 (by omega)) (cX_0 G ad S)) rfl 1 (by decide) (hT _ m2_70) (fun _ h9 => h9) rfl (fk_get fk_cX11_of_1 8 rfl) ?_
      refine lv_aload_n hx hb (fk_get fk_cX11_of_1 9 rfl) rfl (lv_at hl 0 rfl) ?_
      refine vp_callSi (W.runV (As := [.ref (ad i_5)]) (rest := []) ⟨hx, hb, hml, hown, hT⟩ (c_x7_moreF l G ad S s.heap.size (0) (i_5) (K j_5) (pz) (τ) (C) ((by decide : 0 < 3)) (hp_i_5) (hcu_) (hX)) (tV 1 hT m2_124 m2_125 m2_126 m1_9 m2_127 rfl rfl (by decide +kernel) ⟨Nat.le_of_ble_eq_true rfl, Nat.le_of_ble_eq_true rfl⟩) ⟨PcW_blind, va_recv hK hP (ci := 9) (q0 := (9 + 0)) rfl (ix_at (lt71 (by omega)) (cX_shop (pk_shop (by decide : 0 < 3)))), PcW_of hP hK hD _⟩ rfl rfl hl.1 rfl (lv_room (Nat.le_of_ble_eq_true rfl)) (fk_get fk_cX11_of_1 10 rfl) ⟨Nat.zero_le _, Nat.zero_le _⟩) (fun r_14 hw_15 => ?_)
      try dsimp only at hw_15
      rw [hcn_, hgx_] at hw_15
      subst hw_15
      subst hQ
      have hpost : ((moF (fF S (9 + 0) 6) τ C x (gX S (21 + 6 * 0 + x.toNatClampNeg) (K x.toNatClampNeg))) : Int32) = ofP (fF S (9 + 0) 6) τ C n (fun d => gX S (21 + 6 * 0 + d) (K d)) x w_ := by
        first
        | exact of_o (Or.inl (outC hn6 hn_5))
        | exact of_kx (G := (fun d => gX S (21 + 6 * 0 + d) (K d))) (by assumption) hkq_ hgx_ hC_ (by subst_vars; decide) (by assumption)
        | exact of_nx (G := (fun d => gX S (21 + 6 * 0 + d) (K d))) (m := 1) (by omega) rfl hgx_ hC_ (by assumption)
        | exact of_nx (G := (fun d => gX S (21 + 6 * 0 + d) (K d))) (m := 2) (by omega) rfl hgx_ hC_ (by assumption)
        | exact of_nx (G := (fun d => gX S (21 + 6 * 0 + d) (K d))) (m := 3) (by omega) rfl hgx_ hC_ (by assumption)
        | exact of_nx (G := (fun d => gX S (21 + 6 * 0 + d) (K d))) (m := 4) (by omega) rfl hgx_ hC_ (by assumption)
        | exact of_nx (G := (fun d => gX S (21 + 6 * 0 + d) (K d))) (m := 5) (by omega) rfl hgx_ hC_ (by assumption)
        | exact of_nx (G := (fun d => gX S (21 + 6 * 0 + d) (K d))) (m := 6) (by omega) rfl hgx_ hC_ (by assumption)
        | exact of_nx (G := (fun d => gX S (21 + 6 * 0 + d) (K d))) (m := 7) (by omega) (g7_1 hg7z_ (by assumption)) hgx_ hC_ (by assumption)
        | exact of_nx (G := (fun d => gX S (21 + 6 * 0 + d) (K d))) (m := 7) (by omega) (g7_0 (g := gX S i_5 (K j_5)) (by assumption)) hgx_ hC_ (by assumption)
        | exact of_8 (G := (fun d => gX S (21 + 6 * 0 + d) (K d))) hC_ (by subst_vars; decide) (by assumption)
        | (rw [evq_, hgx_]; exact of_9 (G := (fun d => gX S (21 + 6 * 0 + d) (K d))) hC_ (by subst_vars; decide) (by assumption))
        | (rw [evq_, hgx_]; exact of_10 (G := (fun d => gX S (21 + 6 * 0 + d) (K d))) hC_ (by subst_vars; decide) (by assumption))
        | exact of_11y (G := (fun d => gX S (21 + 6 * 0 + d) (K d))) hC_ (by subst_vars; decide) (by assumption) (no_t hrf_ (by assumption))
        | exact of_11n (G := (fun d => gX S (21 + 6 * 0 + d) (K d))) hC_ (by subst_vars; decide) (by assumption) (no_f hrf_ (by first | assumption | exact Decidable.not_not.mp (by assumption)))
        | exact of_o (Or.inr (out_12 (fun k hk => by
            rcases (show k = 0 ∨ k = 1 ∨ k = 2 ∨ k = 3 ∨ k = 4 ∨ k = 5 ∨ k = 6 ∨ k = 7 ∨ k = 8 ∨ k = 9 ∨ k = 10 ∨ k = 11 by omega) with rfl | rfl | rfl | rfl | rfl | rfl | rfl | rfl | rfl | rfl | rfl | rfl <;> assumption)))
      exact W.iret (v := (moF (fF S (9 + 0) 6) τ C x (gX S (21 + 6 * 0 + x.toNatClampNeg) (K x.toNatClampNeg)))) hx hb hr (fun t_ ht_ hW_ => ⟨(moF (fF S (9 + 0) 6) τ C x (gX S (21 + 6 * 0 + x.toNatClampNeg) (K x.toNatClampNeg))), rfl, hpost, ht_⟩) (fun q h => by cases h) (fk_get fk_cX11_of_1 11 rfl)
    by_cases c_16 : w_ = (9 : Int32)
    · refine lv_tableIn (off := 124) (tgt := 140) hx hb (dk_get dk_cX11_of_0 0 rfl) (by rw [c_16]; decide) (by rw [c_16]; decide) (by rw [c_16]; rfl) (by decide) ?_
      refine lv_aload_n hx hb (fk_get fk_cX11_of_1 12 rfl) rfl (lv_at hl 0 rfl) ?_
      obtain ⟨n_17, en_17, bn_17⟩ := XI.kin hX hp_i_5
      refine va_get (D := G.1) (ci := 5) (v := va_rf ((fR S i_5 2).map ad)) (C := RX3) (T := TX3) (N := 10) hx hb hT inX3 hown hK hP i_5 (ix_at (lt71 (by omega)) (cX_cust hp_i_5)) rfl 2 (by decide) (hT _ m1_144) (fun _ h9 => h9) rfl (fk_get fk_cX11_of_1 13 rfl) ?_
      rw [show va_rf ((fR S i_5 2).map ad) = .ref (ad (2 + n_17)) from by rw [en_17]; rfl]
      refine lv_aload_n hx hb (fk_get fk_cX11_of_1 14 rfl) rfl (lv_at hl 0 rfl) ?_
      have evq_ : n_17 = K j_5 := kin_e en_17 hkq_
      have kk_145 : ∀ rv_145 : Int32, rv_145 = (askF (gX S i_5 n_17)) → W p l e ({ frames := 6, cells := 0, slots := 0, locals := 171 } : Room) s m args below meth c₀ s.heap [] 0 0 Q (F0 m 148 ls [.int (rv_145)]) := by
        intro rv_145 hv_145
        subst hv_145
        subst hQ
        have hpost : ((askF (gX S i_5 n_17)) : Int32) = ofP (fF S (9 + 0) 6) τ C n (fun d => gX S (21 + 6 * 0 + d) (K d)) x w_ := by
          first
          | exact of_o (Or.inl (outC hn6 hn_5))
          | exact of_kx (G := (fun d => gX S (21 + 6 * 0 + d) (K d))) (by assumption) hkq_ hgx_ hC_ (by subst_vars; decide) (by assumption)
          | exact of_nx (G := (fun d => gX S (21 + 6 * 0 + d) (K d))) (m := 1) (by omega) rfl hgx_ hC_ (by assumption)
          | exact of_nx (G := (fun d => gX S (21 + 6 * 0 + d) (K d))) (m := 2) (by omega) rfl hgx_ hC_ (by assumption)
          | exact of_nx (G := (fun d => gX S (21 + 6 * 0 + d) (K d))) (m := 3) (by omega) rfl hgx_ hC_ (by assumption)
          | exact of_nx (G := (fun d => gX S (21 + 6 * 0 + d) (K d))) (m := 4) (by omega) rfl hgx_ hC_ (by assumption)
          | exact of_nx (G := (fun d => gX S (21 + 6 * 0 + d) (K d))) (m := 5) (by omega) rfl hgx_ hC_ (by assumption)
          | exact of_nx (G := (fun d => gX S (21 + 6 * 0 + d) (K d))) (m := 6) (by omega) rfl hgx_ hC_ (by assumption)
          | exact of_nx (G := (fun d => gX S (21 + 6 * 0 + d) (K d))) (m := 7) (by omega) (g7_1 hg7z_ (by assumption)) hgx_ hC_ (by assumption)
          | exact of_nx (G := (fun d => gX S (21 + 6 * 0 + d) (K d))) (m := 7) (by omega) (g7_0 (g := gX S i_5 (K j_5)) (by assumption)) hgx_ hC_ (by assumption)
          | exact of_8 (G := (fun d => gX S (21 + 6 * 0 + d) (K d))) hC_ (by subst_vars; decide) (by assumption)
          | (rw [evq_, hgx_]; exact of_9 (G := (fun d => gX S (21 + 6 * 0 + d) (K d))) hC_ (by subst_vars; decide) (by assumption))
          | (rw [evq_, hgx_]; exact of_10 (G := (fun d => gX S (21 + 6 * 0 + d) (K d))) hC_ (by subst_vars; decide) (by assumption))
          | exact of_11y (G := (fun d => gX S (21 + 6 * 0 + d) (K d))) hC_ (by subst_vars; decide) (by assumption) (no_t hrf_ (by assumption))
          | exact of_11n (G := (fun d => gX S (21 + 6 * 0 + d) (K d))) hC_ (by subst_vars; decide) (by assumption) (no_f hrf_ (by first | assumption | exact Decidable.not_not.mp (by assumption)))
          | exact of_o (Or.inr (out_12 (fun k hk => by
              rcases (show k = 0 ∨ k = 1 ∨ k = 2 ∨ k = 3 ∨ k = 4 ∨ k = 5 ∨ k = 6 ∨ k = 7 ∨ k = 8 ∨ k = 9 ∨ k = 10 ∨ k = 11 by omega) with rfl | rfl | rfl | rfl | rfl | rfl | rfl | rfl | rfl | rfl | rfl | rfl <;> assumption)))
        exact W.iret (v := (askF (gX S i_5 n_17))) hx hb hr (fun t_ ht_ hW_ => ⟨(askF (gX S i_5 n_17)), rfl, hpost, ht_⟩) (fun q h => by cases h) (fk_get fk_cX11_of_1 16 rfl)
      rcases kq7 bn_17 with rfl | rfl | rfl | rfl | rfl | rfl | rfl
      · exact vp_callSi (va_Run.run (va_runU (As := [.ref (ad i_5)]) (rest := []) ⟨hx, hb, hml, hown, hT⟩ (c_x5_portion l G ad S s.heap.size (2 + 0) (i_5) ((lt71 (by omega))) (hp_i_5)) (tU 1 hT m2_141 m2_144 m2_143 m2_142 m1_2 m2_166 rfl rfl rfl (by decide +kernel) ⟨Nat.le_of_ble_eq_true rfl, Nat.le_of_ble_eq_true rfl⟩) ⟨PcW_blind, va_recv hK hP (ci := 7) (q0 := 2 + 0) rfl (ix_at (lt71 (by omega)) (cX_knd (by omega))), PcW_of hP hK hD _⟩ rfl rfl hl.1 rfl (lv_room (Nat.le_of_ble_eq_true rfl)) (fk_get fk_cX11_of_1 15 rfl) ⟨Nat.zero_le _, Nat.zero_le _⟩)) (fun r h_ => kk_145 r (h_.trans aX_0.symm))
      · exact vp_callSi (va_Run.run (va_runU (As := [.ref (ad i_5)]) (rest := []) ⟨hx, hb, hml, hown, hT⟩ (c_x8_portion l G ad S s.heap.size (2 + 1) (i_5) ((lt71 (by omega))) (hp_i_5)) (tO 1 hT m2_141 m2_144 m2_142 m2_158 m2_152 m1_3 m2_153 m2_166 rfl rfl (by decide +kernel) ⟨Nat.le_of_ble_eq_true rfl, Nat.le_of_ble_eq_true rfl⟩) ⟨PcW_blind, va_recv hK hP (ci := 10) (q0 := 2 + 1) rfl (ix_at (lt71 (by omega)) (cX_knd (by omega))), PcW_of hP hK hD _⟩ rfl rfl hl.1 rfl (lv_room (Nat.le_of_ble_eq_true rfl)) (fk_get fk_cX11_of_1 15 rfl) ⟨Nat.zero_le _, Nat.zero_le _⟩)) (fun r h_ => kk_145 r (h_.trans aX_1.symm))
      · exact vp_callSi (va_Run.run (va_runU (As := [.ref (ad i_5)]) (rest := []) ⟨hx, hb, hml, hown, hT⟩ (c_x5_portion l G ad S s.heap.size (2 + 2) (i_5) ((lt71 (by omega))) (hp_i_5)) (tU 1 hT m2_141 m2_144 m2_156 m2_142 m1_2 m2_166 rfl rfl rfl (by decide +kernel) ⟨Nat.le_of_ble_eq_true rfl, Nat.le_of_ble_eq_true rfl⟩) ⟨PcW_blind, va_recv hK hP (ci := 6) (q0 := 2 + 2) rfl (ix_at (lt71 (by omega)) (cX_knd (by omega))), PcW_of hP hK hD _⟩ rfl rfl hl.1 rfl (lv_room (Nat.le_of_ble_eq_true rfl)) (fk_get fk_cX11_of_1 15 rfl) ⟨Nat.zero_le _, Nat.zero_le _⟩)) (fun r h_ => kk_145 r (h_.trans aX_2.symm))
      · exact vp_callSi (va_Run.run (va_runU (As := [.ref (ad i_5)]) (rest := []) ⟨hx, hb, hml, hown, hT⟩ (c_x0_portion l G ad S s.heap.size (2 + 3) (i_5) ((lt71 (by omega))) (hp_i_5)) (tO 1 hT m2_141 m2_144 m2_142 m2_145 m2_146 m1_5 m2_147 m2_166 rfl rfl (by decide +kernel) ⟨Nat.le_of_ble_eq_true rfl, Nat.le_of_ble_eq_true rfl⟩) ⟨PcW_blind, va_recv hK hP (ci := 2) (q0 := 2 + 3) rfl (ix_at (lt71 (by omega)) (cX_knd (by omega))), PcW_of hP hK hD _⟩ rfl rfl hl.1 rfl (lv_room (Nat.le_of_ble_eq_true rfl)) (fk_get fk_cX11_of_1 15 rfl) ⟨Nat.zero_le _, Nat.zero_le _⟩)) (fun r h_ => kk_145 r (h_.trans aX_3.symm))
      · exact vp_callSi (va_Run.run (va_runU (As := [.ref (ad i_5)]) (rest := []) ⟨hx, hb, hml, hown, hT⟩ (c_x2_portionE l G ad S s.heap.size (4) (i_5) ((by omega)) (hp_i_5) (hX)) (tO 1 hT m2_141 m2_144 m2_142 m2_148 m2_149 m1_6 m2_150 m2_166 rfl rfl (by decide +kernel) ⟨Nat.le_of_ble_eq_true rfl, Nat.le_of_ble_eq_true rfl⟩) ⟨PcW_blind, va_recv hK hP (ci := 4) (q0 := 2 + 4) rfl (ix_at (lt71 (by omega)) (cX_knd (by omega))), PcW_of hP hK hD _⟩ rfl rfl hl.1 rfl (lv_room (Nat.le_of_ble_eq_true rfl)) (fk_get fk_cX11_of_1 15 rfl) ⟨Nat.zero_le _, Nat.zero_le _⟩)) (fun r h_ => kk_145 r (h_.trans aX_4.symm))
      · exact vp_callSi (va_Run.run (va_runU (As := [.ref (ad i_5)]) (rest := []) ⟨hx, hb, hml, hown, hT⟩ (c_x5_portion l G ad S s.heap.size (2 + 5) (i_5) ((lt71 (by omega))) (hp_i_5)) (tU 1 hT m2_141 m2_144 m2_157 m2_142 m1_2 m2_166 rfl rfl rfl (by decide +kernel) ⟨Nat.le_of_ble_eq_true rfl, Nat.le_of_ble_eq_true rfl⟩) ⟨PcW_blind, va_recv hK hP (ci := 8) (q0 := 2 + 5) rfl (ix_at (lt71 (by omega)) (cX_knd (by omega))), PcW_of hP hK hD _⟩ rfl rfl hl.1 rfl (lv_room (Nat.le_of_ble_eq_true rfl)) (fk_get fk_cX11_of_1 15 rfl) ⟨Nat.zero_le _, Nat.zero_le _⟩)) (fun r h_ => kk_145 r (h_.trans aX_5.symm))
      · exact vp_callSi (va_Run.run (va_runU (As := [.ref (ad i_5)]) (rest := []) ⟨hx, hb, hml, hown, hT⟩ (c_x10_portionE l G ad S s.heap.size (6) (i_5) (xv) ((by omega)) (hp_i_5) (hx8) (hx30) (hX)) (tO 1 hT m2_141 m2_144 m2_142 m2_159 m2_160 m1_8 m2_161 m2_166 rfl rfl (by decide +kernel) ⟨Nat.le_of_ble_eq_true rfl, Nat.le_of_ble_eq_true rfl⟩) ⟨PcW_blind, va_recv hK hP (ci := 12) (q0 := 2 + 6) rfl (ix_at (lt71 (by omega)) (cX_knd (by omega))), PcW_of hP hK hD _⟩ rfl rfl hl.1 rfl (lv_room (Nat.le_of_ble_eq_true rfl)) (fk_get fk_cX11_of_1 15 rfl) ⟨Nat.zero_le _, Nat.zero_le _⟩)) (fun r h_ => kk_145 r (h_.trans (aX_6 hx8 hx30).symm))
    by_cases c_18 : w_ = (10 : Int32)
    · refine lv_tableIn (off := 133) (tgt := 149) hx hb (dk_get dk_cX11_of_0 0 rfl) (by rw [c_18]; decide) (by rw [c_18]; decide) (by rw [c_18]; rfl) (by decide) ?_
      refine lv_aload_n hx hb (fk_get fk_cX11_of_1 17 rfl) rfl (lv_at hl 0 rfl) ?_
      obtain ⟨n_19, en_19, bn_19⟩ := XI.kin hX hp_i_5
      refine va_get (D := G.1) (ci := 5) (v := va_rf ((fR S i_5 2).map ad)) (C := RX3) (T := TX3) (N := 10) hx hb hT inX3 hown hK hP i_5 (ix_at (lt71 (by omega)) (cX_cust hp_i_5)) rfl 2 (by decide) (hT _ m1_144) (fun _ h9 => h9) rfl (fk_get fk_cX11_of_1 18 rfl) ?_
      rw [show va_rf ((fR S i_5 2).map ad) = .ref (ad (2 + n_19)) from by rw [en_19]; rfl]
      refine lv_aload_n hx hb (fk_get fk_cX11_of_1 19 rfl) rfl (lv_at hl 0 rfl) ?_
      have evq_ : n_19 = K j_5 := kin_e en_19 hkq_
      have kk_154 : ∀ rv_154 : Int32, rv_154 = (letF (gX S i_5 n_19)) → W p l e ({ frames := 6, cells := 0, slots := 0, locals := 171 } : Room) s m args below meth c₀ s.heap [] 0 0 Q (F0 m 157 ls [.int (rv_154)]) := by
        intro rv_154 hv_154
        subst hv_154
        subst hQ
        have hpost : ((letF (gX S i_5 n_19)) : Int32) = ofP (fF S (9 + 0) 6) τ C n (fun d => gX S (21 + 6 * 0 + d) (K d)) x w_ := by
          first
          | exact of_o (Or.inl (outC hn6 hn_5))
          | exact of_kx (G := (fun d => gX S (21 + 6 * 0 + d) (K d))) (by assumption) hkq_ hgx_ hC_ (by subst_vars; decide) (by assumption)
          | exact of_nx (G := (fun d => gX S (21 + 6 * 0 + d) (K d))) (m := 1) (by omega) rfl hgx_ hC_ (by assumption)
          | exact of_nx (G := (fun d => gX S (21 + 6 * 0 + d) (K d))) (m := 2) (by omega) rfl hgx_ hC_ (by assumption)
          | exact of_nx (G := (fun d => gX S (21 + 6 * 0 + d) (K d))) (m := 3) (by omega) rfl hgx_ hC_ (by assumption)
          | exact of_nx (G := (fun d => gX S (21 + 6 * 0 + d) (K d))) (m := 4) (by omega) rfl hgx_ hC_ (by assumption)
          | exact of_nx (G := (fun d => gX S (21 + 6 * 0 + d) (K d))) (m := 5) (by omega) rfl hgx_ hC_ (by assumption)
          | exact of_nx (G := (fun d => gX S (21 + 6 * 0 + d) (K d))) (m := 6) (by omega) rfl hgx_ hC_ (by assumption)
          | exact of_nx (G := (fun d => gX S (21 + 6 * 0 + d) (K d))) (m := 7) (by omega) (g7_1 hg7z_ (by assumption)) hgx_ hC_ (by assumption)
          | exact of_nx (G := (fun d => gX S (21 + 6 * 0 + d) (K d))) (m := 7) (by omega) (g7_0 (g := gX S i_5 (K j_5)) (by assumption)) hgx_ hC_ (by assumption)
          | exact of_8 (G := (fun d => gX S (21 + 6 * 0 + d) (K d))) hC_ (by subst_vars; decide) (by assumption)
          | (rw [evq_, hgx_]; exact of_9 (G := (fun d => gX S (21 + 6 * 0 + d) (K d))) hC_ (by subst_vars; decide) (by assumption))
          | (rw [evq_, hgx_]; exact of_10 (G := (fun d => gX S (21 + 6 * 0 + d) (K d))) hC_ (by subst_vars; decide) (by assumption))
          | exact of_11y (G := (fun d => gX S (21 + 6 * 0 + d) (K d))) hC_ (by subst_vars; decide) (by assumption) (no_t hrf_ (by assumption))
          | exact of_11n (G := (fun d => gX S (21 + 6 * 0 + d) (K d))) hC_ (by subst_vars; decide) (by assumption) (no_f hrf_ (by first | assumption | exact Decidable.not_not.mp (by assumption)))
          | exact of_o (Or.inr (out_12 (fun k hk => by
              rcases (show k = 0 ∨ k = 1 ∨ k = 2 ∨ k = 3 ∨ k = 4 ∨ k = 5 ∨ k = 6 ∨ k = 7 ∨ k = 8 ∨ k = 9 ∨ k = 10 ∨ k = 11 by omega) with rfl | rfl | rfl | rfl | rfl | rfl | rfl | rfl | rfl | rfl | rfl | rfl <;> assumption)))
        exact W.iret (v := (letF (gX S i_5 n_19))) hx hb hr (fun t_ ht_ hW_ => ⟨(letF (gX S i_5 n_19)), rfl, hpost, ht_⟩) (fun q h => by cases h) (fk_get fk_cX11_of_1 21 rfl)
      rcases kq7 bn_19 with rfl | rfl | rfl | rfl | rfl | rfl | rfl
      · exact vp_callSi (va_Run.run (va_runU (As := [.ref (ad i_5)]) (rest := []) ⟨hx, hb, hml, hown, hT⟩ (c_x5_patience l G ad S s.heap.size (2 + 0) (i_5) ((lt71 (by omega))) (hp_i_5)) (tU 1 hT m2_167 m2_170 m2_169 m2_168 m1_2 m2_186 rfl rfl rfl (by decide +kernel) ⟨Nat.le_of_ble_eq_true rfl, Nat.le_of_ble_eq_true rfl⟩) ⟨PcW_blind, va_recv hK hP (ci := 7) (q0 := 2 + 0) rfl (ix_at (lt71 (by omega)) (cX_knd (by omega))), PcW_of hP hK hD _⟩ rfl rfl hl.1 rfl (lv_room (Nat.le_of_ble_eq_true rfl)) (fk_get fk_cX11_of_1 20 rfl) ⟨Nat.zero_le _, Nat.zero_le _⟩)) (fun r h_ => kk_154 r (h_.trans lX_0.symm))
      · exact vp_callSi (va_Run.run (va_runU (As := [.ref (ad i_5)]) (rest := []) ⟨hx, hb, hml, hown, hT⟩ (c_x8_patience l G ad S s.heap.size (2 + 1) (i_5) ((lt71 (by omega))) (hp_i_5)) (tO 1 hT m2_167 m2_170 m2_168 m2_184 m2_178 m1_3 m2_179 m2_186 rfl rfl (by decide +kernel) ⟨Nat.le_of_ble_eq_true rfl, Nat.le_of_ble_eq_true rfl⟩) ⟨PcW_blind, va_recv hK hP (ci := 10) (q0 := 2 + 1) rfl (ix_at (lt71 (by omega)) (cX_knd (by omega))), PcW_of hP hK hD _⟩ rfl rfl hl.1 rfl (lv_room (Nat.le_of_ble_eq_true rfl)) (fk_get fk_cX11_of_1 20 rfl) ⟨Nat.zero_le _, Nat.zero_le _⟩)) (fun r h_ => kk_154 r (h_.trans lX_1.symm))
      · exact vp_callSi (va_Run.run (va_runU (As := [.ref (ad i_5)]) (rest := []) ⟨hx, hb, hml, hown, hT⟩ (c_x4_patience l G ad S s.heap.size (2 + 2) (i_5) ((lt71 (by omega))) (hp_i_5)) (tO 1 hT m2_167 m2_170 m2_168 m2_180 m2_181 m1_4 m2_182 m2_186 rfl rfl (by decide +kernel) ⟨Nat.le_of_ble_eq_true rfl, Nat.le_of_ble_eq_true rfl⟩) ⟨PcW_blind, va_recv hK hP (ci := 6) (q0 := 2 + 2) rfl (ix_at (lt71 (by omega)) (cX_knd (by omega))), PcW_of hP hK hD _⟩ rfl rfl hl.1 rfl (lv_room (Nat.le_of_ble_eq_true rfl)) (fk_get fk_cX11_of_1 20 rfl) ⟨Nat.zero_le _, Nat.zero_le _⟩)) (fun r h_ => kk_154 r (h_.trans lX_2.symm))
      · exact vp_callSi (va_Run.run (va_runU (As := [.ref (ad i_5)]) (rest := []) ⟨hx, hb, hml, hown, hT⟩ (c_x0_patience l G ad S s.heap.size (2 + 3) (i_5) ((lt71 (by omega))) (hp_i_5)) (tO 1 hT m2_167 m2_170 m2_168 m2_171 m2_172 m1_5 m2_173 m2_186 rfl rfl (by decide +kernel) ⟨Nat.le_of_ble_eq_true rfl, Nat.le_of_ble_eq_true rfl⟩) ⟨PcW_blind, va_recv hK hP (ci := 2) (q0 := 2 + 3) rfl (ix_at (lt71 (by omega)) (cX_knd (by omega))), PcW_of hP hK hD _⟩ rfl rfl hl.1 rfl (lv_room (Nat.le_of_ble_eq_true rfl)) (fk_get fk_cX11_of_1 20 rfl) ⟨Nat.zero_le _, Nat.zero_le _⟩)) (fun r h_ => kk_154 r (h_.trans lX_3.symm))
      · exact vp_callSi (va_Run.run (va_runU (As := [.ref (ad i_5)]) (rest := []) ⟨hx, hb, hml, hown, hT⟩ (c_x2_patienceE l G ad S s.heap.size (4) (i_5) ((by omega)) (hp_i_5) (hX)) (tO 1 hT m2_167 m2_170 m2_168 m2_174 m2_175 m1_6 m2_176 m2_186 rfl rfl (by decide +kernel) ⟨Nat.le_of_ble_eq_true rfl, Nat.le_of_ble_eq_true rfl⟩) ⟨PcW_blind, va_recv hK hP (ci := 4) (q0 := 2 + 4) rfl (ix_at (lt71 (by omega)) (cX_knd (by omega))), PcW_of hP hK hD _⟩ rfl rfl hl.1 rfl (lv_room (Nat.le_of_ble_eq_true rfl)) (fk_get fk_cX11_of_1 20 rfl) ⟨Nat.zero_le _, Nat.zero_le _⟩)) (fun r h_ => kk_154 r (h_.trans lX_4.symm))
      · exact vp_callSi (va_Run.run (va_runU (As := [.ref (ad i_5)]) (rest := []) ⟨hx, hb, hml, hown, hT⟩ (c_x4_patience l G ad S s.heap.size (2 + 5) (i_5) ((lt71 (by omega))) (hp_i_5)) (tO 1 hT m2_167 m2_170 m2_168 m2_183 m2_181 m1_4 m2_182 m2_186 rfl rfl (by decide +kernel) ⟨Nat.le_of_ble_eq_true rfl, Nat.le_of_ble_eq_true rfl⟩) ⟨PcW_blind, va_recv hK hP (ci := 8) (q0 := 2 + 5) rfl (ix_at (lt71 (by omega)) (cX_knd (by omega))), PcW_of hP hK hD _⟩ rfl rfl hl.1 rfl (lv_room (Nat.le_of_ble_eq_true rfl)) (fk_get fk_cX11_of_1 20 rfl) ⟨Nat.zero_le _, Nat.zero_le _⟩)) (fun r h_ => kk_154 r (h_.trans lX_5.symm))
      · exact vp_callSi (va_Run.run (va_runU (As := [.ref (ad i_5)]) (rest := []) ⟨hx, hb, hml, hown, hT⟩ (c_x0_patience l G ad S s.heap.size (2 + 6) (i_5) ((lt71 (by omega))) (hp_i_5)) (tO 1 hT m2_167 m2_170 m2_168 m2_185 m2_172 m1_5 m2_173 m2_186 rfl rfl (by decide +kernel) ⟨Nat.le_of_ble_eq_true rfl, Nat.le_of_ble_eq_true rfl⟩) ⟨PcW_blind, va_recv hK hP (ci := 12) (q0 := 2 + 6) rfl (ix_at (lt71 (by omega)) (cX_knd (by omega))), PcW_of hP hK hD _⟩ rfl rfl hl.1 rfl (lv_room (Nat.le_of_ble_eq_true rfl)) (fk_get fk_cX11_of_1 20 rfl) ⟨Nat.zero_le _, Nat.zero_le _⟩)) (fun r h_ => kk_154 r (h_.trans lX_6.symm))
    by_cases c_20 : w_ = (11 : Int32)
    · refine lv_tableIn (off := 142) (tgt := 158) hx hb (dk_get dk_cX11_of_0 0 rfl) (by rw [c_20]; decide) (by rw [c_20]; decide) (by rw [c_20]; rfl) (by decide) ?_
      refine lv_aload_n hx hb (fk_get fk_cX11_of_1 22 rfl) rfl (lv_at hl 1 rfl) ?_
      refine va_get (D := G.1) (ci := 13) (v := .ref (ad (9 + 0))) (C := RX11) (T := TX11) (N := 11) hx hb hT inX11 hown hK hP 0 (ix_at (lt71 (by omega)) (cX_0 G ad S)) rfl 1 (by decide) (hT _ m2_70) (fun _ h9 => h9) rfl (fk_get fk_cX11_of_1 23 rfl) ?_
      refine lv_aload_n hx hb (fk_get fk_cX11_of_1 24 rfl) rfl (lv_at hl 0 rfl) ?_
      refine vp_callSi (W.runV (As := [.ref (ad i_5)]) (rest := []) ⟨hx, hb, hml, hown, hT⟩ (c_x7_refusesE l G ad S s.heap.size (0) (i_5) (K j_5) (pz) (τ) (C) ((by decide : 0 < 3)) (hp_i_5) (hcu_) (hX)) (tV 1 hT m2_187 m2_188 m2_189 m1_9 m2_190 rfl rfl (by decide +kernel) ⟨Nat.le_of_ble_eq_true rfl, Nat.le_of_ble_eq_true rfl⟩) ⟨PcW_blind, va_recv hK hP (ci := 9) (q0 := (9 + 0)) rfl (ix_at (lt71 (by omega)) (cX_shop (pk_shop (by decide : 0 < 3)))), PcW_of hP hK hD _⟩ rfl rfl hl.1 rfl (lv_room (Nat.le_of_ble_eq_true rfl)) (fk_get fk_cX11_of_1 25 rfl) ⟨Nat.zero_le _, Nat.zero_le _⟩) (fun r_21 hw_22 => ?_)
      try dsimp only at hw_22
      have hrf_ := hw_22
      rw [hcn_, hgx_] at hrf_
      refine lv_if_eq (tgt := 173) hx hb (fk_get fk_cX11_of_1 26 rfl) (by decide) (fun c_23 => ?_) (fun c_23 => ?_)
      · refine lv_iconst (v := 0) hx hb (fk_get fk_cX11_of_1 29 rfl) (by decide) ?_
        subst hQ
        have hpost : (0 : Int32) = ofP (fF S (9 + 0) 6) τ C n (fun d => gX S (21 + 6 * 0 + d) (K d)) x w_ := by
          first
          | exact of_o (Or.inl (outC hn6 hn_5))
          | exact of_kx (G := (fun d => gX S (21 + 6 * 0 + d) (K d))) (by assumption) hkq_ hgx_ hC_ (by subst_vars; decide) (by assumption)
          | exact of_nx (G := (fun d => gX S (21 + 6 * 0 + d) (K d))) (m := 1) (by omega) rfl hgx_ hC_ (by assumption)
          | exact of_nx (G := (fun d => gX S (21 + 6 * 0 + d) (K d))) (m := 2) (by omega) rfl hgx_ hC_ (by assumption)
          | exact of_nx (G := (fun d => gX S (21 + 6 * 0 + d) (K d))) (m := 3) (by omega) rfl hgx_ hC_ (by assumption)
          | exact of_nx (G := (fun d => gX S (21 + 6 * 0 + d) (K d))) (m := 4) (by omega) rfl hgx_ hC_ (by assumption)
          | exact of_nx (G := (fun d => gX S (21 + 6 * 0 + d) (K d))) (m := 5) (by omega) rfl hgx_ hC_ (by assumption)
          | exact of_nx (G := (fun d => gX S (21 + 6 * 0 + d) (K d))) (m := 6) (by omega) rfl hgx_ hC_ (by assumption)
          | exact of_nx (G := (fun d => gX S (21 + 6 * 0 + d) (K d))) (m := 7) (by omega) (g7_1 hg7z_ (by assumption)) hgx_ hC_ (by assumption)
          | exact of_nx (G := (fun d => gX S (21 + 6 * 0 + d) (K d))) (m := 7) (by omega) (g7_0 (g := gX S i_5 (K j_5)) (by assumption)) hgx_ hC_ (by assumption)
          | exact of_8 (G := (fun d => gX S (21 + 6 * 0 + d) (K d))) hC_ (by subst_vars; decide) (by assumption)
          | (rw [evq_, hgx_]; exact of_9 (G := (fun d => gX S (21 + 6 * 0 + d) (K d))) hC_ (by subst_vars; decide) (by assumption))
          | (rw [evq_, hgx_]; exact of_10 (G := (fun d => gX S (21 + 6 * 0 + d) (K d))) hC_ (by subst_vars; decide) (by assumption))
          | exact of_11y (G := (fun d => gX S (21 + 6 * 0 + d) (K d))) hC_ (by subst_vars; decide) (by assumption) (no_t hrf_ (by assumption))
          | exact of_11n (G := (fun d => gX S (21 + 6 * 0 + d) (K d))) hC_ (by subst_vars; decide) (by assumption) (no_f hrf_ (by first | assumption | exact Decidable.not_not.mp (by assumption)))
          | exact of_o (Or.inr (out_12 (fun k hk => by
              rcases (show k = 0 ∨ k = 1 ∨ k = 2 ∨ k = 3 ∨ k = 4 ∨ k = 5 ∨ k = 6 ∨ k = 7 ∨ k = 8 ∨ k = 9 ∨ k = 10 ∨ k = 11 by omega) with rfl | rfl | rfl | rfl | rfl | rfl | rfl | rfl | rfl | rfl | rfl | rfl <;> assumption)))
        exact W.iret (v := 0) hx hb hr (fun t_ ht_ hW_ => ⟨0, rfl, hpost, ht_⟩) (fun q h => by cases h) (fk_get fk_cX11_of_1 30 rfl)
      refine lv_iconst (v := 1) hx hb (fk_get fk_cX11_of_1 27 rfl) (by decide) ?_
      refine lv_goto (tgt := 174) hx hb (fk_get fk_cX11_of_1 28 rfl) (by decide) ?_
      subst hQ
      have hpost : (1 : Int32) = ofP (fF S (9 + 0) 6) τ C n (fun d => gX S (21 + 6 * 0 + d) (K d)) x w_ := by
        first
        | exact of_o (Or.inl (outC hn6 hn_5))
        | exact of_kx (G := (fun d => gX S (21 + 6 * 0 + d) (K d))) (by assumption) hkq_ hgx_ hC_ (by subst_vars; decide) (by assumption)
        | exact of_nx (G := (fun d => gX S (21 + 6 * 0 + d) (K d))) (m := 1) (by omega) rfl hgx_ hC_ (by assumption)
        | exact of_nx (G := (fun d => gX S (21 + 6 * 0 + d) (K d))) (m := 2) (by omega) rfl hgx_ hC_ (by assumption)
        | exact of_nx (G := (fun d => gX S (21 + 6 * 0 + d) (K d))) (m := 3) (by omega) rfl hgx_ hC_ (by assumption)
        | exact of_nx (G := (fun d => gX S (21 + 6 * 0 + d) (K d))) (m := 4) (by omega) rfl hgx_ hC_ (by assumption)
        | exact of_nx (G := (fun d => gX S (21 + 6 * 0 + d) (K d))) (m := 5) (by omega) rfl hgx_ hC_ (by assumption)
        | exact of_nx (G := (fun d => gX S (21 + 6 * 0 + d) (K d))) (m := 6) (by omega) rfl hgx_ hC_ (by assumption)
        | exact of_nx (G := (fun d => gX S (21 + 6 * 0 + d) (K d))) (m := 7) (by omega) (g7_1 hg7z_ (by assumption)) hgx_ hC_ (by assumption)
        | exact of_nx (G := (fun d => gX S (21 + 6 * 0 + d) (K d))) (m := 7) (by omega) (g7_0 (g := gX S i_5 (K j_5)) (by assumption)) hgx_ hC_ (by assumption)
        | exact of_8 (G := (fun d => gX S (21 + 6 * 0 + d) (K d))) hC_ (by subst_vars; decide) (by assumption)
        | (rw [evq_, hgx_]; exact of_9 (G := (fun d => gX S (21 + 6 * 0 + d) (K d))) hC_ (by subst_vars; decide) (by assumption))
        | (rw [evq_, hgx_]; exact of_10 (G := (fun d => gX S (21 + 6 * 0 + d) (K d))) hC_ (by subst_vars; decide) (by assumption))
        | exact of_11y (G := (fun d => gX S (21 + 6 * 0 + d) (K d))) hC_ (by subst_vars; decide) (by assumption) (no_t hrf_ (by assumption))
        | exact of_11n (G := (fun d => gX S (21 + 6 * 0 + d) (K d))) hC_ (by subst_vars; decide) (by assumption) (no_f hrf_ (by first | assumption | exact Decidable.not_not.mp (by assumption)))
        | exact of_o (Or.inr (out_12 (fun k hk => by
            rcases (show k = 0 ∨ k = 1 ∨ k = 2 ∨ k = 3 ∨ k = 4 ∨ k = 5 ∨ k = 6 ∨ k = 7 ∨ k = 8 ∨ k = 9 ∨ k = 10 ∨ k = 11 by omega) with rfl | rfl | rfl | rfl | rfl | rfl | rfl | rfl | rfl | rfl | rfl | rfl <;> assumption)))
      exact W.iret (v := 1) hx hb hr (fun t_ ht_ hW_ => ⟨1, rfl, hpost, ht_⟩) (fun q h => by cases h) (fk_get fk_cX11_of_1 30 rfl)
    have o_24 : (w_).toInt < 0 ∨ 11 < (w_).toInt := by
      have qc_3 : ¬ (w_).toInt = 0 := lv_neT c_3 (by decide)
      have qc_5 : ¬ (w_).toInt = 1 := lv_neT c_5 (by decide)
      have qc_6 : ¬ (w_).toInt = 2 := lv_neT c_6 (by decide)
      have qc_7 : ¬ (w_).toInt = 3 := lv_neT c_7 (by decide)
      have qc_8 : ¬ (w_).toInt = 4 := lv_neT c_8 (by decide)
      have qc_9 : ¬ (w_).toInt = 5 := lv_neT c_9 (by decide)
      have qc_10 : ¬ (w_).toInt = 6 := lv_neT c_10 (by decide)
      have qc_11 : ¬ (w_).toInt = 7 := lv_neT c_11 (by decide)
      have qc_13 : ¬ (w_).toInt = 8 := lv_neT c_13 (by decide)
      have qc_16 : ¬ (w_).toInt = 9 := lv_neT c_16 (by decide)
      have qc_18 : ¬ (w_).toInt = 10 := lv_neT c_18 (by decide)
      have qc_20 : ¬ (w_).toInt = 11 := lv_neT c_20 (by decide)
      omega
    refine lv_tableOut (tgt := 175) hx hb (dk_get dk_cX11_of_0 0 rfl) o_24 (by decide) ?_
    refine lv_iconst (v := (-1)) hx hb (fk_get fk_cX11_of_1 31 rfl) (by decide) ?_
    subst hQ
    have hpost : ((-1) : Int32) = ofP (fF S (9 + 0) 6) τ C n (fun d => gX S (21 + 6 * 0 + d) (K d)) x w_ := by
      first
      | exact of_o (Or.inl (outC hn6 hn_5))
      | exact of_kx (G := (fun d => gX S (21 + 6 * 0 + d) (K d))) (by assumption) hkq_ hgx_ hC_ (by subst_vars; decide) (by assumption)
      | exact of_nx (G := (fun d => gX S (21 + 6 * 0 + d) (K d))) (m := 1) (by omega) rfl hgx_ hC_ (by assumption)
      | exact of_nx (G := (fun d => gX S (21 + 6 * 0 + d) (K d))) (m := 2) (by omega) rfl hgx_ hC_ (by assumption)
      | exact of_nx (G := (fun d => gX S (21 + 6 * 0 + d) (K d))) (m := 3) (by omega) rfl hgx_ hC_ (by assumption)
      | exact of_nx (G := (fun d => gX S (21 + 6 * 0 + d) (K d))) (m := 4) (by omega) rfl hgx_ hC_ (by assumption)
      | exact of_nx (G := (fun d => gX S (21 + 6 * 0 + d) (K d))) (m := 5) (by omega) rfl hgx_ hC_ (by assumption)
      | exact of_nx (G := (fun d => gX S (21 + 6 * 0 + d) (K d))) (m := 6) (by omega) rfl hgx_ hC_ (by assumption)
      | exact of_nx (G := (fun d => gX S (21 + 6 * 0 + d) (K d))) (m := 7) (by omega) (g7_1 hg7z_ (by assumption)) hgx_ hC_ (by assumption)
      | exact of_nx (G := (fun d => gX S (21 + 6 * 0 + d) (K d))) (m := 7) (by omega) (g7_0 (g := gX S i_5 (K j_5)) (by assumption)) hgx_ hC_ (by assumption)
      | exact of_8 (G := (fun d => gX S (21 + 6 * 0 + d) (K d))) hC_ (by subst_vars; decide) (by assumption)
      | (rw [evq_, hgx_]; exact of_9 (G := (fun d => gX S (21 + 6 * 0 + d) (K d))) hC_ (by subst_vars; decide) (by assumption))
      | (rw [evq_, hgx_]; exact of_10 (G := (fun d => gX S (21 + 6 * 0 + d) (K d))) hC_ (by subst_vars; decide) (by assumption))
      | exact of_11y (G := (fun d => gX S (21 + 6 * 0 + d) (K d))) hC_ (by subst_vars; decide) (by assumption) (no_t hrf_ (by assumption))
      | exact of_11n (G := (fun d => gX S (21 + 6 * 0 + d) (K d))) hC_ (by subst_vars; decide) (by assumption) (no_f hrf_ (by first | assumption | exact Decidable.not_not.mp (by assumption)))
      | exact of_o (Or.inr (out_12 (fun k hk => by
          rcases (show k = 0 ∨ k = 1 ∨ k = 2 ∨ k = 3 ∨ k = 4 ∨ k = 5 ∨ k = 6 ∨ k = 7 ∨ k = 8 ∨ k = 9 ∨ k = 10 ∨ k = 11 by omega) with rfl | rfl | rfl | rfl | rfl | rfl | rfl | rfl | rfl | rfl | rfl | rfl <;> assumption)))
    exact W.iret (v := (-1)) hx hb hr (fun t_ ht_ hW_ => ⟨(-1), rfl, hpost, ht_⟩) (fun q h => by cases h) (fk_get fk_cX11_of_2 0 rfl)
  rw [show va_rf none = .null from rfl]
  refine lv_astore_nN (lv' := [(3, .null), (0, .ref (ad 0)), (1, .int (x)), (2, .int (w_))]) hx hb (fk_get fk_cX11_of_0 4 rfl) rfl hl (by decide) rfl (fun ls hl => ?_)
  refine lv_aload_nN hx hb (fk_get fk_cX11_of_0 5 rfl) rfl (lv_at hl 0 rfl) ?_
  refine lv_ifnonnullN hx hb (fk_get fk_cX11_of_0 6 rfl) ?_
  refine lv_iconst (v := (-1)) hx hb (fk_get fk_cX11_of_0 7 rfl) (by decide) ?_
  subst hQ
  have hpost : ((-1) : Int32) = ofP (fF S (9 + 0) 6) τ C n (fun d => gX S (21 + 6 * 0 + d) (K d)) x w_ := by
    first
    | exact of_o (Or.inl (outC hn6 hn_5))
    | exact of_kx (G := (fun d => gX S (21 + 6 * 0 + d) (K d))) (by assumption) hkq_ hgx_ hC_ (by subst_vars; decide) (by assumption)
    | exact of_nx (G := (fun d => gX S (21 + 6 * 0 + d) (K d))) (m := 1) (by omega) rfl hgx_ hC_ (by assumption)
    | exact of_nx (G := (fun d => gX S (21 + 6 * 0 + d) (K d))) (m := 2) (by omega) rfl hgx_ hC_ (by assumption)
    | exact of_nx (G := (fun d => gX S (21 + 6 * 0 + d) (K d))) (m := 3) (by omega) rfl hgx_ hC_ (by assumption)
    | exact of_nx (G := (fun d => gX S (21 + 6 * 0 + d) (K d))) (m := 4) (by omega) rfl hgx_ hC_ (by assumption)
    | exact of_nx (G := (fun d => gX S (21 + 6 * 0 + d) (K d))) (m := 5) (by omega) rfl hgx_ hC_ (by assumption)
    | exact of_nx (G := (fun d => gX S (21 + 6 * 0 + d) (K d))) (m := 6) (by omega) rfl hgx_ hC_ (by assumption)
    | exact of_nx (G := (fun d => gX S (21 + 6 * 0 + d) (K d))) (m := 7) (by omega) (g7_1 hg7z_ (by assumption)) hgx_ hC_ (by assumption)
    | exact of_nx (G := (fun d => gX S (21 + 6 * 0 + d) (K d))) (m := 7) (by omega) (g7_0 (g := gX S i_5 (K j_5)) (by assumption)) hgx_ hC_ (by assumption)
    | exact of_8 (G := (fun d => gX S (21 + 6 * 0 + d) (K d))) hC_ (by subst_vars; decide) (by assumption)
    | (rw [evq_, hgx_]; exact of_9 (G := (fun d => gX S (21 + 6 * 0 + d) (K d))) hC_ (by subst_vars; decide) (by assumption))
    | (rw [evq_, hgx_]; exact of_10 (G := (fun d => gX S (21 + 6 * 0 + d) (K d))) hC_ (by subst_vars; decide) (by assumption))
    | exact of_11y (G := (fun d => gX S (21 + 6 * 0 + d) (K d))) hC_ (by subst_vars; decide) (by assumption) (no_t hrf_ (by assumption))
    | exact of_11n (G := (fun d => gX S (21 + 6 * 0 + d) (K d))) hC_ (by subst_vars; decide) (by assumption) (no_f hrf_ (by first | assumption | exact Decidable.not_not.mp (by assumption)))
    | exact of_o (Or.inr (out_12 (fun k hk => by
        rcases (show k = 0 ∨ k = 1 ∨ k = 2 ∨ k = 3 ∨ k = 4 ∨ k = 5 ∨ k = 6 ∨ k = 7 ∨ k = 8 ∨ k = 9 ∨ k = 10 ∨ k = 11 by omega) with rfl | rfl | rfl | rfl | rfl | rfl | rfl | rfl | rfl | rfl | rfl | rfl <;> assumption)))
  exact W.iret (v := (-1)) hx hb hr (fun t_ ht_ hW_ => ⟨(-1), rfl, hpost, ht_⟩) (fun q h => by cases h) (fk_get fk_cX11_of_0 8 rfl)
set_option maxHeartbeats 800000 in
set_option maxRecDepth 100000 in
theorem c_x11_askedX (l : Launch) (G : GG) (ad : Nat → Nat) (S : FS) (sz : Nat) (n pz : Nat) (K : Nat → Nat) (τ : Nat → Int32) (C : Cls) (x w_ : Int32) (hn : fF S (9 + 0) 3 = nI n) (hn6 : n ≤ 6) (hcf : CuF S 0 n pz τ C K) (hgc : ∀ d, d < n → GC 9999 (gX S (21 + 6 * 0 + d) (K d))) (h99 : N99 C) (hX : XI S) : Met l yX11_asked (Cond.code yX11_asked cX11_asked 6 (some .int) :: TBL) ({ frames := 6, cells := 0, slots := 0, locals := 172 } : Room) (PcW G (wX G ad S) sz [.ref (ad 0), .int (x), .int (w_)]) (vp_Si (fun (r : Int32) => r = asdP (fF S (9 + 0) 6) τ C n (fun d => gX S (21 + 6 * 0 + d) (K d)) x w_)) 0 0 (fun _ => False) := by
  refine Met.ofW (cc := cX11_asked) (maxL := 6) (ret := (some .int)) (by decide) rfl ?_
  intro p e s m args below meth c₀ s₁ B hml hv
  obtain ⟨rfl, hsz, hP, hK, hD0⟩ := hv
  have hx := B.exec
  have hb := B.bytes
  have hr := B.returns
  have hT : ∀ w ∈ TBL, w.before ([.ref (ad 0), .int (x), .int (w_)] : List Value).toArray s = true := fun w h => atoms_spec (ws := Cond.code yX11_asked cX11_asked 6 (some .int) :: TBL) B.pre w (List.mem_cons_of_mem _ h)
  have hown : s.vm.findClass "LittleMore" = some m.cls := findClass_of_methodNamed B.named
  have hlocks := B.notSynchronized
  have hD := hD0
  have hP : va_P G.1 vwCl (wX G ad S) s.heap := hP
  have hl := lv_entry ([.ref (ad 0), .int (x), .int (w_)]) (n := 6) (Nat.le_of_ble_eq_true rfl)
  rw [lg_entry_eq]
  generalize (lg_sl ([.ref (ad 0), .int (x), .int (w_)]) ++ List.replicate (6 - (lg_sl ([.ref (ad 0), .int (x), .int (w_)])).length) Slot.unset).toArray = ls at hl ⊢
  have hl : lv_has ls 6 [(0, .ref (ad 0)), (1, .int (x)), (2, .int (w_))] := hl
  refine W_abs (fun Q hQ => ?_)
  generalize ([.ref (ad 0), .int (x), .int (w_)] : List Value).toArray = args at hT hQ ⊢
  obtain ⟨-, hpz0, hcok0, hctx0, hsay0⟩ := id hcf
  obtain ⟨lz, hlz, hln⟩ := lst_99 (k := 3) C 1 ⟨1, by omega, rfl⟩ h99.2
  refine lv_aload_n hx hb (fk_get fk_cX11_asked_0 0 rfl) rfl (lv_at hl 0 rfl) ?_
  refine va_get (D := G.1) (ci := 13) (v := .ref (ad (9 + 0))) (C := RX11) (T := TX11) (N := 11) hx hb hT inX11 hown hK hP 0 (ix_at (lt71 (by omega)) (cX_0 G ad S)) rfl 1 (by decide) (hT _ m2_70) (fun _ h9 => h9) rfl (fk_get fk_cX11_asked_0 1 rfl) ?_
  refine lv_iload_n hx hb (fk_get fk_cX11_asked_0 2 rfl) rfl (lv_at hl 1 rfl) ?_
  refine va_csq (W.runV (As := [.int (x)]) (rest := []) ⟨hx, hb, hml, hown, hT⟩ (c_x7_at l G ad S s.heap.size (0) (n) (x) ((by decide : 0 < 3)) (hn) (hn6) (hX)) (tV 1 hT m2_120 m2_121 m2_122 m1_9 m2_123 rfl rfl (by decide +kernel) ⟨Nat.le_of_ble_eq_true rfl, Nat.le_of_ble_eq_true rfl⟩) ⟨PcW_blind, va_recv hK hP (ci := 9) (q0 := (9 + 0)) rfl (ix_at (lt71 (by omega)) (cX_shop (pk_shop (by decide : 0 < 3)))), PcW_of hP hK hD _⟩ rfl rfl hl.1 rfl (lv_room (Nat.le_of_ble_eq_true rfl)) (fk_get fk_cX11_asked_0 3 rfl) ⟨Nat.zero_le _, Nat.zero_le _⟩) (fun r_1 hw_2 => ?_)
  try dsimp only at hw_2
  rcases hw_2 with ⟨j_5, hj_5, ej_5, rfl⟩ | ⟨rfl, hn_5⟩
  · rw [show va_rf (some (ad (21 + 6 * 0 + j_5))) = .ref (ad (21 + 6 * 0 + j_5)) from rfl]
    generalize hg_i_5 : 21 + 6 * 0 + j_5 = i_5
    have hp_i_5 : pk i_5 = 7 := by rw [← hg_i_5]; exact pk_c (by decide : 0 < 3) (show j_5 < 6 by omega)
    have hb_i_5 := pk7 hp_i_5
    refine lv_astore_n (lv' := [(3, .ref (ad i_5)), (0, .ref (ad 0)), (1, .int (x)), (2, .int (w_))]) hx hb (fk_get fk_cX11_asked_0 4 rfl) rfl hl (by decide) rfl (fun ls hl => ?_)
    refine lv_aload_n hx hb (fk_get fk_cX11_asked_0 5 rfl) rfl (lv_at hl 0 rfl) ?_
    refine lv_ifnull hx hb (fk_get fk_cX11_asked_0 6 rfl) ?_
    have hC_ : isC n x := inC hn6 hj_5 ej_5
    have hcl_ : x.toNatClampNeg = j_5 := by rw [ej_5]; exact nI_clamp (by omega)
    have hcn_ : fF S i_5 0 = x := by rw [← hg_i_5, ej_5]; exact XI.num hX (by omega) (by omega)
    have hgx_ : gX S i_5 (K j_5) = gX S (21 + 6 * 0 + x.toNatClampNeg) (K x.toNatClampNeg) := by rw [hcl_, ← hg_i_5]
    have hcu_ : CuC S 0 i_5 (K j_5) pz τ C := by rw [← hg_i_5]; exact hcf.at hj_5
    have hgb_ : GB 9999 (gX S i_5 (K j_5)) := by rw [← hg_i_5]; exact (hgc _ hj_5).1
    have hg7_ : gX S i_5 (K j_5) 7 = fF S i_5 9 := rfl
    have hg7z_ := hgb_.2.2.2
    refine lv_iload_n hx hb (fk_get fk_cX11_asked_0 7 rfl) rfl (lv_at hl 3 rfl) ?_
    refine lv_iconst (v := 0) hx hb (fk_get fk_cX11_asked_0 8 rfl) (by decide) ?_
    refine lv_iconst (v := 1) hx hb (fk_get fk_cX11_asked_0 9 rfl) (by decide) ?_
    refine vp_callSi (W.runS (As := [.int (w_), .int (0), .int (1)]) (rest := []) ⟨hx, hb, hml, hown, hT⟩ (c_xisOutside l (w_) (0) (1) ) (tS 3 hT m2_108 m2_109 m1_1 m2_110 rfl rfl (by decide +kernel) ⟨Nat.le_of_ble_eq_true rfl, Nat.le_of_ble_eq_true rfl⟩) ⟨PcN_blind, PcN_of _ _ _⟩ rfl rfl hl.1 rfl (lv_room (Nat.le_of_ble_eq_true rfl)) (fk_get fk_cX11_asked_0 10 rfl) ⟨Nat.zero_le _, Nat.zero_le _⟩) (fun r_3 hw_4 => ?_)
    try dsimp only at hw_4
    refine lv_if_eq (tgt := 24) hx hb (fk_get fk_cX11_asked_0 11 rfl) (by decide) (fun c_5 => ?_) (fun c_5 => ?_)
    · have p_c_5 := if1_f hw_4 c_5
      have hw_ := nor2.mp p_c_5
      refine lv_aload_n hx hb (fk_get fk_cX11_asked_0 14 rfl) rfl (lv_at hl 0 rfl) ?_
      refine va_get (D := G.1) (ci := 5) (v := .int (fF S i_5 9)) (C := RX3) (T := TX3) (N := 10) hx hb hT inX3 hown hK hP i_5 (ix_at (lt71 (by omega)) (cX_cust hp_i_5)) rfl 9 (by decide) (hT _ m1_179) (fun _ h9 => h9) rfl (fk_get fk_cX11_asked_0 15 rfl) ?_
      refine lv_if_eq (tgt := 34) hx hb (fk_get fk_cX11_asked_0 16 rfl) (by decide) (fun c_6 => ?_) (fun c_6 => ?_)
      · have hgo_ : ¬ (gX S (21 + 6 * 0 + x.toNatClampNeg) (K x.toNatClampNeg)) 7 = 1 := by rw [← hgx_]; exact gone_n hg7_ (by first | exact c_6 | exact Decidable.not_not.mp c_6)
        refine lv_aload_n hx hb (fk_get fk_cX11_asked_0 19 rfl) rfl (lv_at hl 1 rfl) ?_
        refine va_get (D := G.1) (ci := 13) (v := .ref (ad (9 + 0))) (C := RX11) (T := TX11) (N := 11) hx hb hT inX11 hown hK hP 0 (ix_at (lt71 (by omega)) (cX_0 G ad S)) rfl 1 (by decide) (hT _ m2_70) (fun _ h9 => h9) rfl (fk_get fk_cX11_asked_0 20 rfl) ?_
        refine lv_aload_n hx hb (fk_get fk_cX11_asked_0 21 rfl) rfl (lv_at hl 0 rfl) ?_
        refine vp_callSi (W.runV (As := [.ref (ad i_5)]) (rest := []) ⟨hx, hb, hml, hown, hT⟩ (c_x7_boughtBeyondAskedE l G ad S s.heap.size (0) (i_5) (K j_5) (pz) (τ) (C) ((by decide : 0 < 3)) (hp_i_5) (hcu_) (hX)) (tV 1 hT m3_233 m3_234 m3_235 m1_9 m3_236 rfl rfl (by decide +kernel) ⟨Nat.le_of_ble_eq_true rfl, Nat.le_of_ble_eq_true rfl⟩) ⟨PcW_blind, va_recv hK hP (ci := 9) (q0 := (9 + 0)) rfl (ix_at (lt71 (by omega)) (cX_shop (pk_shop (by decide : 0 < 3)))), PcW_of hP hK hD _⟩ rfl rfl hl.1 rfl (lv_room (Nat.le_of_ble_eq_true rfl)) (fk_get fk_cX11_asked_0 22 rfl) ⟨Nat.zero_le _, Nat.zero_le _⟩) (fun r_7 hw_8 => ?_)
        try dsimp only at hw_8
        have hb_ := hw_8
        rw [hcn_, hgx_] at hb_
        have h2_ : fF S i_5 4 = (gX S (21 + 6 * 0 + x.toNatClampNeg) (K x.toNatClampNeg)) 2 := congrFun hgx_ 2
        refine lv_istore (lv' := [(4, .int (r_7)), (3, .ref (ad i_5)), (0, .ref (ad 0)), (1, .int (x)), (2, .int (w_))]) hx hb (fk_get fk_cX11_asked_0 23 rfl) hl (by decide) rfl (fun ls hl => ?_)
        refine lv_iconst (v := 1) hx hb (fk_get fk_cX11_asked_0 24 rfl) (by decide) ?_
        refine lv_aload_n hx hb (fk_get fk_cX11_asked_0 25 rfl) rfl (lv_at hl 1 rfl) ?_
        refine va_get (D := G.1) (ci := 5) (v := .int (fF S i_5 4)) (C := RX3) (T := TX3) (N := 10) hx hb hT inX3 hown hK hP i_5 (ix_at (lt71 (by omega)) (cX_cust hp_i_5)) rfl 4 (by decide) (hT _ m1_157) (fun _ h9 => h9) rfl (fk_get fk_cX11_asked_0 26 rfl) ?_
        refine lv_iload hx hb (fk_get fk_cX11_asked_0 27 rfl) (lv_at hl 0 rfl) ?_
        refine lv_isub hx hb (fk_get fk_cX11_asked_0 28 rfl) ?_
        refine vp_callSi (W.runS (As := [.int (1), .int (((fF S i_5 4) - r_7))]) (rest := []) ⟨hx, hb, hml, hown, hT⟩ (c_jmax l (1) (((fF S i_5 4) - r_7)) ) (tS 2 hT m3_237 m2_139 m1_18 m2_140 rfl rfl (by decide +kernel) ⟨Nat.le_of_ble_eq_true rfl, Nat.le_of_ble_eq_true rfl⟩) ⟨PcN_blind, PcN_of _ _ _⟩ rfl rfl hl.1 rfl (lv_room (Nat.le_of_ble_eq_true rfl)) (fk_get fk_cX11_asked_0 29 rfl) ⟨Nat.zero_le _, Nat.zero_le _⟩) (fun r_9 hw_10 => ?_)
        try dsimp only at hw_10
        rw [mx_m, h2_] at hw_10
        have hfi_ := asd_3 (G := (fun d => gX S (21 + 6 * 0 + d) (K d))) hC_ hw_ hgo_ hw_10 hb_
        refine lv_istore (lv' := [(5, .int (r_9)), (4, .int (r_7)), (3, .ref (ad i_5)), (0, .ref (ad 0)), (1, .int (x)), (2, .int (w_))]) hx hb (fk_get fk_cX11_asked_0 30 rfl) hl (by decide) rfl (fun ls hl => ?_)
        refine lv_iload_n hx hb (fk_get fk_cX11_asked_0 31 rfl) rfl (lv_at hl 5 rfl) ?_
        refine lv_if_ne (tgt := 66) hx hb (fk_get fk_cX11_asked_1 0 rfl) (by decide) (fun c_11 => ?_) (fun c_11 => ?_)
        · refine lv_iload hx hb (fk_get fk_cX11_asked_1 3 rfl) (lv_at hl 0 rfl) ?_
          refine lv_iload hx hb (fk_get fk_cX11_asked_1 4 rfl) (lv_at hl 1 rfl) ?_
          refine lv_iadd hx hb (fk_get fk_cX11_asked_1 5 rfl) ?_
          subst hQ
          have hpost : ((r_9 + r_7) : Int32) = asdP (fF S (9 + 0) 6) τ C n (fun d => gX S (21 + 6 * 0 + d) (K d)) x w_ := by
            first | exact asd_1 (Or.inl (outC hn6 hn_5)) | exact asd_1 (Or.inr hnw_) | exact asd_2 (G := (fun d => gX S (21 + 6 * 0 + d) (K d))) hC_ hw_ hgo_ | exact hfi_.1 (by first | assumption | exact Decidable.not_not.mp (by assumption)) | exact hfi_.2 (by assumption)
          exact W.iret (v := (r_9 + r_7)) hx hb hr (fun t_ ht_ hW_ => ⟨(r_9 + r_7), rfl, hpost, ht_⟩) (fun q h => by cases h) (fk_get fk_cX11_asked_1 6 rfl)
        refine lv_iload hx hb (fk_get fk_cX11_asked_1 1 rfl) (lv_at hl 0 rfl) ?_
        refine lv_goto (tgt := 71) hx hb (fk_get fk_cX11_asked_1 2 rfl) (by decide) ?_
        subst hQ
        have hpost : (r_9 : Int32) = asdP (fF S (9 + 0) 6) τ C n (fun d => gX S (21 + 6 * 0 + d) (K d)) x w_ := by
          first | exact asd_1 (Or.inl (outC hn6 hn_5)) | exact asd_1 (Or.inr hnw_) | exact asd_2 (G := (fun d => gX S (21 + 6 * 0 + d) (K d))) hC_ hw_ hgo_ | exact hfi_.1 (by first | assumption | exact Decidable.not_not.mp (by assumption)) | exact hfi_.2 (by assumption)
        exact W.iret (v := r_9) hx hb hr (fun t_ ht_ hW_ => ⟨r_9, rfl, hpost, ht_⟩) (fun q h => by cases h) (fk_get fk_cX11_asked_1 6 rfl)
      have hgo_ : (gX S (21 + 6 * 0 + x.toNatClampNeg) (K x.toNatClampNeg)) 7 = 1 := by rw [← hgx_]; exact hg7z_.resolve_left c_6
      refine lv_bipush (v := (-5)) hx hb (fk_get fk_cX11_asked_0 17 rfl) (by decide) ?_
      subst hQ
      have hpost : ((-5) : Int32) = asdP (fF S (9 + 0) 6) τ C n (fun d => gX S (21 + 6 * 0 + d) (K d)) x w_ := by
        first | exact asd_1 (Or.inl (outC hn6 hn_5)) | exact asd_1 (Or.inr hnw_) | exact asd_2 (G := (fun d => gX S (21 + 6 * 0 + d) (K d))) hC_ hw_ hgo_ | exact hfi_.1 (by first | assumption | exact Decidable.not_not.mp (by assumption)) | exact hfi_.2 (by assumption)
      exact W.iret (v := (-5)) hx hb hr (fun t_ ht_ hW_ => ⟨(-5), rfl, hpost, ht_⟩) (fun q h => by cases h) (fk_get fk_cX11_asked_0 18 rfl)
    have p_c_5 := if1_t hw_4 c_5
    have hnw_ := nan2 p_c_5
    refine lv_iconst (v := (-1)) hx hb (fk_get fk_cX11_asked_0 12 rfl) (by decide) ?_
    subst hQ
    have hpost : ((-1) : Int32) = asdP (fF S (9 + 0) 6) τ C n (fun d => gX S (21 + 6 * 0 + d) (K d)) x w_ := by
      first | exact asd_1 (Or.inl (outC hn6 hn_5)) | exact asd_1 (Or.inr hnw_) | exact asd_2 (G := (fun d => gX S (21 + 6 * 0 + d) (K d))) hC_ hw_ hgo_ | exact hfi_.1 (by first | assumption | exact Decidable.not_not.mp (by assumption)) | exact hfi_.2 (by assumption)
    exact W.iret (v := (-1)) hx hb hr (fun t_ ht_ hW_ => ⟨(-1), rfl, hpost, ht_⟩) (fun q h => by cases h) (fk_get fk_cX11_asked_0 13 rfl)
  rw [show va_rf none = .null from rfl]
  refine lv_astore_nN (lv' := [(3, .null), (0, .ref (ad 0)), (1, .int (x)), (2, .int (w_))]) hx hb (fk_get fk_cX11_asked_0 4 rfl) rfl hl (by decide) rfl (fun ls hl => ?_)
  refine lv_aload_nN hx hb (fk_get fk_cX11_asked_0 5 rfl) rfl (lv_at hl 0 rfl) ?_
  refine lv_ifnullN (tgt := 22) hx hb (fk_get fk_cX11_asked_0 6 rfl) (by decide) ?_
  refine lv_iconst (v := (-1)) hx hb (fk_get fk_cX11_asked_0 12 rfl) (by decide) ?_
  subst hQ
  have hpost : ((-1) : Int32) = asdP (fF S (9 + 0) 6) τ C n (fun d => gX S (21 + 6 * 0 + d) (K d)) x w_ := by
    first | exact asd_1 (Or.inl (outC hn6 hn_5)) | exact asd_1 (Or.inr hnw_) | exact asd_2 (G := (fun d => gX S (21 + 6 * 0 + d) (K d))) hC_ hw_ hgo_ | exact hfi_.1 (by first | assumption | exact Decidable.not_not.mp (by assumption)) | exact hfi_.2 (by assumption)
  exact W.iret (v := (-1)) hx hb hr (fun t_ ht_ hW_ => ⟨(-1), rfl, hpost, ht_⟩) (fun q h => by cases h) (fk_get fk_cX11_asked_0 13 rfl)
set_option maxHeartbeats 800000 in
set_option maxRecDepth 100000 in
theorem c_x11_toldX (l : Launch) (G : GG) (ad : Nat → Nat) (S : FS) (sz : Nat) (n pz : Nat) (K : Nat → Nat) (τ : Nat → Int32) (C : Cls) (w_ : Int32) (hn : fF S (9 + 0) 3 = nI n) (hn6 : n ≤ 6) (hcf : CuF S 0 n pz τ C K) (hgc : ∀ d, d < n → GC 9999 (gX S (21 + 6 * 0 + d) (K d))) (h99 : N99 C) (hX : XI S) : Met l yX11_told (Cond.code yX11_told cX11_told 2 (some .int) :: TBL) ({ frames := 3, cells := 0, slots := 0, locals := 90 } : Room) (PcW G (wX G ad S) sz [.ref (ad 0), .int (w_)]) (vp_Si (fun (r : Int32) => r = tldP (fF S (9 + 0) 6) (lstW 3 1 C) (lstW 2 5 C) n (fun d => gX S (21 + 6 * 0 + d) (K d)) w_)) 0 0 (fun _ => False) := by
  refine Met.ofW (cc := cX11_told) (maxL := 2) (ret := (some .int)) (by decide) rfl ?_
  intro p e s m args below meth c₀ s₁ B hml hv
  obtain ⟨rfl, hsz, hP, hK, hD0⟩ := hv
  have hx := B.exec
  have hb := B.bytes
  have hr := B.returns
  have hT : ∀ w ∈ TBL, w.before ([.ref (ad 0), .int (w_)] : List Value).toArray s = true := fun w h => atoms_spec (ws := Cond.code yX11_told cX11_told 2 (some .int) :: TBL) B.pre w (List.mem_cons_of_mem _ h)
  have hown : s.vm.findClass "LittleMore" = some m.cls := findClass_of_methodNamed B.named
  have hlocks := B.notSynchronized
  have hD := hD0
  have hP : va_P G.1 vwCl (wX G ad S) s.heap := hP
  have hl := lv_entry ([.ref (ad 0), .int (w_)]) (n := 2) (Nat.le_of_ble_eq_true rfl)
  rw [lg_entry_eq]
  generalize (lg_sl ([.ref (ad 0), .int (w_)]) ++ List.replicate (2 - (lg_sl ([.ref (ad 0), .int (w_)])).length) Slot.unset).toArray = ls at hl ⊢
  have hl : lv_has ls 2 [(0, .ref (ad 0)), (1, .int (w_))] := hl
  refine W_abs (fun Q hQ => ?_)
  generalize ([.ref (ad 0), .int (w_)] : List Value).toArray = args at hT hQ ⊢
  obtain ⟨-, hpz0, hcok0, hctx0, hsay0⟩ := id hcf
  obtain ⟨lz, hlz, hln⟩ := lst_99 (k := 3) C 1 ⟨1, by omega, rfl⟩ h99.2
  refine lv_iload_n hx hb (fk_get fk_cX11_told_0 0 rfl) rfl (lv_at hl 1 rfl) ?_
  by_cases c_1 : w_ = (0 : Int32)
  · refine lv_tableIn (off := 31) (tgt := 32) hx hb (dk_get dk_cX11_told_0 0 rfl) (by rw [c_1]; decide) (by rw [c_1]; decide) (by rw [c_1]; rfl) (by decide) ?_
    refine lv_aload_n hx hb (fk_get fk_cX11_told_0 1 rfl) rfl (lv_at hl 0 rfl) ?_
    refine va_get (D := G.1) (ci := 13) (v := .ref (ad (9 + 0))) (C := RX11) (T := TX11) (N := 11) hx hb hT inX11 hown hK hP 0 (ix_at (lt71 (by omega)) (cX_0 G ad S)) rfl 1 (by decide) (hT _ m2_70) (fun _ h9 => h9) rfl (fk_get fk_cX11_told_0 2 rfl) ?_
    refine va_get (D := G.1) (ci := 9) (v := .int (fF S (9 + 0) 6)) (C := RX7) (T := TX7) (N := 8) hx hb hT inX7 hown hK hP (9 + 0) (ix_at (lt71 (by omega)) (cX_shop (pk_shop (by decide : 0 < 3)))) rfl 6 (by decide) (hT _ m1_215) (fun _ h9 => h9) rfl (fk_get fk_cX11_told_0 3 rfl) ?_
    subst hQ
    have hpost : ((fF S (9 + 0) 6) : Int32) = tldP (fF S (9 + 0) 6) (lstW 3 1 C) (lstW 2 5 C) n (fun d => gX S (21 + 6 * 0 + d) (K d)) w_ := by
      first | exact tld_0 (by assumption) | (rw [show fF S pz 0 = (lstW 2 5 C) from hctx0.1]; exact tld_1 (by assumption)) | (rw [show fF S pz 1 = (lstW 3 1 C) from hctx0.2.1]; exact tld_2 (by assumption)) | (rw [hgo_]; exact tld_3 (by assumption)) | exact tld_d (by assumption) (by assumption) (by assumption) (by assumption)
    exact W.iret (v := (fF S (9 + 0) 6)) hx hb hr (fun t_ ht_ hW_ => ⟨(fF S (9 + 0) 6), rfl, hpost, ht_⟩) (fun q h => by cases h) (fk_get fk_cX11_told_0 4 rfl)
  by_cases c_2 : w_ = (1 : Int32)
  · refine lv_tableIn (off := 39) (tgt := 40) hx hb (dk_get dk_cX11_told_0 0 rfl) (by rw [c_2]; decide) (by rw [c_2]; decide) (by rw [c_2]; rfl) (by decide) ?_
    refine lv_aload_n hx hb (fk_get fk_cX11_told_0 5 rfl) rfl (lv_at hl 0 rfl) ?_
    refine va_get (D := G.1) (ci := 13) (v := .ref (ad (9 + 0))) (C := RX11) (T := TX11) (N := 11) hx hb hT inX11 hown hK hP 0 (ix_at (lt71 (by omega)) (cX_0 G ad S)) rfl 1 (by decide) (hT _ m2_70) (fun _ h9 => h9) rfl (fk_get fk_cX11_told_0 6 rfl) ?_
    refine va_get (D := G.1) (ci := 9) (v := va_rf ((fR S (9 + 0) 7).map ad)) (C := RX7) (T := TX7) (N := 8) hx hb hT inX7 hown hK hP (9 + 0) (ix_at (lt71 (by omega)) (cX_shop (pk_shop (by decide : 0 < 3)))) rfl 7 (by decide) (hT _ m1_217) (fun _ h9 => h9) rfl (fk_get fk_cX11_told_0 7 rfl) ?_
    rw [show va_rf ((fR S (9 + 0) 7).map ad) = .ref (ad pz) from by rw [hpz0]; rfl]
    refine va_get (D := G.1) (ci := 3) (v := .int (fF S pz 0)) (C := RX1) (T := TX1) (N := 4) hx hb hT inX1 hown hK hP pz (ix_at (hcok0).2.1 (cX_ctr (hcok0).1 (hcok0).2.2.1)) rfl 0 (by decide) (hT _ m1_114) (fun _ h9 => h9) rfl (fk_get fk_cX11_told_0 8 rfl) ?_
    subst hQ
    have hpost : ((fF S pz 0) : Int32) = tldP (fF S (9 + 0) 6) (lstW 3 1 C) (lstW 2 5 C) n (fun d => gX S (21 + 6 * 0 + d) (K d)) w_ := by
      first | exact tld_0 (by assumption) | (rw [show fF S pz 0 = (lstW 2 5 C) from hctx0.1]; exact tld_1 (by assumption)) | (rw [show fF S pz 1 = (lstW 3 1 C) from hctx0.2.1]; exact tld_2 (by assumption)) | (rw [hgo_]; exact tld_3 (by assumption)) | exact tld_d (by assumption) (by assumption) (by assumption) (by assumption)
    exact W.iret (v := (fF S pz 0)) hx hb hr (fun t_ ht_ hW_ => ⟨(fF S pz 0), rfl, hpost, ht_⟩) (fun q h => by cases h) (fk_get fk_cX11_told_0 9 rfl)
  by_cases c_3 : w_ = (2 : Int32)
  · refine lv_tableIn (off := 50) (tgt := 51) hx hb (dk_get dk_cX11_told_0 0 rfl) (by rw [c_3]; decide) (by rw [c_3]; decide) (by rw [c_3]; rfl) (by decide) ?_
    refine lv_aload_n hx hb (fk_get fk_cX11_told_0 10 rfl) rfl (lv_at hl 0 rfl) ?_
    refine va_get (D := G.1) (ci := 13) (v := .ref (ad (9 + 0))) (C := RX11) (T := TX11) (N := 11) hx hb hT inX11 hown hK hP 0 (ix_at (lt71 (by omega)) (cX_0 G ad S)) rfl 1 (by decide) (hT _ m2_70) (fun _ h9 => h9) rfl (fk_get fk_cX11_told_0 11 rfl) ?_
    refine va_get (D := G.1) (ci := 9) (v := va_rf ((fR S (9 + 0) 7).map ad)) (C := RX7) (T := TX7) (N := 8) hx hb hT inX7 hown hK hP (9 + 0) (ix_at (lt71 (by omega)) (cX_shop (pk_shop (by decide : 0 < 3)))) rfl 7 (by decide) (hT _ m1_217) (fun _ h9 => h9) rfl (fk_get fk_cX11_told_0 12 rfl) ?_
    rw [show va_rf ((fR S (9 + 0) 7).map ad) = .ref (ad pz) from by rw [hpz0]; rfl]
    refine va_get (D := G.1) (ci := 3) (v := .int (fF S pz 1)) (C := RX1) (T := TX1) (N := 4) hx hb hT inX1 hown hK hP pz (ix_at (hcok0).2.1 (cX_ctr (hcok0).1 (hcok0).2.2.1)) rfl 1 (by decide) (hT _ m1_117) (fun _ h9 => h9) rfl (fk_get fk_cX11_told_0 13 rfl) ?_
    subst hQ
    have hpost : ((fF S pz 1) : Int32) = tldP (fF S (9 + 0) 6) (lstW 3 1 C) (lstW 2 5 C) n (fun d => gX S (21 + 6 * 0 + d) (K d)) w_ := by
      first | exact tld_0 (by assumption) | (rw [show fF S pz 0 = (lstW 2 5 C) from hctx0.1]; exact tld_1 (by assumption)) | (rw [show fF S pz 1 = (lstW 3 1 C) from hctx0.2.1]; exact tld_2 (by assumption)) | (rw [hgo_]; exact tld_3 (by assumption)) | exact tld_d (by assumption) (by assumption) (by assumption) (by assumption)
    exact W.iret (v := (fF S pz 1)) hx hb hr (fun t_ ht_ hW_ => ⟨(fF S pz 1), rfl, hpost, ht_⟩) (fun q h => by cases h) (fk_get fk_cX11_told_0 14 rfl)
  by_cases c_4 : w_ = (3 : Int32)
  · refine lv_tableIn (off := 61) (tgt := 62) hx hb (dk_get dk_cX11_told_0 0 rfl) (by rw [c_4]; decide) (by rw [c_4]; decide) (by rw [c_4]; rfl) (by decide) ?_
    refine lv_aload_n hx hb (fk_get fk_cX11_told_0 15 rfl) rfl (lv_at hl 0 rfl) ?_
    refine va_get (D := G.1) (ci := 13) (v := .ref (ad (9 + 0))) (C := RX11) (T := TX11) (N := 11) hx hb hT inX11 hown hK hP 0 (ix_at (lt71 (by omega)) (cX_0 G ad S)) rfl 1 (by decide) (hT _ m2_70) (fun _ h9 => h9) rfl (fk_get fk_cX11_told_0 16 rfl) ?_
    refine vp_callSi (W.runV (As := []) (rest := []) ⟨hx, hb, hml, hown, hT⟩ (c_x7_goneBitsX l G ad S s.heap.size (0) (n) (pz) (9999) (lz) (K) (τ) (C) ((by decide : 0 < 3)) (by first | assumption | omega) (by first | assumption | omega) (hcf) (fun d hd => (hgc d hd).1) (by omega) (hX)) (tV 0 hT m3_161 m3_162 m3_163 m1_9 m3_164 rfl rfl (by decide +kernel) ⟨Nat.le_of_ble_eq_true rfl, Nat.le_of_ble_eq_true rfl⟩) ⟨PcW_blind, va_recv hK hP (ci := 9) (q0 := (9 + 0)) rfl (ix_at (lt71 (by omega)) (cX_shop (pk_shop (by decide : 0 < 3)))), PcW_of hP hK hD _⟩ rfl rfl hl.1 rfl (lv_room (Nat.le_of_ble_eq_true rfl)) (fk_get fk_cX11_told_0 17 rfl) ⟨Nat.zero_le _, Nat.zero_le _⟩) (fun r_5 hw_6 => ?_)
    try dsimp only at hw_6
    have hgo_ := hw_6
    subst hQ
    have hpost : (r_5 : Int32) = tldP (fF S (9 + 0) 6) (lstW 3 1 C) (lstW 2 5 C) n (fun d => gX S (21 + 6 * 0 + d) (K d)) w_ := by
      first | exact tld_0 (by assumption) | (rw [show fF S pz 0 = (lstW 2 5 C) from hctx0.1]; exact tld_1 (by assumption)) | (rw [show fF S pz 1 = (lstW 3 1 C) from hctx0.2.1]; exact tld_2 (by assumption)) | (rw [hgo_]; exact tld_3 (by assumption)) | exact tld_d (by assumption) (by assumption) (by assumption) (by assumption)
    exact W.iret (v := r_5) hx hb hr (fun t_ ht_ hW_ => ⟨r_5, rfl, hpost, ht_⟩) (fun q h => by cases h) (fk_get fk_cX11_told_0 18 rfl)
  have o_7 : (w_).toInt < 0 ∨ 3 < (w_).toInt := by
    have qc_1 : ¬ (w_).toInt = 0 := lv_neT c_1 (by decide)
    have qc_2 : ¬ (w_).toInt = 1 := lv_neT c_2 (by decide)
    have qc_3 : ¬ (w_).toInt = 2 := lv_neT c_3 (by decide)
    have qc_4 : ¬ (w_).toInt = 3 := lv_neT c_4 (by decide)
    omega
  refine lv_tableOut (tgt := 70) hx hb (dk_get dk_cX11_told_0 0 rfl) o_7 (by decide) ?_
  refine lv_iconst (v := (-1)) hx hb (fk_get fk_cX11_told_0 19 rfl) (by decide) ?_
  subst hQ
  have hpost : ((-1) : Int32) = tldP (fF S (9 + 0) 6) (lstW 3 1 C) (lstW 2 5 C) n (fun d => gX S (21 + 6 * 0 + d) (K d)) w_ := by
    first | exact tld_0 (by assumption) | (rw [show fF S pz 0 = (lstW 2 5 C) from hctx0.1]; exact tld_1 (by assumption)) | (rw [show fF S pz 1 = (lstW 3 1 C) from hctx0.2.1]; exact tld_2 (by assumption)) | (rw [hgo_]; exact tld_3 (by assumption)) | exact tld_d (by assumption) (by assumption) (by assumption) (by assumption)
  exact W.iret (v := (-1)) hx hb hr (fun t_ ht_ hW_ => ⟨(-1), rfl, hpost, ht_⟩) (fun q h => by cases h) (fk_get fk_cX11_told_0 20 rfl)
set_option maxHeartbeats 800000 in
set_option maxRecDepth 100000 in
theorem c_x11_visitX (l : Launch) (G : GG) (ad : Nat → Nat) (S : FS) (sz : Nat) (n pz : Nat) (K : Nat → Nat) (τ : Nat → Int32) (C : Cls) (x : Int32) (hn : fF S (9 + 0) 3 = nI n) (hn6 : n ≤ 6) (hcf : CuF S 0 n pz τ C K) (hgc : ∀ d, d < n → GC 9999 (gX S (21 + 6 * 0 + d) (K d))) (h99 : N99 C) (hX : XI S) : Met l yX11_visit (Cond.code yX11_visit cX11_visit 4 (some .int) :: TBL) ({ frames := 6, cells := 0, slots := 0, locals := 174 } : Room) (PcW G (wX G ad S) sz [.ref (ad 0), .int (x)]) (va_Qi (fun (r : Int32) (S' : FS) => XI S' ∧ Fr (fun j k => 21 ≤ j ∧ j < 27 ∧ 5 ≤ k ∧ k ≤ 9) S S' ∧ (r = vitP (fF S (9 + 0) 6) (lstW 2 5 C) τ C n (fun d => gX S (21 + 6 * 0 + d) (K d)) x ∧ ∀ d, d < n → (fun d => gX S' (21 + 6 * 0 + d) (K d)) d = vitG (fF S (9 + 0) 6) (lstW 3 1 C) τ C n (fun d => gX S (21 + 6 * 0 + d) (K d)) x d)) (fun S' t => BW G (va_A (wX G ad S) sz) (wX G ad S') t) (va_A (wX G ad S) sz)) 0 0 (va_A (wX G ad S) sz) := by
  refine Met.ofW (cc := cX11_visit) (maxL := 4) (ret := (some .int)) (by decide) rfl ?_
  intro p e s m args below meth c₀ s₁ B hml hv
  obtain ⟨rfl, hsz, hP, hK, hD0⟩ := hv
  have hx := B.exec
  have hb := B.bytes
  have hr := B.returns
  have hT : ∀ w ∈ TBL, w.before ([.ref (ad 0), .int (x)] : List Value).toArray s = true := fun w h => atoms_spec (ws := Cond.code yX11_visit cX11_visit 4 (some .int) :: TBL) B.pre w (List.mem_cons_of_mem _ h)
  have hown : s.vm.findClass "LittleMore" = some m.cls := findClass_of_methodNamed B.named
  have hlocks := B.notSynchronized
  subst hsz
  have hD := hD0.self (sz := s.heap.size)
  generalize hAe : va_A (wX G ad S) s.heap.size = A at hD ⊢
  have hA : ∀ q : Nat, s.heap.size ≤ q → A q := fun q h => by rw [← hAe]; exact Or.inr h
  have hS : va_S A s.heap s.heap [] := va_S.rf
  have hP : va_P G.1 vwCl (wX G ad S) s.heap := hP
  have hl := lv_entry ([.ref (ad 0), .int (x)]) (n := 4) (Nat.le_of_ble_eq_true rfl)
  rw [lg_entry_eq]
  generalize (lg_sl ([.ref (ad 0), .int (x)]) ++ List.replicate (4 - (lg_sl ([.ref (ad 0), .int (x)])).length) Slot.unset).toArray = ls at hl ⊢
  have hl : lv_has ls 4 [(0, .ref (ad 0)), (1, .int (x))] := hl
  refine W_abs (fun Q hQ => ?_)
  generalize ([.ref (ad 0), .int (x)] : List Value).toArray = args at hT hQ ⊢
  obtain ⟨-, hpz0, hcok0, hctx0, hsay0⟩ := id hcf
  obtain ⟨lz, hlz, hln⟩ := lst_99 (k := 3) C 1 ⟨1, by omega, rfl⟩ h99.2
  refine lv_aload_n hx hb (fk_get fk_cX11_visit_0 0 rfl) rfl (lv_at hl 0 rfl) ?_
  refine va_get (D := G.1) (ci := 13) (v := .ref (ad (9 + 0))) (C := RX11) (T := TX11) (N := 11) hx hb hT inX11 hown hK hP 0 (ix_at (lt71 (by omega)) (cX_0 G ad S)) rfl 1 (by decide) (hT _ m2_70) (fun _ h9 => h9) rfl (fk_get fk_cX11_visit_0 1 rfl) ?_
  refine lv_iload_n hx hb (fk_get fk_cX11_visit_0 2 rfl) rfl (lv_at hl 1 rfl) ?_
  refine va_csq (W.runV (As := [.int (x)]) (rest := []) ⟨hx, hb, hml, hown, hT⟩ (c_x7_at l G ad S s.heap.size (0) (n) (x) ((by decide : 0 < 3)) (hn) (hn6) (hX)) (tV 1 hT m2_120 m2_121 m2_122 m1_9 m2_123 rfl rfl (by decide +kernel) ⟨Nat.le_of_ble_eq_true rfl, Nat.le_of_ble_eq_true rfl⟩) ⟨PcW_blind, va_recv hK hP (ci := 9) (q0 := (9 + 0)) rfl (ix_at (lt71 (by omega)) (cX_shop (pk_shop (by decide : 0 < 3)))), PcW_of hP hK hD _⟩ rfl rfl hl.1 rfl (lv_room (Nat.le_of_ble_eq_true rfl)) (fk_get fk_cX11_visit_0 3 rfl) ⟨Nat.zero_le _, Nat.zero_le _⟩) (fun r_1 hw_2 => ?_)
  try dsimp only at hw_2
  rcases hw_2 with ⟨j_5, hj_5, ej_5, rfl⟩ | ⟨rfl, hn_5⟩
  · rw [show va_rf (some (ad (21 + 6 * 0 + j_5))) = .ref (ad (21 + 6 * 0 + j_5)) from rfl]
    generalize hg_i_5 : 21 + 6 * 0 + j_5 = i_5
    have hp_i_5 : pk i_5 = 7 := by rw [← hg_i_5]; exact pk_c (by decide : 0 < 3) (show j_5 < 6 by omega)
    have hb_i_5 := pk7 hp_i_5
    refine lv_astore_n (lv' := [(2, .ref (ad i_5)), (0, .ref (ad 0)), (1, .int (x))]) hx hb (fk_get fk_cX11_visit_0 4 rfl) rfl hl (by decide) rfl (fun ls hl => ?_)
    refine lv_aload_n hx hb (fk_get fk_cX11_visit_0 5 rfl) rfl (lv_at hl 0 rfl) ?_
    refine lv_ifnonnull (tgt := 15) hx hb (fk_get fk_cX11_visit_0 6 rfl) (by decide) ?_
    have hC_ : isC n x := inC hn6 hj_5 ej_5
    have hcl_ : x.toNatClampNeg = j_5 := by rw [ej_5]; exact nI_clamp (by omega)
    have hcn_ : fF S i_5 0 = x := by rw [← hg_i_5, ej_5]; exact XI.num hX (by omega) (by omega)
    have hgx_ : gX S i_5 (K j_5) = gX S (21 + 6 * 0 + x.toNatClampNeg) (K x.toNatClampNeg) := by rw [hcl_, ← hg_i_5]
    have hcu_ : CuC S 0 i_5 (K j_5) pz τ C := by rw [← hg_i_5]; exact hcf.at hj_5
    have hgb_ : GB 9999 (gX S i_5 (K j_5)) := by rw [← hg_i_5]; exact (hgc _ hj_5).1
    have hg7_ : gX S i_5 (K j_5) 7 = fF S i_5 9 := rfl
    have hg7z_ := hgb_.2.2.2
    refine lv_aload_n hx hb (fk_get fk_cX11_visit_0 9 rfl) rfl (lv_at hl 0 rfl) ?_
    refine va_get (D := G.1) (ci := 5) (v := .int (fF S i_5 9)) (C := RX3) (T := TX3) (N := 10) hx hb hT inX3 hown hK hP i_5 (ix_at (lt71 (by omega)) (cX_cust hp_i_5)) rfl 9 (by decide) (hT _ m1_179) (fun _ h9 => h9) rfl (fk_get fk_cX11_visit_0 10 rfl) ?_
    refine lv_if_eq (tgt := 25) hx hb (fk_get fk_cX11_visit_0 11 rfl) (by decide) (fun c_3 => ?_) (fun c_3 => ?_)
    · have hgo_ : ¬ (gX S (21 + 6 * 0 + x.toNatClampNeg) (K x.toNatClampNeg)) 7 = 1 := by rw [← hgx_]; exact gone_n hg7_ (by first | exact c_3 | exact Decidable.not_not.mp c_3)
      refine lv_aload_n hx hb (fk_get fk_cX11_visit_0 14 rfl) rfl (lv_at hl 1 rfl) ?_
      refine va_get (D := G.1) (ci := 13) (v := .ref (ad (9 + 0))) (C := RX11) (T := TX11) (N := 11) hx hb hT inX11 hown hK hP 0 (ix_at (lt71 (by omega)) (cX_0 G ad S)) rfl 1 (by decide) (hT _ m2_70) (fun _ h9 => h9) rfl (fk_get fk_cX11_visit_0 15 rfl) ?_
      refine lv_aload_n hx hb (fk_get fk_cX11_visit_0 16 rfl) rfl (lv_at hl 0 rfl) ?_
      have hFc := va_self hD hS hA
      refine va_calli (va_runV (As := [.ref (ad i_5)]) (rest := []) ⟨hx, hb, hml, hown, hT⟩ (c_x7_makeVisitE l G ad S s.heap.size (0) (i_5) (K j_5) (pz) (9999) (lz) (τ) (C) ((by decide : 0 < 3)) (hp_i_5) (hcu_) (hgb_) (by omega) (hln) (hlz) (hX)) (tV 1 hT m3_169 m3_170 m3_171 m1_9 m3_172 rfl rfl (by decide +kernel) ⟨Nat.le_of_ble_eq_true rfl, Nat.le_of_ble_eq_true rfl⟩) ⟨PcW_blind, va_recv hK hP (ci := 9) (q0 := (9 + 0)) rfl (ix_at (lt71 (by omega)) (cX_shop (pk_shop (by decide : 0 < 3)))), PcW_of hP hK hD _⟩ rfl rfl hl.1 rfl (lv_room (Nat.le_of_ble_eq_true rfl)) (fk_get fk_cX11_visit_0 17 rfl) ⟨Nat.zero_le _, Nat.zero_le _⟩) hS (fun q _ h => hFc q h) hFc (fun r_4 S_6 t_ H locs ht_ hvm_ hw_5 hB_ hz_ hk_ hS => ?_)
      obtain ⟨hP, -, hD1_⟩ := hB_
      rw [ht_] at hP
      have hD : va_D A (wX G ad S_6) := hD1_.weaken (fun k q _ h => hFc q.1 h)
      try dsimp only at hw_5
      obtain ⟨hX_7, hF_8_, hw_5⟩ := hw_5
      have hF_8 : Fr (fun j k => 21 ≤ j ∧ j < 27 ∧ 5 ≤ k ∧ k ≤ 9) S S_6 := Fr.trans (Fr.rf : Fr (fun j k => 21 ≤ j ∧ j < 27 ∧ 5 ≤ k ∧ k ≤ 9) S S) (Fr.mono hF_8_ (fun j k h => by omega))
      obtain ⟨hbo_, hv_⟩ := hw_5
      have hg_ : gX S_6 i_5 (K j_5) = visF 1 (lstW 3 1 C) (moF (fF S (9 + 0) 6) τ C x (gX S (21 + 6 * 0 + x.toNatClampNeg) (K x.toNatClampNeg))) (gX S (21 + 6 * 0 + x.toNatClampNeg) (K x.toNatClampNeg)) := by
        rw [← hgx_, ← hcn_]
        exact gx_of hF_8_ (by omega) (by omega) (by omega) (by omega) hv_ (fun k hk_ => vis_out hk_)
      rw [hcn_, hgx_] at hbo_
      have hn1_ : fF S_6 (9 + 0) 3 = nI n := (Fr.F hF_8_ (lt71 (by omega)) (by omega)).trans hn
      have hcf1_ : CuF S_6 0 n pz τ C K := hcf.fr (by omega) hn6 hF_8_ (fun d hd_ => by omega) (by omega) (fun j k a b => by omega)
      have hpz1_ := hcf1_.2.1
      have hcok1_ := hcf1_.2.2.1
      have hgv_ : (fun d => gX S_6 (21 + 6 * 0 + d) (K d)) x.toNatClampNeg = visF 1 (lstW 3 1 C) (moF (fF S (9 + 0) 6) τ C x ((fun d => gX S (21 + 6 * 0 + d) (K d)) x.toNatClampNeg)) ((fun d => gX S (21 + 6 * 0 + d) (K d)) x.toNatClampNeg) := by
        show gX S_6 (21 + 6 * 0 + x.toNatClampNeg) (K x.toNatClampNeg) = _
        rw [hcl_, hg_i_5, hg_]
        rw [hcl_]
      have hgo2_ : ∀ d, d < n → ¬ d = x.toNatClampNeg → (fun d => gX S_6 (21 + 6 * 0 + d) (K d)) d = (fun d => gX S (21 + 6 * 0 + d) (K d)) d := fun d hd hne => gx_same hF_8_ (by omega) (by omega) (by omega)
      have hgb1_ : ∀ d, d < n → GB 10000 ((fun d => gX S_6 (21 + 6 * 0 + d) (K d)) d) := vit_gb (G := (fun d => gX S (21 + 6 * 0 + d) (K d))) (Y := (fun d => gX S_6 (21 + 6 * 0 + d) (K d))) (fun d hd => (hgc d hd).1) hgv_ hgo2_
      have hvb_ : ∀ Z : Nat → Nat → Int32, (∀ d, d < n → Z d = bdV ((fun d => gX S_6 (21 + 6 * 0 + d) (K d)) d)) → ∀ d, d < n → Z d = vitG (fF S (9 + 0) 6) (lstW 3 1 C) τ C n (fun d => gX S (21 + 6 * 0 + d) (K d)) x d := fun Z => vig_b (G := (fun d => gX S (21 + 6 * 0 + d) (K d))) (Y := (fun d => gX S_6 (21 + 6 * 0 + d) (K d))) (Z := Z) hC_ hgo_ (fun d hd => (hgc d hd).1) hgv_ hgo2_
      refine lv_istore_n (lv' := [(3, .int (r_4)), (2, .ref (ad i_5)), (0, .ref (ad 0)), (1, .int (x))]) hx hb (fk_get fk_cX11_visit_0 18 rfl) rfl hl (by decide) rfl (fun ls hl => ?_)
      refine lv_aload_n hx hb (fk_get fk_cX11_visit_0 19 rfl) rfl (lv_at hl 2 rfl) ?_
      refine va_get (D := G.1) (ci := 13) (v := .ref (ad (9 + 0))) (C := RX11) (T := TX11) (N := 11) hx hb hT inX11 hown hK hP 0 (ix_at (lt71 (by omega)) (cX_0 G ad S_6)) rfl 1 (by decide) (hT _ m2_70) (fun _ h9 => h9) rfl (fk_get fk_cX11_visit_0 20 rfl) ?_
      have hFc := va_self hD hS hA
      refine va_callv (va_runV (As := []) (rest := []) ⟨hx, hb, hml, hown, hT⟩ (c_x7_boundVisitsX l G ad S_6 H.size (0) (n) (pz) (10000) (lz) (K) (τ) (C) ((by decide : 0 < 3)) (hn1_) (by first | assumption | omega) (hcf1_) (hgb1_) (by omega) (hX_7)) (tV 0 hT m3_194 m3_195 m3_196 m1_9 m3_197 rfl rfl (by decide +kernel) ⟨Nat.le_of_ble_eq_true rfl, Nat.le_of_ble_eq_true rfl⟩) ⟨PcW_blind, va_recv hK hP (ci := 9) (q0 := (9 + 0)) rfl (ix_at (lt71 (by omega)) (cX_shop (pk_shop (by decide : 0 < 3)))), PcW_of hP hK hD _⟩ rfl rfl hl.1 rfl (lv_room (Nat.le_of_ble_eq_true rfl)) (fk_get fk_cX11_visit_0 21 rfl) ⟨Nat.zero_le _, Nat.zero_le _⟩) hS (fun q _ h => hFc q h) hFc (fun S_11 t_ H locs ht_ hvm_ hw_10 hB_ hz_ hk_ hS => ?_)
      obtain ⟨hP, -, hD1_⟩ := hB_
      rw [ht_] at hP
      have hD : va_D A (wX G ad S_11) := hD1_.weaken (fun k q _ h => hFc q.1 h)
      try dsimp only at hw_10
      obtain ⟨hX_12, hF_13_, hw_10⟩ := hw_10
      have hF_13 : Fr (fun j k => 21 ≤ j ∧ j < 27 ∧ 5 ≤ k ∧ k ≤ 9) S S_11 := Fr.trans hF_8 (Fr.mono hF_13_ (fun j k h => by omega))
      have hbd_ := hw_10
      have hpf_ : fF S_11 pz 0 = (lstW 2 5 C) := ((hcf1_.fr (by omega) hn6 hF_13_ (fun d hd_ => by omega) (by omega) (fun j k a b => by omega)).2.2.2.1).1
      have hcf2_ : CuF S_11 0 n pz τ C K := hcf1_.fr (by omega) hn6 hF_13_ (fun d hd_ => by omega) (by omega) (fun j k a b => by omega)
      have hpz2_ := hcf2_.2.1
      have hcok2_ := hcf2_.2.2.1
      refine lv_iload_n hx hb (fk_get fk_cX11_visit_0 22 rfl) rfl (lv_at hl 0 rfl) ?_
      refine lv_aload_n hx hb (fk_get fk_cX11_visit_0 23 rfl) rfl (lv_at hl 2 rfl) ?_
      refine va_get (D := G.1) (ci := 13) (v := .ref (ad (9 + 0))) (C := RX11) (T := TX11) (N := 11) hx hb hT inX11 hown hK hP 0 (ix_at (lt71 (by omega)) (cX_0 G ad S_11)) rfl 1 (by decide) (hT _ m2_70) (fun _ h9 => h9) rfl (fk_get fk_cX11_visit_0 24 rfl) ?_
      refine va_get (D := G.1) (ci := 9) (v := va_rf ((fR S_11 (9 + 0) 7).map ad)) (C := RX7) (T := TX7) (N := 8) hx hb hT inX7 hown hK hP (9 + 0) (ix_at (lt71 (by omega)) (cX_shop (pk_shop (by decide : 0 < 3)))) rfl 7 (by decide) (hT _ m1_217) (fun _ h9 => h9) rfl (fk_get fk_cX11_visit_0 25 rfl) ?_
      rw [show va_rf ((fR S_11 (9 + 0) 7).map ad) = .ref (ad pz) from by rw [hpz2_]; rfl]
      refine va_get (D := G.1) (ci := 3) (v := .int (fF S_11 pz 0)) (C := RX1) (T := TX1) (N := 4) hx hb hT inX1 hown hK hP pz (ix_at (hcok2_).2.1 (cX_ctr (hcok2_).1 (hcok2_).2.2.1)) rfl 0 (by decide) (hT _ m1_114) (fun _ h9 => h9) rfl (fk_get fk_cX11_visit_0 26 rfl) ?_
      refine lv_imul hx hb (fk_get fk_cX11_visit_0 27 rfl) ?_
      subst hQ
      have hpost : XI S_11 ∧ Fr (fun j k => 21 ≤ j ∧ j < 27 ∧ 5 ≤ k ∧ k ≤ 9) S S_11 ∧ (((r_4 * (fF S_11 pz 0)) : Int32) = vitP (fF S (9 + 0) 6) (lstW 2 5 C) τ C n (fun d => gX S (21 + 6 * 0 + d) (K d)) x ∧ ∀ d, d < n → (fun d => gX S_11 (21 + 6 * 0 + d) (K d)) d = vitG (fF S (9 + 0) 6) (lstW 3 1 C) τ C n (fun d => gX S (21 + 6 * 0 + d) (K d)) x d) := by
        exact ⟨hX_12, hF_13, (by first | exact ⟨vit_1 (G := (fun d => gX S (21 + 6 * 0 + d) (K d))) (outC hn6 hn_5), fun d _ => vig_1 (G := (fun d => gX S (21 + 6 * 0 + d) (K d))) (Or.inl (outC hn6 hn_5)) d⟩ | exact ⟨vit_2 (G := (fun d => gX S (21 + 6 * 0 + d) (K d))) hC_ hgo_, fun d _ => vig_1 (G := (fun d => gX S (21 + 6 * 0 + d) (K d))) (Or.inr hgo_) d⟩ | exact ⟨(by rw [hpf_]; exact vit_3 (G := (fun d => gX S (21 + 6 * 0 + d) (K d))) hC_ hgo_ hbo_), hvb_ _ hbd_⟩)⟩
      exact W.iret (v := (r_4 * (fF S_11 pz 0))) hx hb hr (fun t_ ht_ hW_ => ⟨⟨(r_4 * (fF S_11 pz 0)), S_11, rfl, hpost, by rw [ht_]; exact hP, va_K.moved hW_.alike hK, hD⟩, hS.F ht_⟩) hS.2.2 (fk_get fk_cX11_visit_0 28 rfl)
    have hgo_ : (gX S (21 + 6 * 0 + x.toNatClampNeg) (K x.toNatClampNeg)) 7 = 1 := by rw [← hgx_]; exact hg7z_.resolve_left c_3
    refine lv_bipush (v := (-3)) hx hb (fk_get fk_cX11_visit_0 12 rfl) (by decide) ?_
    subst hQ
    have hpost : XI S ∧ Fr (fun j k => 21 ≤ j ∧ j < 27 ∧ 5 ≤ k ∧ k ≤ 9) S S ∧ (((-3) : Int32) = vitP (fF S (9 + 0) 6) (lstW 2 5 C) τ C n (fun d => gX S (21 + 6 * 0 + d) (K d)) x ∧ ∀ d, d < n → (fun d => gX S (21 + 6 * 0 + d) (K d)) d = vitG (fF S (9 + 0) 6) (lstW 3 1 C) τ C n (fun d => gX S (21 + 6 * 0 + d) (K d)) x d) := by
      exact ⟨hX, (Fr.rf : Fr (fun j k => 21 ≤ j ∧ j < 27 ∧ 5 ≤ k ∧ k ≤ 9) S S), (by first | exact ⟨vit_1 (G := (fun d => gX S (21 + 6 * 0 + d) (K d))) (outC hn6 hn_5), fun d _ => vig_1 (G := (fun d => gX S (21 + 6 * 0 + d) (K d))) (Or.inl (outC hn6 hn_5)) d⟩ | exact ⟨vit_2 (G := (fun d => gX S (21 + 6 * 0 + d) (K d))) hC_ hgo_, fun d _ => vig_1 (G := (fun d => gX S (21 + 6 * 0 + d) (K d))) (Or.inr hgo_) d⟩ | exact ⟨(by rw [hpf_]; exact vit_3 (G := (fun d => gX S (21 + 6 * 0 + d) (K d))) hC_ hgo_ hbo_), hvb_ _ hbd_⟩)⟩
    exact W.iret (v := (-3)) hx hb hr (fun t_ ht_ hW_ => ⟨⟨(-3), S, rfl, hpost, by rw [ht_]; exact hP, va_K.moved hW_.alike hK, hD⟩, hS.F ht_⟩) hS.2.2 (fk_get fk_cX11_visit_0 13 rfl)
  rw [show va_rf none = .null from rfl]
  refine lv_astore_nN (lv' := [(2, .null), (0, .ref (ad 0)), (1, .int (x))]) hx hb (fk_get fk_cX11_visit_0 4 rfl) rfl hl (by decide) rfl (fun ls hl => ?_)
  refine lv_aload_nN hx hb (fk_get fk_cX11_visit_0 5 rfl) rfl (lv_at hl 0 rfl) ?_
  refine lv_ifnonnullN hx hb (fk_get fk_cX11_visit_0 6 rfl) ?_
  refine lv_iconst (v := (-1)) hx hb (fk_get fk_cX11_visit_0 7 rfl) (by decide) ?_
  subst hQ
  have hpost : XI S ∧ Fr (fun j k => 21 ≤ j ∧ j < 27 ∧ 5 ≤ k ∧ k ≤ 9) S S ∧ (((-1) : Int32) = vitP (fF S (9 + 0) 6) (lstW 2 5 C) τ C n (fun d => gX S (21 + 6 * 0 + d) (K d)) x ∧ ∀ d, d < n → (fun d => gX S (21 + 6 * 0 + d) (K d)) d = vitG (fF S (9 + 0) 6) (lstW 3 1 C) τ C n (fun d => gX S (21 + 6 * 0 + d) (K d)) x d) := by
    exact ⟨hX, (Fr.rf : Fr (fun j k => 21 ≤ j ∧ j < 27 ∧ 5 ≤ k ∧ k ≤ 9) S S), (by first | exact ⟨vit_1 (G := (fun d => gX S (21 + 6 * 0 + d) (K d))) (outC hn6 hn_5), fun d _ => vig_1 (G := (fun d => gX S (21 + 6 * 0 + d) (K d))) (Or.inl (outC hn6 hn_5)) d⟩ | exact ⟨vit_2 (G := (fun d => gX S (21 + 6 * 0 + d) (K d))) hC_ hgo_, fun d _ => vig_1 (G := (fun d => gX S (21 + 6 * 0 + d) (K d))) (Or.inr hgo_) d⟩ | exact ⟨(by rw [hpf_]; exact vit_3 (G := (fun d => gX S (21 + 6 * 0 + d) (K d))) hC_ hgo_ hbo_), hvb_ _ hbd_⟩)⟩
  exact W.iret (v := (-1)) hx hb hr (fun t_ ht_ hW_ => ⟨⟨(-1), S, rfl, hpost, by rw [ht_]; exact hP, va_K.moved hW_.alike hK, hD⟩, hS.F ht_⟩) hS.2.2 (fk_get fk_cX11_visit_0 8 rfl)
set_option maxHeartbeats 800000 in
set_option maxRecDepth 100000 in
theorem c_x11_saturdayX (l : Launch) (G : GG) (ad : Nat → Nat) (S : FS) (sz : Nat) (n pz : Nat) (K : Nat → Nat) (τ : Nat → Int32) (C : Cls) (hn : fF S (9 + 0) 3 = nI n) (hn6 : n ≤ 6) (hcf : CuF S 0 n pz τ C K) (hgc : ∀ d, d < n → GC 9999 (gX S (21 + 6 * 0 + d) (K d))) (h99 : N99 C) (hX : XI S) : Met l yX11_saturday (Cond.code yX11_saturday cX11_saturday 2 (some .int) :: TBL) ({ frames := 7, cells := 0, slots := 0, locals := 200 } : Room) (PcW G (wX G ad S) sz [.ref (ad 0)]) (va_Qi (fun (r : Int32) (S' : FS) => XI S' ∧ Fr (fun j k => 21 ≤ j ∧ j < 27 ∧ 5 ≤ k ∧ k ≤ 9) S S' ∧ (r = sbN (fF S (9 + 0) 6) τ C (fun d => gX S (21 + 6 * 0 + d) (K d)) n * (lstW 2 5 C) ∧ ∀ d, d < n → (fun d => gX S' (21 + 6 * 0 + d) (K d)) d = saG 0 (fF S (9 + 0) 6) (lstW 3 1 C) τ C n (fun d => gX S (21 + 6 * 0 + d) (K d)) d)) (fun S' t => BW G (va_A (wX G ad S) sz) (wX G ad S') t) (va_A (wX G ad S) sz)) 0 0 (va_A (wX G ad S) sz) := by
  refine Met.ofW (cc := cX11_saturday) (maxL := 2) (ret := (some .int)) (by decide) rfl ?_
  intro p e s m args below meth c₀ s₁ B hml hv
  obtain ⟨rfl, hsz, hP, hK, hD0⟩ := hv
  have hx := B.exec
  have hb := B.bytes
  have hr := B.returns
  have hT : ∀ w ∈ TBL, w.before ([.ref (ad 0)] : List Value).toArray s = true := fun w h => atoms_spec (ws := Cond.code yX11_saturday cX11_saturday 2 (some .int) :: TBL) B.pre w (List.mem_cons_of_mem _ h)
  have hown : s.vm.findClass "LittleMore" = some m.cls := findClass_of_methodNamed B.named
  have hlocks := B.notSynchronized
  subst hsz
  have hD := hD0.self (sz := s.heap.size)
  generalize hAe : va_A (wX G ad S) s.heap.size = A at hD ⊢
  have hA : ∀ q : Nat, s.heap.size ≤ q → A q := fun q h => by rw [← hAe]; exact Or.inr h
  have hS : va_S A s.heap s.heap [] := va_S.rf
  have hP : va_P G.1 vwCl (wX G ad S) s.heap := hP
  have hl := lv_entry ([.ref (ad 0)]) (n := 2) (Nat.le_of_ble_eq_true rfl)
  rw [lg_entry_eq]
  generalize (lg_sl ([.ref (ad 0)]) ++ List.replicate (2 - (lg_sl ([.ref (ad 0)])).length) Slot.unset).toArray = ls at hl ⊢
  have hl : lv_has ls 2 [(0, .ref (ad 0))] := hl
  refine W_abs (fun Q hQ => ?_)
  generalize ([.ref (ad 0)] : List Value).toArray = args at hT hQ ⊢
  obtain ⟨-, hpz0, hcok0, hctx0, hsay0⟩ := id hcf
  obtain ⟨lz, hlz, hln⟩ := lst_99 (k := 3) C 1 ⟨1, by omega, rfl⟩ h99.2
  refine lv_aload_n hx hb (fk_get fk_cX11_saturday_0 0 rfl) rfl (lv_at hl 0 rfl) ?_
  refine va_get (D := G.1) (ci := 13) (v := .ref (ad (9 + 0))) (C := RX11) (T := TX11) (N := 11) hx hb hT inX11 hown hK hP 0 (ix_at (lt71 (by omega)) (cX_0 G ad S)) rfl 1 (by decide) (hT _ m2_70) (fun _ h9 => h9) rfl (fk_get fk_cX11_saturday_0 1 rfl) ?_
  have hFc := va_self hD hS hA
  refine va_calli (va_runV (As := []) (rest := []) ⟨hx, hb, hml, hown, hT⟩ (c_x7_makeSaturdayX l G ad S s.heap.size (0) (n) (pz) (9999) (lz) (K) (τ) (C) ((by decide : 0 < 3)) (by first | assumption | omega) (by first | assumption | omega) (hcf) (fun d hd => (hgc d hd).1) (by omega) (hln) (hlz) (hX)) (tV 0 hT m3_202 m3_203 m3_204 m1_9 m3_205 rfl rfl (by decide +kernel) ⟨Nat.le_of_ble_eq_true rfl, Nat.le_of_ble_eq_true rfl⟩) ⟨PcW_blind, va_recv hK hP (ci := 9) (q0 := (9 + 0)) rfl (ix_at (lt71 (by omega)) (cX_shop (pk_shop (by decide : 0 < 3)))), PcW_of hP hK hD _⟩ rfl rfl hl.1 rfl (lv_room (Nat.le_of_ble_eq_true rfl)) (fk_get fk_cX11_saturday_0 2 rfl) ⟨Nat.zero_le _, Nat.zero_le _⟩) hS (fun q _ h => hFc q h) hFc (fun r_1 S_3 t_ H locs ht_ hvm_ hw_2 hB_ hz_ hk_ hS => ?_)
  obtain ⟨hP, -, hD1_⟩ := hB_
  rw [ht_] at hP
  have hD : va_D A (wX G ad S_3) := hD1_.weaken (fun k q _ h => hFc q.1 h)
  try dsimp only at hw_2
  obtain ⟨hX_4, hF_5_, hw_2⟩ := hw_2
  have hF_5 : Fr (fun j k => 21 ≤ j ∧ j < 27 ∧ 5 ≤ k ∧ k ≤ 9) S S_3 := Fr.trans (Fr.rf : Fr (fun j k => 21 ≤ j ∧ j < 27 ∧ 5 ≤ k ∧ k ≤ 9) S S) (Fr.mono hF_5_ (fun j k h => by omega))
  obtain ⟨hsr_, hsg_⟩ := hw_2
  have hn1_ : fF S_3 (9 + 0) 3 = nI n := (Fr.F hF_5_ (lt71 (by omega)) (by omega)).trans hn
  have hcf1_ : CuF S_3 0 n pz τ C K := hcf.fr (by omega) hn6 hF_5_ (fun d hd_ => by omega) (by omega) (fun j k a b => by omega)
  have hgb1_ := sa_gb hsg_ (fun d hd => (hgc d hd).1) (by omega)
  refine lv_istore_n (lv' := [(1, .int (r_1)), (0, .ref (ad 0))]) hx hb (fk_get fk_cX11_saturday_0 3 rfl) rfl hl (by decide) rfl (fun ls hl => ?_)
  refine lv_aload_n hx hb (fk_get fk_cX11_saturday_0 4 rfl) rfl (lv_at hl 1 rfl) ?_
  refine va_get (D := G.1) (ci := 13) (v := .ref (ad (9 + 0))) (C := RX11) (T := TX11) (N := 11) hx hb hT inX11 hown hK hP 0 (ix_at (lt71 (by omega)) (cX_0 G ad S_3)) rfl 1 (by decide) (hT _ m2_70) (fun _ h9 => h9) rfl (fk_get fk_cX11_saturday_0 5 rfl) ?_
  have hFc := va_self hD hS hA
  refine va_callv (va_runV (As := []) (rest := []) ⟨hx, hb, hml, hown, hT⟩ (c_x7_boundVisitsX l G ad S_3 H.size (0) (n) (pz) (10000) (lz) (K) (τ) (C) ((by decide : 0 < 3)) (hn1_) (by first | assumption | omega) (hcf1_) (hgb1_) (by omega) (hX_4)) (tV 0 hT m3_194 m3_195 m3_196 m1_9 m3_197 rfl rfl (by decide +kernel) ⟨Nat.le_of_ble_eq_true rfl, Nat.le_of_ble_eq_true rfl⟩) ⟨PcW_blind, va_recv hK hP (ci := 9) (q0 := (9 + 0)) rfl (ix_at (lt71 (by omega)) (cX_shop (pk_shop (by decide : 0 < 3)))), PcW_of hP hK hD _⟩ rfl rfl hl.1 rfl (lv_room (Nat.le_of_ble_eq_true rfl)) (fk_get fk_cX11_saturday_0 6 rfl) ⟨Nat.zero_le _, Nat.zero_le _⟩) hS (fun q _ h => hFc q h) hFc (fun S_8 t_ H locs ht_ hvm_ hw_7 hB_ hz_ hk_ hS => ?_)
  obtain ⟨hP, -, hD1_⟩ := hB_
  rw [ht_] at hP
  have hD : va_D A (wX G ad S_8) := hD1_.weaken (fun k q _ h => hFc q.1 h)
  try dsimp only at hw_7
  obtain ⟨hX_9, hF_10_, hw_7⟩ := hw_7
  have hF_10 : Fr (fun j k => 21 ≤ j ∧ j < 27 ∧ 5 ≤ k ∧ k ≤ 9) S S_8 := Fr.trans hF_5 (Fr.mono hF_10_ (fun j k h => by omega))
  have hbd_ := hw_7
  have hpf_ : fF S_8 pz 0 = (lstW 2 5 C) := ((hcf1_.fr (by omega) hn6 hF_10_ (fun d hd_ => by omega) (by omega) (fun j k a b => by omega)).2.2.2.1).1
  have hcf2_ : CuF S_8 0 n pz τ C K := hcf1_.fr (by omega) hn6 hF_10_ (fun d hd_ => by omega) (by omega) (fun j k a b => by omega)
  have hpz2_ := hcf2_.2.1
  have hcok2_ := hcf2_.2.2.1
  refine lv_iload_n hx hb (fk_get fk_cX11_saturday_0 7 rfl) rfl (lv_at hl 0 rfl) ?_
  refine lv_aload_n hx hb (fk_get fk_cX11_saturday_0 8 rfl) rfl (lv_at hl 1 rfl) ?_
  refine va_get (D := G.1) (ci := 13) (v := .ref (ad (9 + 0))) (C := RX11) (T := TX11) (N := 11) hx hb hT inX11 hown hK hP 0 (ix_at (lt71 (by omega)) (cX_0 G ad S_8)) rfl 1 (by decide) (hT _ m2_70) (fun _ h9 => h9) rfl (fk_get fk_cX11_saturday_0 9 rfl) ?_
  refine va_get (D := G.1) (ci := 9) (v := va_rf ((fR S_8 (9 + 0) 7).map ad)) (C := RX7) (T := TX7) (N := 8) hx hb hT inX7 hown hK hP (9 + 0) (ix_at (lt71 (by omega)) (cX_shop (pk_shop (by decide : 0 < 3)))) rfl 7 (by decide) (hT _ m1_217) (fun _ h9 => h9) rfl (fk_get fk_cX11_saturday_0 10 rfl) ?_
  rw [show va_rf ((fR S_8 (9 + 0) 7).map ad) = .ref (ad pz) from by rw [hpz2_]; rfl]
  refine va_get (D := G.1) (ci := 3) (v := .int (fF S_8 pz 0)) (C := RX1) (T := TX1) (N := 4) hx hb hT inX1 hown hK hP pz (ix_at (hcok2_).2.1 (cX_ctr (hcok2_).1 (hcok2_).2.2.1)) rfl 0 (by decide) (hT _ m1_114) (fun _ h9 => h9) rfl (fk_get fk_cX11_saturday_0 11 rfl) ?_
  refine lv_imul hx hb (fk_get fk_cX11_saturday_0 12 rfl) ?_
  subst hQ
  have hpost : XI S_8 ∧ Fr (fun j k => 21 ≤ j ∧ j < 27 ∧ 5 ≤ k ∧ k ≤ 9) S S_8 ∧ (((r_1 * (fF S_8 pz 0)) : Int32) = sbN (fF S (9 + 0) 6) τ C (fun d => gX S (21 + 6 * 0 + d) (K d)) n * (lstW 2 5 C) ∧ ∀ d, d < n → (fun d => gX S_8 (21 + 6 * 0 + d) (K d)) d = saG 0 (fF S (9 + 0) 6) (lstW 3 1 C) τ C n (fun d => gX S (21 + 6 * 0 + d) (K d)) d) := by
    exact ⟨hX_9, hF_10, ⟨by rw [hpf_, hsr_], fun d hd => (hbd_ d hd).trans ((congrArg bdV (hsg_ d hd)).trans (bdV_sa (fun e he => (hgc e he).1) d hd))⟩⟩
  exact W.iret (v := (r_1 * (fF S_8 pz 0))) hx hb hr (fun t_ ht_ hW_ => ⟨⟨(r_1 * (fF S_8 pz 0)), S_8, rfl, hpost, by rw [ht_]; exact hP, va_K.moved hW_.alike hK, hD⟩, hS.F ht_⟩) hS.2.2 (fk_get fk_cX11_saturday_0 13 rfl)
set_option maxHeartbeats 800000 in
set_option maxRecDepth 100000 in
theorem c_x11_judgeX (l : Launch) (G : GG) (ad : Nat → Nat) (S : FS) (sz : Nat) (n pz : Nat) (K : Nat → Nat) (τ : Nat → Int32) (C : Cls) (t_ i_ : Int32) (hn : fF S (9 + 0) 3 = nI n) (hn6 : n ≤ 6) (hcf : CuF S 0 n pz τ C K) (hgc : ∀ d, d < n → GC 9999 (gX S (21 + 6 * 0 + d) (K d))) (h99 : N99 C) (hX : XI S) : Met l yX11_judge (Cond.code yX11_judge cX11_judge 4 (some .int) :: TBL) ({ frames := 3, cells := 0, slots := 0, locals := 88 } : Room) (PcW G (wX G ad S) sz [.ref (ad 0), .int (t_), .int (i_)]) (vp_Si (fun (r : Int32) => r = judP (fA S 62 t_.toNatClampNeg = 0 ∨ fA S 62 t_.toNatClampNeg = -1) (fA S 63 t_.toNatClampNeg) (fun k => fL S (65 + t_.toNatClampNeg) k) (fun d => gX S (21 + 6 * 0 + d) (K d) 3) t_ i_ n)) 0 0 (fun _ => False) := by
  refine Met.ofW (cc := cX11_judge) (maxL := 4) (ret := (some .int)) (by decide) rfl ?_
  intro p e s m args below meth c₀ s₁ B hml hv
  obtain ⟨rfl, hsz, hP, hK, hD0⟩ := hv
  have hx := B.exec
  have hb := B.bytes
  have hr := B.returns
  have hT : ∀ w ∈ TBL, w.before ([.ref (ad 0), .int (t_), .int (i_)] : List Value).toArray s = true := fun w h => atoms_spec (ws := Cond.code yX11_judge cX11_judge 4 (some .int) :: TBL) B.pre w (List.mem_cons_of_mem _ h)
  have hown : s.vm.findClass "LittleMore" = some m.cls := findClass_of_methodNamed B.named
  have hlocks := B.notSynchronized
  have hD := hD0
  have hP : va_P G.1 vwCl (wX G ad S) s.heap := hP
  have hl := lv_entry ([.ref (ad 0), .int (t_), .int (i_)]) (n := 4) (Nat.le_of_ble_eq_true rfl)
  rw [lg_entry_eq]
  generalize (lg_sl ([.ref (ad 0), .int (t_), .int (i_)]) ++ List.replicate (4 - (lg_sl ([.ref (ad 0), .int (t_), .int (i_)])).length) Slot.unset).toArray = ls at hl ⊢
  have hl : lv_has ls 4 [(0, .ref (ad 0)), (1, .int (t_)), (2, .int (i_))] := hl
  refine W_abs (fun Q hQ => ?_)
  generalize ([.ref (ad 0), .int (t_), .int (i_)] : List Value).toArray = args at hT hQ ⊢
  obtain ⟨-, hpz0, hcok0, hctx0, hsay0⟩ := id hcf
  obtain ⟨lz, hlz, hln⟩ := lst_99 (k := 3) C 1 ⟨1, by omega, rfl⟩ h99.2
  refine lv_iload_n hx hb (fk_get fk_cX11_judge_0 0 rfl) rfl (lv_at hl 1 rfl) ?_
  refine vp_callSi (W.runS (As := [.int (t_)]) (rest := []) ⟨hx, hb, hml, hown, hT⟩ (c_xisNoTape l (t_) ) (tS 1 hT m4_102 m4_103 m1_1 m4_104 rfl rfl (by decide +kernel) ⟨Nat.le_of_ble_eq_true rfl, Nat.le_of_ble_eq_true rfl⟩) ⟨PcN_blind, PcN_of _ _ _⟩ rfl rfl hl.1 rfl (lv_room (Nat.le_of_ble_eq_true rfl)) (fk_get fk_cX11_judge_0 1 rfl) ⟨Nat.zero_le _, Nat.zero_le _⟩) (fun r_1 hw_2 => ?_)
  try dsimp only at hw_2
  refine lv_if_eq (tgt := 9) hx hb (fk_get fk_cX11_judge_0 2 rfl) (by decide) (fun c_3 => ?_) (fun c_3 => ?_)
  · have p_c_3 := if1_f hw_2 c_3
    obtain ⟨ta, hta, et⟩ := out_6 p_c_3
    have hcy_ : t_.toNatClampNeg = ta := by rw [et]; exact nI_clamp (by omega)
    have hT_ := tap_i p_c_3
    refine lv_aload_n hx hb (fk_get fk_cX11_judge_0 5 rfl) rfl (lv_at hl 0 rfl) ?_
    refine va_get (D := G.1) (ci := 13) (v := .ref (ad 62)) (C := RX11) (T := TX11) (N := 11) hx hb hT inX11 hown hK hP 0 (ix_at (lt71 (by omega)) (cX_0 G ad S)) rfl 6 (by decide) (hT _ m2_75) (fun _ h9 => h9) rfl (fk_get fk_cX11_judge_0 6 rfl) ?_
    refine lv_iload_n hx hb (fk_get fk_cX11_judge_0 7 rfl) rfl (lv_at hl 1 rfl) ?_
    refine r_iald (f := fA S 62) hx hb hK hP 62 0 (ix_at (lt71 (by omega)) (cX_arr (show isA 62 0 6 from by decide))) rfl (j := ta) (et) (by omega) (by decide) (fk_get fk_cX11_judge_0 8 rfl) ?_
    refine lv_if_eq (tgt := 31) hx hb (fk_get fk_cX11_judge_0 9 rfl) (by decide) (fun c_4 => ?_) (fun c_4 => ?_)
    · have hok_ : fA S 62 ta = 0 ∨ fA S 62 ta = -1 := Or.inl (by first | exact c_4 | exact Decidable.not_not.mp c_4)
      refine lv_iconst (v := 0) hx hb (fk_get fk_cX11_judge_0 18 rfl) (by decide) ?_
      refine lv_istore_n (lv' := [(3, .int (0)), (0, .ref (ad 0)), (1, .int (t_)), (2, .int (i_))]) hx hb (fk_get fk_cX11_judge_0 19 rfl) rfl hl (by decide) rfl (fun ls hl => ?_)
      have lp_5 : ∀ (fu : Nat) (c : Nat) (ls : Array Slot),  (c ≤ n) → (n < c + fu) → (juN (fA S 63 ta) (fun k => fL S (65 + ta) k) (fun d => gX S (21 + 6 * 0 + d) (K d) 3) i_ (n - c) c = (juN (fA S 63 ta) (fun k => fL S (65 + ta) k) (fun d => gX S (21 + 6 * 0 + d) (K d) 3) i_ n 0)) → lv_has ls 4 [(3, .int ((nI c))), (0, .ref (ad 0)), (1, .int (t_)), (2, .int (i_))] → W p l e ({ frames := 3, cells := 0, slots := 0, locals := 88 } : Room) s m args below meth c₀ s.heap [] 0 0 Q (F0 m 33 ls []) := by
        intro fu
        induction fu with
        | zero =>
          intro c ls hk hf hJ_ hl
          exact absurd hf (by omega)
        | succ fu ih =>
          intro c ls hk hf hJ_ hl
          refine lv_iload_n hx hb (fk_get fk_cX11_judge_0 20 rfl) rfl (lv_at hl 0 rfl) ?_
          refine lv_aload_n hx hb (fk_get fk_cX11_judge_0 21 rfl) rfl (lv_at hl 1 rfl) ?_
          refine va_get (D := G.1) (ci := 13) (v := .ref (ad (9 + 0))) (C := RX11) (T := TX11) (N := 11) hx hb hT inX11 hown hK hP 0 (ix_at (lt71 (by omega)) (cX_0 G ad S)) rfl 1 (by decide) (hT _ m2_70) (fun _ h9 => h9) rfl (fk_get fk_cX11_judge_0 22 rfl) ?_
          refine va_get (D := G.1) (ci := 9) (v := .int (fF S (9 + 0) 3)) (C := RX7) (T := TX7) (N := 8) hx hb hT inX7 hown hK hP (9 + 0) (ix_at (lt71 (by omega)) (cX_shop (pk_shop (by decide : 0 < 3)))) rfl 3 (by decide) (hT _ m1_209) (fun _ h9 => h9) rfl (fk_get fk_cX11_judge_0 23 rfl) ?_
          rw [hn]
          refine lv_icmp_ge (tgt := 100) hx hb (fk_get fk_cX11_judge_0 24 rfl) (by decide) (fun c_6 => ?_) (fun c_6 => ?_)
          · have q_c_6 : n ≤ c := ci_le (a := n) (b := c) (by omega) (by omega) c_6
            have hfi_ := ju_e hJ_ (by omega)
            refine lv_bipush (v := (-5)) hx hb (fk_get fk_cX11_judge_1 28 rfl) (by decide) ?_
            subst hQ
            have hpost : ((-5) : Int32) = judP (fA S 62 t_.toNatClampNeg = 0 ∨ fA S 62 t_.toNatClampNeg = -1) (fA S 63 t_.toNatClampNeg) (fun k => fL S (65 + t_.toNatClampNeg) k) (fun d => gX S (21 + 6 * 0 + d) (K d) 3) t_ i_ n := by
              first | exact jud_1 hnT_ | (rw [hcy_]; exact jud_2 hT_ hnok_) | (rw [hcy_]; exact jud_3 hT_ hok_ hfi_.symm) | (rw [hcy_]; exact jud_3 hT_ hok_ hfi_)
            exact W.iret (v := (-5)) hx hb hr (fun t_ ht_ hW_ => ⟨(-5), rfl, hpost, ht_⟩) (fun q h => by cases h) (fk_get fk_cX11_judge_1 29 rfl)
          have q_c_6 : c < n := ci_nle (a := n) (b := c) (by omega) (by omega) c_6
          refine lv_iload_n hx hb (fk_get fk_cX11_judge_0 25 rfl) rfl (lv_at hl 3 rfl) ?_
          refine lv_if_lt (tgt := 60) hx hb (fk_get fk_cX11_judge_0 26 rfl) (by decide) (fun c_7 => ?_) (fun c_7 => ?_)
          · have hfi_ := ju_n hJ_ (by omega) (mn_i c_7)
            refine lv_bipush (v := 100) hx hb (fk_get fk_cX11_judge_1 3 rfl) (by decide) ?_
            refine lv_iload_n hx hb (fk_get fk_cX11_judge_1 4 rfl) rfl (lv_at hl 0 rfl) ?_
            refine lv_iadd hx hb (fk_get fk_cX11_judge_1 5 rfl) ?_
            subst hQ
            have hpost : ((100 + (nI c)) : Int32) = judP (fA S 62 t_.toNatClampNeg = 0 ∨ fA S 62 t_.toNatClampNeg = -1) (fA S 63 t_.toNatClampNeg) (fun k => fL S (65 + t_.toNatClampNeg) k) (fun d => gX S (21 + 6 * 0 + d) (K d) 3) t_ i_ n := by
              first | exact jud_1 hnT_ | (rw [hcy_]; exact jud_2 hT_ hnok_) | (rw [hcy_]; exact jud_3 hT_ hok_ hfi_.symm) | (rw [hcy_]; exact jud_3 hT_ hok_ hfi_)
            exact W.iret (v := (100 + (nI c))) hx hb hr (fun t_ ht_ hW_ => ⟨(100 + (nI c)), rfl, hpost, ht_⟩) (fun q h => by cases h) (fk_get fk_cX11_judge_1 6 rfl)
          have hi0_ := c_7
          refine lv_iload_n hx hb (fk_get fk_cX11_judge_0 27 rfl) rfl (lv_at hl 3 rfl) ?_
          refine lv_aload_n hx hb (fk_get fk_cX11_judge_0 28 rfl) rfl (lv_at hl 1 rfl) ?_
          refine va_get (D := G.1) (ci := 13) (v := .ref (ad 63)) (C := RX11) (T := TX11) (N := 11) hx hb hT inX11 hown hK hP 0 (ix_at (lt71 (by omega)) (cX_0 G ad S)) rfl 7 (by decide) (hT _ m2_76) (fun _ h9 => h9) rfl (fk_get fk_cX11_judge_0 29 rfl) ?_
          refine lv_iload_n hx hb (fk_get fk_cX11_judge_0 30 rfl) rfl (lv_at hl 2 rfl) ?_
          refine r_iald (f := fA S 63) hx hb hK hP 63 0 (ix_at (lt71 (by omega)) (cX_arr (show isA 63 0 6 from by decide))) rfl (j := ta) (et) (by omega) (by decide) (fk_get fk_cX11_judge_0 31 rfl) ?_
          obtain ⟨n_8, en_8, bn_8⟩ := XI.lens hX (t := ta) (by omega)
          rw [en_8]
          refine lv_iload_n hx hb (fk_get fk_cX11_judge_1 0 rfl) rfl (lv_at hl 0 rfl) ?_
          refine lv_isub hx hb (fk_get fk_cX11_judge_1 1 rfl) ?_
          refine lv_icmp_lt (tgt := 65) hx hb (fk_get fk_cX11_judge_1 2 rfl) (by decide) (fun c_9 => ?_) (fun c_9 => ?_)
          · have hi1_ := c_9
            obtain ⟨bz, ebz, hbz⟩ := jg_le (by omega) (by omega) (by assumption) c_9
            have hb2_ : i_.toNatClampNeg = bz := by rw [ebz]; exact nI_clamp (by omega)
            refine lv_aload_n hx hb (fk_get fk_cX11_judge_1 7 rfl) rfl (lv_at hl 1 rfl) ?_
            refine va_get (D := G.1) (ci := 13) (v := .ref (ad 64)) (C := RX11) (T := TX11) (N := 11) hx hb hT inX11 hown hK hP 0 (ix_at (lt71 (by omega)) (cX_0 G ad S)) rfl 8 (by decide) (hT _ m2_77) (fun _ h9 => h9) rfl (fk_get fk_cX11_judge_1 8 rfl) ?_
            refine lv_iload_n hx hb (fk_get fk_cX11_judge_1 9 rfl) rfl (lv_at hl 2 rfl) ?_
            refine x_itm hx hb hK hP (k := ta) (by omega) (et) (fk_get fk_cX11_judge_1 10 rfl) ?_
            refine lv_iload_n hx hb (fk_get fk_cX11_judge_1 11 rfl) rfl (lv_at hl 3 rfl) ?_
            refine lv_iload_n hx hb (fk_get fk_cX11_judge_1 12 rfl) rfl (lv_at hl 0 rfl) ?_
            refine lv_iadd hx hb (fk_get fk_cX11_judge_1 13 rfl) ?_
            refine r_lald (f := fL S (65 + ta)) hx hb hK hP (65 + ta) 1 (ix_at (lt71 (by omega)) (cX_lng (show ta < 6 from by omega))) rfl (j := (bz + c)) (by rw [ebz, nI_add]) (by omega) (by decide) (fk_get fk_cX11_judge_1 14 rfl) ?_
            refine lv_aload_n hx hb (fk_get fk_cX11_judge_1 15 rfl) rfl (lv_at hl 1 rfl) ?_
            refine va_get (D := G.1) (ci := 13) (v := .ref (ad (9 + 0))) (C := RX11) (T := TX11) (N := 11) hx hb hT inX11 hown hK hP 0 (ix_at (lt71 (by omega)) (cX_0 G ad S)) rfl 1 (by decide) (hT _ m2_70) (fun _ h9 => h9) rfl (fk_get fk_cX11_judge_1 16 rfl) ?_
            refine va_get (D := G.1) (ci := 9) (v := .ref (ad (9 + 0 + 3))) (C := RX7) (T := TX7) (N := 8) hx hb hT inX7 hown hK hP (9 + 0) (ix_at (lt71 (by omega)) (cX_shop (pk_shop (by decide : 0 < 3)))) rfl 0 (by decide) (hT _ m1_203) (fun _ h9 => h9) rfl (fk_get fk_cX11_judge_1 17 rfl) ?_
            refine lv_iload_n hx hb (fk_get fk_cX11_judge_1 18 rfl) rfl (lv_at hl 0 rfl) ?_
            refine x_ppl hx hb hK hP (by decide : 0 < 3) (k := c) (by omega) (rfl) (fk_get fk_cX11_judge_1 19 rfl) ?_
            generalize hg_i_83 : 21 + 6 * 0 + c = i_83
            have hp_i_83 : pk i_83 = 7 := by rw [← hg_i_83]; exact pk_c (by decide : 0 < 3) (by omega)
            have hb_i_83 := pk7 hp_i_83
            refine va_get (D := G.1) (ci := 5) (v := .int (fF S i_83 5)) (C := RX3) (T := TX3) (N := 10) hx hb hT inX3 hown hK hP i_83 (ix_at (lt71 (by omega)) (cX_cust hp_i_83)) rfl 5 (by decide) (hT _ m1_160) (fun _ h9 => h9) rfl (fk_get fk_cX11_judge_1 20 rfl) ?_
            refine lv_i2l hx hb (fk_get fk_cX11_judge_1 21 rfl) rfl ?_
            refine W.lcmp hx hb (fk_get fk_cX11_judge_1 22 rfl) ?_
            refine lv_if_eq (tgt := 94) hx hb (fk_get fk_cX11_judge_1 23 rfl) (by decide) (fun c_10 => ?_) (fun c_10 => ?_)
            · have hst_ := (ju_y hJ_ (by omega) (jx_y (by omega) (by omega) hi0_ hi1_ (by assumption))).1 (by rw [hb2_]; exact jt_e (lc_eq (by first | exact c_10 | exact Decidable.not_not.mp c_10)) (by assumption))
              refine lv_iinc (v := (nI (c + 1))) (lv' := [(3, .int ((nI (c + 1)))), (0, .ref (ad 0)), (1, .int (t_)), (2, .int (i_))]) hx hb (fk_get fk_cX11_judge_1 26 rfl) hl (k := 0) rfl ((nI_1 c)) (by decide) rfl (fun ls hl => ?_)
              refine lv_goto (tgt := 33) hx hb (fk_get fk_cX11_judge_1 27 rfl) (by decide) ?_
              exact ih (c + 1) ls (by omega) (by omega) (hst_) (lv_sub hl [0, 1, 2, 3] rfl)
            have hfi_ := (ju_y hJ_ (by omega) (jx_y (by omega) (by omega) hi0_ hi1_ (by assumption))).2 (by rw [hb2_]; exact jt_n (lc_ne c_10) (by assumption))
            refine lv_iload_n hx hb (fk_get fk_cX11_judge_1 24 rfl) rfl (lv_at hl 0 rfl) ?_
            subst hQ
            have hpost : ((nI c) : Int32) = judP (fA S 62 t_.toNatClampNeg = 0 ∨ fA S 62 t_.toNatClampNeg = -1) (fA S 63 t_.toNatClampNeg) (fun k => fL S (65 + t_.toNatClampNeg) k) (fun d => gX S (21 + 6 * 0 + d) (K d) 3) t_ i_ n := by
              first | exact jud_1 hnT_ | (rw [hcy_]; exact jud_2 hT_ hnok_) | (rw [hcy_]; exact jud_3 hT_ hok_ hfi_.symm) | (rw [hcy_]; exact jud_3 hT_ hok_ hfi_)
            exact W.iret (v := (nI c)) hx hb hr (fun t_ ht_ hW_ => ⟨(nI c), rfl, hpost, ht_⟩) (fun q h => by cases h) (fk_get fk_cX11_judge_1 25 rfl)
          have hfi_ := ju_n hJ_ (by omega) (jx_n (by omega) (by omega) hi0_ c_9 (by assumption))
          refine lv_bipush (v := 100) hx hb (fk_get fk_cX11_judge_1 3 rfl) (by decide) ?_
          refine lv_iload_n hx hb (fk_get fk_cX11_judge_1 4 rfl) rfl (lv_at hl 0 rfl) ?_
          refine lv_iadd hx hb (fk_get fk_cX11_judge_1 5 rfl) ?_
          subst hQ
          have hpost : ((100 + (nI c)) : Int32) = judP (fA S 62 t_.toNatClampNeg = 0 ∨ fA S 62 t_.toNatClampNeg = -1) (fA S 63 t_.toNatClampNeg) (fun k => fL S (65 + t_.toNatClampNeg) k) (fun d => gX S (21 + 6 * 0 + d) (K d) 3) t_ i_ n := by
            first | exact jud_1 hnT_ | (rw [hcy_]; exact jud_2 hT_ hnok_) | (rw [hcy_]; exact jud_3 hT_ hok_ hfi_.symm) | (rw [hcy_]; exact jud_3 hT_ hok_ hfi_)
          exact W.iret (v := (100 + (nI c))) hx hb hr (fun t_ ht_ hW_ => ⟨(100 + (nI c)), rfl, hpost, ht_⟩) (fun q h => by cases h) (fk_get fk_cX11_judge_1 6 rfl)
      exact lp_5 (n + 1) (0) ls (by omega) (by omega) (rfl) (lv_sub hl [0, 1, 2, 3] rfl)
    have hk0_ : ¬ fA S 62 ta = 0 := c_4
    refine lv_aload_n hx hb (fk_get fk_cX11_judge_0 10 rfl) rfl (lv_at hl 0 rfl) ?_
    refine va_get (D := G.1) (ci := 13) (v := .ref (ad 62)) (C := RX11) (T := TX11) (N := 11) hx hb hT inX11 hown hK hP 0 (ix_at (lt71 (by omega)) (cX_0 G ad S)) rfl 6 (by decide) (hT _ m2_75) (fun _ h9 => h9) rfl (fk_get fk_cX11_judge_0 11 rfl) ?_
    refine lv_iload_n hx hb (fk_get fk_cX11_judge_0 12 rfl) rfl (lv_at hl 1 rfl) ?_
    refine r_iald (f := fA S 62) hx hb hK hP 62 0 (ix_at (lt71 (by omega)) (cX_arr (show isA 62 0 6 from by decide))) rfl (j := ta) (et) (by omega) (by decide) (fk_get fk_cX11_judge_0 13 rfl) ?_
    refine lv_iconst (v := (-1)) hx hb (fk_get fk_cX11_judge_0 14 rfl) (by decide) ?_
    refine lv_icmp_eq (tgt := 31) hx hb (fk_get fk_cX11_judge_0 15 rfl) (by decide) (fun c_11 => ?_) (fun c_11 => ?_)
    · have hok_ : fA S 62 ta = 0 ∨ fA S 62 ta = -1 := Or.inr (by first | exact c_11 | exact Decidable.not_not.mp c_11)
      refine lv_iconst (v := 0) hx hb (fk_get fk_cX11_judge_0 18 rfl) (by decide) ?_
      refine lv_istore_n (lv' := [(3, .int (0)), (0, .ref (ad 0)), (1, .int (t_)), (2, .int (i_))]) hx hb (fk_get fk_cX11_judge_0 19 rfl) rfl hl (by decide) rfl (fun ls hl => ?_)
      have lp_12 : ∀ (fu : Nat) (c : Nat) (ls : Array Slot),  (c ≤ n) → (n < c + fu) → (juN (fA S 63 ta) (fun k => fL S (65 + ta) k) (fun d => gX S (21 + 6 * 0 + d) (K d) 3) i_ (n - c) c = (juN (fA S 63 ta) (fun k => fL S (65 + ta) k) (fun d => gX S (21 + 6 * 0 + d) (K d) 3) i_ n 0)) → lv_has ls 4 [(3, .int ((nI c))), (0, .ref (ad 0)), (1, .int (t_)), (2, .int (i_))] → W p l e ({ frames := 3, cells := 0, slots := 0, locals := 88 } : Room) s m args below meth c₀ s.heap [] 0 0 Q (F0 m 33 ls []) := by
        intro fu
        induction fu with
        | zero =>
          intro c ls hk hf hJ_ hl
          exact absurd hf (by omega)
        | succ fu ih =>
          intro c ls hk hf hJ_ hl
          refine lv_iload_n hx hb (fk_get fk_cX11_judge_0 20 rfl) rfl (lv_at hl 0 rfl) ?_
          refine lv_aload_n hx hb (fk_get fk_cX11_judge_0 21 rfl) rfl (lv_at hl 1 rfl) ?_
          refine va_get (D := G.1) (ci := 13) (v := .ref (ad (9 + 0))) (C := RX11) (T := TX11) (N := 11) hx hb hT inX11 hown hK hP 0 (ix_at (lt71 (by omega)) (cX_0 G ad S)) rfl 1 (by decide) (hT _ m2_70) (fun _ h9 => h9) rfl (fk_get fk_cX11_judge_0 22 rfl) ?_
          refine va_get (D := G.1) (ci := 9) (v := .int (fF S (9 + 0) 3)) (C := RX7) (T := TX7) (N := 8) hx hb hT inX7 hown hK hP (9 + 0) (ix_at (lt71 (by omega)) (cX_shop (pk_shop (by decide : 0 < 3)))) rfl 3 (by decide) (hT _ m1_209) (fun _ h9 => h9) rfl (fk_get fk_cX11_judge_0 23 rfl) ?_
          rw [hn]
          refine lv_icmp_ge (tgt := 100) hx hb (fk_get fk_cX11_judge_0 24 rfl) (by decide) (fun c_13 => ?_) (fun c_13 => ?_)
          · have q_c_13 : n ≤ c := ci_le (a := n) (b := c) (by omega) (by omega) c_13
            have hfi_ := ju_e hJ_ (by omega)
            refine lv_bipush (v := (-5)) hx hb (fk_get fk_cX11_judge_1 28 rfl) (by decide) ?_
            subst hQ
            have hpost : ((-5) : Int32) = judP (fA S 62 t_.toNatClampNeg = 0 ∨ fA S 62 t_.toNatClampNeg = -1) (fA S 63 t_.toNatClampNeg) (fun k => fL S (65 + t_.toNatClampNeg) k) (fun d => gX S (21 + 6 * 0 + d) (K d) 3) t_ i_ n := by
              first | exact jud_1 hnT_ | (rw [hcy_]; exact jud_2 hT_ hnok_) | (rw [hcy_]; exact jud_3 hT_ hok_ hfi_.symm) | (rw [hcy_]; exact jud_3 hT_ hok_ hfi_)
            exact W.iret (v := (-5)) hx hb hr (fun t_ ht_ hW_ => ⟨(-5), rfl, hpost, ht_⟩) (fun q h => by cases h) (fk_get fk_cX11_judge_1 29 rfl)
          have q_c_13 : c < n := ci_nle (a := n) (b := c) (by omega) (by omega) c_13
          refine lv_iload_n hx hb (fk_get fk_cX11_judge_0 25 rfl) rfl (lv_at hl 3 rfl) ?_
          refine lv_if_lt (tgt := 60) hx hb (fk_get fk_cX11_judge_0 26 rfl) (by decide) (fun c_14 => ?_) (fun c_14 => ?_)
          · have hfi_ := ju_n hJ_ (by omega) (mn_i c_14)
            refine lv_bipush (v := 100) hx hb (fk_get fk_cX11_judge_1 3 rfl) (by decide) ?_
            refine lv_iload_n hx hb (fk_get fk_cX11_judge_1 4 rfl) rfl (lv_at hl 0 rfl) ?_
            refine lv_iadd hx hb (fk_get fk_cX11_judge_1 5 rfl) ?_
            subst hQ
            have hpost : ((100 + (nI c)) : Int32) = judP (fA S 62 t_.toNatClampNeg = 0 ∨ fA S 62 t_.toNatClampNeg = -1) (fA S 63 t_.toNatClampNeg) (fun k => fL S (65 + t_.toNatClampNeg) k) (fun d => gX S (21 + 6 * 0 + d) (K d) 3) t_ i_ n := by
              first | exact jud_1 hnT_ | (rw [hcy_]; exact jud_2 hT_ hnok_) | (rw [hcy_]; exact jud_3 hT_ hok_ hfi_.symm) | (rw [hcy_]; exact jud_3 hT_ hok_ hfi_)
            exact W.iret (v := (100 + (nI c))) hx hb hr (fun t_ ht_ hW_ => ⟨(100 + (nI c)), rfl, hpost, ht_⟩) (fun q h => by cases h) (fk_get fk_cX11_judge_1 6 rfl)
          have hi0_ := c_14
          refine lv_iload_n hx hb (fk_get fk_cX11_judge_0 27 rfl) rfl (lv_at hl 3 rfl) ?_
          refine lv_aload_n hx hb (fk_get fk_cX11_judge_0 28 rfl) rfl (lv_at hl 1 rfl) ?_
          refine va_get (D := G.1) (ci := 13) (v := .ref (ad 63)) (C := RX11) (T := TX11) (N := 11) hx hb hT inX11 hown hK hP 0 (ix_at (lt71 (by omega)) (cX_0 G ad S)) rfl 7 (by decide) (hT _ m2_76) (fun _ h9 => h9) rfl (fk_get fk_cX11_judge_0 29 rfl) ?_
          refine lv_iload_n hx hb (fk_get fk_cX11_judge_0 30 rfl) rfl (lv_at hl 2 rfl) ?_
          refine r_iald (f := fA S 63) hx hb hK hP 63 0 (ix_at (lt71 (by omega)) (cX_arr (show isA 63 0 6 from by decide))) rfl (j := ta) (et) (by omega) (by decide) (fk_get fk_cX11_judge_0 31 rfl) ?_
          obtain ⟨n_15, en_15, bn_15⟩ := XI.lens hX (t := ta) (by omega)
          rw [en_15]
          refine lv_iload_n hx hb (fk_get fk_cX11_judge_1 0 rfl) rfl (lv_at hl 0 rfl) ?_
          refine lv_isub hx hb (fk_get fk_cX11_judge_1 1 rfl) ?_
          refine lv_icmp_lt (tgt := 65) hx hb (fk_get fk_cX11_judge_1 2 rfl) (by decide) (fun c_16 => ?_) (fun c_16 => ?_)
          · have hi1_ := c_16
            obtain ⟨bz, ebz, hbz⟩ := jg_le (by omega) (by omega) (by assumption) c_16
            have hb2_ : i_.toNatClampNeg = bz := by rw [ebz]; exact nI_clamp (by omega)
            refine lv_aload_n hx hb (fk_get fk_cX11_judge_1 7 rfl) rfl (lv_at hl 1 rfl) ?_
            refine va_get (D := G.1) (ci := 13) (v := .ref (ad 64)) (C := RX11) (T := TX11) (N := 11) hx hb hT inX11 hown hK hP 0 (ix_at (lt71 (by omega)) (cX_0 G ad S)) rfl 8 (by decide) (hT _ m2_77) (fun _ h9 => h9) rfl (fk_get fk_cX11_judge_1 8 rfl) ?_
            refine lv_iload_n hx hb (fk_get fk_cX11_judge_1 9 rfl) rfl (lv_at hl 2 rfl) ?_
            refine x_itm hx hb hK hP (k := ta) (by omega) (et) (fk_get fk_cX11_judge_1 10 rfl) ?_
            refine lv_iload_n hx hb (fk_get fk_cX11_judge_1 11 rfl) rfl (lv_at hl 3 rfl) ?_
            refine lv_iload_n hx hb (fk_get fk_cX11_judge_1 12 rfl) rfl (lv_at hl 0 rfl) ?_
            refine lv_iadd hx hb (fk_get fk_cX11_judge_1 13 rfl) ?_
            refine r_lald (f := fL S (65 + ta)) hx hb hK hP (65 + ta) 1 (ix_at (lt71 (by omega)) (cX_lng (show ta < 6 from by omega))) rfl (j := (bz + c)) (by rw [ebz, nI_add]) (by omega) (by decide) (fk_get fk_cX11_judge_1 14 rfl) ?_
            refine lv_aload_n hx hb (fk_get fk_cX11_judge_1 15 rfl) rfl (lv_at hl 1 rfl) ?_
            refine va_get (D := G.1) (ci := 13) (v := .ref (ad (9 + 0))) (C := RX11) (T := TX11) (N := 11) hx hb hT inX11 hown hK hP 0 (ix_at (lt71 (by omega)) (cX_0 G ad S)) rfl 1 (by decide) (hT _ m2_70) (fun _ h9 => h9) rfl (fk_get fk_cX11_judge_1 16 rfl) ?_
            refine va_get (D := G.1) (ci := 9) (v := .ref (ad (9 + 0 + 3))) (C := RX7) (T := TX7) (N := 8) hx hb hT inX7 hown hK hP (9 + 0) (ix_at (lt71 (by omega)) (cX_shop (pk_shop (by decide : 0 < 3)))) rfl 0 (by decide) (hT _ m1_203) (fun _ h9 => h9) rfl (fk_get fk_cX11_judge_1 17 rfl) ?_
            refine lv_iload_n hx hb (fk_get fk_cX11_judge_1 18 rfl) rfl (lv_at hl 0 rfl) ?_
            refine x_ppl hx hb hK hP (by decide : 0 < 3) (k := c) (by omega) (rfl) (fk_get fk_cX11_judge_1 19 rfl) ?_
            generalize hg_i_83_17 : 21 + 6 * 0 + c = i_83_17
            have hp_i_83_17 : pk i_83_17 = 7 := by rw [← hg_i_83_17]; exact pk_c (by decide : 0 < 3) (by omega)
            have hb_i_83_17 := pk7 hp_i_83_17
            refine va_get (D := G.1) (ci := 5) (v := .int (fF S i_83_17 5)) (C := RX3) (T := TX3) (N := 10) hx hb hT inX3 hown hK hP i_83_17 (ix_at (lt71 (by omega)) (cX_cust hp_i_83_17)) rfl 5 (by decide) (hT _ m1_160) (fun _ h9 => h9) rfl (fk_get fk_cX11_judge_1 20 rfl) ?_
            refine lv_i2l hx hb (fk_get fk_cX11_judge_1 21 rfl) rfl ?_
            refine W.lcmp hx hb (fk_get fk_cX11_judge_1 22 rfl) ?_
            refine lv_if_eq (tgt := 94) hx hb (fk_get fk_cX11_judge_1 23 rfl) (by decide) (fun c_18 => ?_) (fun c_18 => ?_)
            · have hst_ := (ju_y hJ_ (by omega) (jx_y (by omega) (by omega) hi0_ hi1_ (by assumption))).1 (by rw [hb2_]; exact jt_e (lc_eq (by first | exact c_18 | exact Decidable.not_not.mp c_18)) (by assumption))
              refine lv_iinc (v := (nI (c + 1))) (lv' := [(3, .int ((nI (c + 1)))), (0, .ref (ad 0)), (1, .int (t_)), (2, .int (i_))]) hx hb (fk_get fk_cX11_judge_1 26 rfl) hl (k := 0) rfl ((nI_1 c)) (by decide) rfl (fun ls hl => ?_)
              refine lv_goto (tgt := 33) hx hb (fk_get fk_cX11_judge_1 27 rfl) (by decide) ?_
              exact ih (c + 1) ls (by omega) (by omega) (hst_) (lv_sub hl [0, 1, 2, 3] rfl)
            have hfi_ := (ju_y hJ_ (by omega) (jx_y (by omega) (by omega) hi0_ hi1_ (by assumption))).2 (by rw [hb2_]; exact jt_n (lc_ne c_18) (by assumption))
            refine lv_iload_n hx hb (fk_get fk_cX11_judge_1 24 rfl) rfl (lv_at hl 0 rfl) ?_
            subst hQ
            have hpost : ((nI c) : Int32) = judP (fA S 62 t_.toNatClampNeg = 0 ∨ fA S 62 t_.toNatClampNeg = -1) (fA S 63 t_.toNatClampNeg) (fun k => fL S (65 + t_.toNatClampNeg) k) (fun d => gX S (21 + 6 * 0 + d) (K d) 3) t_ i_ n := by
              first | exact jud_1 hnT_ | (rw [hcy_]; exact jud_2 hT_ hnok_) | (rw [hcy_]; exact jud_3 hT_ hok_ hfi_.symm) | (rw [hcy_]; exact jud_3 hT_ hok_ hfi_)
            exact W.iret (v := (nI c)) hx hb hr (fun t_ ht_ hW_ => ⟨(nI c), rfl, hpost, ht_⟩) (fun q h => by cases h) (fk_get fk_cX11_judge_1 25 rfl)
          have hfi_ := ju_n hJ_ (by omega) (jx_n (by omega) (by omega) hi0_ c_16 (by assumption))
          refine lv_bipush (v := 100) hx hb (fk_get fk_cX11_judge_1 3 rfl) (by decide) ?_
          refine lv_iload_n hx hb (fk_get fk_cX11_judge_1 4 rfl) rfl (lv_at hl 0 rfl) ?_
          refine lv_iadd hx hb (fk_get fk_cX11_judge_1 5 rfl) ?_
          subst hQ
          have hpost : ((100 + (nI c)) : Int32) = judP (fA S 62 t_.toNatClampNeg = 0 ∨ fA S 62 t_.toNatClampNeg = -1) (fA S 63 t_.toNatClampNeg) (fun k => fL S (65 + t_.toNatClampNeg) k) (fun d => gX S (21 + 6 * 0 + d) (K d) 3) t_ i_ n := by
            first | exact jud_1 hnT_ | (rw [hcy_]; exact jud_2 hT_ hnok_) | (rw [hcy_]; exact jud_3 hT_ hok_ hfi_.symm) | (rw [hcy_]; exact jud_3 hT_ hok_ hfi_)
          exact W.iret (v := (100 + (nI c))) hx hb hr (fun t_ ht_ hW_ => ⟨(100 + (nI c)), rfl, hpost, ht_⟩) (fun q h => by cases h) (fk_get fk_cX11_judge_1 6 rfl)
      exact lp_12 (n + 1) (0) ls (by omega) (by omega) (rfl) (lv_sub hl [0, 1, 2, 3] rfl)
    have hnok_ : ¬ (fA S 62 ta = 0 ∨ fA S 62 ta = -1) := fun z_ => z_.elim hk0_ c_11
    refine lv_bipush (v := (-12)) hx hb (fk_get fk_cX11_judge_0 16 rfl) (by decide) ?_
    subst hQ
    have hpost : ((-12) : Int32) = judP (fA S 62 t_.toNatClampNeg = 0 ∨ fA S 62 t_.toNatClampNeg = -1) (fA S 63 t_.toNatClampNeg) (fun k => fL S (65 + t_.toNatClampNeg) k) (fun d => gX S (21 + 6 * 0 + d) (K d) 3) t_ i_ n := by
      first | exact jud_1 hnT_ | (rw [hcy_]; exact jud_2 hT_ hnok_) | (rw [hcy_]; exact jud_3 hT_ hok_ hfi_.symm) | (rw [hcy_]; exact jud_3 hT_ hok_ hfi_)
    exact W.iret (v := (-12)) hx hb hr (fun t_ ht_ hW_ => ⟨(-12), rfl, hpost, ht_⟩) (fun q h => by cases h) (fk_get fk_cX11_judge_0 17 rfl)
  have p_c_3 := if1_t hw_2 c_3
  have hnT_ := tap_o p_c_3
  refine lv_iconst (v := (-1)) hx hb (fk_get fk_cX11_judge_0 3 rfl) (by decide) ?_
  subst hQ
  have hpost : ((-1) : Int32) = judP (fA S 62 t_.toNatClampNeg = 0 ∨ fA S 62 t_.toNatClampNeg = -1) (fA S 63 t_.toNatClampNeg) (fun k => fL S (65 + t_.toNatClampNeg) k) (fun d => gX S (21 + 6 * 0 + d) (K d) 3) t_ i_ n := by
    first | exact jud_1 hnT_ | (rw [hcy_]; exact jud_2 hT_ hnok_) | (rw [hcy_]; exact jud_3 hT_ hok_ hfi_.symm) | (rw [hcy_]; exact jud_3 hT_ hok_ hfi_)
  exact W.iret (v := (-1)) hx hb hr (fun t_ ht_ hW_ => ⟨(-1), rfl, hpost, ht_⟩) (fun q h => by cases h) (fk_get fk_cX11_judge_0 4 rfl)
