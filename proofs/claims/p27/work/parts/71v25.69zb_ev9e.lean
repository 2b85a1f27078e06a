set_option maxHeartbeats 800000 in
set_option maxRecDepth 100000 in
theorem c_xcommonDivisorX (l : Launch) (a b : Nat) (a_ b_ : Int64) (ea : a_ = lI a) (eb : b_ = lI b) (ha : a < 2 ^ 31) (hb1 : b < 2 ^ 31) : Met l yX11_commonDivisor (Cond.code yX11_commonDivisor cX11_commonDivisor 11 (some .long) :: TBL) ({ frames := 2, cells := 0, slots := 0, locals := 64 } : Room) (PcN [.long (a_), .long (b_)]) (vp_Sl (fun (r : Int64) => r = lI (Nat.gcd a b))) 0 0 (fun _ => False) := by
  refine Met.ofW (cc := cX11_commonDivisor) (maxL := 11) (ret := (some .long)) (by decide) rfl ?_
  intro p e s m args below meth c₀ s₁ B hml hv
  obtain ⟨rfl, -⟩ := hv
  have hx := B.exec
  have hb := B.bytes
  have hr := B.returns
  have hT : ∀ w ∈ TBL, w.before ([.long (a_), .long (b_)] : List Value).toArray s = true := fun w h => atoms_spec (ws := Cond.code yX11_commonDivisor cX11_commonDivisor 11 (some .long) :: TBL) B.pre w (List.mem_cons_of_mem _ h)
  have hown : s.vm.findClass "LittleMore" = some m.cls := findClass_of_methodNamed B.named
  have hlocks := B.notSynchronized
  have hl := lv_entry ([.long (a_), .long (b_)]) (n := 11) (Nat.le_of_ble_eq_true rfl)
  rw [lg_entry_eq]
  generalize (lg_sl ([.long (a_), .long (b_)]) ++ List.replicate (11 - (lg_sl ([.long (a_), .long (b_)])).length) Slot.unset).toArray = ls at hl ⊢
  have hl : lv_has ls 11 [(0, .long (a_)), (2, .long (b_))] := hl
  refine W_abs (fun Q hQ => ?_)
  generalize ([.long (a_), .long (b_)] : List Value).toArray = args at hT hQ ⊢
  refine lv_lload_n hx hb (fk_get fk_cX11_commonDivisor_0 0 rfl) rfl (lv_at hl 0 rfl) ?_
  refine lv_lstore (lv' := [(4, .long (a_)), (0, .long (a_)), (2, .long (b_))]) hx hb (fk_get fk_cX11_commonDivisor_0 1 rfl) hl (by decide) rfl (fun ls hl => ?_)
  refine lv_lload_n hx hb (fk_get fk_cX11_commonDivisor_0 2 rfl) rfl (lv_at hl 2 rfl) ?_
  refine lv_lstore (lv' := [(6, .long (b_)), (4, .long (a_)), (0, .long (a_)), (2, .long (b_))]) hx hb (fk_get fk_cX11_commonDivisor_0 3 rfl) hl (by decide) rfl (fun ls hl => ?_)
  refine lv_iconst (v := 0) hx hb (fk_get fk_cX11_commonDivisor_0 4 rfl) (by decide) ?_
  refine lv_istore (lv' := [(8, .int (0)), (6, .long (b_)), (4, .long (a_)), (0, .long (a_)), (2, .long (b_))]) hx hb (fk_get fk_cX11_commonDivisor_0 5 rfl) hl (by decide) rfl (fun ls hl => ?_)
  have lp_1 : ∀ (fu : Nat) (k : Nat) (v4 v6 : Int64) (ls : Array Slot),  (k ≤ 100) → (100 < k + fu) → (v4 = lI (euN a b k).1) → (v6 = lI (euN a b k).2) → lv_has ls 11 [(8, .int ((nI k))), (6, .long (v6)), (4, .long (v4)), (0, .long (a_)), (2, .long (b_))] → W p l e ({ frames := 2, cells := 0, slots := 0, locals := 64 } : Room) s m args below meth c₀ s.heap [] 0 0 Q (F0 m 9 ls []) := by
    intro fu
    induction fu with
    | zero =>
      intro k v4 v6 ls hk hf h4 h6 hl
      exact absurd hf (by omega)
    | succ fu ih =>
      intro k v4 v6 ls hk hf h4 h6 hl
      refine lv_iload hx hb (fk_get fk_cX11_commonDivisor_0 6 rfl) (lv_at hl 0 rfl) ?_
      refine lv_bipush (v := 100) hx hb (fk_get fk_cX11_commonDivisor_0 7 rfl) (by decide) ?_
      refine lv_icmp_ge (tgt := 44) hx hb (fk_get fk_cX11_commonDivisor_0 8 rfl) (by decide) (fun c_2 => ?_) (fun c_2 => ?_)
      · have hfi_ := h4.trans (congrArg lI (eu_e hb1 (Or.inl ((nI_leI (a := 100) (b := k) (by omega) (by omega)).mp c_2))))
        refine lv_lload hx hb (fk_get fk_cX11_commonDivisor_0 22 rfl) (lv_at hl 2 rfl) ?_
        subst hQ
        have hpost : (v4 : Int64) = lI (Nat.gcd a b) := by
          exact hfi_
        exact W.lret (v := v4) hx hb hr (fun t_ ht_ hW_ => ⟨v4, rfl, hpost, ht_⟩) (fun q h => by cases h) (fk_get fk_cX11_commonDivisor_0 23 rfl)
      have hlt : k < 100 := Nat.lt_of_not_le (fun wk => c_2 ((nI_leI (a := 100) (b := k) (by omega) (by omega)).mpr wk))
      refine lv_lload hx hb (fk_get fk_cX11_commonDivisor_0 9 rfl) (lv_at hl 1 rfl) ?_
      refine lv_lconst (v := 0) hx hb (fk_get fk_cX11_commonDivisor_0 10 rfl) (by decide) ?_
      refine W.lcmp hx hb (fk_get fk_cX11_commonDivisor_0 11 rfl) ?_
      refine lv_if_eq (tgt := 44) hx hb (fk_get fk_cX11_commonDivisor_0 12 rfl) (by decide) (fun c_3 => ?_) (fun c_3 => ?_)
      · have hfi_ := h4.trans (congrArg lI (eu_e hb1 (Or.inr ((lI_0 (eu_b ha hb1 k).2).mp (h6.symm.trans (lc_eq c_3))))))
        refine lv_lload hx hb (fk_get fk_cX11_commonDivisor_0 22 rfl) (lv_at hl 2 rfl) ?_
        subst hQ
        have hpost : (v4 : Int64) = lI (Nat.gcd a b) := by
          exact hfi_
        exact W.lret (v := v4) hx hb hr (fun t_ ht_ hW_ => ⟨v4, rfl, hpost, ht_⟩) (fun q h => by cases h) (fk_get fk_cX11_commonDivisor_0 23 rfl)
      have hne := lc_ne c_3
      have hnz_ : ¬ (euN a b k).2 = 0 := fun z_ => hne (by rw [h6]; exact (lI_0 (eu_b ha hb1 k).2).mpr z_)
      refine lv_lload hx hb (fk_get fk_cX11_commonDivisor_0 13 rfl) (lv_at hl 2 rfl) ?_
      refine lv_lload hx hb (fk_get fk_cX11_commonDivisor_0 14 rfl) (lv_at hl 1 rfl) ?_
      refine lv_lrem hx hb (dk_get dk_cX11_commonDivisor_0 0 rfl) (hne) ?_
      refine lv_lstore (lv' := [(9, .long ((v4 - v4 / v6 * v6))), (8, .int ((nI k))), (6, .long (v6)), (4, .long (v4)), (0, .long (a_)), (2, .long (b_))]) hx hb (fk_get fk_cX11_commonDivisor_0 15 rfl) hl (by decide) rfl (fun ls hl => ?_)
      refine lv_lload hx hb (fk_get fk_cX11_commonDivisor_0 16 rfl) (lv_at hl 2 rfl) ?_
      refine lv_lstore (lv' := [(4, .long (v6)), (9, .long ((v4 - v4 / v6 * v6))), (8, .int ((nI k))), (6, .long (v6)), (0, .long (a_)), (2, .long (b_))]) hx hb (fk_get fk_cX11_commonDivisor_0 17 rfl) hl (by decide) rfl (fun ls hl => ?_)
      refine lv_lload hx hb (fk_get fk_cX11_commonDivisor_0 18 rfl) (lv_at hl 1 rfl) ?_
      refine lv_lstore (lv' := [(6, .long ((v4 - v4 / v6 * v6))), (4, .long (v6)), (9, .long ((v4 - v4 / v6 * v6))), (8, .int ((nI k))), (0, .long (a_)), (2, .long (b_))]) hx hb (fk_get fk_cX11_commonDivisor_0 19 rfl) hl (by decide) rfl (fun ls hl => ?_)
      refine lv_iinc (v := (nI (k + 1))) (lv' := [(8, .int ((nI (k + 1)))), (6, .long ((v4 - v4 / v6 * v6))), (4, .long (v6)), (9, .long ((v4 - v4 / v6 * v6))), (0, .long (a_)), (2, .long (b_))]) hx hb (fk_get fk_cX11_commonDivisor_0 20 rfl) hl (k := 3) rfl ((nI_1 k)) (by decide) rfl (fun ls hl => ?_)
      refine lv_goto (tgt := 9) hx hb (fk_get fk_cX11_commonDivisor_0 21 rfl) (by decide) ?_
      exact ih (k + 1) (v6) ((v4 - v4 / v6 * v6)) ls (by omega) (by omega) ((by rw [eu_s hnz_]; exact h6)) ((by rw [eu_s hnz_, h4, h6]; exact lI_rem (eu_b ha hb1 k).1 (eu_b ha hb1 k).2)) (lv_sub hl [0, 1, 2, 4, 5] rfl)
  exact lp_1 (101) (0) (a_) (b_) ls (by omega) (by omega) (ea) (eb) (lv_sub hl [0, 1, 2, 3, 4] rfl)
set_option maxHeartbeats 800000 in
set_option maxRecDepth 100000 in
theorem c_xpartInLowestTermsX (l : Launch) (a b : Nat) (a_ b_ : Int64) (w_ : Int32) (ea : a_ = lI a) (eb : b_ = lI b) (ha : a < 2 ^ 31) (hb1 : b < 2 ^ 31) : Met l yX11_partInLowestTerms (Cond.code yX11_partInLowestTerms cX11_partInLowestTerms 7 (some .long) :: TBL) ({ frames := 3, cells := 0, slots := 0, locals := 98 } : Room) (PcN [.long (a_), .long (b_), .int (w_)]) (vp_Sl (fun (r : Int64) => r = frP a b w_)) 0 0 (fun _ => False) := by
  refine Met.ofW (cc := cX11_partInLowestTerms) (maxL := 7) (ret := (some .long)) (by decide) rfl ?_
  intro p e s m args below meth c₀ s₁ B hml hv
  obtain ⟨rfl, -⟩ := hv
  have hx := B.exec
  have hb := B.bytes
  have hr := B.returns
  have hT : ∀ w ∈ TBL, w.before ([.long (a_), .long (b_), .int (w_)] : List Value).toArray s = true := fun w h => atoms_spec (ws := Cond.code yX11_partInLowestTerms cX11_partInLowestTerms 7 (some .long) :: TBL) B.pre w (List.mem_cons_of_mem _ h)
  have hown : s.vm.findClass "LittleMore" = some m.cls := findClass_of_methodNamed B.named
  have hlocks := B.notSynchronized
  have hl := lv_entry ([.long (a_), .long (b_), .int (w_)]) (n := 7) (Nat.le_of_ble_eq_true rfl)
  rw [lg_entry_eq]
  generalize (lg_sl ([.long (a_), .long (b_), .int (w_)]) ++ List.replicate (7 - (lg_sl ([.long (a_), .long (b_), .int (w_)])).length) Slot.unset).toArray = ls at hl ⊢
  have hl : lv_has ls 7 [(0, .long (a_)), (2, .long (b_)), (4, .int (w_))] := hl
  refine W_abs (fun Q hQ => ?_)
  generalize ([.long (a_), .long (b_), .int (w_)] : List Value).toArray = args at hT hQ ⊢
  refine lv_lload_n hx hb (fk_get fk_cX11_partInLowestTerms_0 0 rfl) rfl (lv_at hl 0 rfl) ?_
  refine lv_lload_n hx hb (fk_get fk_cX11_partInLowestTerms_0 1 rfl) rfl (lv_at hl 1 rfl) ?_
  refine vp_callSl (W.runS (As := [.long (a_), .long (b_)]) (rest := []) ⟨hx, hb, hml, hown, hT⟩ (c_xcommonDivisorX l (a) (b) (a_) (b_) (ea) (eb) (ha) (hb1)) (tS 2 hT m4_79 m4_80 m1_1 m4_81 rfl rfl (by decide +kernel) ⟨Nat.le_of_ble_eq_true rfl, Nat.le_of_ble_eq_true rfl⟩) ⟨PcN_blind, PcN_of _ _ _⟩ rfl rfl hl.1 rfl (lv_room (Nat.le_of_ble_eq_true rfl)) (fk_get fk_cX11_partInLowestTerms_0 2 rfl) ⟨Nat.zero_le _, Nat.zero_le _⟩) (fun r_1 hw_2 => ?_)
  try dsimp only at hw_2
  subst hw_2
  refine lv_lstore (lv' := [(5, .long ((lI (Nat.gcd a b)))), (0, .long (a_)), (2, .long (b_)), (4, .int (w_))]) hx hb (fk_get fk_cX11_partInLowestTerms_0 3 rfl) hl (by decide) rfl (fun ls hl => ?_)
  refine lv_lload_n hx hb (fk_get fk_cX11_partInLowestTerms_0 4 rfl) rfl (lv_at hl 2 rfl) ?_
  refine lv_lconst (v := 0) hx hb (fk_get fk_cX11_partInLowestTerms_0 5 rfl) (by decide) ?_
  refine W.lcmp hx hb (fk_get fk_cX11_partInLowestTerms_0 6 rfl) ?_
  refine lv_if_eq (tgt := 20) hx hb (fk_get fk_cX11_partInLowestTerms_0 7 rfl) (by decide) (fun c_3 => ?_) (fun c_3 => ?_)
  · have hb0 : b = 0 := (lI_0 hb1).mp (eb.symm.trans (lc_eq (by first | exact c_3 | exact Decidable.not_not.mp c_3)))
    refine lv_ldc2 (v := (-9223372036854775808)) hx hb hown (hT _ m4_64) (fk_get fk_cX11_partInLowestTerms_0 12 rfl) ?_
    subst hQ
    have hpost : ((-9223372036854775808) : Int64) = frP a b w_ := by
      first | exact fr_z hb0 | exact absurd ((lI_0 (gcd_lt hb1 hbn)).mp hge_) (gcd_nz hbn) | exact frx_0 ha hb1 hbn (by first | assumption | exact Decidable.not_not.mp (by assumption)) ea | exact frx_1 ha hb1 hbn (by assumption) eb
    exact W.lret (v := (-9223372036854775808)) hx hb hr (fun t_ ht_ hW_ => ⟨(-9223372036854775808), rfl, hpost, ht_⟩) (fun q h => by cases h) (fk_get fk_cX11_partInLowestTerms_0 13 rfl)
  have hbn : ¬ b = 0 := fun z_ => lc_ne c_3 (eb.trans ((lI_0 hb1).mpr z_))
  refine lv_lload hx hb (fk_get fk_cX11_partInLowestTerms_0 8 rfl) (lv_at hl 0 rfl) ?_
  refine lv_lconst (v := 0) hx hb (fk_get fk_cX11_partInLowestTerms_0 9 rfl) (by decide) ?_
  refine W.lcmp hx hb (fk_get fk_cX11_partInLowestTerms_0 10 rfl) ?_
  refine lv_if_ne (tgt := 24) hx hb (fk_get fk_cX11_partInLowestTerms_0 11 rfl) (by decide) (fun c_4 => ?_) (fun c_4 => ?_)
  · have hne := lc_ne c_4
    refine lv_iload hx hb (fk_get fk_cX11_partInLowestTerms_0 14 rfl) (lv_at hl 3 rfl) ?_
    refine lv_if_ne (tgt := 33) hx hb (fk_get fk_cX11_partInLowestTerms_0 15 rfl) (by decide) (fun c_5 => ?_) (fun c_5 => ?_)
    · refine lv_lload_n hx hb (fk_get fk_cX11_partInLowestTerms_0 18 rfl) rfl (lv_at hl 2 rfl) ?_
      refine lv_lload hx hb (fk_get fk_cX11_partInLowestTerms_0 19 rfl) (lv_at hl 0 rfl) ?_
      refine lv_ldiv hx hb (dk_get dk_cX11_partInLowestTerms_0 0 rfl) (hne) ?_
      subst hQ
      have hpost : ((b_ / (lI (Nat.gcd a b))) : Int64) = frP a b w_ := by
        first | exact fr_z hb0 | exact absurd ((lI_0 (gcd_lt hb1 hbn)).mp hge_) (gcd_nz hbn) | exact frx_0 ha hb1 hbn (by first | assumption | exact Decidable.not_not.mp (by assumption)) ea | exact frx_1 ha hb1 hbn (by assumption) eb
      exact W.lret (v := (b_ / (lI (Nat.gcd a b)))) hx hb hr (fun t_ ht_ hW_ => ⟨(b_ / (lI (Nat.gcd a b))), rfl, hpost, ht_⟩) (fun q h => by cases h) (fk_get fk_cX11_partInLowestTerms_0 20 rfl)
    refine lv_lload_n hx hb (fk_get fk_cX11_partInLowestTerms_0 16 rfl) rfl (lv_at hl 1 rfl) ?_
    refine lv_goto (tgt := 34) hx hb (fk_get fk_cX11_partInLowestTerms_0 17 rfl) (by decide) ?_
    refine lv_lload hx hb (fk_get fk_cX11_partInLowestTerms_0 19 rfl) (lv_at hl 0 rfl) ?_
    refine lv_ldiv hx hb (dk_get dk_cX11_partInLowestTerms_0 0 rfl) (hne) ?_
    subst hQ
    have hpost : ((a_ / (lI (Nat.gcd a b))) : Int64) = frP a b w_ := by
      first | exact fr_z hb0 | exact absurd ((lI_0 (gcd_lt hb1 hbn)).mp hge_) (gcd_nz hbn) | exact frx_0 ha hb1 hbn (by first | assumption | exact Decidable.not_not.mp (by assumption)) ea | exact frx_1 ha hb1 hbn (by assumption) eb
    exact W.lret (v := (a_ / (lI (Nat.gcd a b)))) hx hb hr (fun t_ ht_ hW_ => ⟨(a_ / (lI (Nat.gcd a b))), rfl, hpost, ht_⟩) (fun q h => by cases h) (fk_get fk_cX11_partInLowestTerms_0 20 rfl)
  have hge_ := lc_eq (by first | exact c_4 | exact Decidable.not_not.mp c_4)
  refine lv_ldc2 (v := (-9223372036854775808)) hx hb hown (hT _ m4_64) (fk_get fk_cX11_partInLowestTerms_0 12 rfl) ?_
  subst hQ
  have hpost : ((-9223372036854775808) : Int64) = frP a b w_ := by
    first | exact fr_z hb0 | exact absurd ((lI_0 (gcd_lt hb1 hbn)).mp hge_) (gcd_nz hbn) | exact frx_0 ha hb1 hbn (by first | assumption | exact Decidable.not_not.mp (by assumption)) ea | exact frx_1 ha hb1 hbn (by assumption) eb
  exact W.lret (v := (-9223372036854775808)) hx hb hr (fun t_ ht_ hW_ => ⟨(-9223372036854775808), rfl, hpost, ht_⟩) (fun q h => by cases h) (fk_get fk_cX11_partInLowestTerms_0 13 rfl)
set_option maxHeartbeats 800000 in
set_option maxRecDepth 100000 in
theorem c_x11_oddsX (l : Launch) (G : GG) (ad : Nat → Nat) (S : FS) (sz : Nat) (n pz : Nat) (K : Nat → Nat) (τ : Nat → Int32) (C : Cls) (x w_ : Int32) (hn : fF S (9 + 0) 3 = nI n) (hn6 : n ≤ 6) (hcf : CuF S 0 n pz τ C K) (hgc : ∀ d, d < n → GC 9999 (gX S (21 + 6 * 0 + d) (K d))) (h99 : N99 C) (hX : XI S) : Met l yX11_odds (Cond.code yX11_odds cX11_odds 4 (some .long) :: TBL) ({ frames := 8, cells := 0, slots := 0, locals := 227 } : Room) (PcW G (wX G ad S) sz [.ref (ad 0), .int (x), .int (w_)]) (va_Ql (fun (r : Int64) (S' : FS) => XI S' ∧ Fr (fun j k => (j = 11 ∧ 3 ≤ k ∧ k ≤ 7) ∨ (33 ≤ j ∧ j < 39 ∧ 2 ≤ k ∧ k ≤ 9) ∨ (51 ≤ j ∧ j < 57 ∧ k = 99) ∨ ((j = 17 ∨ j = 20) ∧ k = 99)) S S' ∧ (r = oddP (fF S (9 + 0) 6) (lstW 3 1 C) τ C n (fun d => gX S (21 + 6 * 0 + d) (K d)) x w_)) (fun S' t => BW G (va_A (wX G ad S) sz) (wX G ad S') t) (va_A (wX G ad S) sz)) 0 0 (va_A (wX G ad S) sz) := by
  refine Met.ofW (cc := cX11_odds) (maxL := 4) (ret := (some .long)) (by decide) rfl ?_
  intro p e s m args below meth c₀ s₁ B hml hv
  obtain ⟨rfl, hsz, hP, hK, hD0⟩ := hv
  have hx := B.exec
  have hb := B.bytes
  have hr := B.returns
  have hT : ∀ w ∈ TBL, w.before ([.ref (ad 0), .int (x), .int (w_)] : List Value).toArray s = true := fun w h => atoms_spec (ws := Cond.code yX11_odds cX11_odds 4 (some .long) :: TBL) B.pre w (List.mem_cons_of_mem _ h)
  have hown : s.vm.findClass "LittleMore" = some m.cls := findClass_of_methodNamed B.named
  have hlocks := B.notSynchronized
  subst hsz
  have hD := hD0.self (sz := s.heap.size)
  generalize hAe : va_A (wX G ad S) s.heap.size = A at hD ⊢
  have hA : ∀ q : Nat, s.heap.size ≤ q → A q := fun q h => by rw [← hAe]; exact Or.inr h
  have hS : va_S A s.heap s.heap [] := va_S.rf
  have hP : va_P G.1 vwCl (wX G ad S) s.heap := hP
  have hl := lv_entry ([.ref (ad 0), .int (x), .int (w_)]) (n := 4) (Nat.le_of_ble_eq_true rfl)
  rw [lg_entry_eq]
  generalize (lg_sl ([.ref (ad 0), .int (x), .int (w_)]) ++ List.replicate (4 - (lg_sl ([.ref (ad 0), .int (x), .int (w_)])).length) Slot.unset).toArray = ls at hl ⊢
  have hl : lv_has ls 4 [(0, .ref (ad 0)), (1, .int (x)), (2, .int (w_))] := hl
  refine W_abs (fun Q hQ => ?_)
  generalize ([.ref (ad 0), .int (x), .int (w_)] : List Value).toArray = args at hT hQ ⊢
  obtain ⟨-, hpz0, hcok0, hctx0, hsay0⟩ := id hcf
  obtain ⟨lz, hlz, hln⟩ := lst_99 (k := 3) C 1 ⟨1, by omega, rfl⟩ h99.2
  refine lv_iload_n hx hb (fk_get fk_cX11_odds_0 0 rfl) rfl (lv_at hl 1 rfl) ?_
  refine lv_iconst (v := 0) hx hb (fk_get fk_cX11_odds_0 1 rfl) (by decide) ?_
  refine lv_bipush (v := 40) hx hb (fk_get fk_cX11_odds_0 2 rfl) (by decide) ?_
  refine vp_callSi (W.runS (As := [.int (x), .int (0), .int (40)]) (rest := []) ⟨hx, hb, hml, hown, hT⟩ (c_xisOutside l (x) (0) (40) ) (tS 3 hT m2_108 m2_109 m1_1 m2_110 rfl rfl (by decide +kernel) ⟨Nat.le_of_ble_eq_true rfl, Nat.le_of_ble_eq_true rfl⟩) ⟨PcN_blind, PcN_of _ _ _⟩ rfl rfl hl.1 rfl (lv_room (Nat.le_of_ble_eq_true rfl)) (fk_get fk_cX11_odds_0 3 rfl) ⟨Nat.zero_le _, Nat.zero_le _⟩) (fun r_1 hw_2 => ?_)
  try dsimp only at hw_2
  refine lv_if_ne (tgt := 19) hx hb (fk_get fk_cX11_odds_0 4 rfl) (by decide) (fun c_3 => ?_) (fun c_3 => ?_)
  · have p_c_3 := if1_t hw_2 c_3
    have hny_ := nan2 p_c_3
    refine lv_ldc2 (v := (-9223372036854775808)) hx hb hown (hT _ m4_64) (fk_get fk_cX11_odds_0 10 rfl) ?_
    subst hQ
    have hpost : XI S ∧ Fr (fun j k => (j = 11 ∧ 3 ≤ k ∧ k ≤ 7) ∨ (33 ≤ j ∧ j < 39 ∧ 2 ≤ k ∧ k ≤ 9) ∨ (51 ≤ j ∧ j < 57 ∧ k = 99) ∨ ((j = 17 ∨ j = 20) ∧ k = 99)) S S ∧ (((-9223372036854775808) : Int64) = oddP (fF S (9 + 0) 6) (lstW 3 1 C) τ C n (fun d => gX S (21 + 6 * 0 + d) (K d)) x w_) := by
      exact ⟨hX, (Fr.rf : Fr (fun j k => (j = 11 ∧ 3 ≤ k ∧ k ≤ 7) ∨ (33 ≤ j ∧ j < 39 ∧ 2 ≤ k ∧ k ≤ 9) ∨ (51 ≤ j ∧ j < 57 ∧ k = 99) ∨ ((j = 17 ∨ j = 20) ∧ k = 99)) S S), (by first | exact odd_1 (Or.inl hny_) | exact odd_1 (Or.inr hnw_) | exact odd_2 hy_ hw_ rfl rfl hfr_)⟩
    exact W.lret (v := (-9223372036854775808)) hx hb hr (fun t_ ht_ hW_ => ⟨⟨(-9223372036854775808), S, rfl, hpost, by rw [ht_]; exact hP, va_K.moved hW_.alike hK, hD⟩, hS.F ht_⟩) hS.2.2 (fk_get fk_cX11_odds_0 11 rfl)
  have p_c_3 := if1_f hw_2 c_3
  obtain ⟨wz, hw40, ew⟩ := out_n (b := 40) p_c_3 (by decide)
  have hcy_ : x.toNatClampNeg = wz := by rw [ew]; exact nI_clamp (by omega)
  have hy_ := nor2.mp p_c_3
  refine lv_iload_n hx hb (fk_get fk_cX11_odds_0 5 rfl) rfl (lv_at hl 2 rfl) ?_
  refine lv_iconst (v := 0) hx hb (fk_get fk_cX11_odds_0 6 rfl) (by decide) ?_
  refine lv_iconst (v := 1) hx hb (fk_get fk_cX11_odds_0 7 rfl) (by decide) ?_
  refine vp_callSi (W.runS (As := [.int (w_), .int (0), .int (1)]) (rest := []) ⟨hx, hb, hml, hown, hT⟩ (c_xisOutside l (w_) (0) (1) ) (tS 3 hT m2_108 m2_109 m1_1 m2_110 rfl rfl (by decide +kernel) ⟨Nat.le_of_ble_eq_true rfl, Nat.le_of_ble_eq_true rfl⟩) ⟨PcN_blind, PcN_of _ _ _⟩ rfl rfl hl.1 rfl (lv_room (Nat.le_of_ble_eq_true rfl)) (fk_get fk_cX11_odds_0 8 rfl) ⟨Nat.zero_le _, Nat.zero_le _⟩) (fun r_4 hw_5 => ?_)
  try dsimp only at hw_5
  refine lv_if_eq (tgt := 23) hx hb (fk_get fk_cX11_odds_0 9 rfl) (by decide) (fun c_6 => ?_) (fun c_6 => ?_)
  · have p_c_6 := if1_f hw_5 c_6
    have hw_ := nor2.mp p_c_6
    refine lv_aload_n hx hb (fk_get fk_cX11_odds_0 12 rfl) rfl (lv_at hl 0 rfl) ?_
    refine lv_iload_n hx hb (fk_get fk_cX11_odds_0 13 rfl) rfl (lv_at hl 1 rfl) ?_
    have hFc := va_self hD hS hA
    refine va_callr (va_runV (As := [.int (x)]) (rest := []) ⟨hx, hb, hml, hown, hT⟩ (c_x11_shopBehindX l G ad S s.heap.size (n) (pz) (wz) (K) (τ) (C) (x) (by first | assumption | omega) (by first | assumption | omega) (hcf) (hgc) (h99) (ew) (by omega) (hX)) (tV 1 hT m4_23 m4_25 mp_13 m1_1 m4_26 rfl rfl (by decide +kernel) ⟨Nat.le_of_ble_eq_true rfl, Nat.le_of_ble_eq_true rfl⟩) ⟨PcW_blind, va_recv hK hP (ci := 13) (q0 := 0) rfl (ix_at (lt71 (by omega)) (cX_0 G ad S)), PcW_of hP hK hD _⟩ rfl rfl hl.1 rfl (lv_room (Nat.le_of_ble_eq_true rfl)) (fk_get fk_cX11_odds_0 14 rfl) ⟨Nat.zero_le _, Nat.zero_le _⟩) hS (fun q _ h => hFc q h) hFc (fun S_9 r_7 t_ H locs ht_ hvm_ hw_8 hB_ hz_ hk_ hS => ?_)
    obtain ⟨hra_, hB_⟩ := hB_
    subst hra_
    obtain ⟨hP, -, hD1_⟩ := hB_
    rw [ht_] at hP
    have hD : va_D A (wX G ad S_9) := hD1_.weaken (fun k q _ h => hFc q.1 h)
    try dsimp only at hw_8
    obtain ⟨hX_10, hF_11_, hw_8⟩ := hw_8
    have hF_11 : Fr (fun j k => (j = 11 ∧ 3 ≤ k ∧ k ≤ 7) ∨ (33 ≤ j ∧ j < 39 ∧ 2 ≤ k ∧ k ≤ 9) ∨ (51 ≤ j ∧ j < 57 ∧ k = 99) ∨ ((j = 17 ∨ j = 20) ∧ k = 99)) S S_9 := Fr.trans (Fr.rf : Fr (fun j k => (j = 11 ∧ 3 ≤ k ∧ k ≤ 7) ∨ (33 ≤ j ∧ j < 39 ∧ 2 ≤ k ∧ k ≤ 9) ∨ (51 ≤ j ∧ j < 57 ∧ k = 99) ∨ ((j = 17 ∨ j = 20) ∧ k = 99)) S S) (Fr.mono hF_11_ (fun j k h => by omega))
    obtain ⟨hn2_, hcf2_, hof2_, hgc2_, hcut_⟩ := hw_8
    refine lv_astore_n (lv' := [(3, .ref (ad (9 + 2))), (0, .ref (ad 0)), (1, .int (x)), (2, .int (w_))]) hx hb (fk_get fk_cX11_odds_0 15 rfl) rfl hl (by decide) rfl (fun ls hl => ?_)
    refine lv_aload_n hx hb (fk_get fk_cX11_odds_0 16 rfl) rfl (lv_at hl 0 rfl) ?_
    refine vp_callSi (W.runV (As := []) (rest := []) ⟨hx, hb, hml, hown, hT⟩ (c_x7_howManyRefuseX l G ad S_9 H.size (2) (n) (pz) (9999 + wz) (lz) (K) (τ) (C) ((by decide : 2 < 3)) (by first | assumption | omega) (by first | assumption | omega) (hcf2_) (fun d hd => (hgc2_ d hd).1) (by omega) (hX_10)) (tV 0 hT m4_14 m4_15 m4_16 m1_9 m4_17 rfl rfl (by decide +kernel) ⟨Nat.le_of_ble_eq_true rfl, Nat.le_of_ble_eq_true rfl⟩) ⟨PcW_blind, va_recv hK hP (ci := 9) (q0 := (9 + 2)) rfl (ix_at (lt71 (by omega)) (cX_shop (pk_shop (by decide : 2 < 3)))), PcW_of hP hK hD _⟩ rfl rfl hl.1 rfl (lv_room (Nat.le_of_ble_eq_true rfl)) (fk_get fk_cX11_odds_0 17 rfl) ⟨Nat.zero_le _, Nat.zero_le _⟩) (fun r_12 hw_13 => ?_)
    try dsimp only at hw_13
    rw [hof2_] at hw_13
    have hra_ := rfn_c2 hw_13 hcut_ hcy_
    refine lv_i2l hx hb (fk_get fk_cX11_odds_0 18 rfl) rfl ?_
    refine lv_aload_n hx hb (fk_get fk_cX11_odds_0 19 rfl) rfl (lv_at hl 0 rfl) ?_
    refine vp_callSi (W.runV (As := []) (rest := [.long ((r_12).toInt64)]) ⟨hx, hb, hml, hown, hT⟩ (c_x7_howManyStayX l G ad S_9 H.size (2) (n) (pz) (9999 + wz) (lz) (K) (τ) (C) ((by decide : 2 < 3)) (by first | assumption | omega) (by first | assumption | omega) (hcf2_) (fun d hd => (hgc2_ d hd).1) (by omega) (hX_10)) (tV 0 hT m4_65 m4_66 m4_67 m1_9 m4_68 rfl rfl (by decide +kernel) ⟨Nat.le_of_ble_eq_true rfl, Nat.le_of_ble_eq_true rfl⟩) ⟨PcW_blind, va_recv hK hP (ci := 9) (q0 := (9 + 2)) rfl (ix_at (lt71 (by omega)) (cX_shop (pk_shop (by decide : 2 < 3)))), PcW_of hP hK hD _⟩ rfl rfl hl.1 rfl (lv_room (Nat.le_of_ble_eq_true rfl)) (fk_get fk_cX11_odds_0 20 rfl) ⟨Nat.zero_le _, Nat.zero_le _⟩) (fun r_14 hw_15 => ?_)
    try dsimp only at hw_15
    have hrb_ := stn_c2 hw_15 hcut_ hcy_
    have hrl_ := rf_le (off := (fF S (9 + 0) 6)) (τ := τ) (C := C) (stF 1 (fF S (9 + 0) 6) (lstW 3 1 C) τ C n x.toNatClampNeg (cutF n (fun d => gX S (21 + 6 * 0 + d) (K d)))) n
    have hsl_ := st_le (stF 1 (fF S (9 + 0) 6) (lstW 3 1 C) τ C n x.toNatClampNeg (cutF n (fun d => gX S (21 + 6 * 0 + d) (K d)))) n
    refine lv_i2l hx hb (fk_get fk_cX11_odds_0 21 rfl) rfl ?_
    refine lv_iload_n hx hb (fk_get fk_cX11_odds_0 22 rfl) rfl (lv_at hl 3 rfl) ?_
    refine vp_callSl (W.runS (As := [.long ((r_12).toInt64), .long ((r_14).toInt64), .int (w_)]) (rest := []) ⟨hx, hb, hml, hown, hT⟩ (c_xpartInLowestTermsX l ((rfN (fF S (9 + 0) 6) τ C (stF 1 (fF S (9 + 0) 6) (lstW 3 1 C) τ C n x.toNatClampNeg (cutF n (fun d => gX S (21 + 6 * 0 + d) (K d)))) n)) ((stN (stF 1 (fF S (9 + 0) 6) (lstW 3 1 C) τ C n x.toNatClampNeg (cutF n (fun d => gX S (21 + 6 * 0 + d) (K d)))) n)) ((r_12).toInt64) ((r_14).toInt64) (w_) ((by rw [hra_]; rfl)) ((by rw [hrb_]; rfl)) (by omega) (by omega)) (tS 3 hT m4_76 m4_77 m1_1 m4_78 rfl rfl (by decide +kernel) ⟨Nat.le_of_ble_eq_true rfl, Nat.le_of_ble_eq_true rfl⟩) ⟨PcN_blind, PcN_of _ _ _⟩ rfl rfl hl.1 rfl (lv_room (Nat.le_of_ble_eq_true rfl)) (fk_get fk_cX11_odds_0 23 rfl) ⟨Nat.zero_le _, Nat.zero_le _⟩) (fun r_16 hw_17 => ?_)
    try dsimp only at hw_17
    have hfr_ := hw_17
    subst hQ
    have hpost : XI S_9 ∧ Fr (fun j k => (j = 11 ∧ 3 ≤ k ∧ k ≤ 7) ∨ (33 ≤ j ∧ j < 39 ∧ 2 ≤ k ∧ k ≤ 9) ∨ (51 ≤ j ∧ j < 57 ∧ k = 99) ∨ ((j = 17 ∨ j = 20) ∧ k = 99)) S S_9 ∧ ((r_16 : Int64) = oddP (fF S (9 + 0) 6) (lstW 3 1 C) τ C n (fun d => gX S (21 + 6 * 0 + d) (K d)) x w_) := by
      exact ⟨hX_10, hF_11, (by first | exact odd_1 (Or.inl hny_) | exact odd_1 (Or.inr hnw_) | exact odd_2 hy_ hw_ rfl rfl hfr_)⟩
    exact W.lret (v := r_16) hx hb hr (fun t_ ht_ hW_ => ⟨⟨r_16, S_9, rfl, hpost, by rw [ht_]; exact hP, va_K.moved hW_.alike hK, hD⟩, hS.F ht_⟩) hS.2.2 (fk_get fk_cX11_odds_0 24 rfl)
  have p_c_6 := if1_t hw_5 c_6
  have hnw_ := nan2 p_c_6
  refine lv_ldc2 (v := (-9223372036854775808)) hx hb hown (hT _ m4_64) (fk_get fk_cX11_odds_0 10 rfl) ?_
  subst hQ
  have hpost : XI S ∧ Fr (fun j k => (j = 11 ∧ 3 ≤ k ∧ k ≤ 7) ∨ (33 ≤ j ∧ j < 39 ∧ 2 ≤ k ∧ k ≤ 9) ∨ (51 ≤ j ∧ j < 57 ∧ k = 99) ∨ ((j = 17 ∨ j = 20) ∧ k = 99)) S S ∧ (((-9223372036854775808) : Int64) = oddP (fF S (9 + 0) 6) (lstW 3 1 C) τ C n (fun d => gX S (21 + 6 * 0 + d) (K d)) x w_) := by
    exact ⟨hX, (Fr.rf : Fr (fun j k => (j = 11 ∧ 3 ≤ k ∧ k ≤ 7) ∨ (33 ≤ j ∧ j < 39 ∧ 2 ≤ k ∧ k ≤ 9) ∨ (51 ≤ j ∧ j < 57 ∧ k = 99) ∨ ((j = 17 ∨ j = 20) ∧ k = 99)) S S), (by first | exact odd_1 (Or.inl hny_) | exact odd_1 (Or.inr hnw_) | exact odd_2 hy_ hw_ rfl rfl hfr_)⟩
  exact W.lret (v := (-9223372036854775808)) hx hb hr (fun t_ ht_ hW_ => ⟨⟨(-9223372036854775808), S, rfl, hpost, by rw [ht_]; exact hP, va_K.moved hW_.alike hK, hD⟩, hS.F ht_⟩) hS.2.2 (fk_get fk_cX11_odds_0 11 rfl)
set_option maxHeartbeats 800000 in
set_option maxRecDepth 100000 in
theorem c_x11_meanX (l : Launch) (G : GG) (ad : Nat → Nat) (S : FS) (sz : Nat) (n pz : Nat) (K : Nat → Nat) (τ : Nat → Int32) (C : Cls) (x w_ : Int32) (hn : fF S (9 + 0) 3 = nI n) (hn6 : n ≤ 6) (hcf : CuF S 0 n pz τ C K) (hgc : ∀ d, d < n → GC 9999 (gX S (21 + 6 * 0 + d) (K d))) (h99 : N99 C) (hof : ∃ o : Nat, o ≤ 30 ∧ (fF S (9 + 0) 6) = nI o) (hX : XI S) : Met l yX11_mean (Cond.code yX11_mean cX11_mean 9 (some .long) :: TBL) ({ frames := 7, cells := 0, slots := 0, locals := 200 } : Room) (PcW G (wX G ad S) sz [.ref (ad 0), .int (x), .int (w_)]) (va_Ql (fun (r : Int64) (S' : FS) => XI S' ∧ Fr (fun j k => (j = 11 ∧ 3 ≤ k ∧ k ≤ 7) ∨ (33 ≤ j ∧ j < 39 ∧ 2 ≤ k ∧ k ≤ 9) ∨ (51 ≤ j ∧ j < 57 ∧ k = 99) ∨ ((j = 17 ∨ j = 20) ∧ k = 99)) S S' ∧ (r = meaP (fF S (9 + 0) 6) (lstW 3 1 C) τ C n (fun d => gX S (21 + 6 * 0 + d) (K d)) x w_)) (fun S' t => BW G (va_A (wX G ad S) sz) (wX G ad S') t) (va_A (wX G ad S) sz)) 0 0 (va_A (wX G ad S) sz) := by
  refine Met.ofW (cc := cX11_mean) (maxL := 9) (ret := (some .long)) (by decide) rfl ?_
  intro p e s m args below meth c₀ s₁ B hml hv
  obtain ⟨rfl, hsz, hP, hK, hD0⟩ := hv
  have hx := B.exec
  have hb := B.bytes
  have hr := B.returns
  have hT : ∀ w ∈ TBL, w.before ([.ref (ad 0), .int (x), .int (w_)] : List Value).toArray s = true := fun w h => atoms_spec (ws := Cond.code yX11_mean cX11_mean 9 (some .long) :: TBL) B.pre w (List.mem_cons_of_mem _ h)
  have hown : s.vm.findClass "LittleMore" = some m.cls := findClass_of_methodNamed B.named
  have hlocks := B.notSynchronized
  subst hsz
  have hD := hD0.self (sz := s.heap.size)
  generalize hAe : va_A (wX G ad S) s.heap.size = A at hD ⊢
  have hA : ∀ q : Nat, s.heap.size ≤ q → A q := fun q h => by rw [← hAe]; exact Or.inr h
  have hS : va_S A s.heap s.heap [] := va_S.rf
  have hP : va_P G.1 vwCl (wX G ad S) s.heap := hP
  have hl := lv_entry ([.ref (ad 0), .int (x), .int (w_)]) (n := 9) (Nat.le_of_ble_eq_true rfl)
  rw [lg_entry_eq]
  generalize (lg_sl ([.ref (ad 0), .int (x), .int (w_)]) ++ List.replicate (9 - (lg_sl ([.ref (ad 0), .int (x), .int (w_)])).length) Slot.unset).toArray = ls at hl ⊢
  have hl : lv_has ls 9 [(0, .ref (ad 0)), (1, .int (x)), (2, .int (w_))] := hl
  refine W_abs (fun Q hQ => ?_)
  generalize ([.ref (ad 0), .int (x), .int (w_)] : List Value).toArray = args at hT hQ ⊢
  obtain ⟨-, hpz0, hcok0, hctx0, hsay0⟩ := id hcf
  obtain ⟨lz, hlz, hln⟩ := lst_99 (k := 3) C 1 ⟨1, by omega, rfl⟩ h99.2
  obtain ⟨hme_, hme2_⟩ : (∀ w : Nat, w ≤ 40 → meN (fF S (9 + 0) 6) (lstW 3 1 C) τ C n w (cutF n (fun d => gX S (21 + 6 * 0 + d) (K d))) ≤ 6240 * w) ∧ ∀ w : Nat, w ≤ 40 → vsF 1 (fF S (9 + 0) 6) (lstW 3 1 C) τ C n w (cutF n (fun d => gX S (21 + 6 * 0 + d) (K d))) ≤ 240 := ⟨fun w hw => (me_b h99 hn6 hof w 9999 _ (by omega) (cut_gc hgc)).1, fun w hw => Nat.le_trans (vn_le w _) (by have z_ := Nat.mul_le_mul hn6 hw; omega)⟩
  refine lv_iload_n hx hb (fk_get fk_cX11_mean_0 0 rfl) rfl (lv_at hl 1 rfl) ?_
  refine lv_iconst (v := 1) hx hb (fk_get fk_cX11_mean_0 1 rfl) (by decide) ?_
  refine lv_bipush (v := 40) hx hb (fk_get fk_cX11_mean_0 2 rfl) (by decide) ?_
  refine vp_callSi (W.runS (As := [.int (x), .int (1), .int (40)]) (rest := []) ⟨hx, hb, hml, hown, hT⟩ (c_xisOutside l (x) (1) (40) ) (tS 3 hT m2_108 m2_109 m1_1 m2_110 rfl rfl (by decide +kernel) ⟨Nat.le_of_ble_eq_true rfl, Nat.le_of_ble_eq_true rfl⟩) ⟨PcN_blind, PcN_of _ _ _⟩ rfl rfl hl.1 rfl (lv_room (Nat.le_of_ble_eq_true rfl)) (fk_get fk_cX11_mean_0 3 rfl) ⟨Nat.zero_le _, Nat.zero_le _⟩) (fun r_1 hw_2 => ?_)
  try dsimp only at hw_2
  refine lv_if_ne (tgt := 19) hx hb (fk_get fk_cX11_mean_0 4 rfl) (by decide) (fun c_3 => ?_) (fun c_3 => ?_)
  · have p_c_3 := if1_t hw_2 c_3
    have hny_ := nan2 p_c_3
    refine lv_ldc2 (v := (-9223372036854775808)) hx hb hown (hT _ m4_64) (fk_get fk_cX11_mean_0 10 rfl) ?_
    subst hQ
    have hpost : XI S ∧ Fr (fun j k => (j = 11 ∧ 3 ≤ k ∧ k ≤ 7) ∨ (33 ≤ j ∧ j < 39 ∧ 2 ≤ k ∧ k ≤ 9) ∨ (51 ≤ j ∧ j < 57 ∧ k = 99) ∨ ((j = 17 ∨ j = 20) ∧ k = 99)) S S ∧ (((-9223372036854775808) : Int64) = meaP (fF S (9 + 0) 6) (lstW 3 1 C) τ C n (fun d => gX S (21 + 6 * 0 + d) (K d)) x w_) := by
      exact ⟨hX, (Fr.rf : Fr (fun j k => (j = 11 ∧ 3 ≤ k ∧ k ≤ 7) ∨ (33 ≤ j ∧ j < 39 ∧ 2 ≤ k ∧ k ≤ 9) ∨ (51 ≤ j ∧ j < 57 ∧ k = 99) ∨ ((j = 17 ∨ j = 20) ∧ k = 99)) S S), (by first | exact mea_1 (Or.inl hny_) | exact mea_1 (Or.inr hnw_) | exact mea_2 hy_ hw_ (by rw [hcy_]) (by rw [hcy_]) hfr_)⟩
    exact W.lret (v := (-9223372036854775808)) hx hb hr (fun t_ ht_ hW_ => ⟨⟨(-9223372036854775808), S, rfl, hpost, by rw [ht_]; exact hP, va_K.moved hW_.alike hK, hD⟩, hS.F ht_⟩) hS.2.2 (fk_get fk_cX11_mean_0 11 rfl)
  have p_c_3 := if1_f hw_2 c_3
  obtain ⟨wz, hw40, ew⟩ := out_1 (b := 40) p_c_3 (by decide)
  have hcy_ : x.toNatClampNeg = wz := by rw [ew]; exact nI_clamp (by omega)
  have hy_ := nor2.mp p_c_3
  have hmb_ := hme_ wz hw40
  have hvb_ := hme2_ wz hw40
  refine lv_iload_n hx hb (fk_get fk_cX11_mean_0 5 rfl) rfl (lv_at hl 2 rfl) ?_
  refine lv_iconst (v := 0) hx hb (fk_get fk_cX11_mean_0 6 rfl) (by decide) ?_
  refine lv_iconst (v := 1) hx hb (fk_get fk_cX11_mean_0 7 rfl) (by decide) ?_
  refine vp_callSi (W.runS (As := [.int (w_), .int (0), .int (1)]) (rest := []) ⟨hx, hb, hml, hown, hT⟩ (c_xisOutside l (w_) (0) (1) ) (tS 3 hT m2_108 m2_109 m1_1 m2_110 rfl rfl (by decide +kernel) ⟨Nat.le_of_ble_eq_true rfl, Nat.le_of_ble_eq_true rfl⟩) ⟨PcN_blind, PcN_of _ _ _⟩ rfl rfl hl.1 rfl (lv_room (Nat.le_of_ble_eq_true rfl)) (fk_get fk_cX11_mean_0 8 rfl) ⟨Nat.zero_le _, Nat.zero_le _⟩) (fun r_4 hw_5 => ?_)
  try dsimp only at hw_5
  refine lv_if_eq (tgt := 23) hx hb (fk_get fk_cX11_mean_0 9 rfl) (by decide) (fun c_6 => ?_) (fun c_6 => ?_)
  · have p_c_6 := if1_f hw_5 c_6
    have hw_ := nor2.mp p_c_6
    refine lv_aload_n hx hb (fk_get fk_cX11_mean_0 12 rfl) rfl (lv_at hl 0 rfl) ?_
    have hFc := va_self hD hS hA
    refine va_callr (va_runV (As := []) (rest := []) ⟨hx, hb, hml, hown, hT⟩ (c_x11_shopToTryX l G ad S s.heap.size (n) (hn) (hn6) (hX)) (tV 0 hT m3_211 m3_213 mp_11 m1_1 m3_214 rfl rfl (by decide +kernel) ⟨Nat.le_of_ble_eq_true rfl, Nat.le_of_ble_eq_true rfl⟩) ⟨PcW_blind, va_recv hK hP (ci := 13) (q0 := 0) rfl (ix_at (lt71 (by omega)) (cX_0 G ad S)), PcW_of hP hK hD _⟩ rfl rfl hl.1 rfl (lv_room (Nat.le_of_ble_eq_true rfl)) (fk_get fk_cX11_mean_0 13 rfl) ⟨Nat.zero_le _, Nat.zero_le _⟩) hS (fun q _ h => hFc q h) hFc (fun S_9 r_7 t_ H locs ht_ hvm_ hw_8 hB_ hz_ hk_ hS => ?_)
    obtain ⟨hra_, hB_⟩ := hB_
    subst hra_
    obtain ⟨hP, -, hD1_⟩ := hB_
    rw [ht_] at hP
    have hD : va_D A (wX G ad S_9) := hD1_.weaken (fun k q _ h => hFc q.1 h)
    try dsimp only at hw_8
    obtain ⟨hX_10, hF_11_, hw_8⟩ := hw_8
    have hF_11 : Fr (fun j k => (j = 11 ∧ 3 ≤ k ∧ k ≤ 7) ∨ (33 ≤ j ∧ j < 39 ∧ 2 ≤ k ∧ k ≤ 9) ∨ (51 ≤ j ∧ j < 57 ∧ k = 99) ∨ ((j = 17 ∨ j = 20) ∧ k = 99)) S S_9 := Fr.trans (Fr.rf : Fr (fun j k => (j = 11 ∧ 3 ≤ k ∧ k ≤ 7) ∨ (33 ≤ j ∧ j < 39 ∧ 2 ≤ k ∧ k ≤ 9) ∨ (51 ≤ j ∧ j < 57 ∧ k = 99) ∨ ((j = 17 ∨ j = 20) ∧ k = 99)) S S) (Fr.mono hF_11_ (fun j k h => by omega))
    obtain ⟨hbe_, hrr_⟩ := hw_8
    obtain ⟨hcf2_, hgx2_, hbf_, hsn2_⟩ := try_of hbe_ hrr_ hF_11_ hcf hn6
    have hn2_ : fF S_9 (9 + 2) 3 = nI n := (hbf_ 3 (by omega) (by omega)).trans hn
    have hpz2_ : fR S_9 (9 + 2) 7 = some pz := hcf2_.2.1
    have hcok2_ : COK S_9 pz := hcf2_.2.2.1
    have hof2_ : fF S_9 (9 + 2) 6 = fF S (9 + 0) 6 := hbf_ 6 (by omega) (by omega)
    have hgc2_ : ∀ d, d < n → GC 9999 (gX S_9 (21 + 6 * 2 + d) (K d)) := fun d hd => by rw [hgx2_ d hd]; exact hgc d hd
    refine lv_astore_n (lv' := [(3, .ref (ad (9 + 2))), (0, .ref (ad 0)), (1, .int (x)), (2, .int (w_))]) hx hb (fk_get fk_cX11_mean_0 14 rfl) rfl hl (by decide) rfl (fun ls hl => ?_)
    refine lv_lconst (v := 0) hx hb (fk_get fk_cX11_mean_0 15 rfl) (by decide) ?_
    refine lv_lstore (lv' := [(4, .long (0)), (3, .ref (ad (9 + 2))), (0, .ref (ad 0)), (1, .int (x)), (2, .int (w_))]) hx hb (fk_get fk_cX11_mean_0 16 rfl) hl (by decide) rfl (fun ls hl => ?_)
    refine lv_lconst (v := 0) hx hb (fk_get fk_cX11_mean_0 17 rfl) (by decide) ?_
    refine lv_lstore (lv' := [(6, .long (0)), (4, .long (0)), (3, .ref (ad (9 + 2))), (0, .ref (ad 0)), (1, .int (x)), (2, .int (w_))]) hx hb (fk_get fk_cX11_mean_0 18 rfl) hl (by decide) rfl (fun ls hl => ?_)
    refine lv_iconst (v := 0) hx hb (fk_get fk_cX11_mean_0 19 rfl) (by decide) ?_
    refine lv_istore (lv' := [(8, .int (0)), (6, .long (0)), (4, .long (0)), (3, .ref (ad (9 + 2))), (0, .ref (ad 0)), (1, .int (x)), (2, .int (w_))]) hx hb (fk_get fk_cX11_mean_0 20 rfl) hl (by decide) rfl (fun ls hl => ?_)
    have lp_12 : ∀ (fu : Nat) (c : Nat) (v4 : Int64) (v6 : Int64) (SL37 : FS) (H_14 : Heap) (locs_15 : List Loc) (ls : Array Slot),  (XI SL37) → (Fr (fun j k => (j = 11 ∧ 3 ≤ k ∧ k ≤ 7) ∨ (33 ≤ j ∧ j < 39 ∧ 2 ≤ k ∧ k ≤ 9) ∨ (51 ≤ j ∧ j < 57 ∧ k = 99) ∨ ((j = 17 ∨ j = 20) ∧ k = 99)) S SL37) → (c ≤ wz) → (wz < c + fu) → (fF SL37 (9 + 2) 3 = nI n) → (CuF SL37 2 n pz τ C K) → (fF SL37 (9 + 2) 6 = (fF S (9 + 0) 6)) → (∀ d, d < n → GC (9999 + c) (gX SL37 (21 + 6 * 2 + d) (K d))) → (∃ a : Nat, v4 = lI a ∧ a + meN (fF S (9 + 0) 6) (lstW 3 1 C) τ C n (wz - c) (cutF n (fun d => gX SL37 (21 + 6 * 2 + d) (K d))) = (meN (fF S (9 + 0) 6) (lstW 3 1 C) τ C n wz (cutF n (fun d => gX S (21 + 6 * 0 + d) (K d))))) → (∃ b : Nat, v6 = lI b ∧ b + vsF 1 (fF S (9 + 0) 6) (lstW 3 1 C) τ C n (wz - c) (cutF n (fun d => gX SL37 (21 + 6 * 2 + d) (K d))) = (vsF 1 (fF S (9 + 0) 6) (lstW 3 1 C) τ C n wz (cutF n (fun d => gX S (21 + 6 * 0 + d) (K d))))) → va_P G.1 vwCl (wX G ad SL37) H_14 → va_D A (wX G ad SL37) → va_S A s.heap H_14 locs_15 → lv_has ls 9 [(8, .int ((nI c))), (6, .long (v6)), (4, .long (v4)), (3, .ref (ad (9 + 2))), (0, .ref (ad 0)), (1, .int (x)), (2, .int (w_))] → W p l e ({ frames := 7, cells := 0, slots := 0, locals := 200 } : Room) s m args below meth c₀ H_14 locs_15 0 0 Q (F0 m 37 ls []) := by
      intro fu
      induction fu with
      | zero =>
        intro c v4 v6 SL37 H_14 locs_15 ls hXl37 hFl37 hk hf hnL hcfL hofL hgcL h4 h6 hP hD hS hl
        exact absurd hf (by omega)
      | succ fu ih =>
        intro c v4 v6 SL37 H_14 locs_15 ls hXl37 hFl37 hk hf hnL hcfL hofL hgcL h4 h6 hP hD hS hl
        obtain ⟨-, hpzL, hcokL, hctxL, hsayL⟩ := id hcfL
        obtain ⟨a4, ev4, ha4⟩ := h4
        obtain ⟨b6, ev6, hb6⟩ := h6
        refine lv_iload hx hb (fk_get fk_cX11_mean_0 21 rfl) (lv_at hl 0 rfl) ?_
        refine lv_iload_n hx hb (fk_get fk_cX11_mean_0 22 rfl) rfl (lv_at hl 5 rfl) ?_
        refine lv_icmp_ge (tgt := 79) hx hb (fk_get fk_cX11_mean_0 23 rfl) (by decide) (fun c_16 => ?_) (fun c_16 => ?_)
        · have hge_ : wz ≤ c := (nI_leI (a := wz) (b := c) (by omega) (by omega)).mp (by rw [← ew]; exact c_16)
          have hfa_ := me_en ha4 hge_
          have hfb_ := vn_en hb6 hge_
          refine lv_lload hx hb (fk_get fk_cX11_mean_1 11 rfl) (lv_at hl 2 rfl) ?_
          refine lv_lload hx hb (fk_get fk_cX11_mean_1 12 rfl) (lv_at hl 1 rfl) ?_
          refine lv_iload_n hx hb (fk_get fk_cX11_mean_1 13 rfl) rfl (lv_at hl 6 rfl) ?_
          refine vp_callSl (W.runS (As := [.long (v4), .long (v6), .int (w_)]) (rest := []) ⟨hx, hb, hml, hown, hT⟩ (c_xpartInLowestTermsX l ((meN (fF S (9 + 0) 6) (lstW 3 1 C) τ C n wz (cutF n (fun d => gX S (21 + 6 * 0 + d) (K d))))) ((vsF 1 (fF S (9 + 0) 6) (lstW 3 1 C) τ C n wz (cutF n (fun d => gX S (21 + 6 * 0 + d) (K d))))) (v4) (v6) (w_) ((by rw [ev4, hfa_])) ((by rw [ev6, hfb_])) (by omega) (by omega)) (tS 3 hT m4_76 m4_77 m1_1 m4_78 rfl rfl (by decide +kernel) ⟨Nat.le_of_ble_eq_true rfl, Nat.le_of_ble_eq_true rfl⟩) ⟨PcN_blind, PcN_of _ _ _⟩ rfl rfl hl.1 rfl (lv_room (Nat.le_of_ble_eq_true rfl)) (fk_get fk_cX11_mean_1 14 rfl) ⟨Nat.zero_le _, Nat.zero_le _⟩) (fun r_17 hw_18 => ?_)
          try dsimp only at hw_18
          have hfr_ := hw_18
          subst hQ
          have hpost : XI SL37 ∧ Fr (fun j k => (j = 11 ∧ 3 ≤ k ∧ k ≤ 7) ∨ (33 ≤ j ∧ j < 39 ∧ 2 ≤ k ∧ k ≤ 9) ∨ (51 ≤ j ∧ j < 57 ∧ k = 99) ∨ ((j = 17 ∨ j = 20) ∧ k = 99)) S SL37 ∧ ((r_17 : Int64) = meaP (fF S (9 + 0) 6) (lstW 3 1 C) τ C n (fun d => gX S (21 + 6 * 0 + d) (K d)) x w_) := by
            exact ⟨hXl37, hFl37, (by first | exact mea_1 (Or.inl hny_) | exact mea_1 (Or.inr hnw_) | exact mea_2 hy_ hw_ (by rw [hcy_]) (by rw [hcy_]) hfr_)⟩
          exact W.lret (v := r_17) hx hb hr (fun t_ ht_ hW_ => ⟨⟨r_17, SL37, rfl, hpost, by rw [ht_]; exact hP, va_K.moved hW_.alike hK, hD⟩, hS.F ht_⟩) hS.2.2 (fk_get fk_cX11_mean_1 15 rfl)
        have hlt_ : c < wz := Nat.lt_of_not_le (fun z_ => c_16 (by rw [ew]; exact (nI_leI (a := wz) (b := c) (by omega) (by omega)).mpr z_))
        obtain ⟨xa, xb, hxa, hxb, exa, exb⟩ := sab_b (off := (fF S (9 + 0) 6)) (τ := τ) (C := C) h99 hof n (Nat.le_refl n) hgcL
        refine lv_lload hx hb (fk_get fk_cX11_mean_0 24 rfl) (lv_at hl 1 rfl) ?_
        refine lv_aload_n hx hb (fk_get fk_cX11_mean_0 25 rfl) rfl (lv_at hl 3 rfl) ?_
        refine vp_callSi (W.runV (As := []) (rest := [.long (v6)]) ⟨hx, hb, hml, hown, hT⟩ (c_x7_howManyStayX l G ad SL37 H_14.size (2) (n) (pz) (9999 + c) (lz) (K) (τ) (C) ((by decide : 2 < 3)) (by first | assumption | omega) (by first | assumption | omega) (hcfL) ((fun d hd => (hgcL d hd).1)) (by omega) (hXl37)) (tV 0 hT m4_65 m4_66 m4_67 m1_9 m4_68 rfl rfl (by decide +kernel) ⟨Nat.le_of_ble_eq_true rfl, Nat.le_of_ble_eq_true rfl⟩) ⟨PcW_blind, va_recv hK hP (ci := 9) (q0 := (9 + 2)) rfl (ix_at (lt71 (by omega)) (cX_shop (pk_shop (by decide : 2 < 3)))), PcW_of hP hK hD _⟩ rfl rfl hl.1 rfl (lv_room (Nat.le_of_ble_eq_true rfl)) (fk_get fk_cX11_mean_0 26 rfl) ⟨Nat.zero_le _, Nat.zero_le _⟩) (fun r_19 hw_20 => ?_)
        try dsimp only at hw_20
        subst hw_20
        refine lv_i2l hx hb (fk_get fk_cX11_mean_0 27 rfl) rfl ?_
        refine lv_ladd hx hb (fk_get fk_cX11_mean_0 28 rfl) ?_
        refine lv_lstore (lv' := [(6, .long ((v6 + ((nI (stN (fun d => gX SL37 (21 + 6 * 2 + d) (K d)) n))).toInt64))), (8, .int ((nI c))), (4, .long (v4)), (3, .ref (ad (9 + 2))), (0, .ref (ad 0)), (1, .int (x)), (2, .int (w_))]) hx hb (fk_get fk_cX11_mean_0 29 rfl) hl (by decide) rfl (fun ls hl => ?_)
        refine lv_lload hx hb (fk_get fk_cX11_mean_0 30 rfl) (lv_at hl 2 rfl) ?_
        refine lv_aload_n hx hb (fk_get fk_cX11_mean_0 31 rfl) rfl (lv_at hl 3 rfl) ?_
        refine vp_callSi (W.runV (As := []) (rest := [.long (v4)]) ⟨hx, hb, hml, hown, hT⟩ (c_x7_askedTogetherX l G ad SL37 H_14.size (2) (n) (pz) (9999 + c) (lz) (K) (τ) (C) ((by decide : 2 < 3)) (by first | assumption | omega) (by first | assumption | omega) (hcfL) ((fun d hd => (hgcL d hd).1)) (by omega) (hXl37)) (tV 0 hT m4_86 m4_87 m4_88 m1_9 m4_89 rfl rfl (by decide +kernel) ⟨Nat.le_of_ble_eq_true rfl, Nat.le_of_ble_eq_true rfl⟩) ⟨PcW_blind, va_recv hK hP (ci := 9) (q0 := (9 + 2)) rfl (ix_at (lt71 (by omega)) (cX_shop (pk_shop (by decide : 2 < 3)))), PcW_of hP hK hD _⟩ rfl rfl hl.1 rfl (lv_room (Nat.le_of_ble_eq_true rfl)) (fk_get fk_cX11_mean_1 0 rfl) ⟨Nat.zero_le _, Nat.zero_le _⟩) (fun r_21 hw_22 => ?_)
        try dsimp only at hw_22
        rw [exa] at hw_22
        subst hw_22
        refine lv_i2l hx hb (fk_get fk_cX11_mean_1 1 rfl) rfl ?_
        refine lv_lsub hx hb (dk_get dk_cX11_mean_0 0 rfl) ?_
        refine lv_lstore (lv' := [(4, .long ((v4 - ((nI xa)).toInt64))), (6, .long ((v6 + ((nI (stN (fun d => gX SL37 (21 + 6 * 2 + d) (K d)) n))).toInt64))), (8, .int ((nI c))), (3, .ref (ad (9 + 2))), (0, .ref (ad 0)), (1, .int (x)), (2, .int (w_))]) hx hb (fk_get fk_cX11_mean_1 2 rfl) hl (by decide) rfl (fun ls hl => ?_)
        refine lv_lload hx hb (fk_get fk_cX11_mean_1 3 rfl) (lv_at hl 0 rfl) ?_
        refine lv_aload_n hx hb (fk_get fk_cX11_mean_1 4 rfl) rfl (lv_at hl 3 rfl) ?_
        have hFc := va_self hD hS hA
        refine va_calli (va_runV (As := []) (rest := [.long ((v4 - ((nI xa)).toInt64))]) ⟨hx, hb, hml, hown, hT⟩ (c_x7_makeSaturdayX l G ad SL37 H_14.size (2) (n) (pz) (9999 + c) (lz) (K) (τ) (C) ((by decide : 2 < 3)) (by first | assumption | omega) (by first | assumption | omega) (hcfL) ((fun d hd => (hgcL d hd).1)) (by omega) (hln) (hlz) (hXl37)) (tV 0 hT m3_202 m3_203 m3_204 m1_9 m3_205 rfl rfl (by decide +kernel) ⟨Nat.le_of_ble_eq_true rfl, Nat.le_of_ble_eq_true rfl⟩) ⟨PcW_blind, va_recv hK hP (ci := 9) (q0 := (9 + 2)) rfl (ix_at (lt71 (by omega)) (cX_shop (pk_shop (by decide : 2 < 3)))), PcW_of hP hK hD _⟩ rfl rfl hl.1 rfl (lv_room (Nat.le_of_ble_eq_true rfl)) (fk_get fk_cX11_mean_1 5 rfl) ⟨Nat.zero_le _, Nat.zero_le _⟩) hS (fun q _ h => hFc q h) hFc (fun r_23 S_25 t_ H locs ht_ hvm_ hw_24 hB_ hz_ hk_ hS => ?_)
        obtain ⟨hP, -, hD1_⟩ := hB_
        rw [ht_] at hP
        have hD : va_D A (wX G ad S_25) := hD1_.weaken (fun k q _ h => hFc q.1 h)
        try dsimp only at hw_24
        obtain ⟨hX_26, hF_27_, hw_24⟩ := hw_24
        have hF_27 : Fr (fun j k => (j = 11 ∧ 3 ≤ k ∧ k ≤ 7) ∨ (33 ≤ j ∧ j < 39 ∧ 2 ≤ k ∧ k ≤ 9) ∨ (51 ≤ j ∧ j < 57 ∧ k = 99) ∨ ((j = 17 ∨ j = 20) ∧ k = 99)) S S_25 := Fr.trans hFl37 (Fr.mono hF_27_ (fun j k h => by omega))
        obtain ⟨hsr_, hsg_⟩ := hw_24
        rw [hofL] at hsg_ hsr_
        have hcfN : CuF S_25 2 n pz τ C K := hcfL.fr (by omega) hn6 hF_27_ (fun d hd_ => by omega) (by omega) (fun j k a b => by omega)
        have hnN : fF S_25 (9 + 2) 3 = nI n := (Fr.F hF_27_ (lt71 (by omega)) (by omega)).trans hnL
        have hofN := (Fr.F hF_27_ (j := 9 + 2) (k := 6) (lt71 (by omega)) (by omega)).trans hofL
        have hgcN : ∀ d, d < n → GC (9999 + (c + 1)) (gX S_25 (21 + 6 * 2 + d) (K d)) := fun d hd => by rw [show gX S_25 (21 + 6 * 2 + d) (K d) = _ from hsg_ d hd]; exact sa_gc (B := 9999 + c) (by omega) hgcL d hd
        rw [exb] at hsr_
        subst hsr_
        have hst_ := st_le (fun d => gX SL37 (21 + 6 * 2 + d) (K d)) n
        have hms_ := meN_s ha4 hlt_ hsg_ exa exb (by omega)
        have hvs_ := vn_st hb6 hlt_ hsg_
        have h4N := (⟨a4 + xb, (by rw [ev4]; exact lI_me (by omega) (by omega) (by omega)), hms_⟩ : ∃ a : Nat, v4 - (nI xa).toInt64 + (nI (xa + xb)).toInt64 = lI a ∧ a + meN (fF S (9 + 0) 6) (lstW 3 1 C) τ C n (wz - (c + 1)) (cutF n (fun d => gX S_25 (21 + 6 * 2 + d) (K d))) = (meN (fF S (9 + 0) 6) (lstW 3 1 C) τ C n wz (cutF n (fun d => gX S (21 + 6 * 0 + d) (K d)))))
        have h6N := (⟨b6 + stN (fun d => gX SL37 (21 + 6 * 2 + d) (K d)) n, (by rw [ev6]; exact lI_add (by omega)), hvs_⟩ : ∃ b : Nat, v6 + (nI (stN (fun d => gX SL37 (21 + 6 * 2 + d) (K d)) n)).toInt64 = lI b ∧ b + vsF 1 (fF S (9 + 0) 6) (lstW 3 1 C) τ C n (wz - (c + 1)) (cutF n (fun d => gX S_25 (21 + 6 * 2 + d) (K d))) = (vsF 1 (fF S (9 + 0) 6) (lstW 3 1 C) τ C n wz (cutF n (fun d => gX S (21 + 6 * 0 + d) (K d)))))
        refine lv_i2l hx hb (fk_get fk_cX11_mean_1 6 rfl) rfl ?_
        refine lv_ladd hx hb (fk_get fk_cX11_mean_1 7 rfl) ?_
        refine lv_lstore (lv' := [(4, .long (((v4 - ((nI xa)).toInt64) + ((nI (xa + xb))).toInt64))), (6, .long ((v6 + ((nI (stN (fun d => gX SL37 (21 + 6 * 2 + d) (K d)) n))).toInt64))), (8, .int ((nI c))), (3, .ref (ad (9 + 2))), (0, .ref (ad 0)), (1, .int (x)), (2, .int (w_))]) hx hb (fk_get fk_cX11_mean_1 8 rfl) hl (by decide) rfl (fun ls hl => ?_)
        refine lv_iinc (v := (nI (c + 1))) (lv' := [(8, .int ((nI (c + 1)))), (4, .long (((v4 - ((nI xa)).toInt64) + ((nI (xa + xb))).toInt64))), (6, .long ((v6 + ((nI (stN (fun d => gX SL37 (21 + 6 * 2 + d) (K d)) n))).toInt64))), (3, .ref (ad (9 + 2))), (0, .ref (ad 0)), (1, .int (x)), (2, .int (w_))]) hx hb (fk_get fk_cX11_mean_1 9 rfl) hl (k := 2) rfl ((nI_1 c)) (by decide) rfl (fun ls hl => ?_)
        refine lv_goto (tgt := 37) hx hb (fk_get fk_cX11_mean_1 10 rfl) (by decide) ?_
        exact ih (c + 1) (((v4 - ((nI xa)).toInt64) + ((nI (xa + xb))).toInt64)) ((v6 + ((nI (stN (fun d => gX SL37 (21 + 6 * 2 + d) (K d)) n))).toInt64)) (S_25) _ _ ls (hX_26) (hF_27) (by omega) (by omega) (hnN) (hcfN) (hofN) (hgcN) (h4N) (h6N) hP hD hS (lv_sub hl [0, 2, 1, 3, 4, 5, 6] rfl)
    exact lp_12 (wz + 1) (0) (0) (0) (S_9) _ _ ls (hX_10) (hF_11) (by omega) (by omega) (hn2_) (hcf2_) (hof2_) (hgc2_) (⟨0, rfl, by rw [Nat.sub_zero, Nat.zero_add]; exact congrArg _ (cut_cg (fun d hd => hgx2_ d hd))⟩) (⟨0, rfl, by rw [Nat.sub_zero, Nat.zero_add]; exact congrArg _ (cut_cg (fun d hd => hgx2_ d hd))⟩) hP hD hS (lv_sub hl [0, 1, 2, 3, 4, 5, 6] rfl)
  have p_c_6 := if1_t hw_5 c_6
  have hnw_ := nan2 p_c_6
  refine lv_ldc2 (v := (-9223372036854775808)) hx hb hown (hT _ m4_64) (fk_get fk_cX11_mean_0 10 rfl) ?_
  subst hQ
  have hpost : XI S ∧ Fr (fun j k => (j = 11 ∧ 3 ≤ k ∧ k ≤ 7) ∨ (33 ≤ j ∧ j < 39 ∧ 2 ≤ k ∧ k ≤ 9) ∨ (51 ≤ j ∧ j < 57 ∧ k = 99) ∨ ((j = 17 ∨ j = 20) ∧ k = 99)) S S ∧ (((-9223372036854775808) : Int64) = meaP (fF S (9 + 0) 6) (lstW 3 1 C) τ C n (fun d => gX S (21 + 6 * 0 + d) (K d)) x w_) := by
    exact ⟨hX, (Fr.rf : Fr (fun j k => (j = 11 ∧ 3 ≤ k ∧ k ≤ 7) ∨ (33 ≤ j ∧ j < 39 ∧ 2 ≤ k ∧ k ≤ 9) ∨ (51 ≤ j ∧ j < 57 ∧ k = 99) ∨ ((j = 17 ∨ j = 20) ∧ k = 99)) S S), (by first | exact mea_1 (Or.inl hny_) | exact mea_1 (Or.inr hnw_) | exact mea_2 hy_ hw_ (by rw [hcy_]) (by rw [hcy_]) hfr_)⟩
  exact W.lret (v := (-9223372036854775808)) hx hb hr (fun t_ ht_ hW_ => ⟨⟨(-9223372036854775808), S, rfl, hpost, by rw [ht_]; exact hP, va_K.moved hW_.alike hK, hD⟩, hS.F ht_⟩) hS.2.2 (fk_get fk_cX11_mean_0 11 rfl)
