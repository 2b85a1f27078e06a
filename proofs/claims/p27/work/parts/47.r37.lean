theorem out_n {x : Int32} {b : Nat} (h : ¬ (x < 0 ∨ nI b < x)) (hb : b < 2 ^ 31) : ∃ w, w ≤ b ∧ x = nI w := by
  obtain ⟨j, hj, rfl⟩ := nI_of (x := x) (fun q => h (Or.inl q))
  exact ⟨j, ci_nlt (a := b) (b := j) hb hj (fun q => h (Or.inr q)), rfl⟩
theorem out_1 {x : Int32} {b : Nat} (h : ¬ (x < 1 ∨ nI b < x)) (hb : b < 2 ^ 31) : ∃ w, w ≤ b ∧ x = nI w := out_n (fun q => h (q.elim (fun a => Or.inl (Int32.lt_trans a (by decide))) Or.inr)) hb
theorem out_len {x : Int32} {L : Nat} (hL : L ≤ 60) (h : ¬ (x < 0 ∨ nI L - 1 < x)) : ∃ w, w < L ∧ x = nI w := by
  obtain ⟨j, hj, rfl⟩ := nI_of (x := x) (fun q => h (Or.inl q))
  refine ⟨j, ?_, rfl⟩
  by_cases q : j < L
  · exact q
  · exfalso
    apply h
    right
    cases L with
    | zero =>
      have e : (nI 0 - 1 : Int32) = -1 := by decide
      rw [e]
      refine Int32.lt_iff_toInt_lt.mpr ?_
      rw [nI_toInt hj, show (-1 : Int32).toInt = -1 from rfl]
      omega
    | succ L =>
      rw [nI_pred]
      exact nI_lt (by omega) hj
theorem cu_ret (n : Nat) : nI (n + 1) - 1 = nI n := nI_pred n
/-- what customer() answers and leaves, at n customers -/
def CuP (n : Nat) (kd v_ w_ r : Int32) (S S' : FS) : Prop :=
  ((kd < 0 ∨ 6 < kd) ∧ r = -1 ∧ S' = S) ∨
  (¬ (kd < 0 ∨ 6 < kd) ∧ ((v_ < 0 ∨ 9 < v_) ∨ (w_ < 10 ∨ 99 < w_)) ∧ r = -2 ∧ S' = S) ∨
  (¬ (kd < 0 ∨ 6 < kd) ∧ ¬ (v_ < 0 ∨ 9 < v_) ∧ ¬ (w_ < 10 ∨ 99 < w_) ∧ n = 6 ∧ r = -4 ∧ S' = S) ∨
  (¬ (kd < 0 ∨ 6 < kd) ∧ ¬ (v_ < 0 ∨ 9 < v_) ∧ ¬ (w_ < 10 ∨ 99 < w_) ∧ n < 6 ∧ r = nI n ∧ fF S' (9 + 0) 3 = nI (n + 1) ∧ ∃ kz, kz < 7 ∧ kd = nI kz ∧
    (fR S' (21 + 6 * 0 + n) 2 = some (2 + kz) ∧ fF S' (21 + 6 * 0 + n) 3 = v_ ∧ fF S' (21 + 6 * 0 + n) 4 = w_ ∧ fF S' (21 + 6 * 0 + n) 5 = 3 ∧ (∀ k, 6 ≤ k → k ≤ 9 → fF S' (21 + 6 * 0 + n) k = 0) ∧ ∀ k, k < 4 → fA S' (21 + 6 * 0 + n + 18) k = 0))
set_option maxHeartbeats 800000 in
set_option maxRecDepth 100000 in
theorem c_x11_customer (l : Launch) (G : GG) (ad : Nat → Nat) (S : FS) (sz : Nat) (n : Nat) (kd : Int32) (v_ : Int32) (w_ : Int32) (hn : fF S (9 + 0) 3 = nI n) (hn6 : n ≤ 6) (hX : XI S) : Met l yX11_customer (Cond.code yX11_customer cX11_customer 4 (some .int) :: TBL) ({ frames := 4, cells := 0, slots := 0, locals := 118 } : Room) (PcW G (wX G ad S) sz [.ref (ad 0), .int (kd), .int (v_), .int (w_)]) (va_Qi (fun (r : Int32) (S' : FS) => XI S' ∧ Fr (fun j k => (j = 9 ∧ k = 3) ∨ (j = 21 + n ∧ 2 ≤ k ∧ k ≤ 9) ∨ (j = 39 + n ∧ k = 99)) S S' ∧ CuP n kd v_ w_ r S S') (fun S' t => BW G (va_A (wX G ad S) sz) (wX G ad S') t) (va_A (wX G ad S) sz)) 0 0 (va_A (wX G ad S) sz) := by
  refine Met.ofW (cc := cX11_customer) (maxL := 4) (ret := (some .int)) (by decide) rfl ?_
  intro p e s m args below meth c₀ s₁ B hml hv
  obtain ⟨rfl, hsz, hP, hK, hD0⟩ := hv
  have hx := B.exec
  have hb := B.bytes
  have hr := B.returns
  have hT : ∀ w ∈ TBL, w.before ([.ref (ad 0), .int (kd), .int (v_), .int (w_)] : List Value).toArray s = true := fun w h => atoms_spec (ws := Cond.code yX11_customer cX11_customer 4 (some .int) :: TBL) B.pre w (List.mem_cons_of_mem _ h)
  have hown : s.vm.findClass "LittleMore" = some m.cls := findClass_of_methodNamed B.named
  have hlocks := B.notSynchronized
  subst hsz
  have hD := hD0.self (sz := s.heap.size)
  generalize hAe : va_A (wX G ad S) s.heap.size = A at hD ⊢
  have hA : ∀ q : Nat, s.heap.size ≤ q → A q := fun q h => by rw [← hAe]; exact Or.inr h
  have hS : va_S A s.heap s.heap [] := va_S.rf
  have hP : va_P G.1 vwCl (wX G ad S) s.heap := hP
  have hl := lv_entry ([.ref (ad 0), .int (kd), .int (v_), .int (w_)]) (n := 4) (Nat.le_of_ble_eq_true rfl)
  rw [lg_entry_eq]
  generalize (lg_sl ([.ref (ad 0), .int (kd), .int (v_), .int (w_)]) ++ List.replicate (4 - (lg_sl ([.ref (ad 0), .int (kd), .int (v_), .int (w_)])).length) Slot.unset).toArray = ls at hl ⊢
  have hl : lv_has ls 4 [(0, .ref (ad 0)), (1, .int (kd)), (2, .int (v_)), (3, .int (w_))] := hl
  refine W_abs (fun Q hQ => ?_)
  generalize ([.ref (ad 0), .int (kd), .int (v_), .int (w_)] : List Value).toArray = args at hT hQ ⊢
  refine lv_iload_n hx hb (fk_get fk_cX11_customer_0 0 rfl) rfl (lv_at hl 1 rfl) ?_
  refine lv_iconst (v := 0) hx hb (fk_get fk_cX11_customer_0 1 rfl) (by decide) ?_
  refine lv_bipush (v := 6) hx hb (fk_get fk_cX11_customer_0 2 rfl) (by decide) ?_
  refine vp_callSi (W.runS (As := [.int (kd), .int (0), .int (6)]) (rest := []) ⟨hx, hb, hml, hown, hT⟩ (c_xisOutside l (kd) (0) (6) ) (tS 3 hT m2_108 m2_109 m1_1 m2_110 rfl rfl (by decide +kernel) ⟨Nat.le_of_ble_eq_true rfl, Nat.le_of_ble_eq_true rfl⟩) ⟨PcN_blind, PcN_of _ _ _⟩ rfl rfl hl.1 rfl (lv_room (Nat.le_of_ble_eq_true rfl)) (fk_get fk_cX11_customer_0 3 rfl) ⟨Nat.zero_le _, Nat.zero_le _⟩) (fun r_1 hw_2 => ?_)
  try dsimp only at hw_2
  refine lv_if_eq (tgt := 12) hx hb (fk_get fk_cX11_customer_0 4 rfl) (by decide) (fun c_3 => ?_) (fun c_3 => ?_)
  · have p_c_3 := if1_f hw_2 c_3
    obtain ⟨kz, hkz, ek⟩ := out_n (b := 6) p_c_3 (by decide)
    refine lv_iload_n hx hb (fk_get fk_cX11_customer_0 7 rfl) rfl (lv_at hl 2 rfl) ?_
    refine lv_iconst (v := 0) hx hb (fk_get fk_cX11_customer_0 8 rfl) (by decide) ?_
    refine lv_bipush (v := 9) hx hb (fk_get fk_cX11_customer_0 9 rfl) (by decide) ?_
    refine vp_callSi (W.runS (As := [.int (v_), .int (0), .int (9)]) (rest := []) ⟨hx, hb, hml, hown, hT⟩ (c_xisOutside l (v_) (0) (9) ) (tS 3 hT m2_108 m2_109 m1_1 m2_110 rfl rfl (by decide +kernel) ⟨Nat.le_of_ble_eq_true rfl, Nat.le_of_ble_eq_true rfl⟩) ⟨PcN_blind, PcN_of _ _ _⟩ rfl rfl hl.1 rfl (lv_room (Nat.le_of_ble_eq_true rfl)) (fk_get fk_cX11_customer_0 10 rfl) ⟨Nat.zero_le _, Nat.zero_le _⟩) (fun r_4 hw_5 => ?_)
    try dsimp only at hw_5
    refine lv_if_ne (tgt := 33) hx hb (fk_get fk_cX11_customer_0 11 rfl) (by decide) (fun c_6 => ?_) (fun c_6 => ?_)
    · have p_c_6 := if1_t hw_5 c_6
      refine lv_bipush (v := (-2)) hx hb (fk_get fk_cX11_customer_0 17 rfl) (by decide) ?_
      subst hQ
      have hpost : XI S ∧ Fr (fun j k => (j = 9 ∧ k = 3) ∨ (j = 21 + n ∧ 2 ≤ k ∧ k ≤ 9) ∨ (j = 39 + n ∧ k = 99)) S S ∧ CuP n kd v_ w_ ((-2) : Int32) S S := by
        first
        | exact ⟨hX, (Fr.rf : Fr (fun j k => (j = 9 ∧ k = 3) ∨ (j = 21 + n ∧ 2 ≤ k ∧ k ≤ 9) ∨ (j = 39 + n ∧ k = 99)) S S), Or.inl ⟨by assumption, rfl, rfl⟩⟩
        | exact ⟨hX, (Fr.rf : Fr (fun j k => (j = 9 ∧ k = 3) ∨ (j = 21 + n ∧ 2 ≤ k ∧ k ≤ 9) ∨ (j = 39 + n ∧ k = 99)) S S), Or.inr (Or.inl ⟨by assumption, Or.inl (by assumption), rfl, rfl⟩)⟩
        | exact ⟨hX, (Fr.rf : Fr (fun j k => (j = 9 ∧ k = 3) ∨ (j = 21 + n ∧ 2 ≤ k ∧ k ≤ 9) ∨ (j = 39 + n ∧ k = 99)) S S), Or.inr (Or.inl ⟨by assumption, Or.inr (by assumption), rfl, rfl⟩)⟩
        | exact ⟨hX, (Fr.rf : Fr (fun j k => (j = 9 ∧ k = 3) ∨ (j = 21 + n ∧ 2 ≤ k ∧ k ≤ 9) ∨ (j = 39 + n ∧ k = 99)) S S), Or.inr (Or.inr (Or.inl ⟨by assumption, by assumption, by assumption, by omega, rfl, rfl⟩))⟩
        | exact ⟨hX, (Fr.rf : Fr (fun j k => (j = 9 ∧ k = 3) ∨ (j = 21 + n ∧ 2 ≤ k ∧ k ≤ 9) ∨ (j = 39 + n ∧ k = 99)) S S), Or.inr (Or.inr (Or.inr ⟨by assumption, by assumption, by assumption, by omega, cu_ret n, by simp [fF_setF], kz, by omega, ek, by simp only [← hg_i_65] at hbg_; simpa [fF_setF, fR_setF, fA_setF, show ¬ 21 + n = 9 by omega] using hbg_⟩))⟩
      exact W.iret (v := (-2)) hx hb hr (fun t_ ht_ hW_ => ⟨⟨(-2), S, rfl, hpost, by rw [ht_]; exact hP, va_K.moved hW_.alike hK, hD⟩, hS.F ht_⟩) hS.2.2 (fk_get fk_cX11_customer_0 18 rfl)
    have p_c_6 := if1_f hw_5 c_6
    refine lv_iload_n hx hb (fk_get fk_cX11_customer_0 12 rfl) rfl (lv_at hl 3 rfl) ?_
    refine lv_bipush (v := 10) hx hb (fk_get fk_cX11_customer_0 13 rfl) (by decide) ?_
    refine lv_bipush (v := 99) hx hb (fk_get fk_cX11_customer_0 14 rfl) (by decide) ?_
    refine vp_callSi (W.runS (As := [.int (w_), .int (10), .int (99)]) (rest := []) ⟨hx, hb, hml, hown, hT⟩ (c_xisOutside l (w_) (10) (99) ) (tS 3 hT m2_108 m2_109 m1_1 m2_110 rfl rfl (by decide +kernel) ⟨Nat.le_of_ble_eq_true rfl, Nat.le_of_ble_eq_true rfl⟩) ⟨PcN_blind, PcN_of _ _ _⟩ rfl rfl hl.1 rfl (lv_room (Nat.le_of_ble_eq_true rfl)) (fk_get fk_cX11_customer_0 15 rfl) ⟨Nat.zero_le _, Nat.zero_le _⟩) (fun r_7 hw_8 => ?_)
    try dsimp only at hw_8
    refine lv_if_eq (tgt := 36) hx hb (fk_get fk_cX11_customer_0 16 rfl) (by decide) (fun c_9 => ?_) (fun c_9 => ?_)
    · have p_c_9 := if1_f hw_8 c_9
      refine lv_aload_n hx hb (fk_get fk_cX11_customer_0 19 rfl) rfl (lv_at hl 0 rfl) ?_
      refine va_get (D := G.1) (ci := 13) (v := .ref (ad (9 + 0))) (C := RX11) (T := TX11) (N := 11) hx hb hT inX11 hown hK hP 0 (ix_at (lt71 (by omega)) (cX_0 G ad S)) rfl 1 (by decide) (hT _ m2_70) (fun _ h9 => h9) rfl (fk_get fk_cX11_customer_0 20 rfl) ?_
      refine va_get (D := G.1) (ci := 9) (v := .int (fF S (9 + 0) 3)) (C := RX7) (T := TX7) (N := 8) hx hb hT inX7 hown hK hP (9 + 0) (ix_at (lt71 (by omega)) (cX_shop (pk_shop (by decide : 0 < 3)))) rfl 3 (by decide) (hT _ m1_209) (fun _ h9 => h9) rfl (fk_get fk_cX11_customer_0 21 rfl) ?_
      rw [hn]
      refine lv_bipush (v := 6) hx hb (fk_get fk_cX11_customer_0 22 rfl) (by decide) ?_
      refine lv_icmp_lt (tgt := 51) hx hb (fk_get fk_cX11_customer_0 23 rfl) (by decide) (fun c_10 => ?_) (fun c_10 => ?_)
      · have q_c_10 : n < 6 := ci_lt (a := n) (b := 6) (by omega) (by omega) c_10
        refine lv_aload_n hx hb (fk_get fk_cX11_customer_0 26 rfl) rfl (lv_at hl 0 rfl) ?_
        refine va_get (D := G.1) (ci := 13) (v := .ref (ad (9 + 0))) (C := RX11) (T := TX11) (N := 11) hx hb hT inX11 hown hK hP 0 (ix_at (lt71 (by omega)) (cX_0 G ad S)) rfl 1 (by decide) (hT _ m2_70) (fun _ h9 => h9) rfl (fk_get fk_cX11_customer_0 27 rfl) ?_
        refine va_get (D := G.1) (ci := 9) (v := .ref (ad (9 + 0 + 3))) (C := RX7) (T := TX7) (N := 8) hx hb hT inX7 hown hK hP (9 + 0) (ix_at (lt71 (by omega)) (cX_shop (pk_shop (by decide : 0 < 3)))) rfl 0 (by decide) (hT _ m1_203) (fun _ h9 => h9) rfl (fk_get fk_cX11_customer_0 28 rfl) ?_
        refine lv_aload_n hx hb (fk_get fk_cX11_customer_0 29 rfl) rfl (lv_at hl 0 rfl) ?_
        refine va_get (D := G.1) (ci := 13) (v := .ref (ad (9 + 0))) (C := RX11) (T := TX11) (N := 11) hx hb hT inX11 hown hK hP 0 (ix_at (lt71 (by omega)) (cX_0 G ad S)) rfl 1 (by decide) (hT _ m2_70) (fun _ h9 => h9) rfl (fk_get fk_cX11_customer_0 30 rfl) ?_
        refine va_get (D := G.1) (ci := 9) (v := .int (fF S (9 + 0) 3)) (C := RX7) (T := TX7) (N := 8) hx hb hT inX7 hown hK hP (9 + 0) (ix_at (lt71 (by omega)) (cX_shop (pk_shop (by decide : 0 < 3)))) rfl 3 (by decide) (hT _ m1_209) (fun _ h9 => h9) rfl (fk_get fk_cX11_customer_0 31 rfl) ?_
        rw [hn]
        refine x_ppl hx hb hK hP (by decide : 0 < 3) (k := n) (by omega) (rfl) (fk_get fk_cX11_customer_1 0 rfl) ?_
        generalize hg_i_65 : 21 + 6 * 0 + n = i_65
        have hp_i_65 : pk i_65 = 7 := by rw [← hg_i_65]; exact pk_c (by decide : 0 < 3) (by omega)
        have hb_i_65 := pk7 hp_i_65
        refine lv_aload_n hx hb (fk_get fk_cX11_customer_1 1 rfl) rfl (lv_at hl 0 rfl) ?_
        refine va_get (D := G.1) (ci := 13) (v := .ref (ad 1)) (C := RX11) (T := TX11) (N := 11) hx hb hT inX11 hown hK hP 0 (ix_at (lt71 (by omega)) (cX_0 G ad S)) rfl 0 (by decide) (hT _ m2_69) (fun _ h9 => h9) rfl (fk_get fk_cX11_customer_1 2 rfl) ?_
        refine lv_iload_n hx hb (fk_get fk_cX11_customer_1 3 rfl) rfl (lv_at hl 1 rfl) ?_
        refine x_kar hx hb hK hP (k := kz) (by omega) (ek) (fk_get fk_cX11_customer_1 4 rfl) ?_
        refine lv_iload_n hx hb (fk_get fk_cX11_customer_1 5 rfl) rfl (lv_at hl 2 rfl) ?_
        refine lv_iload_n hx hb (fk_get fk_cX11_customer_1 6 rfl) rfl (lv_at hl 3 rfl) ?_
        have hFc := va_self hD hS hA
        refine va_callv (va_runV (As := [.ref (ad (2 + kz)), .int (v_), .int (w_)]) (rest := []) ⟨hx, hb, hml, hown, hT⟩ (c_x3_begin l G ad S s.heap.size (kz) (i_65) (v_) (w_) ((show kz < 7 from by omega)) (hp_i_65) (hX)) (tV 3 hT m2_111 m2_112 m2_113 m1_11 m2_114 rfl rfl (by decide +kernel) ⟨Nat.le_of_ble_eq_true rfl, Nat.le_of_ble_eq_true rfl⟩) ⟨PcW_blind, va_recv hK hP (ci := 5) (q0 := i_65) rfl (ix_at (lt71 (by omega)) (cX_cust hp_i_65)), PcW_of hP hK hD _⟩ rfl rfl hl.1 rfl (lv_room (Nat.le_of_ble_eq_true rfl)) (fk_get fk_cX11_customer_1 7 rfl) ⟨Nat.zero_le _, Nat.zero_le _⟩) hS (fun q _ h => hFc q h) hFc (fun S_13 t_ H locs ht_ hvm_ hw_12 hB_ hz_ hk_ hS => ?_)
        obtain ⟨hP, -, hD1_⟩ := hB_
        rw [ht_] at hP
        have hD : va_D A (wX G ad S_13) := hD1_.weaken (fun k q _ h => hFc q.1 h)
        try dsimp only at hw_12
        obtain ⟨hX_14, hF_15_, hw_12⟩ := hw_12
        have hF_15 : Fr (fun j k => (j = 9 ∧ k = 3) ∨ (j = 21 + n ∧ 2 ≤ k ∧ k ≤ 9) ∨ (j = 39 + n ∧ k = 99)) S S_13 := Fr.trans (Fr.rf : Fr (fun j k => (j = 9 ∧ k = 3) ∨ (j = 21 + n ∧ 2 ≤ k ∧ k ≤ 9) ∨ (j = 39 + n ∧ k = 99)) S S) (Fr.mono hF_15_ (fun j k h => by omega))
        have hff_ := hF_15_
        have hbg_ := hw_12
        have hn1_ := (hff_.F (j := 9 + 0) (k := 3) (lt71 (by omega)) (by omega)).trans hn
        refine lv_aload_n hx hb (fk_get fk_cX11_customer_1 8 rfl) rfl (lv_at hl 0 rfl) ?_
        refine va_get (D := G.1) (ci := 13) (v := .ref (ad (9 + 0))) (C := RX11) (T := TX11) (N := 11) hx hb hT inX11 hown hK hP 0 (ix_at (lt71 (by omega)) (cX_0 G ad S_13)) rfl 1 (by decide) (hT _ m2_70) (fun _ h9 => h9) rfl (fk_get fk_cX11_customer_1 9 rfl) ?_
        refine lv_dup hx hb (fk_get fk_cX11_customer_1 10 rfl) rfl ?_
        refine va_get (D := G.1) (ci := 9) (v := .int (fF S_13 (9 + 0) 3)) (C := RX7) (T := TX7) (N := 8) hx hb hT inX7 hown hK hP (9 + 0) (ix_at (lt71 (by omega)) (cX_shop (pk_shop (by decide : 0 < 3)))) rfl 3 (by decide) (hT _ m1_209) (fun _ h9 => h9) rfl (fk_get fk_cX11_customer_1 11 rfl) ?_
        rw [hn1_]
        refine lv_iconst (v := 1) hx hb (fk_get fk_cX11_customer_1 12 rfl) (by decide) ?_
        refine lv_iadd hx hb (fk_get fk_cX11_customer_1 13 rfl) ?_
        rw [show ((nI n) + 1) = (nI (n + 1)) from (nI_1 n)]
        refine va_put (D := G.1) (ci := 9) (v := .int ((nI (n + 1)))) (ty := .int) (C := RX7) (T := TX7) (N := 8) hx hb hT inX7 tyX7 tyX7_ok nmX7 hown hK hP hD hS (9 + 0) (ix_at (lt71 (by omega)) (cX_shop (pk_shop (by decide : 0 < 3)))) rfl 3 (by decide) (hT _ m1_209) (fun _ h9 => h9) rfl (by decide +kernel) rfl rfl (Nat.le_of_ble_eq_true rfl) (fk_get fk_cX11_customer_1 14 rfl) (fun H locs hP hD hS => ?_)
        rw [pX_shop_3 (S := S_13) (lt71 (by omega)) (pk_shop (by decide : 0 < 3)) ((nI (n + 1)))] at hP hD
        have hX_16 : XI (setF S_13 (9 + 0) 3 ((nI (n + 1)))) := XI.sz (n := (n + 1)) hX_14 (by decide : 0 < 3) (by omega)
        have hF_17 : Fr (fun j k => (j = 9 ∧ k = 3) ∨ (j = 21 + n ∧ 2 ≤ k ∧ k ≤ 9) ∨ (j = 39 + n ∧ k = 99)) S (setF S_13 (9 + 0) 3 ((nI (n + 1)))) := Fr.sF hF_15 (by omega)
        refine lv_aload_n hx hb (fk_get fk_cX11_customer_1 15 rfl) rfl (lv_at hl 0 rfl) ?_
        refine va_get (D := G.1) (ci := 13) (v := .ref (ad (9 + 0))) (C := RX11) (T := TX11) (N := 11) hx hb hT inX11 hown hK hP 0 (ix_at (lt71 (by omega)) (cX_0 G ad (setF S_13 (9 + 0) 3 ((nI (n + 1)))))) rfl 1 (by decide) (hT _ m2_70) (fun _ h9 => h9) rfl (fk_get fk_cX11_customer_1 16 rfl) ?_
        refine va_get (D := G.1) (ci := 9) (v := .int (fF (setF S_13 (9 + 0) 3 ((nI (n + 1)))) (9 + 0) 3)) (C := RX7) (T := TX7) (N := 8) hx hb hT inX7 hown hK hP (9 + 0) (ix_at (lt71 (by omega)) (cX_shop (pk_shop (by decide : 0 < 3)))) rfl 3 (by decide) (hT _ m1_209) (fun _ h9 => h9) rfl (fk_get fk_cX11_customer_1 17 rfl) ?_
        rw [show fF (setF S_13 (9 + 0) 3 ((nI (n + 1)))) (9 + 0) 3 = (nI (n + 1)) from by simp [fF_setF, fF_setR, fF_setA, fF_setL]]
        refine lv_iconst (v := 1) hx hb (fk_get fk_cX11_customer_1 18 rfl) (by decide) ?_
        refine lv_isub hx hb (fk_get fk_cX11_customer_1 19 rfl) ?_
        subst hQ
        have hpost : XI (setF S_13 (9 + 0) 3 ((nI (n + 1)))) ∧ Fr (fun j k => (j = 9 ∧ k = 3) ∨ (j = 21 + n ∧ 2 ≤ k ∧ k ≤ 9) ∨ (j = 39 + n ∧ k = 99)) S (setF S_13 (9 + 0) 3 ((nI (n + 1)))) ∧ CuP n kd v_ w_ (((nI (n + 1)) - 1) : Int32) S (setF S_13 (9 + 0) 3 ((nI (n + 1)))) := by
          first
          | exact ⟨hX_16, hF_17, Or.inl ⟨by assumption, rfl, rfl⟩⟩
          | exact ⟨hX_16, hF_17, Or.inr (Or.inl ⟨by assumption, Or.inl (by assumption), rfl, rfl⟩)⟩
          | exact ⟨hX_16, hF_17, Or.inr (Or.inl ⟨by assumption, Or.inr (by assumption), rfl, rfl⟩)⟩
          | exact ⟨hX_16, hF_17, Or.inr (Or.inr (Or.inl ⟨by assumption, by assumption, by assumption, by omega, rfl, rfl⟩))⟩
          | exact ⟨hX_16, hF_17, Or.inr (Or.inr (Or.inr ⟨by assumption, by assumption, by assumption, by omega, cu_ret n, by simp [fF_setF], kz, by omega, ek, by simp only [← hg_i_65] at hbg_; simpa [fF_setF, fR_setF, fA_setF, show ¬ 21 + n = 9 by omega] using hbg_⟩))⟩
        exact W.iret (v := ((nI (n + 1)) - 1)) hx hb hr (fun t_ ht_ hW_ => ⟨⟨((nI (n + 1)) - 1), (setF S_13 (9 + 0) 3 ((nI (n + 1)))), rfl, hpost, by rw [ht_]; exact hP, va_K.moved hW_.alike hK, hD⟩, hS.F ht_⟩) hS.2.2 (fk_get fk_cX11_customer_1 20 rfl)
      have q_c_10 : 6 ≤ n := ci_nlt (a := n) (b := 6) (by omega) (by omega) c_10
      refine lv_bipush (v := (-4)) hx hb (fk_get fk_cX11_customer_0 24 rfl) (by decide) ?_
      subst hQ
      have hpost : XI S ∧ Fr (fun j k => (j = 9 ∧ k = 3) ∨ (j = 21 + n ∧ 2 ≤ k ∧ k ≤ 9) ∨ (j = 39 + n ∧ k = 99)) S S ∧ CuP n kd v_ w_ ((-4) : Int32) S S := by
        first
        | exact ⟨hX, (Fr.rf : Fr (fun j k => (j = 9 ∧ k = 3) ∨ (j = 21 + n ∧ 2 ≤ k ∧ k ≤ 9) ∨ (j = 39 + n ∧ k = 99)) S S), Or.inl ⟨by assumption, rfl, rfl⟩⟩
        | exact ⟨hX, (Fr.rf : Fr (fun j k => (j = 9 ∧ k = 3) ∨ (j = 21 + n ∧ 2 ≤ k ∧ k ≤ 9) ∨ (j = 39 + n ∧ k = 99)) S S), Or.inr (Or.inl ⟨by assumption, Or.inl (by assumption), rfl, rfl⟩)⟩
        | exact ⟨hX, (Fr.rf : Fr (fun j k => (j = 9 ∧ k = 3) ∨ (j = 21 + n ∧ 2 ≤ k ∧ k ≤ 9) ∨ (j = 39 + n ∧ k = 99)) S S), Or.inr (Or.inl ⟨by assumption, Or.inr (by assumption), rfl, rfl⟩)⟩
        | exact ⟨hX, (Fr.rf : Fr (fun j k => (j = 9 ∧ k = 3) ∨ (j = 21 + n ∧ 2 ≤ k ∧ k ≤ 9) ∨ (j = 39 + n ∧ k = 99)) S S), Or.inr (Or.inr (Or.inl ⟨by assumption, by assumption, by assumption, by omega, rfl, rfl⟩))⟩
        | exact ⟨hX, (Fr.rf : Fr (fun j k => (j = 9 ∧ k = 3) ∨ (j = 21 + n ∧ 2 ≤ k ∧ k ≤ 9) ∨ (j = 39 + n ∧ k = 99)) S S), Or.inr (Or.inr (Or.inr ⟨by assumption, by assumption, by assumption, by omega, cu_ret n, by simp [fF_setF], kz, by omega, ek, by simp only [← hg_i_65] at hbg_; simpa [fF_setF, fR_setF, fA_setF, show ¬ 21 + n = 9 by omega] using hbg_⟩))⟩
      exact W.iret (v := (-4)) hx hb hr (fun t_ ht_ hW_ => ⟨⟨(-4), S, rfl, hpost, by rw [ht_]; exact hP, va_K.moved hW_.alike hK, hD⟩, hS.F ht_⟩) hS.2.2 (fk_get fk_cX11_customer_0 25 rfl)
    have p_c_9 := if1_t hw_8 c_9
    refine lv_bipush (v := (-2)) hx hb (fk_get fk_cX11_customer_0 17 rfl) (by decide) ?_
    subst hQ
    have hpost : XI S ∧ Fr (fun j k => (j = 9 ∧ k = 3) ∨ (j = 21 + n ∧ 2 ≤ k ∧ k ≤ 9) ∨ (j = 39 + n ∧ k = 99)) S S ∧ CuP n kd v_ w_ ((-2) : Int32) S S := by
      first
      | exact ⟨hX, (Fr.rf : Fr (fun j k => (j = 9 ∧ k = 3) ∨ (j = 21 + n ∧ 2 ≤ k ∧ k ≤ 9) ∨ (j = 39 + n ∧ k = 99)) S S), Or.inl ⟨by assumption, rfl, rfl⟩⟩
      | exact ⟨hX, (Fr.rf : Fr (fun j k => (j = 9 ∧ k = 3) ∨ (j = 21 + n ∧ 2 ≤ k ∧ k ≤ 9) ∨ (j = 39 + n ∧ k = 99)) S S), Or.inr (Or.inl ⟨by assumption, Or.inl (by assumption), rfl, rfl⟩)⟩
      | exact ⟨hX, (Fr.rf : Fr (fun j k => (j = 9 ∧ k = 3) ∨ (j = 21 + n ∧ 2 ≤ k ∧ k ≤ 9) ∨ (j = 39 + n ∧ k = 99)) S S), Or.inr (Or.inl ⟨by assumption, Or.inr (by assumption), rfl, rfl⟩)⟩
      | exact ⟨hX, (Fr.rf : Fr (fun j k => (j = 9 ∧ k = 3) ∨ (j = 21 + n ∧ 2 ≤ k ∧ k ≤ 9) ∨ (j = 39 + n ∧ k = 99)) S S), Or.inr (Or.inr (Or.inl ⟨by assumption, by assumption, by assumption, by omega, rfl, rfl⟩))⟩
      | exact ⟨hX, (Fr.rf : Fr (fun j k => (j = 9 ∧ k = 3) ∨ (j = 21 + n ∧ 2 ≤ k ∧ k ≤ 9) ∨ (j = 39 + n ∧ k = 99)) S S), Or.inr (Or.inr (Or.inr ⟨by assumption, by assumption, by assumption, by omega, cu_ret n, by simp [fF_setF], kz, by omega, ek, by simp only [← hg_i_65] at hbg_; simpa [fF_setF, fR_setF, fA_setF, show ¬ 21 + n = 9 by omega] using hbg_⟩))⟩
    exact W.iret (v := (-2)) hx hb hr (fun t_ ht_ hW_ => ⟨⟨(-2), S, rfl, hpost, by rw [ht_]; exact hP, va_K.moved hW_.alike hK, hD⟩, hS.F ht_⟩) hS.2.2 (fk_get fk_cX11_customer_0 18 rfl)
  have p_c_3 := if1_t hw_2 c_3
  refine lv_iconst (v := (-1)) hx hb (fk_get fk_cX11_customer_0 5 rfl) (by decide) ?_
  subst hQ
  have hpost : XI S ∧ Fr (fun j k => (j = 9 ∧ k = 3) ∨ (j = 21 + n ∧ 2 ≤ k ∧ k ≤ 9) ∨ (j = 39 + n ∧ k = 99)) S S ∧ CuP n kd v_ w_ ((-1) : Int32) S S := by
    first
    | exact ⟨hX, (Fr.rf : Fr (fun j k => (j = 9 ∧ k = 3) ∨ (j = 21 + n ∧ 2 ≤ k ∧ k ≤ 9) ∨ (j = 39 + n ∧ k = 99)) S S), Or.inl ⟨by assumption, rfl, rfl⟩⟩
    | exact ⟨hX, (Fr.rf : Fr (fun j k => (j = 9 ∧ k = 3) ∨ (j = 21 + n ∧ 2 ≤ k ∧ k ≤ 9) ∨ (j = 39 + n ∧ k = 99)) S S), Or.inr (Or.inl ⟨by assumption, Or.inl (by assumption), rfl, rfl⟩)⟩
    | exact ⟨hX, (Fr.rf : Fr (fun j k => (j = 9 ∧ k = 3) ∨ (j = 21 + n ∧ 2 ≤ k ∧ k ≤ 9) ∨ (j = 39 + n ∧ k = 99)) S S), Or.inr (Or.inl ⟨by assumption, Or.inr (by assumption), rfl, rfl⟩)⟩
    | exact ⟨hX, (Fr.rf : Fr (fun j k => (j = 9 ∧ k = 3) ∨ (j = 21 + n ∧ 2 ≤ k ∧ k ≤ 9) ∨ (j = 39 + n ∧ k = 99)) S S), Or.inr (Or.inr (Or.inl ⟨by assumption, by assumption, by assumption, by omega, rfl, rfl⟩))⟩
    | exact ⟨hX, (Fr.rf : Fr (fun j k => (j = 9 ∧ k = 3) ∨ (j = 21 + n ∧ 2 ≤ k ∧ k ≤ 9) ∨ (j = 39 + n ∧ k = 99)) S S), Or.inr (Or.inr (Or.inr ⟨by assumption, by assumption, by assumption, by omega, cu_ret n, by simp [fF_setF], kz, by omega, ek, by simp only [← hg_i_65] at hbg_; simpa [fF_setF, fR_setF, fA_setF, show ¬ 21 + n = 9 by omega] using hbg_⟩))⟩
  exact W.iret (v := (-1)) hx hb hr (fun t_ ht_ hW_ => ⟨⟨(-1), S, rfl, hpost, by rw [ht_]; exact hP, va_K.moved hW_.alike hK, hD⟩, hS.F ht_⟩) hS.2.2 (fk_get fk_cX11_customer_0 6 rfl)
set_option maxHeartbeats 800000 in
set_option maxRecDepth 100000 in
theorem c_x11_knife (l : Launch) (G : GG) (ad : Nat → Nat) (S : FS) (sz : Nat) (n : Nat) (x : Int32) (hn : fF S (9 + 0) 3 = nI n) (hn6 : n ≤ 6) (hX : XI S) : Met l yX11_knife (Cond.code yX11_knife cX11_knife 3 (some .int) :: TBL) ({ frames := 3, cells := 0, slots := 0, locals := 90 } : Room) (PcW G (wX G ad S) sz [.ref (ad 0), .int (x)]) (va_Qi (fun (r : Int32) (S' : FS) => XI S' ∧ Fr (fun j k => j = 9 ∧ k = 6) S S' ∧ ((x < 0 ∨ 30 < x) ∧ r = -2 ∧ S' = S ∨ ¬ (x < 0 ∨ 30 < x) ∧ r = fF S (9 + 0) 6 ∧ S' = setF S (9 + 0) 6 x)) (fun S' t => BW G (va_A (wX G ad S) sz) (wX G ad S') t) (va_A (wX G ad S) sz)) 0 0 (va_A (wX G ad S) sz) := by
  refine Met.ofW (cc := cX11_knife) (maxL := 3) (ret := (some .int)) (by decide) rfl ?_
  intro p e s m args below meth c₀ s₁ B hml hv
  obtain ⟨rfl, hsz, hP, hK, hD0⟩ := hv
  have hx := B.exec
  have hb := B.bytes
  have hr := B.returns
  have hT : ∀ w ∈ TBL, w.before ([.ref (ad 0), .int (x)] : List Value).toArray s = true := fun w h => atoms_spec (ws := Cond.code yX11_knife cX11_knife 3 (some .int) :: TBL) B.pre w (List.mem_cons_of_mem _ h)
  have hown : s.vm.findClass "LittleMore" = some m.cls := findClass_of_methodNamed B.named
  have hlocks := B.notSynchronized
  subst hsz
  have hD := hD0.self (sz := s.heap.size)
  generalize hAe : va_A (wX G ad S) s.heap.size = A at hD ⊢
  have hA : ∀ q : Nat, s.heap.size ≤ q → A q := fun q h => by rw [← hAe]; exact Or.inr h
  have hS : va_S A s.heap s.heap [] := va_S.rf
  have hP : va_P G.1 vwCl (wX G ad S) s.heap := hP
  have hl := lv_entry ([.ref (ad 0), .int (x)]) (n := 3) (Nat.le_of_ble_eq_true rfl)
  rw [lg_entry_eq]
  generalize (lg_sl ([.ref (ad 0), .int (x)]) ++ List.replicate (3 - (lg_sl ([.ref (ad 0), .int (x)])).length) Slot.unset).toArray = ls at hl ⊢
  have hl : lv_has ls 3 [(0, .ref (ad 0)), (1, .int (x))] := hl
  refine W_abs (fun Q hQ => ?_)
  generalize ([.ref (ad 0), .int (x)] : List Value).toArray = args at hT hQ ⊢
  refine lv_iload_n hx hb (fk_get fk_cX11_knife_0 0 rfl) rfl (lv_at hl 1 rfl) ?_
  refine lv_iconst (v := 0) hx hb (fk_get fk_cX11_knife_0 1 rfl) (by decide) ?_
  refine lv_bipush (v := 30) hx hb (fk_get fk_cX11_knife_0 2 rfl) (by decide) ?_
  refine vp_callSi (W.runS (As := [.int (x), .int (0), .int (30)]) (rest := []) ⟨hx, hb, hml, hown, hT⟩ (c_xisOutside l (x) (0) (30) ) (tS 3 hT m2_108 m2_109 m1_1 m2_110 rfl rfl (by decide +kernel) ⟨Nat.le_of_ble_eq_true rfl, Nat.le_of_ble_eq_true rfl⟩) ⟨PcN_blind, PcN_of _ _ _⟩ rfl rfl hl.1 rfl (lv_room (Nat.le_of_ble_eq_true rfl)) (fk_get fk_cX11_knife_0 3 rfl) ⟨Nat.zero_le _, Nat.zero_le _⟩) (fun r_1 hw_2 => ?_)
  try dsimp only at hw_2
  refine lv_if_eq (tgt := 13) hx hb (fk_get fk_cX11_knife_0 4 rfl) (by decide) (fun c_3 => ?_) (fun c_3 => ?_)
  · have p_c_3 := if1_f hw_2 c_3
    refine lv_aload_n hx hb (fk_get fk_cX11_knife_0 7 rfl) rfl (lv_at hl 0 rfl) ?_
    refine va_get (D := G.1) (ci := 13) (v := .ref (ad (9 + 0))) (C := RX11) (T := TX11) (N := 11) hx hb hT inX11 hown hK hP 0 (ix_at (lt71 (by omega)) (cX_0 G ad S)) rfl 1 (by decide) (hT _ m2_70) (fun _ h9 => h9) rfl (fk_get fk_cX11_knife_0 8 rfl) ?_
    refine va_get (D := G.1) (ci := 9) (v := .int (fF S (9 + 0) 6)) (C := RX7) (T := TX7) (N := 8) hx hb hT inX7 hown hK hP (9 + 0) (ix_at (lt71 (by omega)) (cX_shop (pk_shop (by decide : 0 < 3)))) rfl 6 (by decide) (hT _ m1_215) (fun _ h9 => h9) rfl (fk_get fk_cX11_knife_0 9 rfl) ?_
    refine lv_istore_n (lv' := [(2, .int ((fF S (9 + 0) 6))), (0, .ref (ad 0)), (1, .int (x))]) hx hb (fk_get fk_cX11_knife_0 10 rfl) rfl hl (by decide) rfl (fun ls hl => ?_)
    refine lv_aload_n hx hb (fk_get fk_cX11_knife_0 11 rfl) rfl (lv_at hl 1 rfl) ?_
    refine va_get (D := G.1) (ci := 13) (v := .ref (ad (9 + 0))) (C := RX11) (T := TX11) (N := 11) hx hb hT inX11 hown hK hP 0 (ix_at (lt71 (by omega)) (cX_0 G ad S)) rfl 1 (by decide) (hT _ m2_70) (fun _ h9 => h9) rfl (fk_get fk_cX11_knife_0 12 rfl) ?_
    refine lv_iload_n hx hb (fk_get fk_cX11_knife_0 13 rfl) rfl (lv_at hl 2 rfl) ?_
    refine va_put (D := G.1) (ci := 9) (v := .int (x)) (ty := .int) (C := RX7) (T := TX7) (N := 8) hx hb hT inX7 tyX7 tyX7_ok nmX7 hown hK hP hD hS (9 + 0) (ix_at (lt71 (by omega)) (cX_shop (pk_shop (by decide : 0 < 3)))) rfl 6 (by decide) (hT _ m1_215) (fun _ h9 => h9) rfl (by decide +kernel) rfl rfl (Nat.le_of_ble_eq_true rfl) (fk_get fk_cX11_knife_0 14 rfl) (fun H locs hP hD hS => ?_)
    rw [pX_shop_6 (S := S) (lt71 (by omega)) (pk_shop (by decide : 0 < 3)) (x)] at hP hD
    have hX_4 : XI (setF S (9 + 0) 6 (x)) := XI.sF hX _ ⟨by omega, by omega, by omega, by omega, by omega, by omega, by omega, by omega⟩
    have hF_5 : Fr (fun j k => j = 9 ∧ k = 6) S (setF S (9 + 0) 6 (x)) := Fr.sF (Fr.rf : Fr (fun j k => j = 9 ∧ k = 6) S S) (by omega)
    refine lv_iload_n hx hb (fk_get fk_cX11_knife_0 15 rfl) rfl (lv_at hl 0 rfl) ?_
    subst hQ
    have hpost : XI (setF S (9 + 0) 6 (x)) ∧ Fr (fun j k => j = 9 ∧ k = 6) S (setF S (9 + 0) 6 (x)) ∧ ((x < 0 ∨ 30 < x) ∧ ((fF S (9 + 0) 6) : Int32) = -2 ∧ (setF S (9 + 0) 6 (x)) = S ∨ ¬ (x < 0 ∨ 30 < x) ∧ ((fF S (9 + 0) 6) : Int32) = fF S (9 + 0) 6 ∧ (setF S (9 + 0) 6 (x)) = setF S (9 + 0) 6 x) := by
      first | exact ⟨hX_4, hF_5, Or.inl ⟨by assumption, rfl, rfl⟩⟩ | exact ⟨hX_4, hF_5, Or.inr ⟨by assumption, rfl, rfl⟩⟩
    exact W.iret (v := (fF S (9 + 0) 6)) hx hb hr (fun t_ ht_ hW_ => ⟨⟨(fF S (9 + 0) 6), (setF S (9 + 0) 6 (x)), rfl, hpost, by rw [ht_]; exact hP, va_K.moved hW_.alike hK, hD⟩, hS.F ht_⟩) hS.2.2 (fk_get fk_cX11_knife_0 16 rfl)
  have p_c_3 := if1_t hw_2 c_3
  refine lv_bipush (v := (-2)) hx hb (fk_get fk_cX11_knife_0 5 rfl) (by decide) ?_
  subst hQ
  have hpost : XI S ∧ Fr (fun j k => j = 9 ∧ k = 6) S S ∧ ((x < 0 ∨ 30 < x) ∧ ((-2) : Int32) = -2 ∧ S = S ∨ ¬ (x < 0 ∨ 30 < x) ∧ ((-2) : Int32) = fF S (9 + 0) 6 ∧ S = setF S (9 + 0) 6 x) := by
    first | exact ⟨hX, (Fr.rf : Fr (fun j k => j = 9 ∧ k = 6) S S), Or.inl ⟨by assumption, rfl, rfl⟩⟩ | exact ⟨hX, (Fr.rf : Fr (fun j k => j = 9 ∧ k = 6) S S), Or.inr ⟨by assumption, rfl, rfl⟩⟩
  exact W.iret (v := (-2)) hx hb hr (fun t_ ht_ hW_ => ⟨⟨(-2), S, rfl, hpost, by rw [ht_]; exact hP, va_K.moved hW_.alike hK, hD⟩, hS.F ht_⟩) hS.2.2 (fk_get fk_cX11_knife_0 6 rfl)
set_option maxHeartbeats 800000 in
set_option maxRecDepth 100000 in
theorem c_x11_see (l : Launch) (G : GG) (ad : Nat → Nat) (S : FS) (sz : Nat) (n z : Nat) (x : Int32) (hn : fF S (9 + 0) 3 = nI n) (hn6 : n ≤ 6) (hz : fF S (9 + 0) 4 = nI z) (hz4 : z ≤ 4) (hX : XI S) : Met l yX11_see (Cond.code yX11_see cX11_see 2 (some .int) :: TBL) ({ frames := 3, cells := 0, slots := 0, locals := 90 } : Room) (PcW G (wX G ad S) sz [.ref (ad 0), .int (x)]) (va_Qi (fun (r : Int32) (S' : FS) => XI S' ∧ Fr (fun j k => (j = 9 ∧ k = 4) ∨ (j = 15 ∧ k = 99)) S S' ∧ (x = -1 ∧ r = 0 ∧ S' = setF S (9 + 0) 4 (nI 0) ∨ x ≠ -1 ∧ (x < 0 ∨ 999 < x) ∧ r = -2 ∧ S' = S ∨ x ≠ -1 ∧ ¬ (x < 0 ∨ 999 < x) ∧ z = 4 ∧ r = -4 ∧ S' = S ∨ x ≠ -1 ∧ ¬ (x < 0 ∨ 999 < x) ∧ z < 4 ∧ r = nI (z + 1) ∧ S' = setF (setA S (9 + 0 + 6) (upd (fA S (9 + 0 + 6)) z x)) (9 + 0) 4 (nI (z + 1)))) (fun S' t => BW G (va_A (wX G ad S) sz) (wX G ad S') t) (va_A (wX G ad S) sz)) 0 0 (va_A (wX G ad S) sz) := by
  refine Met.ofW (cc := cX11_see) (maxL := 2) (ret := (some .int)) (by decide) rfl ?_
  intro p e s m args below meth c₀ s₁ B hml hv
  obtain ⟨rfl, hsz, hP, hK, hD0⟩ := hv
  have hx := B.exec
  have hb := B.bytes
  have hr := B.returns
  have hT : ∀ w ∈ TBL, w.before ([.ref (ad 0), .int (x)] : List Value).toArray s = true := fun w h => atoms_spec (ws := Cond.code yX11_see cX11_see 2 (some .int) :: TBL) B.pre w (List.mem_cons_of_mem _ h)
  have hown : s.vm.findClass "LittleMore" = some m.cls := findClass_of_methodNamed B.named
  have hlocks := B.notSynchronized
  subst hsz
  have hD := hD0.self (sz := s.heap.size)
  generalize hAe : va_A (wX G ad S) s.heap.size = A at hD ⊢
  have hA : ∀ q : Nat, s.heap.size ≤ q → A q := fun q h => by rw [← hAe]; exact Or.inr h
  have hS : va_S A s.heap s.heap [] := va_S.rf
  have hP : va_P G.1 vwCl (wX G ad S) s.heap := hP
  have hl := lv_entry ([.ref (ad 0), .int (x)]) (n := 2) (Nat.le_of_ble_eq_true rfl)
  rw [lg_entry_eq]
  generalize (lg_sl ([.ref (ad 0), .int (x)]) ++ List.replicate (2 - (lg_sl ([.ref (ad 0), .int (x)])).length) Slot.unset).toArray = ls at hl ⊢
  have hl : lv_has ls 2 [(0, .ref (ad 0)), (1, .int (x))] := hl
  refine W_abs (fun Q hQ => ?_)
  generalize ([.ref (ad 0), .int (x)] : List Value).toArray = args at hT hQ ⊢
  refine lv_iload_n hx hb (fk_get fk_cX11_see_0 0 rfl) rfl (lv_at hl 1 rfl) ?_
  refine lv_iconst (v := (-1)) hx hb (fk_get fk_cX11_see_0 1 rfl) (by decide) ?_
  refine lv_icmp_ne (tgt := 15) hx hb (fk_get fk_cX11_see_0 2 rfl) (by decide) (fun c_1 => ?_) (fun c_1 => ?_)
  · refine lv_iload_n hx hb (fk_get fk_cX11_see_0 9 rfl) rfl (lv_at hl 1 rfl) ?_
    refine lv_iconst (v := 0) hx hb (fk_get fk_cX11_see_0 10 rfl) (by decide) ?_
    refine lv_sipush (v := 999) hx hb (fk_get fk_cX11_see_0 11 rfl) (by decide) ?_
    refine vp_callSi (W.runS (As := [.int (x), .int (0), .int (999)]) (rest := []) ⟨hx, hb, hml, hown, hT⟩ (c_xisOutside l (x) (0) (999) ) (tS 3 hT m2_108 m2_109 m1_1 m2_110 rfl rfl (by decide +kernel) ⟨Nat.le_of_ble_eq_true rfl, Nat.le_of_ble_eq_true rfl⟩) ⟨PcN_blind, PcN_of _ _ _⟩ rfl rfl hl.1 rfl (lv_room (Nat.le_of_ble_eq_true rfl)) (fk_get fk_cX11_see_0 12 rfl) ⟨Nat.zero_le _, Nat.zero_le _⟩) (fun r_2 hw_3 => ?_)
    try dsimp only at hw_3
    refine lv_if_eq (tgt := 29) hx hb (fk_get fk_cX11_see_0 13 rfl) (by decide) (fun c_4 => ?_) (fun c_4 => ?_)
    · have p_c_4 := if1_f hw_3 c_4
      refine lv_aload_n hx hb (fk_get fk_cX11_see_0 16 rfl) rfl (lv_at hl 0 rfl) ?_
      refine va_get (D := G.1) (ci := 13) (v := .ref (ad (9 + 0))) (C := RX11) (T := TX11) (N := 11) hx hb hT inX11 hown hK hP 0 (ix_at (lt71 (by omega)) (cX_0 G ad S)) rfl 1 (by decide) (hT _ m2_70) (fun _ h9 => h9) rfl (fk_get fk_cX11_see_0 17 rfl) ?_
      refine va_get (D := G.1) (ci := 9) (v := .int (fF S (9 + 0) 4)) (C := RX7) (T := TX7) (N := 8) hx hb hT inX7 hown hK hP (9 + 0) (ix_at (lt71 (by omega)) (cX_shop (pk_shop (by decide : 0 < 3)))) rfl 4 (by decide) (hT _ m1_211) (fun _ h9 => h9) rfl (fk_get fk_cX11_see_0 18 rfl) ?_
      rw [hz]
      refine lv_iconst (v := 4) hx hb (fk_get fk_cX11_see_0 19 rfl) (by decide) ?_
      refine lv_icmp_lt (tgt := 43) hx hb (fk_get fk_cX11_see_0 20 rfl) (by decide) (fun c_5 => ?_) (fun c_5 => ?_)
      · have q_c_5 : z < 4 := ci_lt (a := z) (b := 4) (by omega) (by omega) c_5
        refine lv_aload_n hx hb (fk_get fk_cX11_see_0 23 rfl) rfl (lv_at hl 0 rfl) ?_
        refine va_get (D := G.1) (ci := 13) (v := .ref (ad (9 + 0))) (C := RX11) (T := TX11) (N := 11) hx hb hT inX11 hown hK hP 0 (ix_at (lt71 (by omega)) (cX_0 G ad S)) rfl 1 (by decide) (hT _ m2_70) (fun _ h9 => h9) rfl (fk_get fk_cX11_see_0 24 rfl) ?_
        refine va_get (D := G.1) (ci := 9) (v := .ref (ad (9 + 0 + 6))) (C := RX7) (T := TX7) (N := 8) hx hb hT inX7 hown hK hP (9 + 0) (ix_at (lt71 (by omega)) (cX_shop (pk_shop (by decide : 0 < 3)))) rfl 1 (by decide) (hT _ m1_205) (fun _ h9 => h9) rfl (fk_get fk_cX11_see_0 25 rfl) ?_
        refine lv_aload_n hx hb (fk_get fk_cX11_see_0 26 rfl) rfl (lv_at hl 0 rfl) ?_
        refine va_get (D := G.1) (ci := 13) (v := .ref (ad (9 + 0))) (C := RX11) (T := TX11) (N := 11) hx hb hT inX11 hown hK hP 0 (ix_at (lt71 (by omega)) (cX_0 G ad S)) rfl 1 (by decide) (hT _ m2_70) (fun _ h9 => h9) rfl (fk_get fk_cX11_see_0 27 rfl) ?_
        refine va_get (D := G.1) (ci := 9) (v := .int (fF S (9 + 0) 4)) (C := RX7) (T := TX7) (N := 8) hx hb hT inX7 hown hK hP (9 + 0) (ix_at (lt71 (by omega)) (cX_shop (pk_shop (by decide : 0 < 3)))) rfl 4 (by decide) (hT _ m1_211) (fun _ h9 => h9) rfl (fk_get fk_cX11_see_0 28 rfl) ?_
        rw [hz]
        refine lv_iload_n hx hb (fk_get fk_cX11_see_0 29 rfl) rfl (lv_at hl 1 rfl) ?_
        refine r_iast hx hb hK hP hD hS (9 + 0 + 6) 0 (ix_at (lt71 (by omega)) (cX_arr (Or.inl ⟨rfl, rfl, Or.inl (pk_sn (by decide : 0 < 3))⟩))) rfl (j := z) (rfl) (by omega) (by decide) (fk_get fk_cX11_see_0 30 rfl) (fun H locs hP hD hS => ?_)
        rw [pX_arr (G := G) (ad := ad) (S := S) (lt71 (by omega)) (Or.inl ⟨rfl, rfl, Or.inl (pk_sn (by decide : 0 < 3))⟩) (upd (fA S (9 + 0 + 6)) z (x))] at hP hD
        have hX_6 : XI (setA S (9 + 0 + 6) (upd (fA S (9 + 0 + 6)) z (x))) := XI.sA hX _ (by omega)
        have hF_7 : Fr (fun j k => (j = 9 ∧ k = 4) ∨ (j = 15 ∧ k = 99)) S (setA S (9 + 0 + 6) (upd (fA S (9 + 0 + 6)) z (x))) := Fr.sA (Fr.rf : Fr (fun j k => (j = 9 ∧ k = 4) ∨ (j = 15 ∧ k = 99)) S S) (by omega)
        refine lv_aload_n hx hb (fk_get fk_cX11_see_0 31 rfl) rfl (lv_at hl 0 rfl) ?_
        refine va_get (D := G.1) (ci := 13) (v := .ref (ad (9 + 0))) (C := RX11) (T := TX11) (N := 11) hx hb hT inX11 hown hK hP 0 (ix_at (lt71 (by omega)) (cX_0 G ad (setA S (9 + 0 + 6) (upd (fA S (9 + 0 + 6)) z (x))))) rfl 1 (by decide) (hT _ m2_70) (fun _ h9 => h9) rfl (fk_get fk_cX11_see_1 0 rfl) ?_
        refine lv_dup hx hb (fk_get fk_cX11_see_1 1 rfl) rfl ?_
        refine va_get (D := G.1) (ci := 9) (v := .int (fF (setA S (9 + 0 + 6) (upd (fA S (9 + 0 + 6)) z (x))) (9 + 0) 4)) (C := RX7) (T := TX7) (N := 8) hx hb hT inX7 hown hK hP (9 + 0) (ix_at (lt71 (by omega)) (cX_shop (pk_shop (by decide : 0 < 3)))) rfl 4 (by decide) (hT _ m1_211) (fun _ h9 => h9) rfl (fk_get fk_cX11_see_1 2 rfl) ?_
        rw [show fF (setA S (9 + 0 + 6) (upd (fA S (9 + 0 + 6)) z (x))) (9 + 0) 4 = (fF S (9 + 0) 4) from by simp [fF_setF, fF_setR, fF_setA, fF_setL]]
        rw [hz]
        refine lv_iconst (v := 1) hx hb (fk_get fk_cX11_see_1 3 rfl) (by decide) ?_
        refine lv_iadd hx hb (fk_get fk_cX11_see_1 4 rfl) ?_
        rw [show ((nI z) + 1) = (nI (z + 1)) from (nI_1 z)]
        refine va_put (D := G.1) (ci := 9) (v := .int ((nI (z + 1)))) (ty := .int) (C := RX7) (T := TX7) (N := 8) hx hb hT inX7 tyX7 tyX7_ok nmX7 hown hK hP hD hS (9 + 0) (ix_at (lt71 (by omega)) (cX_shop (pk_shop (by decide : 0 < 3)))) rfl 4 (by decide) (hT _ m1_211) (fun _ h9 => h9) rfl (by decide +kernel) rfl rfl (Nat.le_of_ble_eq_true rfl) (fk_get fk_cX11_see_1 5 rfl) (fun H locs hP hD hS => ?_)
        rw [pX_shop_4 (S := (setA S (9 + 0 + 6) (upd (fA S (9 + 0 + 6)) z (x)))) (lt71 (by omega)) (pk_shop (by decide : 0 < 3)) ((nI (z + 1)))] at hP hD
        have hX_8 : XI (setF (setA S (9 + 0 + 6) (upd (fA S (9 + 0 + 6)) z (x))) (9 + 0) 4 ((nI (z + 1)))) := XI.se (n := (z + 1)) hX_6 (by decide : 0 < 3) (by omega)
        have hF_9 : Fr (fun j k => (j = 9 ∧ k = 4) ∨ (j = 15 ∧ k = 99)) S (setF (setA S (9 + 0 + 6) (upd (fA S (9 + 0 + 6)) z (x))) (9 + 0) 4 ((nI (z + 1)))) := Fr.sF hF_7 (by omega)
        refine lv_aload_n hx hb (fk_get fk_cX11_see_1 6 rfl) rfl (lv_at hl 0 rfl) ?_
        refine va_get (D := G.1) (ci := 13) (v := .ref (ad (9 + 0))) (C := RX11) (T := TX11) (N := 11) hx hb hT inX11 hown hK hP 0 (ix_at (lt71 (by omega)) (cX_0 G ad (setF (setA S (9 + 0 + 6) (upd (fA S (9 + 0 + 6)) z (x))) (9 + 0) 4 ((nI (z + 1)))))) rfl 1 (by decide) (hT _ m2_70) (fun _ h9 => h9) rfl (fk_get fk_cX11_see_1 7 rfl) ?_
        refine va_get (D := G.1) (ci := 9) (v := .int (fF (setF (setA S (9 + 0 + 6) (upd (fA S (9 + 0 + 6)) z (x))) (9 + 0) 4 ((nI (z + 1)))) (9 + 0) 4)) (C := RX7) (T := TX7) (N := 8) hx hb hT inX7 hown hK hP (9 + 0) (ix_at (lt71 (by omega)) (cX_shop (pk_shop (by decide : 0 < 3)))) rfl 4 (by decide) (hT _ m1_211) (fun _ h9 => h9) rfl (fk_get fk_cX11_see_1 8 rfl) ?_
        rw [show fF (setF (setA S (9 + 0 + 6) (upd (fA S (9 + 0 + 6)) z (x))) (9 + 0) 4 ((nI (z + 1)))) (9 + 0) 4 = (nI (z + 1)) from by simp [fF_setF, fF_setR, fF_setA, fF_setL]]
        subst hQ
        have hpost : XI (setF (setA S (9 + 0 + 6) (upd (fA S (9 + 0 + 6)) z (x))) (9 + 0) 4 ((nI (z + 1)))) ∧ Fr (fun j k => (j = 9 ∧ k = 4) ∨ (j = 15 ∧ k = 99)) S (setF (setA S (9 + 0 + 6) (upd (fA S (9 + 0 + 6)) z (x))) (9 + 0) 4 ((nI (z + 1)))) ∧ (x = -1 ∧ ((nI (z + 1)) : Int32) = 0 ∧ (setF (setA S (9 + 0 + 6) (upd (fA S (9 + 0 + 6)) z (x))) (9 + 0) 4 ((nI (z + 1)))) = setF S (9 + 0) 4 (nI 0) ∨ x ≠ -1 ∧ (x < 0 ∨ 999 < x) ∧ ((nI (z + 1)) : Int32) = -2 ∧ (setF (setA S (9 + 0 + 6) (upd (fA S (9 + 0 + 6)) z (x))) (9 + 0) 4 ((nI (z + 1)))) = S ∨ x ≠ -1 ∧ ¬ (x < 0 ∨ 999 < x) ∧ z = 4 ∧ ((nI (z + 1)) : Int32) = -4 ∧ (setF (setA S (9 + 0 + 6) (upd (fA S (9 + 0 + 6)) z (x))) (9 + 0) 4 ((nI (z + 1)))) = S ∨ x ≠ -1 ∧ ¬ (x < 0 ∨ 999 < x) ∧ z < 4 ∧ ((nI (z + 1)) : Int32) = nI (z + 1) ∧ (setF (setA S (9 + 0 + 6) (upd (fA S (9 + 0 + 6)) z (x))) (9 + 0) 4 ((nI (z + 1)))) = setF (setA S (9 + 0 + 6) (upd (fA S (9 + 0 + 6)) z x)) (9 + 0) 4 (nI (z + 1))) := by
          first | exact ⟨hX_8, hF_9, Or.inl ⟨by assumption, rfl, rfl⟩⟩ | exact ⟨hX_8, hF_9, Or.inr (Or.inl ⟨by assumption, by assumption, rfl, rfl⟩)⟩ | exact ⟨hX_8, hF_9, Or.inr (Or.inr (Or.inl ⟨by assumption, by assumption, by omega, rfl, rfl⟩))⟩ | exact ⟨hX_8, hF_9, Or.inr (Or.inr (Or.inr ⟨by assumption, by assumption, by omega, rfl, rfl⟩))⟩
        exact W.iret (v := (nI (z + 1))) hx hb hr (fun t_ ht_ hW_ => ⟨⟨(nI (z + 1)), (setF (setA S (9 + 0 + 6) (upd (fA S (9 + 0 + 6)) z (x))) (9 + 0) 4 ((nI (z + 1)))), rfl, hpost, by rw [ht_]; exact hP, va_K.moved hW_.alike hK, hD⟩, hS.F ht_⟩) hS.2.2 (fk_get fk_cX11_see_1 9 rfl)
      have q_c_5 : 4 ≤ z := ci_nlt (a := z) (b := 4) (by omega) (by omega) c_5
      refine lv_bipush (v := (-4)) hx hb (fk_get fk_cX11_see_0 21 rfl) (by decide) ?_
      subst hQ
      have hpost : XI S ∧ Fr (fun j k => (j = 9 ∧ k = 4) ∨ (j = 15 ∧ k = 99)) S S ∧ (x = -1 ∧ ((-4) : Int32) = 0 ∧ S = setF S (9 + 0) 4 (nI 0) ∨ x ≠ -1 ∧ (x < 0 ∨ 999 < x) ∧ ((-4) : Int32) = -2 ∧ S = S ∨ x ≠ -1 ∧ ¬ (x < 0 ∨ 999 < x) ∧ z = 4 ∧ ((-4) : Int32) = -4 ∧ S = S ∨ x ≠ -1 ∧ ¬ (x < 0 ∨ 999 < x) ∧ z < 4 ∧ ((-4) : Int32) = nI (z + 1) ∧ S = setF (setA S (9 + 0 + 6) (upd (fA S (9 + 0 + 6)) z x)) (9 + 0) 4 (nI (z + 1))) := by
        first | exact ⟨hX, (Fr.rf : Fr (fun j k => (j = 9 ∧ k = 4) ∨ (j = 15 ∧ k = 99)) S S), Or.inl ⟨by assumption, rfl, rfl⟩⟩ | exact ⟨hX, (Fr.rf : Fr (fun j k => (j = 9 ∧ k = 4) ∨ (j = 15 ∧ k = 99)) S S), Or.inr (Or.inl ⟨by assumption, by assumption, rfl, rfl⟩)⟩ | exact ⟨hX, (Fr.rf : Fr (fun j k => (j = 9 ∧ k = 4) ∨ (j = 15 ∧ k = 99)) S S), Or.inr (Or.inr (Or.inl ⟨by assumption, by assumption, by omega, rfl, rfl⟩))⟩ | exact ⟨hX, (Fr.rf : Fr (fun j k => (j = 9 ∧ k = 4) ∨ (j = 15 ∧ k = 99)) S S), Or.inr (Or.inr (Or.inr ⟨by assumption, by assumption, by omega, rfl, rfl⟩))⟩
      exact W.iret (v := (-4)) hx hb hr (fun t_ ht_ hW_ => ⟨⟨(-4), S, rfl, hpost, by rw [ht_]; exact hP, va_K.moved hW_.alike hK, hD⟩, hS.F ht_⟩) hS.2.2 (fk_get fk_cX11_see_0 22 rfl)
    have p_c_4 := if1_t hw_3 c_4
    refine lv_bipush (v := (-2)) hx hb (fk_get fk_cX11_see_0 14 rfl) (by decide) ?_
    subst hQ
    have hpost : XI S ∧ Fr (fun j k => (j = 9 ∧ k = 4) ∨ (j = 15 ∧ k = 99)) S S ∧ (x = -1 ∧ ((-2) : Int32) = 0 ∧ S = setF S (9 + 0) 4 (nI 0) ∨ x ≠ -1 ∧ (x < 0 ∨ 999 < x) ∧ ((-2) : Int32) = -2 ∧ S = S ∨ x ≠ -1 ∧ ¬ (x < 0 ∨ 999 < x) ∧ z = 4 ∧ ((-2) : Int32) = -4 ∧ S = S ∨ x ≠ -1 ∧ ¬ (x < 0 ∨ 999 < x) ∧ z < 4 ∧ ((-2) : Int32) = nI (z + 1) ∧ S = setF (setA S (9 + 0 + 6) (upd (fA S (9 + 0 + 6)) z x)) (9 + 0) 4 (nI (z + 1))) := by
      first | exact ⟨hX, (Fr.rf : Fr (fun j k => (j = 9 ∧ k = 4) ∨ (j = 15 ∧ k = 99)) S S), Or.inl ⟨by assumption, rfl, rfl⟩⟩ | exact ⟨hX, (Fr.rf : Fr (fun j k => (j = 9 ∧ k = 4) ∨ (j = 15 ∧ k = 99)) S S), Or.inr (Or.inl ⟨by assumption, by assumption, rfl, rfl⟩)⟩ | exact ⟨hX, (Fr.rf : Fr (fun j k => (j = 9 ∧ k = 4) ∨ (j = 15 ∧ k = 99)) S S), Or.inr (Or.inr (Or.inl ⟨by assumption, by assumption, by omega, rfl, rfl⟩))⟩ | exact ⟨hX, (Fr.rf : Fr (fun j k => (j = 9 ∧ k = 4) ∨ (j = 15 ∧ k = 99)) S S), Or.inr (Or.inr (Or.inr ⟨by assumption, by assumption, by omega, rfl, rfl⟩))⟩
    exact W.iret (v := (-2)) hx hb hr (fun t_ ht_ hW_ => ⟨⟨(-2), S, rfl, hpost, by rw [ht_]; exact hP, va_K.moved hW_.alike hK, hD⟩, hS.F ht_⟩) hS.2.2 (fk_get fk_cX11_see_0 15 rfl)
  refine lv_aload_n hx hb (fk_get fk_cX11_see_0 3 rfl) rfl (lv_at hl 0 rfl) ?_
  refine va_get (D := G.1) (ci := 13) (v := .ref (ad (9 + 0))) (C := RX11) (T := TX11) (N := 11) hx hb hT inX11 hown hK hP 0 (ix_at (lt71 (by omega)) (cX_0 G ad S)) rfl 1 (by decide) (hT _ m2_70) (fun _ h9 => h9) rfl (fk_get fk_cX11_see_0 4 rfl) ?_
  refine lv_iconst (v := 0) hx hb (fk_get fk_cX11_see_0 5 rfl) (by decide) ?_
  refine va_put (D := G.1) (ci := 9) (v := .int (0)) (ty := .int) (C := RX7) (T := TX7) (N := 8) hx hb hT inX7 tyX7 tyX7_ok nmX7 hown hK hP hD hS (9 + 0) (ix_at (lt71 (by omega)) (cX_shop (pk_shop (by decide : 0 < 3)))) rfl 4 (by decide) (hT _ m1_211) (fun _ h9 => h9) rfl (by decide +kernel) rfl rfl (Nat.le_of_ble_eq_true rfl) (fk_get fk_cX11_see_0 6 rfl) (fun H locs hP hD hS => ?_)
  rw [pX_shop_4 (S := S) (lt71 (by omega)) (pk_shop (by decide : 0 < 3)) (0)] at hP hD
  have hX_10 : XI (setF S (9 + 0) 4 (0)) := XI.se (n := 0) hX (by decide : 0 < 3) (by omega)
  have hF_11 : Fr (fun j k => (j = 9 ∧ k = 4) ∨ (j = 15 ∧ k = 99)) S (setF S (9 + 0) 4 (0)) := Fr.sF (Fr.rf : Fr (fun j k => (j = 9 ∧ k = 4) ∨ (j = 15 ∧ k = 99)) S S) (by omega)
  refine lv_iconst (v := 0) hx hb (fk_get fk_cX11_see_0 7 rfl) (by decide) ?_
  subst hQ
  have hpost : XI (setF S (9 + 0) 4 (0)) ∧ Fr (fun j k => (j = 9 ∧ k = 4) ∨ (j = 15 ∧ k = 99)) S (setF S (9 + 0) 4 (0)) ∧ (x = -1 ∧ (0 : Int32) = 0 ∧ (setF S (9 + 0) 4 (0)) = setF S (9 + 0) 4 (nI 0) ∨ x ≠ -1 ∧ (x < 0 ∨ 999 < x) ∧ (0 : Int32) = -2 ∧ (setF S (9 + 0) 4 (0)) = S ∨ x ≠ -1 ∧ ¬ (x < 0 ∨ 999 < x) ∧ z = 4 ∧ (0 : Int32) = -4 ∧ (setF S (9 + 0) 4 (0)) = S ∨ x ≠ -1 ∧ ¬ (x < 0 ∨ 999 < x) ∧ z < 4 ∧ (0 : Int32) = nI (z + 1) ∧ (setF S (9 + 0) 4 (0)) = setF (setA S (9 + 0 + 6) (upd (fA S (9 + 0 + 6)) z x)) (9 + 0) 4 (nI (z + 1))) := by
    first | exact ⟨hX_10, hF_11, Or.inl ⟨by assumption, rfl, rfl⟩⟩ | exact ⟨hX_10, hF_11, Or.inr (Or.inl ⟨by assumption, by assumption, rfl, rfl⟩)⟩ | exact ⟨hX_10, hF_11, Or.inr (Or.inr (Or.inl ⟨by assumption, by assumption, by omega, rfl, rfl⟩))⟩ | exact ⟨hX_10, hF_11, Or.inr (Or.inr (Or.inr ⟨by assumption, by assumption, by omega, rfl, rfl⟩))⟩
  exact W.iret (v := 0) hx hb hr (fun t_ ht_ hW_ => ⟨⟨0, (setF S (9 + 0) 4 (0)), rfl, hpost, by rw [ht_]; exact hP, va_K.moved hW_.alike hK, hD⟩, hS.F ht_⟩) hS.2.2 (fk_get fk_cX11_see_0 8 rfl)
