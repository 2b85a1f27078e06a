set_option maxHeartbeats 800000 in
set_option maxRecDepth 100000 in
theorem c_note (l : Launch) (G : GG) (ad : Nat → Nat) (S : FS) (sz : Nat) (t : Nat) (body : Int32) (ht : fF S 0 40 = nI t) (htb : t < 1000) : Met l yX12_note (Cond.code yX12_note cX12_note 2 none :: TBL) ({ frames := 2, cells := 0, slots := 0, locals := 64 } : Room) (PcW G (wR G ad S) sz [.ref (ad 0), .int (body)]) (va_Qv (fun (S' : FS) => S' = ntS t S body) (fun S' t => BW G (va_A (wR G ad S) sz) (wR G ad S') t) (va_A (wR G ad S) sz)) 0 0 (va_A (wR G ad S) sz) := by
  refine Met.ofW (cc := cX12_note) (maxL := 2) (ret := none) (by decide) rfl ?_
  intro p e s m args below meth c₀ s₁ B hml hv
  obtain ⟨rfl, hsz, hP, hK, hD0⟩ := hv
  have hx := B.exec
  have hb := B.bytes
  have hr := B.returns
  have hT : ∀ w ∈ TBL, w.before ([.ref (ad 0), .int (body)] : List Value).toArray s = true := fun w h => atoms_spec (ws := Cond.code yX12_note cX12_note 2 none :: TBL) B.pre w (List.mem_cons_of_mem _ h)
  have hown : s.vm.findClass "LittleMoreModel" = some m.cls := findClass_of_methodNamed B.named
  have hlocks := B.notSynchronized
  subst hsz
  have hD := hD0.self (sz := s.heap.size)
  generalize hAe : va_A (wR G ad S) s.heap.size = A at hD ⊢
  have hA : ∀ q : Nat, s.heap.size ≤ q → A q := fun q h => by rw [← hAe]; exact Or.inr h
  have hS : va_S A s.heap s.heap [] := va_S.rf
  have hP : va_P G.1 vwCl (wR G ad S) s.heap := hP
  have hl := lv_entry ([.ref (ad 0), .int (body)]) (n := 2) (Nat.le_of_ble_eq_true rfl)
  rw [lg_entry_eq]
  generalize (lg_sl ([.ref (ad 0), .int (body)]) ++ List.replicate (2 - (lg_sl ([.ref (ad 0), .int (body)])).length) Slot.unset).toArray = ls at hl ⊢
  have hl : lv_has ls 2 [(0, .ref (ad 0)), (1, .int (body))] := hl
  refine W_abs (fun Q hQ => ?_)
  generalize ([.ref (ad 0), .int (body)] : List Value).toArray = args at hT hQ ⊢
  refine lv_aload_n hx hb (fk_get fk_cX12_note_0 0 rfl) rfl (lv_at hl 0 rfl) ?_
  refine va_get (D := G.1) (ci := 14) (v := .int ((fF S 0 40))) (C := RX12) (T := TX12) (N := 49) hx hb hT inX12 hown hK hP 0 (ix_at (by decide) (cR_0 G ad S)) rfl 40 (by decide) (hT _ m5_141) (fun _ h9 => h9) rfl (fk_get fk_cX12_note_0 1 rfl) ?_
  refine lv_bipush (v := 20) hx hb (fk_get fk_cX12_note_0 2 rfl) (by decide) ?_
  refine lv_icmp_ge (tgt := 19) hx hb (fk_get fk_cX12_note_0 3 rfl) (by decide) (fun c_1 => ?_) (fun c_1 => ?_)
  · have hge : ¬ t < 20 := Nat.not_lt.mpr ((nI_leI (a := 20) (b := t) (by omega) (by omega)).mp (by rw [← ht]; exact c_1))
    refine lv_aload_n hx hb (fk_get fk_cX12_note_0 10 rfl) rfl (lv_at hl 0 rfl) ?_
    refine lv_dup hx hb (fk_get fk_cX12_note_0 11 rfl) rfl ?_
    refine va_get (D := G.1) (ci := 14) (v := .int ((fF S 0 40))) (C := RX12) (T := TX12) (N := 49) hx hb hT inX12 hown hK hP 0 (ix_at (by decide) (cR_0 G ad S)) rfl 40 (by decide) (hT _ m5_141) (fun _ h9 => h9) rfl (fk_get fk_cX12_note_0 12 rfl) ?_
    refine lv_iconst (v := 1) hx hb (fk_get fk_cX12_note_0 13 rfl) (by decide) ?_
    refine lv_iadd hx hb (fk_get fk_cX12_note_0 14 rfl) ?_
    refine va_put (D := G.1) (ci := 14) (v := .int (((fF S 0 40) + 1))) (ty := .int) (C := RX12) (T := TX12) (N := 49) hx hb hT inX12 tyX12 tyX12_ok nmX12 hown hK hP hD hS 0 (ix_at (by decide) (cR_0 G ad S)) rfl 40 (by decide) (hT _ m5_141) (fun _ h9 => h9) rfl (by decide +kernel) rfl rfl (Nat.le_of_ble_eq_true rfl) (fk_get fk_cX12_note_0 15 rfl) (fun H locs hP hD hS => ?_)
    rw [pR_trailed G ad S (((fF S 0 40) + 1))] at hP hD
    subst hQ
    have hpost : (setF S 0 40 (((fF S 0 40) + 1))) = ntS t S body := by
      unfold ntS
      first | (rw [if_pos (by assumption), ht, nI_1]; done) | (rw [if_neg (by assumption), ht, nI_1]; done) | (rw [if_pos (by assumption)]; rw [ht, nI_1]) | (rw [if_neg (by assumption)]; rw [ht, nI_1])
    exact W.vret hx hb hr (fun t_ ht_ hW_ => ⟨⟨(setF S 0 40 (((fF S 0 40) + 1))), rfl, hpost, by rw [ht_]; exact hP, va_K.moved hW_.alike hK, hD⟩, hS.F ht_⟩) hS.2.2 (fk_get fk_cX12_note_0 16 rfl)
  have hlt : t < 20 := Nat.lt_of_not_le (fun z => c_1 (by rw [ht]; exact (nI_leI (a := 20) (b := t) (by omega) (by omega)).mpr z))
  refine lv_aload_n hx hb (fk_get fk_cX12_note_0 4 rfl) rfl (lv_at hl 0 rfl) ?_
  refine va_get (D := G.1) (ci := 14) (v := .ref (ad 17)) (C := RX12) (T := TX12) (N := 49) hx hb hT inX12 hown hK hP 0 (ix_at (by decide) (cR_0 G ad S)) rfl 39 (by decide) (hT _ m5_140) (fun _ h9 => h9) rfl (fk_get fk_cX12_note_0 5 rfl) ?_
  refine lv_aload_n hx hb (fk_get fk_cX12_note_0 6 rfl) rfl (lv_at hl 0 rfl) ?_
  refine va_get (D := G.1) (ci := 14) (v := .int ((fF S 0 40))) (C := RX12) (T := TX12) (N := 49) hx hb hT inX12 hown hK hP 0 (ix_at (by decide) (cR_0 G ad S)) rfl 40 (by decide) (hT _ m5_141) (fun _ h9 => h9) rfl (fk_get fk_cX12_note_0 7 rfl) ?_
  refine lv_iload_n hx hb (fk_get fk_cX12_note_0 8 rfl) rfl (lv_at hl 1 rfl) ?_
  refine r_iast hx hb hK hP hD hS 17 0 (ix_at (by decide) (cR_trail G ad S)) rfl (t) (ht) (by omega) (by decide) (fk_get fk_cX12_note_0 9 rfl) (fun H locs hP hD hS => ?_)
  rw [pR_A G ad S (by decide) (by decide) (by decide) (cR_trail G ad S) (upd (fA S 17) (t) (body))] at hP hD
  refine lv_aload_n hx hb (fk_get fk_cX12_note_0 10 rfl) rfl (lv_at hl 0 rfl) ?_
  refine lv_dup hx hb (fk_get fk_cX12_note_0 11 rfl) rfl ?_
  refine va_get (D := G.1) (ci := 14) (v := .int ((fF S 0 40))) (C := RX12) (T := TX12) (N := 49) hx hb hT inX12 hown hK hP 0 (ix_at (by decide) (cR_0 G ad (setA S 17 (upd (fA S 17) (t) (body))))) rfl 40 (by decide) (hT _ m5_141) (fun _ h9 => h9) rfl (fk_get fk_cX12_note_0 12 rfl) ?_
  refine lv_iconst (v := 1) hx hb (fk_get fk_cX12_note_0 13 rfl) (by decide) ?_
  refine lv_iadd hx hb (fk_get fk_cX12_note_0 14 rfl) ?_
  refine va_put (D := G.1) (ci := 14) (v := .int (((fF S 0 40) + 1))) (ty := .int) (C := RX12) (T := TX12) (N := 49) hx hb hT inX12 tyX12 tyX12_ok nmX12 hown hK hP hD hS 0 (ix_at (by decide) (cR_0 G ad (setA S 17 (upd (fA S 17) (t) (body))))) rfl 40 (by decide) (hT _ m5_141) (fun _ h9 => h9) rfl (by decide +kernel) rfl rfl (Nat.le_of_ble_eq_true rfl) (fk_get fk_cX12_note_0 15 rfl) (fun H locs hP hD hS => ?_)
  rw [pR_trailed G ad (setA S 17 (upd (fA S 17) (t) (body))) (((fF S 0 40) + 1))] at hP hD
  subst hQ
  have hpost : (setF (setA S 17 (upd (fA S 17) (t) (body))) 0 40 (((fF S 0 40) + 1))) = ntS t S body := by
    unfold ntS
    first | (rw [if_pos (by assumption), ht, nI_1]; done) | (rw [if_neg (by assumption), ht, nI_1]; done) | (rw [if_pos (by assumption)]; rw [ht, nI_1]) | (rw [if_neg (by assumption)]; rw [ht, nI_1])
  exact W.vret hx hb hr (fun t_ ht_ hW_ => ⟨⟨(setF (setA S 17 (upd (fA S 17) (t) (body))) 0 40 (((fF S 0 40) + 1))), rfl, hpost, by rw [ht_]; exact hP, va_K.moved hW_.alike hK, hD⟩, hS.F ht_⟩) hS.2.2 (fk_get fk_cX12_note_0 16 rfl)
set_option maxHeartbeats 800000 in
set_option maxRecDepth 100000 in
theorem c_asksPlain (l : Launch) (G : GG) (ad : Nat → Nat) (S : FS) (sz : Nat) (t : Nat) (κ v i x : Int32) (ht : fF S 0 40 = nI t) (htb : t < 900) (hκ : fF S 0 41 = κ) (hv : fF S 0 42 = v) (hi : fF S 0 43 = i) : Met l yX12_asksPlain (Cond.code yX12_asksPlain cX12_asksPlain 2 (some .int) :: TBL) ({ frames := 3, cells := 0, slots := 0, locals := 89 } : Room) (PcW G (wR G ad S) sz [.ref (ad 0), .int (x)]) (va_Qi (fun (r : Int32) (S' : FS) => r = x + i ∧ S' = ntl t S ([10])) (fun S' t => BW G (va_A (wR G ad S) sz) (wR G ad S') t) (va_A (wR G ad S) sz)) 0 0 (va_A (wR G ad S) sz) := by
  refine Met.ofW (cc := cX12_asksPlain) (maxL := 2) (ret := (some .int)) (by decide) rfl ?_
  intro p e s m args below meth c₀ s₁ B hml hv
  obtain ⟨rfl, hsz, hP, hK, hD0⟩ := hv
  have hx := B.exec
  have hb := B.bytes
  have hr := B.returns
  have hT : ∀ w ∈ TBL, w.before ([.ref (ad 0), .int (x)] : List Value).toArray s = true := fun w h => atoms_spec (ws := Cond.code yX12_asksPlain cX12_asksPlain 2 (some .int) :: TBL) B.pre w (List.mem_cons_of_mem _ h)
  have hown : s.vm.findClass "LittleMoreModel" = some m.cls := findClass_of_methodNamed B.named
  have hlocks := B.notSynchronized
  subst hsz
  have hD := hD0.self (sz := s.heap.size)
  generalize hAe : va_A (wR G ad S) s.heap.size = A at hD ⊢
  have hA : ∀ q : Nat, s.heap.size ≤ q → A q := fun q h => by rw [← hAe]; exact Or.inr h
  have hS : va_S A s.heap s.heap [] := va_S.rf
  have hP : va_P G.1 vwCl (wR G ad S) s.heap := hP
  have hl := lv_entry ([.ref (ad 0), .int (x)]) (n := 2) (Nat.le_of_ble_eq_true rfl)
  rw [lg_entry_eq]
  generalize (lg_sl ([.ref (ad 0), .int (x)]) ++ List.replicate (2 - (lg_sl ([.ref (ad 0), .int (x)])).length) Slot.unset).toArray = ls at hl ⊢
  have hl : lv_has ls 2 [(0, .ref (ad 0)), (1, .int (x))] := hl
  refine W_abs (fun Q hQ => ?_)
  generalize ([.ref (ad 0), .int (x)] : List Value).toArray = args at hT hQ ⊢
  refine lv_aload_n hx hb (fk_get fk_cX12_asksPlain_0 0 rfl) rfl (lv_at hl 0 rfl) ?_
  refine lv_bipush (v := 10) hx hb (fk_get fk_cX12_asksPlain_0 1 rfl) (by decide) ?_
  have hFc := va_self hD hS hA
  refine va_callv (va_runV (As := [.int (10)]) (rest := []) ⟨hx, hb, hml, hown, hT⟩ (c_note l G ad S s.heap.size (t) (10) (by first | assumption | exact ntS_40 _ _ _ | exact ntl_40 _ _ _ (by first | assumption | exact ntS_40 _ _ _ | exact ntl_40 _ _ _ (by first | assumption | exact ntS_40 _ _ _))) (by have := aB_len κ; have := bP_len κ; have := bB_len κ; have := tP_len κ; omega)) (tV 1 hT m7_84 m7_86 mp_57 m1_17 m7_87 rfl rfl (by decide +kernel) ⟨Nat.le_of_ble_eq_true rfl, Nat.le_of_ble_eq_true rfl⟩) ⟨PcW_blind, va_recv hK hP (ci := 14) (q0 := 0) rfl (ix_at (by decide) (cR_0 G ad S)), PcW_of hP hK hD _⟩ rfl rfl hl.1 rfl (lv_room (Nat.le_of_ble_eq_true rfl)) (fk_get fk_cX12_asksPlain_0 2 rfl) ⟨Nat.zero_le _, Nat.zero_le _⟩) hS (fun q _ h => hFc q h) hFc (fun S_3 t_ H locs ht_ hvm_ hw_2 hB_ hz_ hk_ hS => ?_)
  obtain ⟨hP, -, hD1_⟩ := hB_
  rw [ht_] at hP
  have hD : va_D A (wR G ad S_3) := hD1_.weaken (fun k q _ h => hFc q.1 h)
  try dsimp only at hw_2
  subst hw_2
  refine lv_iload_n hx hb (fk_get fk_cX12_asksPlain_0 3 rfl) rfl (lv_at hl 1 rfl) ?_
  refine lv_aload_n hx hb (fk_get fk_cX12_asksPlain_0 4 rfl) rfl (lv_at hl 0 rfl) ?_
  refine va_get (D := G.1) (ci := 14) (v := .int ((fF (ntS (t) S (10)) 0 43))) (C := RX12) (T := TX12) (N := 49) hx hb hT inX12 hown hK hP 0 (ix_at (by decide) (cR_0 G ad (ntS (t) S (10)))) rfl 43 (by decide) (hT _ m5_144) (fun _ h9 => h9) rfl (fk_get fk_cX12_asksPlain_0 5 rfl) ?_
  refine lv_iadd hx hb (fk_get fk_cX12_asksPlain_0 6 rfl) ?_
  subst hQ
  have hpost : ((x + (fF (ntS (t) S (10)) 0 43)) : Int32) = x + i ∧ (ntS (t) S (10)) = ntl t S ([10]) := by
    have q1 : ∀ (t : Nat) (b : Int32), fF (ntS t S b) 0 43 = i := fun t b => (ntS_43 t S b).trans hi
    have q2 : ∀ (t : Nat) (b : Int32), fF (ntS t S b) 0 42 = v := fun t b => (ntS_42 t S b).trans hv
    exact ⟨by simp only [q1, q2, ntl_42, ntl_43, ntS_42, ntS_43, hi, hv], rfl⟩
  exact W.iret (v := (x + (fF (ntS (t) S (10)) 0 43))) hx hb hr (fun t_ ht_ hW_ => ⟨⟨(x + (fF (ntS (t) S (10)) 0 43)), (ntS (t) S (10)), rfl, hpost, by rw [ht_]; exact hP, va_K.moved hW_.alike hK, hD⟩, hS.F ht_⟩) hS.2.2 (fk_get fk_cX12_asksPlain_0 7 rfl)
set_option maxHeartbeats 800000 in
set_option maxRecDepth 100000 in
theorem c_asksGentle (l : Launch) (G : GG) (ad : Nat → Nat) (S : FS) (sz : Nat) (t : Nat) (κ v i x : Int32) (ht : fF S 0 40 = nI t) (htb : t < 800) (hκ : fF S 0 41 = κ) (hv : fF S 0 42 = v) (hi : fF S 0 43 = i) : Met l yX12_asksGentle (Cond.code yX12_asksGentle cX12_asksGentle 2 (some .int) :: TBL) ({ frames := 4, cells := 0, slots := 0, locals := 114 } : Room) (PcW G (wR G ad S) sz [.ref (ad 0), .int (x)]) (va_Qi (fun (r : Int32) (S' : FS) => r = x * 3 + i ∧ S' = ntl t S ([30, 10])) (fun S' t => BW G (va_A (wR G ad S) sz) (wR G ad S') t) (va_A (wR G ad S) sz)) 0 0 (va_A (wR G ad S) sz) := by
  refine Met.ofW (cc := cX12_asksGentle) (maxL := 2) (ret := (some .int)) (by decide) rfl ?_
  intro p e s m args below meth c₀ s₁ B hml hv
  obtain ⟨rfl, hsz, hP, hK, hD0⟩ := hv
  have hx := B.exec
  have hb := B.bytes
  have hr := B.returns
  have hT : ∀ w ∈ TBL, w.before ([.ref (ad 0), .int (x)] : List Value).toArray s = true := fun w h => atoms_spec (ws := Cond.code yX12_asksGentle cX12_asksGentle 2 (some .int) :: TBL) B.pre w (List.mem_cons_of_mem _ h)
  have hown : s.vm.findClass "LittleMoreModel" = some m.cls := findClass_of_methodNamed B.named
  have hlocks := B.notSynchronized
  subst hsz
  have hD := hD0.self (sz := s.heap.size)
  generalize hAe : va_A (wR G ad S) s.heap.size = A at hD ⊢
  have hA : ∀ q : Nat, s.heap.size ≤ q → A q := fun q h => by rw [← hAe]; exact Or.inr h
  have hS : va_S A s.heap s.heap [] := va_S.rf
  have hP : va_P G.1 vwCl (wR G ad S) s.heap := hP
  have hl := lv_entry ([.ref (ad 0), .int (x)]) (n := 2) (Nat.le_of_ble_eq_true rfl)
  rw [lg_entry_eq]
  generalize (lg_sl ([.ref (ad 0), .int (x)]) ++ List.replicate (2 - (lg_sl ([.ref (ad 0), .int (x)])).length) Slot.unset).toArray = ls at hl ⊢
  have hl : lv_has ls 2 [(0, .ref (ad 0)), (1, .int (x))] := hl
  refine W_abs (fun Q hQ => ?_)
  generalize ([.ref (ad 0), .int (x)] : List Value).toArray = args at hT hQ ⊢
  refine lv_aload_n hx hb (fk_get fk_cX12_asksGentle_0 0 rfl) rfl (lv_at hl 0 rfl) ?_
  refine lv_bipush (v := 30) hx hb (fk_get fk_cX12_asksGentle_0 1 rfl) (by decide) ?_
  have hFc := va_self hD hS hA
  refine va_callv (va_runV (As := [.int (30)]) (rest := []) ⟨hx, hb, hml, hown, hT⟩ (c_note l G ad S s.heap.size (t) (30) (by first | assumption | exact ntS_40 _ _ _ | exact ntl_40 _ _ _ (by first | assumption | exact ntS_40 _ _ _ | exact ntl_40 _ _ _ (by first | assumption | exact ntS_40 _ _ _))) (by have := aB_len κ; have := bP_len κ; have := bB_len κ; have := tP_len κ; omega)) (tV 1 hT m7_84 m7_86 mp_57 m1_17 m7_87 rfl rfl (by decide +kernel) ⟨Nat.le_of_ble_eq_true rfl, Nat.le_of_ble_eq_true rfl⟩) ⟨PcW_blind, va_recv hK hP (ci := 14) (q0 := 0) rfl (ix_at (by decide) (cR_0 G ad S)), PcW_of hP hK hD _⟩ rfl rfl hl.1 rfl (lv_room (Nat.le_of_ble_eq_true rfl)) (fk_get fk_cX12_asksGentle_0 2 rfl) ⟨Nat.zero_le _, Nat.zero_le _⟩) hS (fun q _ h => hFc q h) hFc (fun S_3 t_ H locs ht_ hvm_ hw_2 hB_ hz_ hk_ hS => ?_)
  obtain ⟨hP, -, hD1_⟩ := hB_
  rw [ht_] at hP
  have hD : va_D A (wR G ad S_3) := hD1_.weaken (fun k q _ h => hFc q.1 h)
  try dsimp only at hw_2
  subst hw_2
  refine lv_aload_n hx hb (fk_get fk_cX12_asksGentle_0 3 rfl) rfl (lv_at hl 0 rfl) ?_
  refine lv_iload_n hx hb (fk_get fk_cX12_asksGentle_0 4 rfl) rfl (lv_at hl 1 rfl) ?_
  refine lv_iconst (v := 3) hx hb (fk_get fk_cX12_asksGentle_0 5 rfl) (by decide) ?_
  refine lv_imul hx hb (fk_get fk_cX12_asksGentle_0 6 rfl) ?_
  have hFc := va_self hD hS hA
  refine va_calli (va_runV (As := [.int ((x * 3))]) (rest := []) ⟨hx, hb, hml, hown, hT⟩ (c_asksPlain l G ad (ntS (t) S (30)) H.size (t + 1) (κ) (v) (i) ((x * 3)) (by first | assumption | exact ntS_40 _ _ _ | exact ntl_40 _ _ _ (by first | assumption | exact ntS_40 _ _ _ | exact ntl_40 _ _ _ (by first | assumption | exact ntS_40 _ _ _))) (by have := aB_len κ; have := bP_len κ; have := bB_len κ; have := tP_len κ; omega) (by first | assumption | (simp only [ntl_41, ntS_41]; assumption) | (simp only [ntl_42, ntS_42]; assumption) | (simp only [ntl_43, ntS_43]; assumption)) (by first | assumption | (simp only [ntl_41, ntS_41]; assumption) | (simp only [ntl_42, ntS_42]; assumption) | (simp only [ntl_43, ntS_43]; assumption)) (by first | assumption | (simp only [ntl_41, ntS_41]; assumption) | (simp only [ntl_42, ntS_42]; assumption) | (simp only [ntl_43, ntS_43]; assumption))) (tV 1 hT m7_88 m7_90 mp_58 m1_17 m7_91 rfl rfl (by decide +kernel) ⟨Nat.le_of_ble_eq_true rfl, Nat.le_of_ble_eq_true rfl⟩) ⟨PcW_blind, va_recv hK hP (ci := 14) (q0 := 0) rfl (ix_at (by decide) (cR_0 G ad (ntS (t) S (30)))), PcW_of hP hK hD _⟩ rfl rfl hl.1 rfl (lv_room (Nat.le_of_ble_eq_true rfl)) (fk_get fk_cX12_asksGentle_0 7 rfl) ⟨Nat.zero_le _, Nat.zero_le _⟩) hS (fun q _ h => hFc q h) hFc (fun r_4 S_6 t_ H locs ht_ hvm_ hw_5 hB_ hz_ hk_ hS => ?_)
  obtain ⟨hP, -, hD1_⟩ := hB_
  rw [ht_] at hP
  have hD : va_D A (wR G ad S_6) := hD1_.weaken (fun k q _ h => hFc q.1 h)
  try dsimp only at hw_5
  obtain ⟨hw_5, hS1_⟩ := hw_5
  subst hS1_
  try dsimp only at hw_5
  subst hw_5
  subst hQ
  have hpost : (((x * 3) + i) : Int32) = x * 3 + i ∧ (ntl (t + 1) (ntS (t) S (30)) ([10])) = ntl t S ([30, 10]) := by
    exact ⟨rfl, rfl⟩
  exact W.iret (v := ((x * 3) + i)) hx hb hr (fun t_ ht_ hW_ => ⟨⟨((x * 3) + i), (ntl (t + 1) (ntS (t) S (30)) ([10])), rfl, hpost, by rw [ht_]; exact hP, va_K.moved hW_.alike hK, hD⟩, hS.F ht_⟩) hS.2.2 (fk_get fk_cX12_asksGentle_0 8 rfl)
set_option maxHeartbeats 800000 in
set_option maxRecDepth 100000 in
theorem c_asksCounting (l : Launch) (G : GG) (ad : Nat → Nat) (S : FS) (sz : Nat) (t : Nat) (κ v i x : Int32) (ht : fF S 0 40 = nI t) (htb : t < 800) (hκ : fF S 0 41 = κ) (hv : fF S 0 42 = v) (hi : fF S 0 43 = i) : Met l yX12_asksCounting (Cond.code yX12_asksCounting cX12_asksCounting 2 (some .int) :: TBL) ({ frames := 4, cells := 0, slots := 0, locals := 114 } : Room) (PcW G (wR G ad S) sz [.ref (ad 0), .int (x)]) (va_Qi (fun (r : Int32) (S' : FS) => r = -(x + i) ∧ S' = ntl t S ([50, 10])) (fun S' t => BW G (va_A (wR G ad S) sz) (wR G ad S') t) (va_A (wR G ad S) sz)) 0 0 (va_A (wR G ad S) sz) := by
  refine Met.ofW (cc := cX12_asksCounting) (maxL := 2) (ret := (some .int)) (by decide) rfl ?_
  intro p e s m args below meth c₀ s₁ B hml hv
  obtain ⟨rfl, hsz, hP, hK, hD0⟩ := hv
  have hx := B.exec
  have hb := B.bytes
  have hr := B.returns
  have hT : ∀ w ∈ TBL, w.before ([.ref (ad 0), .int (x)] : List Value).toArray s = true := fun w h => atoms_spec (ws := Cond.code yX12_asksCounting cX12_asksCounting 2 (some .int) :: TBL) B.pre w (List.mem_cons_of_mem _ h)
  have hown : s.vm.findClass "LittleMoreModel" = some m.cls := findClass_of_methodNamed B.named
  have hlocks := B.notSynchronized
  subst hsz
  have hD := hD0.self (sz := s.heap.size)
  generalize hAe : va_A (wR G ad S) s.heap.size = A at hD ⊢
  have hA : ∀ q : Nat, s.heap.size ≤ q → A q := fun q h => by rw [← hAe]; exact Or.inr h
  have hS : va_S A s.heap s.heap [] := va_S.rf
  have hP : va_P G.1 vwCl (wR G ad S) s.heap := hP
  have hl := lv_entry ([.ref (ad 0), .int (x)]) (n := 2) (Nat.le_of_ble_eq_true rfl)
  rw [lg_entry_eq]
  generalize (lg_sl ([.ref (ad 0), .int (x)]) ++ List.replicate (2 - (lg_sl ([.ref (ad 0), .int (x)])).length) Slot.unset).toArray = ls at hl ⊢
  have hl : lv_has ls 2 [(0, .ref (ad 0)), (1, .int (x))] := hl
  refine W_abs (fun Q hQ => ?_)
  generalize ([.ref (ad 0), .int (x)] : List Value).toArray = args at hT hQ ⊢
  refine lv_aload_n hx hb (fk_get fk_cX12_asksCounting_0 0 rfl) rfl (lv_at hl 0 rfl) ?_
  refine lv_bipush (v := 50) hx hb (fk_get fk_cX12_asksCounting_0 1 rfl) (by decide) ?_
  have hFc := va_self hD hS hA
  refine va_callv (va_runV (As := [.int (50)]) (rest := []) ⟨hx, hb, hml, hown, hT⟩ (c_note l G ad S s.heap.size (t) (50) (by first | assumption | exact ntS_40 _ _ _ | exact ntl_40 _ _ _ (by first | assumption | exact ntS_40 _ _ _ | exact ntl_40 _ _ _ (by first | assumption | exact ntS_40 _ _ _))) (by have := aB_len κ; have := bP_len κ; have := bB_len κ; have := tP_len κ; omega)) (tV 1 hT m7_84 m7_86 mp_57 m1_17 m7_87 rfl rfl (by decide +kernel) ⟨Nat.le_of_ble_eq_true rfl, Nat.le_of_ble_eq_true rfl⟩) ⟨PcW_blind, va_recv hK hP (ci := 14) (q0 := 0) rfl (ix_at (by decide) (cR_0 G ad S)), PcW_of hP hK hD _⟩ rfl rfl hl.1 rfl (lv_room (Nat.le_of_ble_eq_true rfl)) (fk_get fk_cX12_asksCounting_0 2 rfl) ⟨Nat.zero_le _, Nat.zero_le _⟩) hS (fun q _ h => hFc q h) hFc (fun S_3 t_ H locs ht_ hvm_ hw_2 hB_ hz_ hk_ hS => ?_)
  obtain ⟨hP, -, hD1_⟩ := hB_
  rw [ht_] at hP
  have hD : va_D A (wR G ad S_3) := hD1_.weaken (fun k q _ h => hFc q.1 h)
  try dsimp only at hw_2
  subst hw_2
  refine lv_aload_n hx hb (fk_get fk_cX12_asksCounting_0 3 rfl) rfl (lv_at hl 0 rfl) ?_
  refine lv_iload_n hx hb (fk_get fk_cX12_asksCounting_0 4 rfl) rfl (lv_at hl 1 rfl) ?_
  have hFc := va_self hD hS hA
  refine va_calli (va_runV (As := [.int (x)]) (rest := []) ⟨hx, hb, hml, hown, hT⟩ (c_asksPlain l G ad (ntS (t) S (50)) H.size (t + 1) (κ) (v) (i) (x) (by first | assumption | exact ntS_40 _ _ _ | exact ntl_40 _ _ _ (by first | assumption | exact ntS_40 _ _ _ | exact ntl_40 _ _ _ (by first | assumption | exact ntS_40 _ _ _))) (by have := aB_len κ; have := bP_len κ; have := bB_len κ; have := tP_len κ; omega) (by first | assumption | (simp only [ntl_41, ntS_41]; assumption) | (simp only [ntl_42, ntS_42]; assumption) | (simp only [ntl_43, ntS_43]; assumption)) (by first | assumption | (simp only [ntl_41, ntS_41]; assumption) | (simp only [ntl_42, ntS_42]; assumption) | (simp only [ntl_43, ntS_43]; assumption)) (by first | assumption | (simp only [ntl_41, ntS_41]; assumption) | (simp only [ntl_42, ntS_42]; assumption) | (simp only [ntl_43, ntS_43]; assumption))) (tV 1 hT m7_88 m7_90 mp_58 m1_17 m7_91 rfl rfl (by decide +kernel) ⟨Nat.le_of_ble_eq_true rfl, Nat.le_of_ble_eq_true rfl⟩) ⟨PcW_blind, va_recv hK hP (ci := 14) (q0 := 0) rfl (ix_at (by decide) (cR_0 G ad (ntS (t) S (50)))), PcW_of hP hK hD _⟩ rfl rfl hl.1 rfl (lv_room (Nat.le_of_ble_eq_true rfl)) (fk_get fk_cX12_asksCounting_0 5 rfl) ⟨Nat.zero_le _, Nat.zero_le _⟩) hS (fun q _ h => hFc q h) hFc (fun r_4 S_6 t_ H locs ht_ hvm_ hw_5 hB_ hz_ hk_ hS => ?_)
  obtain ⟨hP, -, hD1_⟩ := hB_
  rw [ht_] at hP
  have hD : va_D A (wR G ad S_6) := hD1_.weaken (fun k q _ h => hFc q.1 h)
  try dsimp only at hw_5
  obtain ⟨hw_5, hS1_⟩ := hw_5
  subst hS1_
  try dsimp only at hw_5
  subst hw_5
  refine lv_ineg hx hb (fk_get fk_cX12_asksCounting_0 6 rfl) ?_
  subst hQ
  have hpost : ((-(x + i)) : Int32) = -(x + i) ∧ (ntl (t + 1) (ntS (t) S (50)) ([10])) = ntl t S ([50, 10]) := by
    exact ⟨rfl, rfl⟩
  exact W.iret (v := (-(x + i))) hx hb hr (fun t_ ht_ hW_ => ⟨⟨(-(x + i)), (ntl (t + 1) (ntS (t) S (50)) ([10])), rfl, hpost, by rw [ht_]; exact hP, va_K.moved hW_.alike hK, hD⟩, hS.F ht_⟩) hS.2.2 (fk_get fk_cX12_asksCounting_0 7 rfl)
set_option maxHeartbeats 800000 in
set_option maxRecDepth 100000 in
theorem c_asksTold (l : Launch) (G : GG) (ad : Nat → Nat) (S : FS) (sz : Nat) (t : Nat) (κ v i x : Int32) (ht : fF S 0 40 = nI t) (htb : t < 800) (hκ : fF S 0 41 = κ) (hv : fF S 0 42 = v) (hi : fF S 0 43 = i) : Met l yX12_asksTold (Cond.code yX12_asksTold cX12_asksTold 2 (some .int) :: TBL) ({ frames := 4, cells := 0, slots := 0, locals := 114 } : Room) (PcW G (wR G ad S) sz [.ref (ad 0), .int (x)]) (va_Qi (fun (r : Int32) (S' : FS) => r = (x + i) ^^^ v ∧ S' = ntl t S ([71, 10])) (fun S' t => BW G (va_A (wR G ad S) sz) (wR G ad S') t) (va_A (wR G ad S) sz)) 0 0 (va_A (wR G ad S) sz) := by
  refine Met.ofW (cc := cX12_asksTold) (maxL := 2) (ret := (some .int)) (by decide) rfl ?_
  intro p e s m args below meth c₀ s₁ B hml hv
  obtain ⟨rfl, hsz, hP, hK, hD0⟩ := hv
  have hx := B.exec
  have hb := B.bytes
  have hr := B.returns
  have hT : ∀ w ∈ TBL, w.before ([.ref (ad 0), .int (x)] : List Value).toArray s = true := fun w h => atoms_spec (ws := Cond.code yX12_asksTold cX12_asksTold 2 (some .int) :: TBL) B.pre w (List.mem_cons_of_mem _ h)
  have hown : s.vm.findClass "LittleMoreModel" = some m.cls := findClass_of_methodNamed B.named
  have hlocks := B.notSynchronized
  subst hsz
  have hD := hD0.self (sz := s.heap.size)
  generalize hAe : va_A (wR G ad S) s.heap.size = A at hD ⊢
  have hA : ∀ q : Nat, s.heap.size ≤ q → A q := fun q h => by rw [← hAe]; exact Or.inr h
  have hS : va_S A s.heap s.heap [] := va_S.rf
  have hP : va_P G.1 vwCl (wR G ad S) s.heap := hP
  have hl := lv_entry ([.ref (ad 0), .int (x)]) (n := 2) (Nat.le_of_ble_eq_true rfl)
  rw [lg_entry_eq]
  generalize (lg_sl ([.ref (ad 0), .int (x)]) ++ List.replicate (2 - (lg_sl ([.ref (ad 0), .int (x)])).length) Slot.unset).toArray = ls at hl ⊢
  have hl : lv_has ls 2 [(0, .ref (ad 0)), (1, .int (x))] := hl
  refine W_abs (fun Q hQ => ?_)
  generalize ([.ref (ad 0), .int (x)] : List Value).toArray = args at hT hQ ⊢
  refine lv_aload_n hx hb (fk_get fk_cX12_asksTold_0 0 rfl) rfl (lv_at hl 0 rfl) ?_
  refine lv_bipush (v := 71) hx hb (fk_get fk_cX12_asksTold_0 1 rfl) (by decide) ?_
  have hFc := va_self hD hS hA
  refine va_callv (va_runV (As := [.int (71)]) (rest := []) ⟨hx, hb, hml, hown, hT⟩ (c_note l G ad S s.heap.size (t) (71) (by first | assumption | exact ntS_40 _ _ _ | exact ntl_40 _ _ _ (by first | assumption | exact ntS_40 _ _ _ | exact ntl_40 _ _ _ (by first | assumption | exact ntS_40 _ _ _))) (by have := aB_len κ; have := bP_len κ; have := bB_len κ; have := tP_len κ; omega)) (tV 1 hT m7_84 m7_86 mp_57 m1_17 m7_87 rfl rfl (by decide +kernel) ⟨Nat.le_of_ble_eq_true rfl, Nat.le_of_ble_eq_true rfl⟩) ⟨PcW_blind, va_recv hK hP (ci := 14) (q0 := 0) rfl (ix_at (by decide) (cR_0 G ad S)), PcW_of hP hK hD _⟩ rfl rfl hl.1 rfl (lv_room (Nat.le_of_ble_eq_true rfl)) (fk_get fk_cX12_asksTold_0 2 rfl) ⟨Nat.zero_le _, Nat.zero_le _⟩) hS (fun q _ h => hFc q h) hFc (fun S_3 t_ H locs ht_ hvm_ hw_2 hB_ hz_ hk_ hS => ?_)
  obtain ⟨hP, -, hD1_⟩ := hB_
  rw [ht_] at hP
  have hD : va_D A (wR G ad S_3) := hD1_.weaken (fun k q _ h => hFc q.1 h)
  try dsimp only at hw_2
  subst hw_2
  refine lv_aload_n hx hb (fk_get fk_cX12_asksTold_0 3 rfl) rfl (lv_at hl 0 rfl) ?_
  refine lv_iload_n hx hb (fk_get fk_cX12_asksTold_0 4 rfl) rfl (lv_at hl 1 rfl) ?_
  have hFc := va_self hD hS hA
  refine va_calli (va_runV (As := [.int (x)]) (rest := []) ⟨hx, hb, hml, hown, hT⟩ (c_asksPlain l G ad (ntS (t) S (71)) H.size (t + 1) (κ) (v) (i) (x) (by first | assumption | exact ntS_40 _ _ _ | exact ntl_40 _ _ _ (by first | assumption | exact ntS_40 _ _ _ | exact ntl_40 _ _ _ (by first | assumption | exact ntS_40 _ _ _))) (by have := aB_len κ; have := bP_len κ; have := bB_len κ; have := tP_len κ; omega) (by first | assumption | (simp only [ntl_41, ntS_41]; assumption) | (simp only [ntl_42, ntS_42]; assumption) | (simp only [ntl_43, ntS_43]; assumption)) (by first | assumption | (simp only [ntl_41, ntS_41]; assumption) | (simp only [ntl_42, ntS_42]; assumption) | (simp only [ntl_43, ntS_43]; assumption)) (by first | assumption | (simp only [ntl_41, ntS_41]; assumption) | (simp only [ntl_42, ntS_42]; assumption) | (simp only [ntl_43, ntS_43]; assumption))) (tV 1 hT m7_88 m7_90 mp_58 m1_17 m7_91 rfl rfl (by decide +kernel) ⟨Nat.le_of_ble_eq_true rfl, Nat.le_of_ble_eq_true rfl⟩) ⟨PcW_blind, va_recv hK hP (ci := 14) (q0 := 0) rfl (ix_at (by decide) (cR_0 G ad (ntS (t) S (71)))), PcW_of hP hK hD _⟩ rfl rfl hl.1 rfl (lv_room (Nat.le_of_ble_eq_true rfl)) (fk_get fk_cX12_asksTold_0 5 rfl) ⟨Nat.zero_le _, Nat.zero_le _⟩) hS (fun q _ h => hFc q h) hFc (fun r_4 S_6 t_ H locs ht_ hvm_ hw_5 hB_ hz_ hk_ hS => ?_)
  obtain ⟨hP, -, hD1_⟩ := hB_
  rw [ht_] at hP
  have hD : va_D A (wR G ad S_6) := hD1_.weaken (fun k q _ h => hFc q.1 h)
  try dsimp only at hw_5
  obtain ⟨hw_5, hS1_⟩ := hw_5
  subst hS1_
  try dsimp only at hw_5
  subst hw_5
  refine lv_aload_n hx hb (fk_get fk_cX12_asksTold_0 6 rfl) rfl (lv_at hl 0 rfl) ?_
  refine va_get (D := G.1) (ci := 14) (v := .int ((fF (ntl (t + 1) (ntS (t) S (71)) ([10])) 0 42))) (C := RX12) (T := TX12) (N := 49) hx hb hT inX12 hown hK hP 0 (ix_at (by decide) (cR_0 G ad (ntl (t + 1) (ntS (t) S (71)) ([10])))) rfl 42 (by decide) (hT _ m5_143) (fun _ h9 => h9) rfl (fk_get fk_cX12_asksTold_0 7 rfl) ?_
  refine lv_ixor hx hb (fk_get fk_cX12_asksTold_0 8 rfl) ?_
  subst hQ
  have hpost : (((x + i) ^^^ (fF (ntl (t + 1) (ntS (t) S (71)) ([10])) 0 42)) : Int32) = (x + i) ^^^ v ∧ (ntl (t + 1) (ntS (t) S (71)) ([10])) = ntl t S ([71, 10]) := by
    have q1 : ∀ (t : Nat) (b : Int32), fF (ntS t S b) 0 43 = i := fun t b => (ntS_43 t S b).trans hi
    have q2 : ∀ (t : Nat) (b : Int32), fF (ntS t S b) 0 42 = v := fun t b => (ntS_42 t S b).trans hv
    exact ⟨by simp only [q1, q2, ntl_42, ntl_43, ntS_42, ntS_43, hi, hv], rfl⟩
  exact W.iret (v := ((x + i) ^^^ (fF (ntl (t + 1) (ntS (t) S (71)) ([10])) 0 42))) hx hb hr (fun t_ ht_ hW_ => ⟨⟨((x + i) ^^^ (fF (ntl (t + 1) (ntS (t) S (71)) ([10])) 0 42)), (ntl (t + 1) (ntS (t) S (71)) ([10])), rfl, hpost, by rw [ht_]; exact hP, va_K.moved hW_.alike hK, hD⟩, hS.F ht_⟩) hS.2.2 (fk_get fk_cX12_asksTold_0 9 rfl)
set_option maxHeartbeats 800000 in
set_option maxRecDepth 100000 in
theorem c_asksBy (l : Launch) (G : GG) (ad : Nat → Nat) (S : FS) (sz : Nat) (t : Nat) (κ v i x : Int32) (ht : fF S 0 40 = nI t) (htb : t < 700) (hκ : fF S 0 41 = κ) (hv : fF S 0 42 = v) (hi : fF S 0 43 = i) : Met l yX12_asksBy (Cond.code yX12_asksBy cX12_asksBy 2 (some .int) :: TBL) ({ frames := 5, cells := 0, slots := 0, locals := 139 } : Room) (PcW G (wR G ad S) sz [.ref (ad 0), .int (x)]) (va_Qi (fun (r : Int32) (S' : FS) => r = aV κ v i x ∧ S' = ntl t S (aB κ)) (fun S' t => BW G (va_A (wR G ad S) sz) (wR G ad S') t) (va_A (wR G ad S) sz)) 0 0 (va_A (wR G ad S) sz) := by
  refine Met.ofW (cc := cX12_asksBy) (maxL := 2) (ret := (some .int)) (by decide) rfl ?_
  intro p e s m args below meth c₀ s₁ B hml hv
  obtain ⟨rfl, hsz, hP, hK, hD0⟩ := hv
  have hx := B.exec
  have hb := B.bytes
  have hr := B.returns
  have hT : ∀ w ∈ TBL, w.before ([.ref (ad 0), .int (x)] : List Value).toArray s = true := fun w h => atoms_spec (ws := Cond.code yX12_asksBy cX12_asksBy 2 (some .int) :: TBL) B.pre w (List.mem_cons_of_mem _ h)
  have hown : s.vm.findClass "LittleMoreModel" = some m.cls := findClass_of_methodNamed B.named
  have hlocks := B.notSynchronized
  subst hsz
  have hD := hD0.self (sz := s.heap.size)
  generalize hAe : va_A (wR G ad S) s.heap.size = A at hD ⊢
  have hA : ∀ q : Nat, s.heap.size ≤ q → A q := fun q h => by rw [← hAe]; exact Or.inr h
  have hS : va_S A s.heap s.heap [] := va_S.rf
  have hP : va_P G.1 vwCl (wR G ad S) s.heap := hP
  have hl := lv_entry ([.ref (ad 0), .int (x)]) (n := 2) (Nat.le_of_ble_eq_true rfl)
  rw [lg_entry_eq]
  generalize (lg_sl ([.ref (ad 0), .int (x)]) ++ List.replicate (2 - (lg_sl ([.ref (ad 0), .int (x)])).length) Slot.unset).toArray = ls at hl ⊢
  have hl : lv_has ls 2 [(0, .ref (ad 0)), (1, .int (x))] := hl
  refine W_abs (fun Q hQ => ?_)
  generalize ([.ref (ad 0), .int (x)] : List Value).toArray = args at hT hQ ⊢
  refine lv_aload_n hx hb (fk_get fk_cX12_asksBy_0 0 rfl) rfl (lv_at hl 0 rfl) ?_
  refine va_get (D := G.1) (ci := 14) (v := .int ((fF S 0 41))) (C := RX12) (T := TX12) (N := 49) hx hb hT inX12 hown hK hP 0 (ix_at (by decide) (cR_0 G ad S)) rfl 41 (by decide) (hT _ m5_142) (fun _ h9 => h9) rfl (fk_get fk_cX12_asksBy_0 1 rfl) ?_
  by_cases c_1 : (fF S 0 41) = (2 : Int32)
  · refine lv_tableIn (off := 36) (tgt := 40) hx hb (dk_get dk_cX12_asksBy_0 0 rfl) (by rw [c_1]; decide) (by rw [c_1]; decide) (by rw [c_1]; rfl) (by decide) ?_
    refine lv_aload_n hx hb (fk_get fk_cX12_asksBy_0 2 rfl) rfl (lv_at hl 0 rfl) ?_
    refine lv_iload_n hx hb (fk_get fk_cX12_asksBy_0 3 rfl) rfl (lv_at hl 1 rfl) ?_
    have hFc := va_self hD hS hA
    refine va_calli (va_runV (As := [.int (x)]) (rest := []) ⟨hx, hb, hml, hown, hT⟩ (c_asksGentle l G ad S s.heap.size (t) (κ) (v) (i) (x) (by first | assumption | exact ntS_40 _ _ _ | exact ntl_40 _ _ _ (by first | assumption | exact ntS_40 _ _ _ | exact ntl_40 _ _ _ (by first | assumption | exact ntS_40 _ _ _))) (by have := aB_len κ; have := bP_len κ; have := bB_len κ; have := tP_len κ; omega) (by first | assumption | (simp only [ntl_41, ntS_41]; assumption) | (simp only [ntl_42, ntS_42]; assumption) | (simp only [ntl_43, ntS_43]; assumption)) (by first | assumption | (simp only [ntl_41, ntS_41]; assumption) | (simp only [ntl_42, ntS_42]; assumption) | (simp only [ntl_43, ntS_43]; assumption)) (by first | assumption | (simp only [ntl_41, ntS_41]; assumption) | (simp only [ntl_42, ntS_42]; assumption) | (simp only [ntl_43, ntS_43]; assumption))) (tV 1 hT m7_80 m7_82 mp_56 m1_17 m7_83 rfl rfl (by decide +kernel) ⟨Nat.le_of_ble_eq_true rfl, Nat.le_of_ble_eq_true rfl⟩) ⟨PcW_blind, va_recv hK hP (ci := 14) (q0 := 0) rfl (ix_at (by decide) (cR_0 G ad S)), PcW_of hP hK hD _⟩ rfl rfl hl.1 rfl (lv_room (Nat.le_of_ble_eq_true rfl)) (fk_get fk_cX12_asksBy_0 4 rfl) ⟨Nat.zero_le _, Nat.zero_le _⟩) hS (fun q _ h => hFc q h) hFc (fun r_2 S_4 t_ H locs ht_ hvm_ hw_3 hB_ hz_ hk_ hS => ?_)
    obtain ⟨hP, -, hD1_⟩ := hB_
    rw [ht_] at hP
    have hD : va_D A (wR G ad S_4) := hD1_.weaken (fun k q _ h => hFc q.1 h)
    try dsimp only at hw_3
    obtain ⟨hw_3, hS1_⟩ := hw_3
    subst hS1_
    try dsimp only at hw_3
    subst hw_3
    subst hQ
    have hpost : ((x * 3 + i) : Int32) = aV κ v i x ∧ (ntl (t) S ([30, 10])) = ntl t S (aB κ) := by
      first
      | (unfold aV aB
         (repeat (first | rw [if_pos (by first | assumption | (rw [← hκ]; assumption))] | rw [if_neg (by first | assumption | (rw [← hκ]; assumption))]))
         exact ⟨rfl, rfl⟩)
      | (obtain rfl : κ = 3 := by rw [← hκ]; assumption
         refine ⟨?_, ?_⟩ <;> simp [aV, aB])
    exact W.iret (v := (x * 3 + i)) hx hb hr (fun t_ ht_ hW_ => ⟨⟨(x * 3 + i), (ntl (t) S ([30, 10])), rfl, hpost, by rw [ht_]; exact hP, va_K.moved hW_.alike hK, hD⟩, hS.F ht_⟩) hS.2.2 (fk_get fk_cX12_asksBy_0 5 rfl)
  by_cases c_5 : (fF S 0 41) = (3 : Int32)
  · refine lv_tableIn (off := 54) (tgt := 58) hx hb (dk_get dk_cX12_asksBy_0 0 rfl) (by rw [c_5]; decide) (by rw [c_5]; decide) (by rw [c_5]; rfl) (by decide) ?_
    refine lv_aload_n hx hb (fk_get fk_cX12_asksBy_0 14 rfl) rfl (lv_at hl 0 rfl) ?_
    refine lv_iload_n hx hb (fk_get fk_cX12_asksBy_0 15 rfl) rfl (lv_at hl 1 rfl) ?_
    have hFc := va_self hD hS hA
    refine va_calli (va_runV (As := [.int (x)]) (rest := []) ⟨hx, hb, hml, hown, hT⟩ (c_asksPlain l G ad S s.heap.size (t) (κ) (v) (i) (x) (by first | assumption | exact ntS_40 _ _ _ | exact ntl_40 _ _ _ (by first | assumption | exact ntS_40 _ _ _ | exact ntl_40 _ _ _ (by first | assumption | exact ntS_40 _ _ _))) (by have := aB_len κ; have := bP_len κ; have := bB_len κ; have := tP_len κ; omega) (by first | assumption | (simp only [ntl_41, ntS_41]; assumption) | (simp only [ntl_42, ntS_42]; assumption) | (simp only [ntl_43, ntS_43]; assumption)) (by first | assumption | (simp only [ntl_41, ntS_41]; assumption) | (simp only [ntl_42, ntS_42]; assumption) | (simp only [ntl_43, ntS_43]; assumption)) (by first | assumption | (simp only [ntl_41, ntS_41]; assumption) | (simp only [ntl_42, ntS_42]; assumption) | (simp only [ntl_43, ntS_43]; assumption))) (tV 1 hT m7_88 m7_90 mp_58 m1_17 m7_91 rfl rfl (by decide +kernel) ⟨Nat.le_of_ble_eq_true rfl, Nat.le_of_ble_eq_true rfl⟩) ⟨PcW_blind, va_recv hK hP (ci := 14) (q0 := 0) rfl (ix_at (by decide) (cR_0 G ad S)), PcW_of hP hK hD _⟩ rfl rfl hl.1 rfl (lv_room (Nat.le_of_ble_eq_true rfl)) (fk_get fk_cX12_asksBy_0 16 rfl) ⟨Nat.zero_le _, Nat.zero_le _⟩) hS (fun q _ h => hFc q h) hFc (fun r_6 S_8 t_ H locs ht_ hvm_ hw_7 hB_ hz_ hk_ hS => ?_)
    obtain ⟨hP, -, hD1_⟩ := hB_
    rw [ht_] at hP
    have hD : va_D A (wR G ad S_8) := hD1_.weaken (fun k q _ h => hFc q.1 h)
    try dsimp only at hw_7
    obtain ⟨hw_7, hS1_⟩ := hw_7
    subst hS1_
    try dsimp only at hw_7
    subst hw_7
    subst hQ
    have hpost : ((x + i) : Int32) = aV κ v i x ∧ (ntl (t) S ([10])) = ntl t S (aB κ) := by
      first
      | (unfold aV aB
         (repeat (first | rw [if_pos (by first | assumption | (rw [← hκ]; assumption))] | rw [if_neg (by first | assumption | (rw [← hκ]; assumption))]))
         exact ⟨rfl, rfl⟩)
      | (obtain rfl : κ = 3 := by rw [← hκ]; assumption
         refine ⟨?_, ?_⟩ <;> simp [aV, aB])
    exact W.iret (v := (x + i)) hx hb hr (fun t_ ht_ hW_ => ⟨⟨(x + i), (ntl (t) S ([10])), rfl, hpost, by rw [ht_]; exact hP, va_K.moved hW_.alike hK, hD⟩, hS.F ht_⟩) hS.2.2 (fk_get fk_cX12_asksBy_0 17 rfl)
  by_cases c_9 : (fF S 0 41) = (4 : Int32)
  · refine lv_tableIn (off := 42) (tgt := 46) hx hb (dk_get dk_cX12_asksBy_0 0 rfl) (by rw [c_9]; decide) (by rw [c_9]; decide) (by rw [c_9]; rfl) (by decide) ?_
    refine lv_aload_n hx hb (fk_get fk_cX12_asksBy_0 6 rfl) rfl (lv_at hl 0 rfl) ?_
    refine lv_iload_n hx hb (fk_get fk_cX12_asksBy_0 7 rfl) rfl (lv_at hl 1 rfl) ?_
    have hFc := va_self hD hS hA
    refine va_calli (va_runV (As := [.int (x)]) (rest := []) ⟨hx, hb, hml, hown, hT⟩ (c_asksCounting l G ad S s.heap.size (t) (κ) (v) (i) (x) (by first | assumption | exact ntS_40 _ _ _ | exact ntl_40 _ _ _ (by first | assumption | exact ntS_40 _ _ _ | exact ntl_40 _ _ _ (by first | assumption | exact ntS_40 _ _ _))) (by have := aB_len κ; have := bP_len κ; have := bB_len κ; have := tP_len κ; omega) (by first | assumption | (simp only [ntl_41, ntS_41]; assumption) | (simp only [ntl_42, ntS_42]; assumption) | (simp only [ntl_43, ntS_43]; assumption)) (by first | assumption | (simp only [ntl_41, ntS_41]; assumption) | (simp only [ntl_42, ntS_42]; assumption) | (simp only [ntl_43, ntS_43]; assumption)) (by first | assumption | (simp only [ntl_41, ntS_41]; assumption) | (simp only [ntl_42, ntS_42]; assumption) | (simp only [ntl_43, ntS_43]; assumption))) (tV 1 hT m7_92 m7_94 mp_59 m1_17 m7_95 rfl rfl (by decide +kernel) ⟨Nat.le_of_ble_eq_true rfl, Nat.le_of_ble_eq_true rfl⟩) ⟨PcW_blind, va_recv hK hP (ci := 14) (q0 := 0) rfl (ix_at (by decide) (cR_0 G ad S)), PcW_of hP hK hD _⟩ rfl rfl hl.1 rfl (lv_room (Nat.le_of_ble_eq_true rfl)) (fk_get fk_cX12_asksBy_0 8 rfl) ⟨Nat.zero_le _, Nat.zero_le _⟩) hS (fun q _ h => hFc q h) hFc (fun r_10 S_12 t_ H locs ht_ hvm_ hw_11 hB_ hz_ hk_ hS => ?_)
    obtain ⟨hP, -, hD1_⟩ := hB_
    rw [ht_] at hP
    have hD : va_D A (wR G ad S_12) := hD1_.weaken (fun k q _ h => hFc q.1 h)
    try dsimp only at hw_11
    obtain ⟨hw_11, hS1_⟩ := hw_11
    subst hS1_
    try dsimp only at hw_11
    subst hw_11
    subst hQ
    have hpost : ((-(x + i)) : Int32) = aV κ v i x ∧ (ntl (t) S ([50, 10])) = ntl t S (aB κ) := by
      first
      | (unfold aV aB
         (repeat (first | rw [if_pos (by first | assumption | (rw [← hκ]; assumption))] | rw [if_neg (by first | assumption | (rw [← hκ]; assumption))]))
         exact ⟨rfl, rfl⟩)
      | (obtain rfl : κ = 3 := by rw [← hκ]; assumption
         refine ⟨?_, ?_⟩ <;> simp [aV, aB])
    exact W.iret (v := (-(x + i))) hx hb hr (fun t_ ht_ hW_ => ⟨⟨(-(x + i)), (ntl (t) S ([50, 10])), rfl, hpost, by rw [ht_]; exact hP, va_K.moved hW_.alike hK, hD⟩, hS.F ht_⟩) hS.2.2 (fk_get fk_cX12_asksBy_0 9 rfl)
  by_cases c_13 : (fF S 0 41) = (5 : Int32)
  · refine lv_tableIn (off := 36) (tgt := 40) hx hb (dk_get dk_cX12_asksBy_0 0 rfl) (by rw [c_13]; decide) (by rw [c_13]; decide) (by rw [c_13]; rfl) (by decide) ?_
    refine lv_aload_n hx hb (fk_get fk_cX12_asksBy_0 2 rfl) rfl (lv_at hl 0 rfl) ?_
    refine lv_iload_n hx hb (fk_get fk_cX12_asksBy_0 3 rfl) rfl (lv_at hl 1 rfl) ?_
    have hFc := va_self hD hS hA
    refine va_calli (va_runV (As := [.int (x)]) (rest := []) ⟨hx, hb, hml, hown, hT⟩ (c_asksGentle l G ad S s.heap.size (t) (κ) (v) (i) (x) (by first | assumption | exact ntS_40 _ _ _ | exact ntl_40 _ _ _ (by first | assumption | exact ntS_40 _ _ _ | exact ntl_40 _ _ _ (by first | assumption | exact ntS_40 _ _ _))) (by have := aB_len κ; have := bP_len κ; have := bB_len κ; have := tP_len κ; omega) (by first | assumption | (simp only [ntl_41, ntS_41]; assumption) | (simp only [ntl_42, ntS_42]; assumption) | (simp only [ntl_43, ntS_43]; assumption)) (by first | assumption | (simp only [ntl_41, ntS_41]; assumption) | (simp only [ntl_42, ntS_42]; assumption) | (simp only [ntl_43, ntS_43]; assumption)) (by first | assumption | (simp only [ntl_41, ntS_41]; assumption) | (simp only [ntl_42, ntS_42]; assumption) | (simp only [ntl_43, ntS_43]; assumption))) (tV 1 hT m7_80 m7_82 mp_56 m1_17 m7_83 rfl rfl (by decide +kernel) ⟨Nat.le_of_ble_eq_true rfl, Nat.le_of_ble_eq_true rfl⟩) ⟨PcW_blind, va_recv hK hP (ci := 14) (q0 := 0) rfl (ix_at (by decide) (cR_0 G ad S)), PcW_of hP hK hD _⟩ rfl rfl hl.1 rfl (lv_room (Nat.le_of_ble_eq_true rfl)) (fk_get fk_cX12_asksBy_0 4 rfl) ⟨Nat.zero_le _, Nat.zero_le _⟩) hS (fun q _ h => hFc q h) hFc (fun r_14 S_16 t_ H locs ht_ hvm_ hw_15 hB_ hz_ hk_ hS => ?_)
    obtain ⟨hP, -, hD1_⟩ := hB_
    rw [ht_] at hP
    have hD : va_D A (wR G ad S_16) := hD1_.weaken (fun k q _ h => hFc q.1 h)
    try dsimp only at hw_15
    obtain ⟨hw_15, hS1_⟩ := hw_15
    subst hS1_
    try dsimp only at hw_15
    subst hw_15
    subst hQ
    have hpost : ((x * 3 + i) : Int32) = aV κ v i x ∧ (ntl (t) S ([30, 10])) = ntl t S (aB κ) := by
      first
      | (unfold aV aB
         (repeat (first | rw [if_pos (by first | assumption | (rw [← hκ]; assumption))] | rw [if_neg (by first | assumption | (rw [← hκ]; assumption))]))
         exact ⟨rfl, rfl⟩)
      | (obtain rfl : κ = 3 := by rw [← hκ]; assumption
         refine ⟨?_, ?_⟩ <;> simp [aV, aB])
    exact W.iret (v := (x * 3 + i)) hx hb hr (fun t_ ht_ hW_ => ⟨⟨(x * 3 + i), (ntl (t) S ([30, 10])), rfl, hpost, by rw [ht_]; exact hP, va_K.moved hW_.alike hK, hD⟩, hS.F ht_⟩) hS.2.2 (fk_get fk_cX12_asksBy_0 5 rfl)
  by_cases c_17 : (fF S 0 41) = (6 : Int32)
  · refine lv_tableIn (off := 48) (tgt := 52) hx hb (dk_get dk_cX12_asksBy_0 0 rfl) (by rw [c_17]; decide) (by rw [c_17]; decide) (by rw [c_17]; rfl) (by decide) ?_
    refine lv_aload_n hx hb (fk_get fk_cX12_asksBy_0 10 rfl) rfl (lv_at hl 0 rfl) ?_
    refine lv_iload_n hx hb (fk_get fk_cX12_asksBy_0 11 rfl) rfl (lv_at hl 1 rfl) ?_
    have hFc := va_self hD hS hA
    refine va_calli (va_runV (As := [.int (x)]) (rest := []) ⟨hx, hb, hml, hown, hT⟩ (c_asksTold l G ad S s.heap.size (t) (κ) (v) (i) (x) (by first | assumption | exact ntS_40 _ _ _ | exact ntl_40 _ _ _ (by first | assumption | exact ntS_40 _ _ _ | exact ntl_40 _ _ _ (by first | assumption | exact ntS_40 _ _ _))) (by have := aB_len κ; have := bP_len κ; have := bB_len κ; have := tP_len κ; omega) (by first | assumption | (simp only [ntl_41, ntS_41]; assumption) | (simp only [ntl_42, ntS_42]; assumption) | (simp only [ntl_43, ntS_43]; assumption)) (by first | assumption | (simp only [ntl_41, ntS_41]; assumption) | (simp only [ntl_42, ntS_42]; assumption) | (simp only [ntl_43, ntS_43]; assumption)) (by first | assumption | (simp only [ntl_41, ntS_41]; assumption) | (simp only [ntl_42, ntS_42]; assumption) | (simp only [ntl_43, ntS_43]; assumption))) (tV 1 hT m7_96 m7_98 mp_60 m1_17 m7_99 rfl rfl (by decide +kernel) ⟨Nat.le_of_ble_eq_true rfl, Nat.le_of_ble_eq_true rfl⟩) ⟨PcW_blind, va_recv hK hP (ci := 14) (q0 := 0) rfl (ix_at (by decide) (cR_0 G ad S)), PcW_of hP hK hD _⟩ rfl rfl hl.1 rfl (lv_room (Nat.le_of_ble_eq_true rfl)) (fk_get fk_cX12_asksBy_0 12 rfl) ⟨Nat.zero_le _, Nat.zero_le _⟩) hS (fun q _ h => hFc q h) hFc (fun r_18 S_20 t_ H locs ht_ hvm_ hw_19 hB_ hz_ hk_ hS => ?_)
    obtain ⟨hP, -, hD1_⟩ := hB_
    rw [ht_] at hP
    have hD : va_D A (wR G ad S_20) := hD1_.weaken (fun k q _ h => hFc q.1 h)
    try dsimp only at hw_19
    obtain ⟨hw_19, hS1_⟩ := hw_19
    subst hS1_
    try dsimp only at hw_19
    subst hw_19
    subst hQ
    have hpost : (((x + i) ^^^ v) : Int32) = aV κ v i x ∧ (ntl (t) S ([71, 10])) = ntl t S (aB κ) := by
      first
      | (unfold aV aB
         (repeat (first | rw [if_pos (by first | assumption | (rw [← hκ]; assumption))] | rw [if_neg (by first | assumption | (rw [← hκ]; assumption))]))
         exact ⟨rfl, rfl⟩)
      | (obtain rfl : κ = 3 := by rw [← hκ]; assumption
         refine ⟨?_, ?_⟩ <;> simp [aV, aB])
    exact W.iret (v := ((x + i) ^^^ v)) hx hb hr (fun t_ ht_ hW_ => ⟨⟨((x + i) ^^^ v), (ntl (t) S ([71, 10])), rfl, hpost, by rw [ht_]; exact hP, va_K.moved hW_.alike hK, hD⟩, hS.F ht_⟩) hS.2.2 (fk_get fk_cX12_asksBy_0 13 rfl)
  have o_21 : ((fF S 0 41)).toInt < 2 ∨ 6 < ((fF S 0 41)).toInt := by
    have qc_1 : ¬ ((fF S 0 41)).toInt = 2 := lv_neT c_1 (by decide)
    have qc_5 : ¬ ((fF S 0 41)).toInt = 3 := lv_neT c_5 (by decide)
    have qc_9 : ¬ ((fF S 0 41)).toInt = 4 := lv_neT c_9 (by decide)
    have qc_13 : ¬ ((fF S 0 41)).toInt = 5 := lv_neT c_13 (by decide)
    have qc_17 : ¬ ((fF S 0 41)).toInt = 6 := lv_neT c_17 (by decide)
    omega
  refine lv_tableOut (tgt := 58) hx hb (dk_get dk_cX12_asksBy_0 0 rfl) o_21 (by decide) ?_
  refine lv_aload_n hx hb (fk_get fk_cX12_asksBy_0 14 rfl) rfl (lv_at hl 0 rfl) ?_
  refine lv_iload_n hx hb (fk_get fk_cX12_asksBy_0 15 rfl) rfl (lv_at hl 1 rfl) ?_
  have hFc := va_self hD hS hA
  refine va_calli (va_runV (As := [.int (x)]) (rest := []) ⟨hx, hb, hml, hown, hT⟩ (c_asksPlain l G ad S s.heap.size (t) (κ) (v) (i) (x) (by first | assumption | exact ntS_40 _ _ _ | exact ntl_40 _ _ _ (by first | assumption | exact ntS_40 _ _ _ | exact ntl_40 _ _ _ (by first | assumption | exact ntS_40 _ _ _))) (by have := aB_len κ; have := bP_len κ; have := bB_len κ; have := tP_len κ; omega) (by first | assumption | (simp only [ntl_41, ntS_41]; assumption) | (simp only [ntl_42, ntS_42]; assumption) | (simp only [ntl_43, ntS_43]; assumption)) (by first | assumption | (simp only [ntl_41, ntS_41]; assumption) | (simp only [ntl_42, ntS_42]; assumption) | (simp only [ntl_43, ntS_43]; assumption)) (by first | assumption | (simp only [ntl_41, ntS_41]; assumption) | (simp only [ntl_42, ntS_42]; assumption) | (simp only [ntl_43, ntS_43]; assumption))) (tV 1 hT m7_88 m7_90 mp_58 m1_17 m7_91 rfl rfl (by decide +kernel) ⟨Nat.le_of_ble_eq_true rfl, Nat.le_of_ble_eq_true rfl⟩) ⟨PcW_blind, va_recv hK hP (ci := 14) (q0 := 0) rfl (ix_at (by decide) (cR_0 G ad S)), PcW_of hP hK hD _⟩ rfl rfl hl.1 rfl (lv_room (Nat.le_of_ble_eq_true rfl)) (fk_get fk_cX12_asksBy_0 16 rfl) ⟨Nat.zero_le _, Nat.zero_le _⟩) hS (fun q _ h => hFc q h) hFc (fun r_22 S_24 t_ H locs ht_ hvm_ hw_23 hB_ hz_ hk_ hS => ?_)
  obtain ⟨hP, -, hD1_⟩ := hB_
  rw [ht_] at hP
  have hD : va_D A (wR G ad S_24) := hD1_.weaken (fun k q _ h => hFc q.1 h)
  try dsimp only at hw_23
  obtain ⟨hw_23, hS1_⟩ := hw_23
  subst hS1_
  try dsimp only at hw_23
  subst hw_23
  subst hQ
  have hpost : ((x + i) : Int32) = aV κ v i x ∧ (ntl (t) S ([10])) = ntl t S (aB κ) := by
    first
    | (unfold aV aB
       (repeat (first | rw [if_pos (by first | assumption | (rw [← hκ]; assumption))] | rw [if_neg (by first | assumption | (rw [← hκ]; assumption))]))
       exact ⟨rfl, rfl⟩)
    | (obtain rfl : κ = 3 := by rw [← hκ]; assumption
       refine ⟨?_, ?_⟩ <;> simp [aV, aB])
  exact W.iret (v := (x + i)) hx hb hr (fun t_ ht_ hW_ => ⟨⟨(x + i), (ntl (t) S ([10])), rfl, hpost, by rw [ht_]; exact hP, va_K.moved hW_.alike hK, hD⟩, hS.F ht_⟩) hS.2.2 (fk_get fk_cX12_asksBy_0 17 rfl)
set_option maxHeartbeats 800000 in
set_option maxRecDepth 100000 in
theorem c_buysPlain (l : Launch) (G : GG) (ad : Nat → Nat) (S : FS) (sz : Nat) (t : Nat) (κ v i x : Int32) (ht : fF S 0 40 = nI t) (htb : t < 600) (hκ : fF S 0 41 = κ) (hv : fF S 0 42 = v) (hi : fF S 0 43 = i) : Met l yX12_buysPlain (Cond.code yX12_buysPlain cX12_buysPlain 2 (some .int) :: TBL) ({ frames := 6, cells := 0, slots := 0, locals := 164 } : Room) (PcW G (wR G ad S) sz [.ref (ad 0), .int (x)]) (va_Qi (fun (r : Int32) (S' : FS) => r = bPV κ v i x ∧ S' = ntl t S (bP κ)) (fun S' t => BW G (va_A (wR G ad S) sz) (wR G ad S') t) (va_A (wR G ad S) sz)) 0 0 (va_A (wR G ad S) sz) := by
  refine Met.ofW (cc := cX12_buysPlain) (maxL := 2) (ret := (some .int)) (by decide) rfl ?_
  intro p e s m args below meth c₀ s₁ B hml hv
  obtain ⟨rfl, hsz, hP, hK, hD0⟩ := hv
  have hx := B.exec
  have hb := B.bytes
  have hr := B.returns
  have hT : ∀ w ∈ TBL, w.before ([.ref (ad 0), .int (x)] : List Value).toArray s = true := fun w h => atoms_spec (ws := Cond.code yX12_buysPlain cX12_buysPlain 2 (some .int) :: TBL) B.pre w (List.mem_cons_of_mem _ h)
  have hown : s.vm.findClass "LittleMoreModel" = some m.cls := findClass_of_methodNamed B.named
  have hlocks := B.notSynchronized
  subst hsz
  have hD := hD0.self (sz := s.heap.size)
  generalize hAe : va_A (wR G ad S) s.heap.size = A at hD ⊢
  have hA : ∀ q : Nat, s.heap.size ≤ q → A q := fun q h => by rw [← hAe]; exact Or.inr h
  have hS : va_S A s.heap s.heap [] := va_S.rf
  have hP : va_P G.1 vwCl (wR G ad S) s.heap := hP
  have hl := lv_entry ([.ref (ad 0), .int (x)]) (n := 2) (Nat.le_of_ble_eq_true rfl)
  rw [lg_entry_eq]
  generalize (lg_sl ([.ref (ad 0), .int (x)]) ++ List.replicate (2 - (lg_sl ([.ref (ad 0), .int (x)])).length) Slot.unset).toArray = ls at hl ⊢
  have hl : lv_has ls 2 [(0, .ref (ad 0)), (1, .int (x))] := hl
  refine W_abs (fun Q hQ => ?_)
  generalize ([.ref (ad 0), .int (x)] : List Value).toArray = args at hT hQ ⊢
  refine lv_aload_n hx hb (fk_get fk_cX12_buysPlain_0 0 rfl) rfl (lv_at hl 0 rfl) ?_
  refine lv_bipush (v := 11) hx hb (fk_get fk_cX12_buysPlain_0 1 rfl) (by decide) ?_
  have hFc := va_self hD hS hA
  refine va_callv (va_runV (As := [.int (11)]) (rest := []) ⟨hx, hb, hml, hown, hT⟩ (c_note l G ad S s.heap.size (t) (11) (by first | assumption | exact ntS_40 _ _ _ | exact ntl_40 _ _ _ (by first | assumption | exact ntS_40 _ _ _ | exact ntl_40 _ _ _ (by first | assumption | exact ntS_40 _ _ _))) (by have := aB_len κ; have := bP_len κ; have := bB_len κ; have := tP_len κ; omega)) (tV 1 hT m7_84 m7_86 mp_57 m1_17 m7_87 rfl rfl (by decide +kernel) ⟨Nat.le_of_ble_eq_true rfl, Nat.le_of_ble_eq_true rfl⟩) ⟨PcW_blind, va_recv hK hP (ci := 14) (q0 := 0) rfl (ix_at (by decide) (cR_0 G ad S)), PcW_of hP hK hD _⟩ rfl rfl hl.1 rfl (lv_room (Nat.le_of_ble_eq_true rfl)) (fk_get fk_cX12_buysPlain_0 2 rfl) ⟨Nat.zero_le _, Nat.zero_le _⟩) hS (fun q _ h => hFc q h) hFc (fun S_3 t_ H locs ht_ hvm_ hw_2 hB_ hz_ hk_ hS => ?_)
  obtain ⟨hP, -, hD1_⟩ := hB_
  rw [ht_] at hP
  have hD : va_D A (wR G ad S_3) := hD1_.weaken (fun k q _ h => hFc q.1 h)
  try dsimp only at hw_2
  subst hw_2
  refine lv_aload_n hx hb (fk_get fk_cX12_buysPlain_0 3 rfl) rfl (lv_at hl 0 rfl) ?_
  refine lv_iload_n hx hb (fk_get fk_cX12_buysPlain_0 4 rfl) rfl (lv_at hl 1 rfl) ?_
  have hFc := va_self hD hS hA
  refine va_calli (va_runV (As := [.int (x)]) (rest := []) ⟨hx, hb, hml, hown, hT⟩ (c_asksBy l G ad (ntS (t) S (11)) H.size (t + 1) (κ) (v) (i) (x) (by first | assumption | exact ntS_40 _ _ _ | exact ntl_40 _ _ _ (by first | assumption | exact ntS_40 _ _ _ | exact ntl_40 _ _ _ (by first | assumption | exact ntS_40 _ _ _))) (by have := aB_len κ; have := bP_len κ; have := bB_len κ; have := tP_len κ; omega) (by first | assumption | (simp only [ntl_41, ntS_41]; assumption) | (simp only [ntl_42, ntS_42]; assumption) | (simp only [ntl_43, ntS_43]; assumption)) (by first | assumption | (simp only [ntl_41, ntS_41]; assumption) | (simp only [ntl_42, ntS_42]; assumption) | (simp only [ntl_43, ntS_43]; assumption)) (by first | assumption | (simp only [ntl_41, ntS_41]; assumption) | (simp only [ntl_42, ntS_42]; assumption) | (simp only [ntl_43, ntS_43]; assumption))) (tV 1 hT m7_76 m7_78 mp_55 m1_17 m7_79 rfl rfl (by decide +kernel) ⟨Nat.le_of_ble_eq_true rfl, Nat.le_of_ble_eq_true rfl⟩) ⟨PcW_blind, va_recv hK hP (ci := 14) (q0 := 0) rfl (ix_at (by decide) (cR_0 G ad (ntS (t) S (11)))), PcW_of hP hK hD _⟩ rfl rfl hl.1 rfl (lv_room (Nat.le_of_ble_eq_true rfl)) (fk_get fk_cX12_buysPlain_0 5 rfl) ⟨Nat.zero_le _, Nat.zero_le _⟩) hS (fun q _ h => hFc q h) hFc (fun r_4 S_6 t_ H locs ht_ hvm_ hw_5 hB_ hz_ hk_ hS => ?_)
  obtain ⟨hP, -, hD1_⟩ := hB_
  rw [ht_] at hP
  have hD : va_D A (wR G ad S_6) := hD1_.weaken (fun k q _ h => hFc q.1 h)
  try dsimp only at hw_5
  obtain ⟨hw_5, hS1_⟩ := hw_5
  subst hS1_
  try dsimp only at hw_5
  subst hw_5
  refine lv_aload_n hx hb (fk_get fk_cX12_buysPlain_0 6 rfl) rfl (lv_at hl 0 rfl) ?_
  refine va_get (D := G.1) (ci := 14) (v := .int ((fF (ntl (t + 1) (ntS (t) S (11)) (aB κ)) 0 42))) (C := RX12) (T := TX12) (N := 49) hx hb hT inX12 hown hK hP 0 (ix_at (by decide) (cR_0 G ad (ntl (t + 1) (ntS (t) S (11)) (aB κ)))) rfl 42 (by decide) (hT _ m5_143) (fun _ h9 => h9) rfl (fk_get fk_cX12_buysPlain_0 7 rfl) ?_
  refine lv_isub hx hb (fk_get fk_cX12_buysPlain_0 8 rfl) ?_
  subst hQ
  have hpost : (((aV κ v i x) - (fF (ntl (t + 1) (ntS (t) S (11)) (aB κ)) 0 42)) : Int32) = bPV κ v i x ∧ (ntl (t + 1) (ntS (t) S (11)) (aB κ)) = ntl t S (bP κ) := by
    refine ⟨?_, rfl⟩
    simp only [bPV, ntl_42, ntl_43, ntS_42, ntS_43, hi, hv]
  exact W.iret (v := ((aV κ v i x) - (fF (ntl (t + 1) (ntS (t) S (11)) (aB κ)) 0 42))) hx hb hr (fun t_ ht_ hW_ => ⟨⟨((aV κ v i x) - (fF (ntl (t + 1) (ntS (t) S (11)) (aB κ)) 0 42)), (ntl (t + 1) (ntS (t) S (11)) (aB κ)), rfl, hpost, by rw [ht_]; exact hP, va_K.moved hW_.alike hK, hD⟩, hS.F ht_⟩) hS.2.2 (fk_get fk_cX12_buysPlain_0 9 rfl)
set_option maxHeartbeats 800000 in
set_option maxRecDepth 100000 in
theorem c_buysStrict (l : Launch) (G : GG) (ad : Nat → Nat) (S : FS) (sz : Nat) (t : Nat) (κ v i x : Int32) (ht : fF S 0 40 = nI t) (htb : t < 550) (hκ : fF S 0 41 = κ) (hv : fF S 0 42 = v) (hi : fF S 0 43 = i) : Met l yX12_buysStrict (Cond.code yX12_buysStrict cX12_buysStrict 2 (some .int) :: TBL) ({ frames := 7, cells := 0, slots := 0, locals := 189 } : Room) (PcW G (wR G ad S) sz [.ref (ad 0), .int (x)]) (va_Qi (fun (r : Int32) (S' : FS) => r = bPV κ v i x ^^^ 6 ∧ S' = ntl t S (20 :: bP κ)) (fun S' t => BW G (va_A (wR G ad S) sz) (wR G ad S') t) (va_A (wR G ad S) sz)) 0 0 (va_A (wR G ad S) sz) := by
  refine Met.ofW (cc := cX12_buysStrict) (maxL := 2) (ret := (some .int)) (by decide) rfl ?_
  intro p e s m args below meth c₀ s₁ B hml hv
  obtain ⟨rfl, hsz, hP, hK, hD0⟩ := hv
  have hx := B.exec
  have hb := B.bytes
  have hr := B.returns
  have hT : ∀ w ∈ TBL, w.before ([.ref (ad 0), .int (x)] : List Value).toArray s = true := fun w h => atoms_spec (ws := Cond.code yX12_buysStrict cX12_buysStrict 2 (some .int) :: TBL) B.pre w (List.mem_cons_of_mem _ h)
  have hown : s.vm.findClass "LittleMoreModel" = some m.cls := findClass_of_methodNamed B.named
  have hlocks := B.notSynchronized
  subst hsz
  have hD := hD0.self (sz := s.heap.size)
  generalize hAe : va_A (wR G ad S) s.heap.size = A at hD ⊢
  have hA : ∀ q : Nat, s.heap.size ≤ q → A q := fun q h => by rw [← hAe]; exact Or.inr h
  have hS : va_S A s.heap s.heap [] := va_S.rf
  have hP : va_P G.1 vwCl (wR G ad S) s.heap := hP
  have hl := lv_entry ([.ref (ad 0), .int (x)]) (n := 2) (Nat.le_of_ble_eq_true rfl)
  rw [lg_entry_eq]
  generalize (lg_sl ([.ref (ad 0), .int (x)]) ++ List.replicate (2 - (lg_sl ([.ref (ad 0), .int (x)])).length) Slot.unset).toArray = ls at hl ⊢
  have hl : lv_has ls 2 [(0, .ref (ad 0)), (1, .int (x))] := hl
  refine W_abs (fun Q hQ => ?_)
  generalize ([.ref (ad 0), .int (x)] : List Value).toArray = args at hT hQ ⊢
  refine lv_aload_n hx hb (fk_get fk_cX12_buysStrict_0 0 rfl) rfl (lv_at hl 0 rfl) ?_
  refine lv_bipush (v := 20) hx hb (fk_get fk_cX12_buysStrict_0 1 rfl) (by decide) ?_
  have hFc := va_self hD hS hA
  refine va_callv (va_runV (As := [.int (20)]) (rest := []) ⟨hx, hb, hml, hown, hT⟩ (c_note l G ad S s.heap.size (t) (20) (by first | assumption | exact ntS_40 _ _ _ | exact ntl_40 _ _ _ (by first | assumption | exact ntS_40 _ _ _ | exact ntl_40 _ _ _ (by first | assumption | exact ntS_40 _ _ _))) (by have := aB_len κ; have := bP_len κ; have := bB_len κ; have := tP_len κ; omega)) (tV 1 hT m7_84 m7_86 mp_57 m1_17 m7_87 rfl rfl (by decide +kernel) ⟨Nat.le_of_ble_eq_true rfl, Nat.le_of_ble_eq_true rfl⟩) ⟨PcW_blind, va_recv hK hP (ci := 14) (q0 := 0) rfl (ix_at (by decide) (cR_0 G ad S)), PcW_of hP hK hD _⟩ rfl rfl hl.1 rfl (lv_room (Nat.le_of_ble_eq_true rfl)) (fk_get fk_cX12_buysStrict_0 2 rfl) ⟨Nat.zero_le _, Nat.zero_le _⟩) hS (fun q _ h => hFc q h) hFc (fun S_3 t_ H locs ht_ hvm_ hw_2 hB_ hz_ hk_ hS => ?_)
  obtain ⟨hP, -, hD1_⟩ := hB_
  rw [ht_] at hP
  have hD : va_D A (wR G ad S_3) := hD1_.weaken (fun k q _ h => hFc q.1 h)
  try dsimp only at hw_2
  subst hw_2
  refine lv_aload_n hx hb (fk_get fk_cX12_buysStrict_0 3 rfl) rfl (lv_at hl 0 rfl) ?_
  refine lv_iload_n hx hb (fk_get fk_cX12_buysStrict_0 4 rfl) rfl (lv_at hl 1 rfl) ?_
  have hFc := va_self hD hS hA
  refine va_calli (va_runV (As := [.int (x)]) (rest := []) ⟨hx, hb, hml, hown, hT⟩ (c_buysPlain l G ad (ntS (t) S (20)) H.size (t + 1) (κ) (v) (i) (x) (by first | assumption | exact ntS_40 _ _ _ | exact ntl_40 _ _ _ (by first | assumption | exact ntS_40 _ _ _ | exact ntl_40 _ _ _ (by first | assumption | exact ntS_40 _ _ _))) (by have := aB_len κ; have := bP_len κ; have := bB_len κ; have := tP_len κ; omega) (by first | assumption | (simp only [ntl_41, ntS_41]; assumption) | (simp only [ntl_42, ntS_42]; assumption) | (simp only [ntl_43, ntS_43]; assumption)) (by first | assumption | (simp only [ntl_41, ntS_41]; assumption) | (simp only [ntl_42, ntS_42]; assumption) | (simp only [ntl_43, ntS_43]; assumption)) (by first | assumption | (simp only [ntl_41, ntS_41]; assumption) | (simp only [ntl_42, ntS_42]; assumption) | (simp only [ntl_43, ntS_43]; assumption))) (tV 1 hT m7_108 m7_110 mp_63 m1_17 m7_111 rfl rfl (by decide +kernel) ⟨Nat.le_of_ble_eq_true rfl, Nat.le_of_ble_eq_true rfl⟩) ⟨PcW_blind, va_recv hK hP (ci := 14) (q0 := 0) rfl (ix_at (by decide) (cR_0 G ad (ntS (t) S (20)))), PcW_of hP hK hD _⟩ rfl rfl hl.1 rfl (lv_room (Nat.le_of_ble_eq_true rfl)) (fk_get fk_cX12_buysStrict_0 5 rfl) ⟨Nat.zero_le _, Nat.zero_le _⟩) hS (fun q _ h => hFc q h) hFc (fun r_4 S_6 t_ H locs ht_ hvm_ hw_5 hB_ hz_ hk_ hS => ?_)
  obtain ⟨hP, -, hD1_⟩ := hB_
  rw [ht_] at hP
  have hD : va_D A (wR G ad S_6) := hD1_.weaken (fun k q _ h => hFc q.1 h)
  try dsimp only at hw_5
  obtain ⟨hw_5, hS1_⟩ := hw_5
  subst hS1_
  try dsimp only at hw_5
  subst hw_5
  refine lv_bipush (v := 6) hx hb (fk_get fk_cX12_buysStrict_0 6 rfl) (by decide) ?_
  refine lv_ixor hx hb (fk_get fk_cX12_buysStrict_0 7 rfl) ?_
  subst hQ
  have hpost : (((bPV κ v i x) ^^^ 6) : Int32) = bPV κ v i x ^^^ 6 ∧ (ntl (t + 1) (ntS (t) S (20)) (bP κ)) = ntl t S (20 :: bP κ) := by
    exact ⟨rfl, rfl⟩
  exact W.iret (v := ((bPV κ v i x) ^^^ 6)) hx hb hr (fun t_ ht_ hW_ => ⟨⟨((bPV κ v i x) ^^^ 6), (ntl (t + 1) (ntS (t) S (20)) (bP κ)), rfl, hpost, by rw [ht_]; exact hP, va_K.moved hW_.alike hK, hD⟩, hS.F ht_⟩) hS.2.2 (fk_get fk_cX12_buysStrict_0 8 rfl)
set_option maxHeartbeats 800000 in
set_option maxRecDepth 100000 in
theorem c_buysCounting (l : Launch) (G : GG) (ad : Nat → Nat) (S : FS) (sz : Nat) (t : Nat) (κ v i x : Int32) (ht : fF S 0 40 = nI t) (htb : t < 500) (hκ : fF S 0 41 = κ) (hv : fF S 0 42 = v) (hi : fF S 0 43 = i) : Met l yX12_buysCounting (Cond.code yX12_buysCounting cX12_buysCounting 2 (some .int) :: TBL) ({ frames := 8, cells := 0, slots := 0, locals := 214 } : Room) (PcW G (wR G ad S) sz [.ref (ad 0), .int (x)]) (va_Qi (fun (r : Int32) (S' : FS) => r = bPV κ v i (x + 1) ^^^ 6 ∧ S' = ntl t S (51 :: 20 :: bP κ)) (fun S' t => BW G (va_A (wR G ad S) sz) (wR G ad S') t) (va_A (wR G ad S) sz)) 0 0 (va_A (wR G ad S) sz) := by
  refine Met.ofW (cc := cX12_buysCounting) (maxL := 2) (ret := (some .int)) (by decide) rfl ?_
  intro p e s m args below meth c₀ s₁ B hml hv
  obtain ⟨rfl, hsz, hP, hK, hD0⟩ := hv
  have hx := B.exec
  have hb := B.bytes
  have hr := B.returns
  have hT : ∀ w ∈ TBL, w.before ([.ref (ad 0), .int (x)] : List Value).toArray s = true := fun w h => atoms_spec (ws := Cond.code yX12_buysCounting cX12_buysCounting 2 (some .int) :: TBL) B.pre w (List.mem_cons_of_mem _ h)
  have hown : s.vm.findClass "LittleMoreModel" = some m.cls := findClass_of_methodNamed B.named
  have hlocks := B.notSynchronized
  subst hsz
  have hD := hD0.self (sz := s.heap.size)
  generalize hAe : va_A (wR G ad S) s.heap.size = A at hD ⊢
  have hA : ∀ q : Nat, s.heap.size ≤ q → A q := fun q h => by rw [← hAe]; exact Or.inr h
  have hS : va_S A s.heap s.heap [] := va_S.rf
  have hP : va_P G.1 vwCl (wR G ad S) s.heap := hP
  have hl := lv_entry ([.ref (ad 0), .int (x)]) (n := 2) (Nat.le_of_ble_eq_true rfl)
  rw [lg_entry_eq]
  generalize (lg_sl ([.ref (ad 0), .int (x)]) ++ List.replicate (2 - (lg_sl ([.ref (ad 0), .int (x)])).length) Slot.unset).toArray = ls at hl ⊢
  have hl : lv_has ls 2 [(0, .ref (ad 0)), (1, .int (x))] := hl
  refine W_abs (fun Q hQ => ?_)
  generalize ([.ref (ad 0), .int (x)] : List Value).toArray = args at hT hQ ⊢
  refine lv_aload_n hx hb (fk_get fk_cX12_buysCounting_0 0 rfl) rfl (lv_at hl 0 rfl) ?_
  refine lv_bipush (v := 51) hx hb (fk_get fk_cX12_buysCounting_0 1 rfl) (by decide) ?_
  have hFc := va_self hD hS hA
  refine va_callv (va_runV (As := [.int (51)]) (rest := []) ⟨hx, hb, hml, hown, hT⟩ (c_note l G ad S s.heap.size (t) (51) (by first | assumption | exact ntS_40 _ _ _ | exact ntl_40 _ _ _ (by first | assumption | exact ntS_40 _ _ _ | exact ntl_40 _ _ _ (by first | assumption | exact ntS_40 _ _ _))) (by have := aB_len κ; have := bP_len κ; have := bB_len κ; have := tP_len κ; omega)) (tV 1 hT m7_84 m7_86 mp_57 m1_17 m7_87 rfl rfl (by decide +kernel) ⟨Nat.le_of_ble_eq_true rfl, Nat.le_of_ble_eq_true rfl⟩) ⟨PcW_blind, va_recv hK hP (ci := 14) (q0 := 0) rfl (ix_at (by decide) (cR_0 G ad S)), PcW_of hP hK hD _⟩ rfl rfl hl.1 rfl (lv_room (Nat.le_of_ble_eq_true rfl)) (fk_get fk_cX12_buysCounting_0 2 rfl) ⟨Nat.zero_le _, Nat.zero_le _⟩) hS (fun q _ h => hFc q h) hFc (fun S_3 t_ H locs ht_ hvm_ hw_2 hB_ hz_ hk_ hS => ?_)
  obtain ⟨hP, -, hD1_⟩ := hB_
  rw [ht_] at hP
  have hD : va_D A (wR G ad S_3) := hD1_.weaken (fun k q _ h => hFc q.1 h)
  try dsimp only at hw_2
  subst hw_2
  refine lv_aload_n hx hb (fk_get fk_cX12_buysCounting_0 3 rfl) rfl (lv_at hl 0 rfl) ?_
  refine lv_iload_n hx hb (fk_get fk_cX12_buysCounting_0 4 rfl) rfl (lv_at hl 1 rfl) ?_
  refine lv_iconst (v := 1) hx hb (fk_get fk_cX12_buysCounting_0 5 rfl) (by decide) ?_
  refine lv_iadd hx hb (fk_get fk_cX12_buysCounting_0 6 rfl) ?_
  have hFc := va_self hD hS hA
  refine va_calli (va_runV (As := [.int ((x + 1))]) (rest := []) ⟨hx, hb, hml, hown, hT⟩ (c_buysStrict l G ad (ntS (t) S (51)) H.size (t + 1) (κ) (v) (i) ((x + 1)) (by first | assumption | exact ntS_40 _ _ _ | exact ntl_40 _ _ _ (by first | assumption | exact ntS_40 _ _ _ | exact ntl_40 _ _ _ (by first | assumption | exact ntS_40 _ _ _))) (by have := aB_len κ; have := bP_len κ; have := bB_len κ; have := tP_len κ; omega) (by first | assumption | (simp only [ntl_41, ntS_41]; assumption) | (simp only [ntl_42, ntS_42]; assumption) | (simp only [ntl_43, ntS_43]; assumption)) (by first | assumption | (simp only [ntl_41, ntS_41]; assumption) | (simp only [ntl_42, ntS_42]; assumption) | (simp only [ntl_43, ntS_43]; assumption)) (by first | assumption | (simp only [ntl_41, ntS_41]; assumption) | (simp only [ntl_42, ntS_42]; assumption) | (simp only [ntl_43, ntS_43]; assumption))) (tV 1 hT m7_104 m7_106 mp_62 m1_17 m7_107 rfl rfl (by decide +kernel) ⟨Nat.le_of_ble_eq_true rfl, Nat.le_of_ble_eq_true rfl⟩) ⟨PcW_blind, va_recv hK hP (ci := 14) (q0 := 0) rfl (ix_at (by decide) (cR_0 G ad (ntS (t) S (51)))), PcW_of hP hK hD _⟩ rfl rfl hl.1 rfl (lv_room (Nat.le_of_ble_eq_true rfl)) (fk_get fk_cX12_buysCounting_0 7 rfl) ⟨Nat.zero_le _, Nat.zero_le _⟩) hS (fun q _ h => hFc q h) hFc (fun r_4 S_6 t_ H locs ht_ hvm_ hw_5 hB_ hz_ hk_ hS => ?_)
  obtain ⟨hP, -, hD1_⟩ := hB_
  rw [ht_] at hP
  have hD : va_D A (wR G ad S_6) := hD1_.weaken (fun k q _ h => hFc q.1 h)
  try dsimp only at hw_5
  obtain ⟨hw_5, hS1_⟩ := hw_5
  subst hS1_
  try dsimp only at hw_5
  subst hw_5
  subst hQ
  have hpost : ((bPV κ v i (x + 1) ^^^ 6) : Int32) = bPV κ v i (x + 1) ^^^ 6 ∧ (ntl (t + 1) (ntS (t) S (51)) (20 :: bP κ)) = ntl t S (51 :: 20 :: bP κ) := by
    exact ⟨rfl, rfl⟩
  exact W.iret (v := (bPV κ v i (x + 1) ^^^ 6)) hx hb hr (fun t_ ht_ hW_ => ⟨⟨(bPV κ v i (x + 1) ^^^ 6), (ntl (t + 1) (ntS (t) S (51)) (20 :: bP κ)), rfl, hpost, by rw [ht_]; exact hP, va_K.moved hW_.alike hK, hD⟩, hS.F ht_⟩) hS.2.2 (fk_get fk_cX12_buysCounting_0 8 rfl)
set_option maxHeartbeats 800000 in
set_option maxRecDepth 100000 in
theorem c_buysTold (l : Launch) (G : GG) (ad : Nat → Nat) (S : FS) (sz : Nat) (t : Nat) (κ v i x : Int32) (ht : fF S 0 40 = nI t) (htb : t < 500) (hκ : fF S 0 41 = κ) (hv : fF S 0 42 = v) (hi : fF S 0 43 = i) : Met l yX12_buysTold (Cond.code yX12_buysTold cX12_buysTold 3 (some .int) :: TBL) ({ frames := 7, cells := 0, slots := 0, locals := 189 } : Room) (PcW G (wR G ad S) sz [.ref (ad 0), .int (x)]) (va_Qi (fun (r : Int32) (S' : FS) => r = bPV κ v i x + (2 + i) ∧ S' = ntl t S (70 :: (bP κ ++ [10]))) (fun S' t => BW G (va_A (wR G ad S) sz) (wR G ad S') t) (va_A (wR G ad S) sz)) 0 0 (va_A (wR G ad S) sz) := by
  refine Met.ofW (cc := cX12_buysTold) (maxL := 3) (ret := (some .int)) (by decide) rfl ?_
  intro p e s m args below meth c₀ s₁ B hml hv
  obtain ⟨rfl, hsz, hP, hK, hD0⟩ := hv
  have hx := B.exec
  have hb := B.bytes
  have hr := B.returns
  have hT : ∀ w ∈ TBL, w.before ([.ref (ad 0), .int (x)] : List Value).toArray s = true := fun w h => atoms_spec (ws := Cond.code yX12_buysTold cX12_buysTold 3 (some .int) :: TBL) B.pre w (List.mem_cons_of_mem _ h)
  have hown : s.vm.findClass "LittleMoreModel" = some m.cls := findClass_of_methodNamed B.named
  have hlocks := B.notSynchronized
  subst hsz
  have hD := hD0.self (sz := s.heap.size)
  generalize hAe : va_A (wR G ad S) s.heap.size = A at hD ⊢
  have hA : ∀ q : Nat, s.heap.size ≤ q → A q := fun q h => by rw [← hAe]; exact Or.inr h
  have hS : va_S A s.heap s.heap [] := va_S.rf
  have hP : va_P G.1 vwCl (wR G ad S) s.heap := hP
  have hl := lv_entry ([.ref (ad 0), .int (x)]) (n := 3) (Nat.le_of_ble_eq_true rfl)
  rw [lg_entry_eq]
  generalize (lg_sl ([.ref (ad 0), .int (x)]) ++ List.replicate (3 - (lg_sl ([.ref (ad 0), .int (x)])).length) Slot.unset).toArray = ls at hl ⊢
  have hl : lv_has ls 3 [(0, .ref (ad 0)), (1, .int (x))] := hl
  refine W_abs (fun Q hQ => ?_)
  generalize ([.ref (ad 0), .int (x)] : List Value).toArray = args at hT hQ ⊢
  refine lv_aload_n hx hb (fk_get fk_cX12_buysTold_0 0 rfl) rfl (lv_at hl 0 rfl) ?_
  refine lv_bipush (v := 70) hx hb (fk_get fk_cX12_buysTold_0 1 rfl) (by decide) ?_
  have hFc := va_self hD hS hA
  refine va_callv (va_runV (As := [.int (70)]) (rest := []) ⟨hx, hb, hml, hown, hT⟩ (c_note l G ad S s.heap.size (t) (70) (by first | assumption | exact ntS_40 _ _ _ | exact ntl_40 _ _ _ (by first | assumption | exact ntS_40 _ _ _ | exact ntl_40 _ _ _ (by first | assumption | exact ntS_40 _ _ _))) (by have := aB_len κ; have := bP_len κ; have := bB_len κ; have := tP_len κ; omega)) (tV 1 hT m7_84 m7_86 mp_57 m1_17 m7_87 rfl rfl (by decide +kernel) ⟨Nat.le_of_ble_eq_true rfl, Nat.le_of_ble_eq_true rfl⟩) ⟨PcW_blind, va_recv hK hP (ci := 14) (q0 := 0) rfl (ix_at (by decide) (cR_0 G ad S)), PcW_of hP hK hD _⟩ rfl rfl hl.1 rfl (lv_room (Nat.le_of_ble_eq_true rfl)) (fk_get fk_cX12_buysTold_0 2 rfl) ⟨Nat.zero_le _, Nat.zero_le _⟩) hS (fun q _ h => hFc q h) hFc (fun S_3 t_ H locs ht_ hvm_ hw_2 hB_ hz_ hk_ hS => ?_)
  obtain ⟨hP, -, hD1_⟩ := hB_
  rw [ht_] at hP
  have hD : va_D A (wR G ad S_3) := hD1_.weaken (fun k q _ h => hFc q.1 h)
  try dsimp only at hw_2
  subst hw_2
  refine lv_aload_n hx hb (fk_get fk_cX12_buysTold_0 3 rfl) rfl (lv_at hl 0 rfl) ?_
  refine lv_iload_n hx hb (fk_get fk_cX12_buysTold_0 4 rfl) rfl (lv_at hl 1 rfl) ?_
  have hFc := va_self hD hS hA
  refine va_calli (va_runV (As := [.int (x)]) (rest := []) ⟨hx, hb, hml, hown, hT⟩ (c_buysPlain l G ad (ntS (t) S (70)) H.size (t + 1) (κ) (v) (i) (x) (by first | assumption | exact ntS_40 _ _ _ | exact ntl_40 _ _ _ (by first | assumption | exact ntS_40 _ _ _ | exact ntl_40 _ _ _ (by first | assumption | exact ntS_40 _ _ _))) (by have := aB_len κ; have := bP_len κ; have := bB_len κ; have := tP_len κ; omega) (by first | assumption | (simp only [ntl_41, ntS_41]; assumption) | (simp only [ntl_42, ntS_42]; assumption) | (simp only [ntl_43, ntS_43]; assumption)) (by first | assumption | (simp only [ntl_41, ntS_41]; assumption) | (simp only [ntl_42, ntS_42]; assumption) | (simp only [ntl_43, ntS_43]; assumption)) (by first | assumption | (simp only [ntl_41, ntS_41]; assumption) | (simp only [ntl_42, ntS_42]; assumption) | (simp only [ntl_43, ntS_43]; assumption))) (tV 1 hT m7_108 m7_110 mp_63 m1_17 m7_111 rfl rfl (by decide +kernel) ⟨Nat.le_of_ble_eq_true rfl, Nat.le_of_ble_eq_true rfl⟩) ⟨PcW_blind, va_recv hK hP (ci := 14) (q0 := 0) rfl (ix_at (by decide) (cR_0 G ad (ntS (t) S (70)))), PcW_of hP hK hD _⟩ rfl rfl hl.1 rfl (lv_room (Nat.le_of_ble_eq_true rfl)) (fk_get fk_cX12_buysTold_0 5 rfl) ⟨Nat.zero_le _, Nat.zero_le _⟩) hS (fun q _ h => hFc q h) hFc (fun r_4 S_6 t_ H locs ht_ hvm_ hw_5 hB_ hz_ hk_ hS => ?_)
  obtain ⟨hP, -, hD1_⟩ := hB_
  rw [ht_] at hP
  have hD : va_D A (wR G ad S_6) := hD1_.weaken (fun k q _ h => hFc q.1 h)
  try dsimp only at hw_5
  obtain ⟨hw_5, hS1_⟩ := hw_5
  subst hS1_
  try dsimp only at hw_5
  subst hw_5
  refine lv_istore_n (lv' := [(2, .int ((bPV κ v i x))), (0, .ref (ad 0)), (1, .int (x))]) hx hb (fk_get fk_cX12_buysTold_0 6 rfl) rfl hl (by decide) rfl (fun ls hl => ?_)
  refine lv_iload_n hx hb (fk_get fk_cX12_buysTold_0 7 rfl) rfl (lv_at hl 0 rfl) ?_
  refine lv_aload_n hx hb (fk_get fk_cX12_buysTold_0 8 rfl) rfl (lv_at hl 1 rfl) ?_
  refine lv_iconst (v := 2) hx hb (fk_get fk_cX12_buysTold_0 9 rfl) (by decide) ?_
  have hFc := va_self hD hS hA
  refine va_calli (va_runV (As := [.int (2)]) (rest := [.int ((bPV κ v i x))]) ⟨hx, hb, hml, hown, hT⟩ (c_asksPlain l G ad (ntl (t + 1) (ntS (t) S (70)) (bP κ)) H.size (t + 1 + (bP κ).length) (κ) (v) (i) (2) (by first | assumption | exact ntS_40 _ _ _ | exact ntl_40 _ _ _ (by first | assumption | exact ntS_40 _ _ _ | exact ntl_40 _ _ _ (by first | assumption | exact ntS_40 _ _ _))) (by have := aB_len κ; have := bP_len κ; have := bB_len κ; have := tP_len κ; omega) (by first | assumption | (simp only [ntl_41, ntS_41]; assumption) | (simp only [ntl_42, ntS_42]; assumption) | (simp only [ntl_43, ntS_43]; assumption)) (by first | assumption | (simp only [ntl_41, ntS_41]; assumption) | (simp only [ntl_42, ntS_42]; assumption) | (simp only [ntl_43, ntS_43]; assumption)) (by first | assumption | (simp only [ntl_41, ntS_41]; assumption) | (simp only [ntl_42, ntS_42]; assumption) | (simp only [ntl_43, ntS_43]; assumption))) (tV 1 hT m7_88 m7_90 mp_58 m1_17 m7_91 rfl rfl (by decide +kernel) ⟨Nat.le_of_ble_eq_true rfl, Nat.le_of_ble_eq_true rfl⟩) ⟨PcW_blind, va_recv hK hP (ci := 14) (q0 := 0) rfl (ix_at (by decide) (cR_0 G ad (ntl (t + 1) (ntS (t) S (70)) (bP κ)))), PcW_of hP hK hD _⟩ rfl rfl hl.1 rfl (lv_room (Nat.le_of_ble_eq_true rfl)) (fk_get fk_cX12_buysTold_0 10 rfl) ⟨Nat.zero_le _, Nat.zero_le _⟩) hS (fun q _ h => hFc q h) hFc (fun r_7 S_9 t_ H locs ht_ hvm_ hw_8 hB_ hz_ hk_ hS => ?_)
  obtain ⟨hP, -, hD1_⟩ := hB_
  rw [ht_] at hP
  have hD : va_D A (wR G ad S_9) := hD1_.weaken (fun k q _ h => hFc q.1 h)
  try dsimp only at hw_8
  obtain ⟨hw_8, hS1_⟩ := hw_8
  subst hS1_
  try dsimp only at hw_8
  subst hw_8
  refine lv_iadd hx hb (fk_get fk_cX12_buysTold_0 11 rfl) ?_
  subst hQ
  have hpost : (((bPV κ v i x) + (2 + i)) : Int32) = bPV κ v i x + (2 + i) ∧ (ntl (t + 1 + (bP κ).length) (ntl (t + 1) (ntS (t) S (70)) (bP κ)) ([10])) = ntl t S (70 :: (bP κ ++ [10])) := by
    refine ⟨rfl, ?_⟩
    show _ = ntl (t + 1) (ntS t S 70) (bP κ ++ [10])
    rw [ntl_append]
  exact W.iret (v := ((bPV κ v i x) + (2 + i))) hx hb hr (fun t_ ht_ hW_ => ⟨⟨((bPV κ v i x) + (2 + i)), (ntl (t + 1 + (bP κ).length) (ntl (t + 1) (ntS (t) S (70)) (bP κ)) ([10])), rfl, hpost, by rw [ht_]; exact hP, va_K.moved hW_.alike hK, hD⟩, hS.F ht_⟩) hS.2.2 (fk_get fk_cX12_buysTold_0 12 rfl)
set_option maxHeartbeats 800000 in
set_option maxRecDepth 100000 in
theorem c_buysBy (l : Launch) (G : GG) (ad : Nat → Nat) (S : FS) (sz : Nat) (t : Nat) (κ v i x : Int32) (ht : fF S 0 40 = nI t) (htb : t < 450) (hκ : fF S 0 41 = κ) (hv : fF S 0 42 = v) (hi : fF S 0 43 = i) : Met l yX12_buysBy (Cond.code yX12_buysBy cX12_buysBy 2 (some .int) :: TBL) ({ frames := 9, cells := 0, slots := 0, locals := 239 } : Room) (PcW G (wR G ad S) sz [.ref (ad 0), .int (x)]) (va_Qi (fun (r : Int32) (S' : FS) => r = bV κ v i x ∧ S' = ntl t S (bB κ)) (fun S' t => BW G (va_A (wR G ad S) sz) (wR G ad S') t) (va_A (wR G ad S) sz)) 0 0 (va_A (wR G ad S) sz) := by
  refine Met.ofW (cc := cX12_buysBy) (maxL := 2) (ret := (some .int)) (by decide) rfl ?_
  intro p e s m args below meth c₀ s₁ B hml hv
  obtain ⟨rfl, hsz, hP, hK, hD0⟩ := hv
  have hx := B.exec
  have hb := B.bytes
  have hr := B.returns
  have hT : ∀ w ∈ TBL, w.before ([.ref (ad 0), .int (x)] : List Value).toArray s = true := fun w h => atoms_spec (ws := Cond.code yX12_buysBy cX12_buysBy 2 (some .int) :: TBL) B.pre w (List.mem_cons_of_mem _ h)
  have hown : s.vm.findClass "LittleMoreModel" = some m.cls := findClass_of_methodNamed B.named
  have hlocks := B.notSynchronized
  subst hsz
  have hD := hD0.self (sz := s.heap.size)
  generalize hAe : va_A (wR G ad S) s.heap.size = A at hD ⊢
  have hA : ∀ q : Nat, s.heap.size ≤ q → A q := fun q h => by rw [← hAe]; exact Or.inr h
  have hS : va_S A s.heap s.heap [] := va_S.rf
  have hP : va_P G.1 vwCl (wR G ad S) s.heap := hP
  have hl := lv_entry ([.ref (ad 0), .int (x)]) (n := 2) (Nat.le_of_ble_eq_true rfl)
  rw [lg_entry_eq]
  generalize (lg_sl ([.ref (ad 0), .int (x)]) ++ List.replicate (2 - (lg_sl ([.ref (ad 0), .int (x)])).length) Slot.unset).toArray = ls at hl ⊢
  have hl : lv_has ls 2 [(0, .ref (ad 0)), (1, .int (x))] := hl
  refine W_abs (fun Q hQ => ?_)
  generalize ([.ref (ad 0), .int (x)] : List Value).toArray = args at hT hQ ⊢
  refine lv_aload_n hx hb (fk_get fk_cX12_buysBy_0 0 rfl) rfl (lv_at hl 0 rfl) ?_
  refine va_get (D := G.1) (ci := 14) (v := .int ((fF S 0 41))) (C := RX12) (T := TX12) (N := 49) hx hb hT inX12 hown hK hP 0 (ix_at (by decide) (cR_0 G ad S)) rfl 41 (by decide) (hT _ m5_142) (fun _ h9 => h9) rfl (fk_get fk_cX12_buysBy_0 1 rfl) ?_
  by_cases c_1 : (fF S 0 41) = (1 : Int32)
  · refine lv_lookup (off := 36) (tgt := 40) hx hb (dk_get dk_cX12_buysBy_0 0 rfl) (by decide) (by rw [c_1]; decide) (by decide) ?_
    refine lv_aload_n hx hb (fk_get fk_cX12_buysBy_0 2 rfl) rfl (lv_at hl 0 rfl) ?_
    refine lv_iload_n hx hb (fk_get fk_cX12_buysBy_0 3 rfl) rfl (lv_at hl 1 rfl) ?_
    have hFc := va_self hD hS hA
    refine va_calli (va_runV (As := [.int (x)]) (rest := []) ⟨hx, hb, hml, hown, hT⟩ (c_buysStrict l G ad S s.heap.size (t) (κ) (v) (i) (x) (by first | assumption | exact ntS_40 _ _ _ | exact ntl_40 _ _ _ (by first | assumption | exact ntS_40 _ _ _ | exact ntl_40 _ _ _ (by first | assumption | exact ntS_40 _ _ _))) (by have := aB_len κ; have := bP_len κ; have := bB_len κ; have := tP_len κ; omega) (by first | assumption | (simp only [ntl_41, ntS_41]; assumption) | (simp only [ntl_42, ntS_42]; assumption) | (simp only [ntl_43, ntS_43]; assumption)) (by first | assumption | (simp only [ntl_41, ntS_41]; assumption) | (simp only [ntl_42, ntS_42]; assumption) | (simp only [ntl_43, ntS_43]; assumption)) (by first | assumption | (simp only [ntl_41, ntS_41]; assumption) | (simp only [ntl_42, ntS_42]; assumption) | (simp only [ntl_43, ntS_43]; assumption))) (tV 1 hT m7_104 m7_106 mp_62 m1_17 m7_107 rfl rfl (by decide +kernel) ⟨Nat.le_of_ble_eq_true rfl, Nat.le_of_ble_eq_true rfl⟩) ⟨PcW_blind, va_recv hK hP (ci := 14) (q0 := 0) rfl (ix_at (by decide) (cR_0 G ad S)), PcW_of hP hK hD _⟩ rfl rfl hl.1 rfl (lv_room (Nat.le_of_ble_eq_true rfl)) (fk_get fk_cX12_buysBy_0 4 rfl) ⟨Nat.zero_le _, Nat.zero_le _⟩) hS (fun q _ h => hFc q h) hFc (fun r_2 S_4 t_ H locs ht_ hvm_ hw_3 hB_ hz_ hk_ hS => ?_)
    obtain ⟨hP, -, hD1_⟩ := hB_
    rw [ht_] at hP
    have hD : va_D A (wR G ad S_4) := hD1_.weaken (fun k q _ h => hFc q.1 h)
    try dsimp only at hw_3
    obtain ⟨hw_3, hS1_⟩ := hw_3
    subst hS1_
    try dsimp only at hw_3
    subst hw_3
    subst hQ
    have hpost : ((bPV κ v i x ^^^ 6) : Int32) = bV κ v i x ∧ (ntl (t) S (20 :: bP κ)) = ntl t S (bB κ) := by
      first
      | (unfold bV bB
         (repeat (first | rw [if_pos (by first | assumption | (rw [← hκ]; assumption))] | rw [if_neg (by first | assumption | (rw [← hκ]; assumption))]))
         exact ⟨rfl, rfl⟩)
      | (obtain rfl : κ = 3 := by rw [← hκ]; assumption
         refine ⟨?_, ?_⟩ <;> simp [bV, bB])
    exact W.iret (v := (bPV κ v i x ^^^ 6)) hx hb hr (fun t_ ht_ hW_ => ⟨⟨(bPV κ v i x ^^^ 6), (ntl (t) S (20 :: bP κ)), rfl, hpost, by rw [ht_]; exact hP, va_K.moved hW_.alike hK, hD⟩, hS.F ht_⟩) hS.2.2 (fk_get fk_cX12_buysBy_0 5 rfl)
  by_cases c_5 : (fF S 0 41) = (4 : Int32)
  · refine lv_lookup (off := 42) (tgt := 46) hx hb (dk_get dk_cX12_buysBy_0 0 rfl) (by decide) (by rw [c_5]; decide) (by decide) ?_
    refine lv_aload_n hx hb (fk_get fk_cX12_buysBy_0 6 rfl) rfl (lv_at hl 0 rfl) ?_
    refine lv_iload_n hx hb (fk_get fk_cX12_buysBy_0 7 rfl) rfl (lv_at hl 1 rfl) ?_
    have hFc := va_self hD hS hA
    refine va_calli (va_runV (As := [.int (x)]) (rest := []) ⟨hx, hb, hml, hown, hT⟩ (c_buysCounting l G ad S s.heap.size (t) (κ) (v) (i) (x) (by first | assumption | exact ntS_40 _ _ _ | exact ntl_40 _ _ _ (by first | assumption | exact ntS_40 _ _ _ | exact ntl_40 _ _ _ (by first | assumption | exact ntS_40 _ _ _))) (by have := aB_len κ; have := bP_len κ; have := bB_len κ; have := tP_len κ; omega) (by first | assumption | (simp only [ntl_41, ntS_41]; assumption) | (simp only [ntl_42, ntS_42]; assumption) | (simp only [ntl_43, ntS_43]; assumption)) (by first | assumption | (simp only [ntl_41, ntS_41]; assumption) | (simp only [ntl_42, ntS_42]; assumption) | (simp only [ntl_43, ntS_43]; assumption)) (by first | assumption | (simp only [ntl_41, ntS_41]; assumption) | (simp only [ntl_42, ntS_42]; assumption) | (simp only [ntl_43, ntS_43]; assumption))) (tV 1 hT m7_112 m7_114 mp_64 m1_17 m7_115 rfl rfl (by decide +kernel) ⟨Nat.le_of_ble_eq_true rfl, Nat.le_of_ble_eq_true rfl⟩) ⟨PcW_blind, va_recv hK hP (ci := 14) (q0 := 0) rfl (ix_at (by decide) (cR_0 G ad S)), PcW_of hP hK hD _⟩ rfl rfl hl.1 rfl (lv_room (Nat.le_of_ble_eq_true rfl)) (fk_get fk_cX12_buysBy_0 8 rfl) ⟨Nat.zero_le _, Nat.zero_le _⟩) hS (fun q _ h => hFc q h) hFc (fun r_6 S_8 t_ H locs ht_ hvm_ hw_7 hB_ hz_ hk_ hS => ?_)
    obtain ⟨hP, -, hD1_⟩ := hB_
    rw [ht_] at hP
    have hD : va_D A (wR G ad S_8) := hD1_.weaken (fun k q _ h => hFc q.1 h)
    try dsimp only at hw_7
    obtain ⟨hw_7, hS1_⟩ := hw_7
    subst hS1_
    try dsimp only at hw_7
    subst hw_7
    subst hQ
    have hpost : ((bPV κ v i (x + 1) ^^^ 6) : Int32) = bV κ v i x ∧ (ntl (t) S (51 :: 20 :: bP κ)) = ntl t S (bB κ) := by
      first
      | (unfold bV bB
         (repeat (first | rw [if_pos (by first | assumption | (rw [← hκ]; assumption))] | rw [if_neg (by first | assumption | (rw [← hκ]; assumption))]))
         exact ⟨rfl, rfl⟩)
      | (obtain rfl : κ = 3 := by rw [← hκ]; assumption
         refine ⟨?_, ?_⟩ <;> simp [bV, bB])
    exact W.iret (v := (bPV κ v i (x + 1) ^^^ 6)) hx hb hr (fun t_ ht_ hW_ => ⟨⟨(bPV κ v i (x + 1) ^^^ 6), (ntl (t) S (51 :: 20 :: bP κ)), rfl, hpost, by rw [ht_]; exact hP, va_K.moved hW_.alike hK, hD⟩, hS.F ht_⟩) hS.2.2 (fk_get fk_cX12_buysBy_0 9 rfl)
  by_cases c_9 : (fF S 0 41) = (6 : Int32)
  · refine lv_lookup (off := 48) (tgt := 52) hx hb (dk_get dk_cX12_buysBy_0 0 rfl) (by decide) (by rw [c_9]; decide) (by decide) ?_
    refine lv_aload_n hx hb (fk_get fk_cX12_buysBy_0 10 rfl) rfl (lv_at hl 0 rfl) ?_
    refine lv_iload_n hx hb (fk_get fk_cX12_buysBy_0 11 rfl) rfl (lv_at hl 1 rfl) ?_
    have hFc := va_self hD hS hA
    refine va_calli (va_runV (As := [.int (x)]) (rest := []) ⟨hx, hb, hml, hown, hT⟩ (c_buysTold l G ad S s.heap.size (t) (κ) (v) (i) (x) (by first | assumption | exact ntS_40 _ _ _ | exact ntl_40 _ _ _ (by first | assumption | exact ntS_40 _ _ _ | exact ntl_40 _ _ _ (by first | assumption | exact ntS_40 _ _ _))) (by have := aB_len κ; have := bP_len κ; have := bB_len κ; have := tP_len κ; omega) (by first | assumption | (simp only [ntl_41, ntS_41]; assumption) | (simp only [ntl_42, ntS_42]; assumption) | (simp only [ntl_43, ntS_43]; assumption)) (by first | assumption | (simp only [ntl_41, ntS_41]; assumption) | (simp only [ntl_42, ntS_42]; assumption) | (simp only [ntl_43, ntS_43]; assumption)) (by first | assumption | (simp only [ntl_41, ntS_41]; assumption) | (simp only [ntl_42, ntS_42]; assumption) | (simp only [ntl_43, ntS_43]; assumption))) (tV 1 hT m7_116 m7_118 mp_65 m1_17 m7_119 rfl rfl (by decide +kernel) ⟨Nat.le_of_ble_eq_true rfl, Nat.le_of_ble_eq_true rfl⟩) ⟨PcW_blind, va_recv hK hP (ci := 14) (q0 := 0) rfl (ix_at (by decide) (cR_0 G ad S)), PcW_of hP hK hD _⟩ rfl rfl hl.1 rfl (lv_room (Nat.le_of_ble_eq_true rfl)) (fk_get fk_cX12_buysBy_0 12 rfl) ⟨Nat.zero_le _, Nat.zero_le _⟩) hS (fun q _ h => hFc q h) hFc (fun r_10 S_12 t_ H locs ht_ hvm_ hw_11 hB_ hz_ hk_ hS => ?_)
    obtain ⟨hP, -, hD1_⟩ := hB_
    rw [ht_] at hP
    have hD : va_D A (wR G ad S_12) := hD1_.weaken (fun k q _ h => hFc q.1 h)
    try dsimp only at hw_11
    obtain ⟨hw_11, hS1_⟩ := hw_11
    subst hS1_
    try dsimp only at hw_11
    subst hw_11
    subst hQ
    have hpost : ((bPV κ v i x + (2 + i)) : Int32) = bV κ v i x ∧ (ntl (t) S (70 :: (bP κ ++ [10]))) = ntl t S (bB κ) := by
      first
      | (unfold bV bB
         (repeat (first | rw [if_pos (by first | assumption | (rw [← hκ]; assumption))] | rw [if_neg (by first | assumption | (rw [← hκ]; assumption))]))
         exact ⟨rfl, rfl⟩)
      | (obtain rfl : κ = 3 := by rw [← hκ]; assumption
         refine ⟨?_, ?_⟩ <;> simp [bV, bB])
    exact W.iret (v := (bPV κ v i x + (2 + i))) hx hb hr (fun t_ ht_ hW_ => ⟨⟨(bPV κ v i x + (2 + i)), (ntl (t) S (70 :: (bP κ ++ [10]))), rfl, hpost, by rw [ht_]; exact hP, va_K.moved hW_.alike hK, hD⟩, hS.F ht_⟩) hS.2.2 (fk_get fk_cX12_buysBy_0 13 rfl)
  refine lv_lookup (off := 54) (tgt := 58) hx hb (dk_get dk_cX12_buysBy_0 0 rfl) (by decide) (by rw [lv_osw c_1 (by decide), lv_osw c_5 (by decide), lv_osw c_9 (by decide)]; rfl) (by decide) ?_
  refine lv_aload_n hx hb (fk_get fk_cX12_buysBy_0 14 rfl) rfl (lv_at hl 0 rfl) ?_
  refine lv_iload_n hx hb (fk_get fk_cX12_buysBy_0 15 rfl) rfl (lv_at hl 1 rfl) ?_
  have hFc := va_self hD hS hA
  refine va_calli (va_runV (As := [.int (x)]) (rest := []) ⟨hx, hb, hml, hown, hT⟩ (c_buysPlain l G ad S s.heap.size (t) (κ) (v) (i) (x) (by first | assumption | exact ntS_40 _ _ _ | exact ntl_40 _ _ _ (by first | assumption | exact ntS_40 _ _ _ | exact ntl_40 _ _ _ (by first | assumption | exact ntS_40 _ _ _))) (by have := aB_len κ; have := bP_len κ; have := bB_len κ; have := tP_len κ; omega) (by first | assumption | (simp only [ntl_41, ntS_41]; assumption) | (simp only [ntl_42, ntS_42]; assumption) | (simp only [ntl_43, ntS_43]; assumption)) (by first | assumption | (simp only [ntl_41, ntS_41]; assumption) | (simp only [ntl_42, ntS_42]; assumption) | (simp only [ntl_43, ntS_43]; assumption)) (by first | assumption | (simp only [ntl_41, ntS_41]; assumption) | (simp only [ntl_42, ntS_42]; assumption) | (simp only [ntl_43, ntS_43]; assumption))) (tV 1 hT m7_108 m7_110 mp_63 m1_17 m7_111 rfl rfl (by decide +kernel) ⟨Nat.le_of_ble_eq_true rfl, Nat.le_of_ble_eq_true rfl⟩) ⟨PcW_blind, va_recv hK hP (ci := 14) (q0 := 0) rfl (ix_at (by decide) (cR_0 G ad S)), PcW_of hP hK hD _⟩ rfl rfl hl.1 rfl (lv_room (Nat.le_of_ble_eq_true rfl)) (fk_get fk_cX12_buysBy_0 16 rfl) ⟨Nat.zero_le _, Nat.zero_le _⟩) hS (fun q _ h => hFc q h) hFc (fun r_13 S_15 t_ H locs ht_ hvm_ hw_14 hB_ hz_ hk_ hS => ?_)
  obtain ⟨hP, -, hD1_⟩ := hB_
  rw [ht_] at hP
  have hD : va_D A (wR G ad S_15) := hD1_.weaken (fun k q _ h => hFc q.1 h)
  try dsimp only at hw_14
  obtain ⟨hw_14, hS1_⟩ := hw_14
  subst hS1_
  try dsimp only at hw_14
  subst hw_14
  subst hQ
  have hpost : ((bPV κ v i x) : Int32) = bV κ v i x ∧ (ntl (t) S (bP κ)) = ntl t S (bB κ) := by
    first
    | (unfold bV bB
       (repeat (first | rw [if_pos (by first | assumption | (rw [← hκ]; assumption))] | rw [if_neg (by first | assumption | (rw [← hκ]; assumption))]))
       exact ⟨rfl, rfl⟩)
    | (obtain rfl : κ = 3 := by rw [← hκ]; assumption
       refine ⟨?_, ?_⟩ <;> simp [bV, bB])
  exact W.iret (v := (bPV κ v i x)) hx hb hr (fun t_ ht_ hW_ => ⟨⟨(bPV κ v i x), (ntl (t) S (bP κ)), rfl, hpost, by rw [ht_]; exact hP, va_K.moved hW_.alike hK, hD⟩, hS.F ht_⟩) hS.2.2 (fk_get fk_cX12_buysBy_0 17 rfl)
set_option maxHeartbeats 800000 in
set_option maxRecDepth 100000 in
theorem c_tellsPlain (l : Launch) (G : GG) (ad : Nat → Nat) (S : FS) (sz : Nat) (t : Nat) (κ v i x : Int32) (ht : fF S 0 40 = nI t) (htb : t < 400) (hκ : fF S 0 41 = κ) (hv : fF S 0 42 = v) (hi : fF S 0 43 = i) : Met l yX12_tellsPlain (Cond.code yX12_tellsPlain cX12_tellsPlain 2 (some .int) :: TBL) ({ frames := 10, cells := 0, slots := 0, locals := 264 } : Room) (PcW G (wR G ad S) sz [.ref (ad 0), .int (x)]) (va_Qi (fun (r : Int32) (S' : FS) => r = bV κ v i x * 2 ∧ S' = ntl t S (tP κ)) (fun S' t => BW G (va_A (wR G ad S) sz) (wR G ad S') t) (va_A (wR G ad S) sz)) 0 0 (va_A (wR G ad S) sz) := by
  refine Met.ofW (cc := cX12_tellsPlain) (maxL := 2) (ret := (some .int)) (by decide) rfl ?_
  intro p e s m args below meth c₀ s₁ B hml hv
  obtain ⟨rfl, hsz, hP, hK, hD0⟩ := hv
  have hx := B.exec
  have hb := B.bytes
  have hr := B.returns
  have hT : ∀ w ∈ TBL, w.before ([.ref (ad 0), .int (x)] : List Value).toArray s = true := fun w h => atoms_spec (ws := Cond.code yX12_tellsPlain cX12_tellsPlain 2 (some .int) :: TBL) B.pre w (List.mem_cons_of_mem _ h)
  have hown : s.vm.findClass "LittleMoreModel" = some m.cls := findClass_of_methodNamed B.named
  have hlocks := B.notSynchronized
  subst hsz
  have hD := hD0.self (sz := s.heap.size)
  generalize hAe : va_A (wR G ad S) s.heap.size = A at hD ⊢
  have hA : ∀ q : Nat, s.heap.size ≤ q → A q := fun q h => by rw [← hAe]; exact Or.inr h
  have hS : va_S A s.heap s.heap [] := va_S.rf
  have hP : va_P G.1 vwCl (wR G ad S) s.heap := hP
  have hl := lv_entry ([.ref (ad 0), .int (x)]) (n := 2) (Nat.le_of_ble_eq_true rfl)
  rw [lg_entry_eq]
  generalize (lg_sl ([.ref (ad 0), .int (x)]) ++ List.replicate (2 - (lg_sl ([.ref (ad 0), .int (x)])).length) Slot.unset).toArray = ls at hl ⊢
  have hl : lv_has ls 2 [(0, .ref (ad 0)), (1, .int (x))] := hl
  refine W_abs (fun Q hQ => ?_)
  generalize ([.ref (ad 0), .int (x)] : List Value).toArray = args at hT hQ ⊢
  refine lv_aload_n hx hb (fk_get fk_cX12_tellsPlain_0 0 rfl) rfl (lv_at hl 0 rfl) ?_
  refine lv_bipush (v := 12) hx hb (fk_get fk_cX12_tellsPlain_0 1 rfl) (by decide) ?_
  have hFc := va_self hD hS hA
  refine va_callv (va_runV (As := [.int (12)]) (rest := []) ⟨hx, hb, hml, hown, hT⟩ (c_note l G ad S s.heap.size (t) (12) (by first | assumption | exact ntS_40 _ _ _ | exact ntl_40 _ _ _ (by first | assumption | exact ntS_40 _ _ _ | exact ntl_40 _ _ _ (by first | assumption | exact ntS_40 _ _ _))) (by have := aB_len κ; have := bP_len κ; have := bB_len κ; have := tP_len κ; omega)) (tV 1 hT m7_84 m7_86 mp_57 m1_17 m7_87 rfl rfl (by decide +kernel) ⟨Nat.le_of_ble_eq_true rfl, Nat.le_of_ble_eq_true rfl⟩) ⟨PcW_blind, va_recv hK hP (ci := 14) (q0 := 0) rfl (ix_at (by decide) (cR_0 G ad S)), PcW_of hP hK hD _⟩ rfl rfl hl.1 rfl (lv_room (Nat.le_of_ble_eq_true rfl)) (fk_get fk_cX12_tellsPlain_0 2 rfl) ⟨Nat.zero_le _, Nat.zero_le _⟩) hS (fun q _ h => hFc q h) hFc (fun S_3 t_ H locs ht_ hvm_ hw_2 hB_ hz_ hk_ hS => ?_)
  obtain ⟨hP, -, hD1_⟩ := hB_
  rw [ht_] at hP
  have hD : va_D A (wR G ad S_3) := hD1_.weaken (fun k q _ h => hFc q.1 h)
  try dsimp only at hw_2
  subst hw_2
  refine lv_aload_n hx hb (fk_get fk_cX12_tellsPlain_0 3 rfl) rfl (lv_at hl 0 rfl) ?_
  refine lv_iload_n hx hb (fk_get fk_cX12_tellsPlain_0 4 rfl) rfl (lv_at hl 1 rfl) ?_
  have hFc := va_self hD hS hA
  refine va_calli (va_runV (As := [.int (x)]) (rest := []) ⟨hx, hb, hml, hown, hT⟩ (c_buysBy l G ad (ntS (t) S (12)) H.size (t + 1) (κ) (v) (i) (x) (by first | assumption | exact ntS_40 _ _ _ | exact ntl_40 _ _ _ (by first | assumption | exact ntS_40 _ _ _ | exact ntl_40 _ _ _ (by first | assumption | exact ntS_40 _ _ _))) (by have := aB_len κ; have := bP_len κ; have := bB_len κ; have := tP_len κ; omega) (by first | assumption | (simp only [ntl_41, ntS_41]; assumption) | (simp only [ntl_42, ntS_42]; assumption) | (simp only [ntl_43, ntS_43]; assumption)) (by first | assumption | (simp only [ntl_41, ntS_41]; assumption) | (simp only [ntl_42, ntS_42]; assumption) | (simp only [ntl_43, ntS_43]; assumption)) (by first | assumption | (simp only [ntl_41, ntS_41]; assumption) | (simp only [ntl_42, ntS_42]; assumption) | (simp only [ntl_43, ntS_43]; assumption))) (tV 1 hT m7_100 m7_102 mp_61 m1_17 m7_103 rfl rfl (by decide +kernel) ⟨Nat.le_of_ble_eq_true rfl, Nat.le_of_ble_eq_true rfl⟩) ⟨PcW_blind, va_recv hK hP (ci := 14) (q0 := 0) rfl (ix_at (by decide) (cR_0 G ad (ntS (t) S (12)))), PcW_of hP hK hD _⟩ rfl rfl hl.1 rfl (lv_room (Nat.le_of_ble_eq_true rfl)) (fk_get fk_cX12_tellsPlain_0 5 rfl) ⟨Nat.zero_le _, Nat.zero_le _⟩) hS (fun q _ h => hFc q h) hFc (fun r_4 S_6 t_ H locs ht_ hvm_ hw_5 hB_ hz_ hk_ hS => ?_)
  obtain ⟨hP, -, hD1_⟩ := hB_
  rw [ht_] at hP
  have hD : va_D A (wR G ad S_6) := hD1_.weaken (fun k q _ h => hFc q.1 h)
  try dsimp only at hw_5
  obtain ⟨hw_5, hS1_⟩ := hw_5
  subst hS1_
  try dsimp only at hw_5
  subst hw_5
  refine lv_iconst (v := 2) hx hb (fk_get fk_cX12_tellsPlain_0 6 rfl) (by decide) ?_
  refine lv_imul hx hb (fk_get fk_cX12_tellsPlain_0 7 rfl) ?_
  subst hQ
  have hpost : (((bV κ v i x) * 2) : Int32) = bV κ v i x * 2 ∧ (ntl (t + 1) (ntS (t) S (12)) (bB κ)) = ntl t S (tP κ) := by
    exact ⟨rfl, rfl⟩
  exact W.iret (v := ((bV κ v i x) * 2)) hx hb hr (fun t_ ht_ hW_ => ⟨⟨((bV κ v i x) * 2), (ntl (t + 1) (ntS (t) S (12)) (bB κ)), rfl, hpost, by rw [ht_]; exact hP, va_K.moved hW_.alike hK, hD⟩, hS.F ht_⟩) hS.2.2 (fk_get fk_cX12_tellsPlain_0 8 rfl)
set_option maxHeartbeats 800000 in
set_option maxRecDepth 100000 in
theorem c_tellsLeaving (l : Launch) (G : GG) (ad : Nat → Nat) (S : FS) (sz : Nat) (t : Nat) (κ v i x : Int32) (ht : fF S 0 40 = nI t) (htb : t < 350) (hκ : fF S 0 41 = κ) (hv : fF S 0 42 = v) (hi : fF S 0 43 = i) : Met l yX12_tellsLeaving (Cond.code yX12_tellsLeaving cX12_tellsLeaving 2 (some .int) :: TBL) ({ frames := 11, cells := 0, slots := 0, locals := 289 } : Room) (PcW G (wR G ad S) sz [.ref (ad 0), .int (x)]) (va_Qi (fun (r : Int32) (S' : FS) => r = bV κ v i (x - i) * 2 ∧ S' = ntl t S (60 :: tP κ)) (fun S' t => BW G (va_A (wR G ad S) sz) (wR G ad S') t) (va_A (wR G ad S) sz)) 0 0 (va_A (wR G ad S) sz) := by
  refine Met.ofW (cc := cX12_tellsLeaving) (maxL := 2) (ret := (some .int)) (by decide) rfl ?_
  intro p e s m args below meth c₀ s₁ B hml hv
  obtain ⟨rfl, hsz, hP, hK, hD0⟩ := hv
  have hx := B.exec
  have hb := B.bytes
  have hr := B.returns
  have hT : ∀ w ∈ TBL, w.before ([.ref (ad 0), .int (x)] : List Value).toArray s = true := fun w h => atoms_spec (ws := Cond.code yX12_tellsLeaving cX12_tellsLeaving 2 (some .int) :: TBL) B.pre w (List.mem_cons_of_mem _ h)
  have hown : s.vm.findClass "LittleMoreModel" = some m.cls := findClass_of_methodNamed B.named
  have hlocks := B.notSynchronized
  subst hsz
  have hD := hD0.self (sz := s.heap.size)
  generalize hAe : va_A (wR G ad S) s.heap.size = A at hD ⊢
  have hA : ∀ q : Nat, s.heap.size ≤ q → A q := fun q h => by rw [← hAe]; exact Or.inr h
  have hS : va_S A s.heap s.heap [] := va_S.rf
  have hP : va_P G.1 vwCl (wR G ad S) s.heap := hP
  have hl := lv_entry ([.ref (ad 0), .int (x)]) (n := 2) (Nat.le_of_ble_eq_true rfl)
  rw [lg_entry_eq]
  generalize (lg_sl ([.ref (ad 0), .int (x)]) ++ List.replicate (2 - (lg_sl ([.ref (ad 0), .int (x)])).length) Slot.unset).toArray = ls at hl ⊢
  have hl : lv_has ls 2 [(0, .ref (ad 0)), (1, .int (x))] := hl
  refine W_abs (fun Q hQ => ?_)
  generalize ([.ref (ad 0), .int (x)] : List Value).toArray = args at hT hQ ⊢
  refine lv_aload_n hx hb (fk_get fk_cX12_tellsLeaving_0 0 rfl) rfl (lv_at hl 0 rfl) ?_
  refine lv_bipush (v := 60) hx hb (fk_get fk_cX12_tellsLeaving_0 1 rfl) (by decide) ?_
  have hFc := va_self hD hS hA
  refine va_callv (va_runV (As := [.int (60)]) (rest := []) ⟨hx, hb, hml, hown, hT⟩ (c_note l G ad S s.heap.size (t) (60) (by first | assumption | exact ntS_40 _ _ _ | exact ntl_40 _ _ _ (by first | assumption | exact ntS_40 _ _ _ | exact ntl_40 _ _ _ (by first | assumption | exact ntS_40 _ _ _))) (by have := aB_len κ; have := bP_len κ; have := bB_len κ; have := tP_len κ; omega)) (tV 1 hT m7_84 m7_86 mp_57 m1_17 m7_87 rfl rfl (by decide +kernel) ⟨Nat.le_of_ble_eq_true rfl, Nat.le_of_ble_eq_true rfl⟩) ⟨PcW_blind, va_recv hK hP (ci := 14) (q0 := 0) rfl (ix_at (by decide) (cR_0 G ad S)), PcW_of hP hK hD _⟩ rfl rfl hl.1 rfl (lv_room (Nat.le_of_ble_eq_true rfl)) (fk_get fk_cX12_tellsLeaving_0 2 rfl) ⟨Nat.zero_le _, Nat.zero_le _⟩) hS (fun q _ h => hFc q h) hFc (fun S_3 t_ H locs ht_ hvm_ hw_2 hB_ hz_ hk_ hS => ?_)
  obtain ⟨hP, -, hD1_⟩ := hB_
  rw [ht_] at hP
  have hD : va_D A (wR G ad S_3) := hD1_.weaken (fun k q _ h => hFc q.1 h)
  try dsimp only at hw_2
  subst hw_2
  refine lv_aload_n hx hb (fk_get fk_cX12_tellsLeaving_0 3 rfl) rfl (lv_at hl 0 rfl) ?_
  refine lv_iload_n hx hb (fk_get fk_cX12_tellsLeaving_0 4 rfl) rfl (lv_at hl 1 rfl) ?_
  refine lv_aload_n hx hb (fk_get fk_cX12_tellsLeaving_0 5 rfl) rfl (lv_at hl 0 rfl) ?_
  refine va_get (D := G.1) (ci := 14) (v := .int ((fF (ntS (t) S (60)) 0 43))) (C := RX12) (T := TX12) (N := 49) hx hb hT inX12 hown hK hP 0 (ix_at (by decide) (cR_0 G ad (ntS (t) S (60)))) rfl 43 (by decide) (hT _ m5_144) (fun _ h9 => h9) rfl (fk_get fk_cX12_tellsLeaving_0 6 rfl) ?_
  rw [show (fF (ntS (t) S (60)) 0 43) = i from ((ntS_43 _ _ _).trans hi)]
  refine lv_isub hx hb (fk_get fk_cX12_tellsLeaving_0 7 rfl) ?_
  have hFc := va_self hD hS hA
  refine va_calli (va_runV (As := [.int ((x - i))]) (rest := []) ⟨hx, hb, hml, hown, hT⟩ (c_tellsPlain l G ad (ntS (t) S (60)) H.size (t + 1) (κ) (v) (i) ((x - i)) (by first | assumption | exact ntS_40 _ _ _ | exact ntl_40 _ _ _ (by first | assumption | exact ntS_40 _ _ _ | exact ntl_40 _ _ _ (by first | assumption | exact ntS_40 _ _ _))) (by have := aB_len κ; have := bP_len κ; have := bB_len κ; have := tP_len κ; omega) (by first | assumption | (simp only [ntl_41, ntS_41]; assumption) | (simp only [ntl_42, ntS_42]; assumption) | (simp only [ntl_43, ntS_43]; assumption)) (by first | assumption | (simp only [ntl_41, ntS_41]; assumption) | (simp only [ntl_42, ntS_42]; assumption) | (simp only [ntl_43, ntS_43]; assumption)) (by first | assumption | (simp only [ntl_41, ntS_41]; assumption) | (simp only [ntl_42, ntS_42]; assumption) | (simp only [ntl_43, ntS_43]; assumption))) (tV 1 hT m7_128 m7_130 mp_68 m1_17 m7_131 rfl rfl (by decide +kernel) ⟨Nat.le_of_ble_eq_true rfl, Nat.le_of_ble_eq_true rfl⟩) ⟨PcW_blind, va_recv hK hP (ci := 14) (q0 := 0) rfl (ix_at (by decide) (cR_0 G ad (ntS (t) S (60)))), PcW_of hP hK hD _⟩ rfl rfl hl.1 rfl (lv_room (Nat.le_of_ble_eq_true rfl)) (fk_get fk_cX12_tellsLeaving_0 8 rfl) ⟨Nat.zero_le _, Nat.zero_le _⟩) hS (fun q _ h => hFc q h) hFc (fun r_4 S_6 t_ H locs ht_ hvm_ hw_5 hB_ hz_ hk_ hS => ?_)
  obtain ⟨hP, -, hD1_⟩ := hB_
  rw [ht_] at hP
  have hD : va_D A (wR G ad S_6) := hD1_.weaken (fun k q _ h => hFc q.1 h)
  try dsimp only at hw_5
  obtain ⟨hw_5, hS1_⟩ := hw_5
  subst hS1_
  try dsimp only at hw_5
  subst hw_5
  subst hQ
  have hpost : ((bV κ v i (x - i) * 2) : Int32) = bV κ v i (x - i) * 2 ∧ (ntl (t + 1) (ntS (t) S (60)) (tP κ)) = ntl t S (60 :: tP κ) := by
    exact ⟨rfl, rfl⟩
  exact W.iret (v := (bV κ v i (x - i) * 2)) hx hb hr (fun t_ ht_ hW_ => ⟨⟨(bV κ v i (x - i) * 2), (ntl (t + 1) (ntS (t) S (60)) (tP κ)), rfl, hpost, by rw [ht_]; exact hP, va_K.moved hW_.alike hK, hD⟩, hS.F ht_⟩) hS.2.2 (fk_get fk_cX12_tellsLeaving_0 9 rfl)
set_option maxHeartbeats 800000 in
set_option maxRecDepth 100000 in
theorem c_tellsChild (l : Launch) (G : GG) (ad : Nat → Nat) (S : FS) (sz : Nat) (t : Nat) (κ v i x : Int32) (ht : fF S 0 40 = nI t) (htb : t < 350) (hκ : fF S 0 41 = κ) (hv : fF S 0 42 = v) (hi : fF S 0 43 = i) : Met l yX12_tellsChild (Cond.code yX12_tellsChild cX12_tellsChild 3 (some .int) :: TBL) ({ frames := 11, cells := 0, slots := 0, locals := 289 } : Room) (PcW G (wR G ad S) sz [.ref (ad 0), .int (x)]) (va_Qi (fun (r : Int32) (S' : FS) => r = bV κ v i x * 2 + bV κ v i 1 ∧ S' = ntl t S (40 :: (tP κ ++ bB κ))) (fun S' t => BW G (va_A (wR G ad S) sz) (wR G ad S') t) (va_A (wR G ad S) sz)) 0 0 (va_A (wR G ad S) sz) := by
  refine Met.ofW (cc := cX12_tellsChild) (maxL := 3) (ret := (some .int)) (by decide) rfl ?_
  intro p e s m args below meth c₀ s₁ B hml hv
  obtain ⟨rfl, hsz, hP, hK, hD0⟩ := hv
  have hx := B.exec
  have hb := B.bytes
  have hr := B.returns
  have hT : ∀ w ∈ TBL, w.before ([.ref (ad 0), .int (x)] : List Value).toArray s = true := fun w h => atoms_spec (ws := Cond.code yX12_tellsChild cX12_tellsChild 3 (some .int) :: TBL) B.pre w (List.mem_cons_of_mem _ h)
  have hown : s.vm.findClass "LittleMoreModel" = some m.cls := findClass_of_methodNamed B.named
  have hlocks := B.notSynchronized
  subst hsz
  have hD := hD0.self (sz := s.heap.size)
  generalize hAe : va_A (wR G ad S) s.heap.size = A at hD ⊢
  have hA : ∀ q : Nat, s.heap.size ≤ q → A q := fun q h => by rw [← hAe]; exact Or.inr h
  have hS : va_S A s.heap s.heap [] := va_S.rf
  have hP : va_P G.1 vwCl (wR G ad S) s.heap := hP
  have hl := lv_entry ([.ref (ad 0), .int (x)]) (n := 3) (Nat.le_of_ble_eq_true rfl)
  rw [lg_entry_eq]
  generalize (lg_sl ([.ref (ad 0), .int (x)]) ++ List.replicate (3 - (lg_sl ([.ref (ad 0), .int (x)])).length) Slot.unset).toArray = ls at hl ⊢
  have hl : lv_has ls 3 [(0, .ref (ad 0)), (1, .int (x))] := hl
  refine W_abs (fun Q hQ => ?_)
  generalize ([.ref (ad 0), .int (x)] : List Value).toArray = args at hT hQ ⊢
  refine lv_aload_n hx hb (fk_get fk_cX12_tellsChild_0 0 rfl) rfl (lv_at hl 0 rfl) ?_
  refine lv_bipush (v := 40) hx hb (fk_get fk_cX12_tellsChild_0 1 rfl) (by decide) ?_
  have hFc := va_self hD hS hA
  refine va_callv (va_runV (As := [.int (40)]) (rest := []) ⟨hx, hb, hml, hown, hT⟩ (c_note l G ad S s.heap.size (t) (40) (by first | assumption | exact ntS_40 _ _ _ | exact ntl_40 _ _ _ (by first | assumption | exact ntS_40 _ _ _ | exact ntl_40 _ _ _ (by first | assumption | exact ntS_40 _ _ _))) (by have := aB_len κ; have := bP_len κ; have := bB_len κ; have := tP_len κ; omega)) (tV 1 hT m7_84 m7_86 mp_57 m1_17 m7_87 rfl rfl (by decide +kernel) ⟨Nat.le_of_ble_eq_true rfl, Nat.le_of_ble_eq_true rfl⟩) ⟨PcW_blind, va_recv hK hP (ci := 14) (q0 := 0) rfl (ix_at (by decide) (cR_0 G ad S)), PcW_of hP hK hD _⟩ rfl rfl hl.1 rfl (lv_room (Nat.le_of_ble_eq_true rfl)) (fk_get fk_cX12_tellsChild_0 2 rfl) ⟨Nat.zero_le _, Nat.zero_le _⟩) hS (fun q _ h => hFc q h) hFc (fun S_3 t_ H locs ht_ hvm_ hw_2 hB_ hz_ hk_ hS => ?_)
  obtain ⟨hP, -, hD1_⟩ := hB_
  rw [ht_] at hP
  have hD : va_D A (wR G ad S_3) := hD1_.weaken (fun k q _ h => hFc q.1 h)
  try dsimp only at hw_2
  subst hw_2
  refine lv_aload_n hx hb (fk_get fk_cX12_tellsChild_0 3 rfl) rfl (lv_at hl 0 rfl) ?_
  refine lv_iload_n hx hb (fk_get fk_cX12_tellsChild_0 4 rfl) rfl (lv_at hl 1 rfl) ?_
  have hFc := va_self hD hS hA
  refine va_calli (va_runV (As := [.int (x)]) (rest := []) ⟨hx, hb, hml, hown, hT⟩ (c_tellsPlain l G ad (ntS (t) S (40)) H.size (t + 1) (κ) (v) (i) (x) (by first | assumption | exact ntS_40 _ _ _ | exact ntl_40 _ _ _ (by first | assumption | exact ntS_40 _ _ _ | exact ntl_40 _ _ _ (by first | assumption | exact ntS_40 _ _ _))) (by have := aB_len κ; have := bP_len κ; have := bB_len κ; have := tP_len κ; omega) (by first | assumption | (simp only [ntl_41, ntS_41]; assumption) | (simp only [ntl_42, ntS_42]; assumption) | (simp only [ntl_43, ntS_43]; assumption)) (by first | assumption | (simp only [ntl_41, ntS_41]; assumption) | (simp only [ntl_42, ntS_42]; assumption) | (simp only [ntl_43, ntS_43]; assumption)) (by first | assumption | (simp only [ntl_41, ntS_41]; assumption) | (simp only [ntl_42, ntS_42]; assumption) | (simp only [ntl_43, ntS_43]; assumption))) (tV 1 hT m7_128 m7_130 mp_68 m1_17 m7_131 rfl rfl (by decide +kernel) ⟨Nat.le_of_ble_eq_true rfl, Nat.le_of_ble_eq_true rfl⟩) ⟨PcW_blind, va_recv hK hP (ci := 14) (q0 := 0) rfl (ix_at (by decide) (cR_0 G ad (ntS (t) S (40)))), PcW_of hP hK hD _⟩ rfl rfl hl.1 rfl (lv_room (Nat.le_of_ble_eq_true rfl)) (fk_get fk_cX12_tellsChild_0 5 rfl) ⟨Nat.zero_le _, Nat.zero_le _⟩) hS (fun q _ h => hFc q h) hFc (fun r_4 S_6 t_ H locs ht_ hvm_ hw_5 hB_ hz_ hk_ hS => ?_)
  obtain ⟨hP, -, hD1_⟩ := hB_
  rw [ht_] at hP
  have hD : va_D A (wR G ad S_6) := hD1_.weaken (fun k q _ h => hFc q.1 h)
  try dsimp only at hw_5
  obtain ⟨hw_5, hS1_⟩ := hw_5
  subst hS1_
  try dsimp only at hw_5
  subst hw_5
  refine lv_istore_n (lv' := [(2, .int ((bV κ v i x * 2))), (0, .ref (ad 0)), (1, .int (x))]) hx hb (fk_get fk_cX12_tellsChild_0 6 rfl) rfl hl (by decide) rfl (fun ls hl => ?_)
  refine lv_iload_n hx hb (fk_get fk_cX12_tellsChild_0 7 rfl) rfl (lv_at hl 0 rfl) ?_
  refine lv_aload_n hx hb (fk_get fk_cX12_tellsChild_0 8 rfl) rfl (lv_at hl 1 rfl) ?_
  refine lv_iconst (v := 1) hx hb (fk_get fk_cX12_tellsChild_0 9 rfl) (by decide) ?_
  have hFc := va_self hD hS hA
  refine va_calli (va_runV (As := [.int (1)]) (rest := [.int ((bV κ v i x * 2))]) ⟨hx, hb, hml, hown, hT⟩ (c_buysBy l G ad (ntl (t + 1) (ntS (t) S (40)) (tP κ)) H.size (t + 1 + (tP κ).length) (κ) (v) (i) (1) (by first | assumption | exact ntS_40 _ _ _ | exact ntl_40 _ _ _ (by first | assumption | exact ntS_40 _ _ _ | exact ntl_40 _ _ _ (by first | assumption | exact ntS_40 _ _ _))) (by have := aB_len κ; have := bP_len κ; have := bB_len κ; have := tP_len κ; omega) (by first | assumption | (simp only [ntl_41, ntS_41]; assumption) | (simp only [ntl_42, ntS_42]; assumption) | (simp only [ntl_43, ntS_43]; assumption)) (by first | assumption | (simp only [ntl_41, ntS_41]; assumption) | (simp only [ntl_42, ntS_42]; assumption) | (simp only [ntl_43, ntS_43]; assumption)) (by first | assumption | (simp only [ntl_41, ntS_41]; assumption) | (simp only [ntl_42, ntS_42]; assumption) | (simp only [ntl_43, ntS_43]; assumption))) (tV 1 hT m7_100 m7_102 mp_61 m1_17 m7_103 rfl rfl (by decide +kernel) ⟨Nat.le_of_ble_eq_true rfl, Nat.le_of_ble_eq_true rfl⟩) ⟨PcW_blind, va_recv hK hP (ci := 14) (q0 := 0) rfl (ix_at (by decide) (cR_0 G ad (ntl (t + 1) (ntS (t) S (40)) (tP κ)))), PcW_of hP hK hD _⟩ rfl rfl hl.1 rfl (lv_room (Nat.le_of_ble_eq_true rfl)) (fk_get fk_cX12_tellsChild_0 10 rfl) ⟨Nat.zero_le _, Nat.zero_le _⟩) hS (fun q _ h => hFc q h) hFc (fun r_7 S_9 t_ H locs ht_ hvm_ hw_8 hB_ hz_ hk_ hS => ?_)
  obtain ⟨hP, -, hD1_⟩ := hB_
  rw [ht_] at hP
  have hD : va_D A (wR G ad S_9) := hD1_.weaken (fun k q _ h => hFc q.1 h)
  try dsimp only at hw_8
  obtain ⟨hw_8, hS1_⟩ := hw_8
  subst hS1_
  try dsimp only at hw_8
  subst hw_8
  refine lv_iadd hx hb (fk_get fk_cX12_tellsChild_0 11 rfl) ?_
  subst hQ
  have hpost : (((bV κ v i x * 2) + (bV κ v i 1)) : Int32) = bV κ v i x * 2 + bV κ v i 1 ∧ (ntl (t + 1 + (tP κ).length) (ntl (t + 1) (ntS (t) S (40)) (tP κ)) (bB κ)) = ntl t S (40 :: (tP κ ++ bB κ)) := by
    refine ⟨rfl, ?_⟩
    show _ = ntl (t + 1) (ntS t S 40) (tP κ ++ bB κ)
    rw [ntl_append]
  exact W.iret (v := ((bV κ v i x * 2) + (bV κ v i 1))) hx hb hr (fun t_ ht_ hW_ => ⟨⟨((bV κ v i x * 2) + (bV κ v i 1)), (ntl (t + 1 + (tP κ).length) (ntl (t + 1) (ntS (t) S (40)) (tP κ)) (bB κ)), rfl, hpost, by rw [ht_]; exact hP, va_K.moved hW_.alike hK, hD⟩, hS.F ht_⟩) hS.2.2 (fk_get fk_cX12_tellsChild_0 12 rfl)
set_option maxHeartbeats 800000 in
set_option maxRecDepth 100000 in
theorem c_tellsBy (l : Launch) (G : GG) (ad : Nat → Nat) (S : FS) (sz : Nat) (t : Nat) (κ v i x : Int32) (ht : fF S 0 40 = nI t) (htb : t < 300) (hκ : fF S 0 41 = κ) (hv : fF S 0 42 = v) (hi : fF S 0 43 = i) : Met l yX12_tellsBy (Cond.code yX12_tellsBy cX12_tellsBy 2 (some .int) :: TBL) ({ frames := 12, cells := 0, slots := 0, locals := 315 } : Room) (PcW G (wR G ad S) sz [.ref (ad 0), .int (x)]) (va_Qi (fun (r : Int32) (S' : FS) => r = tlV κ v i x ∧ S' = ntl t S (tlB κ)) (fun S' t => BW G (va_A (wR G ad S) sz) (wR G ad S') t) (va_A (wR G ad S) sz)) 0 0 (va_A (wR G ad S) sz) := by
  refine Met.ofW (cc := cX12_tellsBy) (maxL := 2) (ret := (some .int)) (by decide) rfl ?_
  intro p e s m args below meth c₀ s₁ B hml hv
  obtain ⟨rfl, hsz, hP, hK, hD0⟩ := hv
  have hx := B.exec
  have hb := B.bytes
  have hr := B.returns
  have hT : ∀ w ∈ TBL, w.before ([.ref (ad 0), .int (x)] : List Value).toArray s = true := fun w h => atoms_spec (ws := Cond.code yX12_tellsBy cX12_tellsBy 2 (some .int) :: TBL) B.pre w (List.mem_cons_of_mem _ h)
  have hown : s.vm.findClass "LittleMoreModel" = some m.cls := findClass_of_methodNamed B.named
  have hlocks := B.notSynchronized
  subst hsz
  have hD := hD0.self (sz := s.heap.size)
  generalize hAe : va_A (wR G ad S) s.heap.size = A at hD ⊢
  have hA : ∀ q : Nat, s.heap.size ≤ q → A q := fun q h => by rw [← hAe]; exact Or.inr h
  have hS : va_S A s.heap s.heap [] := va_S.rf
  have hP : va_P G.1 vwCl (wR G ad S) s.heap := hP
  have hl := lv_entry ([.ref (ad 0), .int (x)]) (n := 2) (Nat.le_of_ble_eq_true rfl)
  rw [lg_entry_eq]
  generalize (lg_sl ([.ref (ad 0), .int (x)]) ++ List.replicate (2 - (lg_sl ([.ref (ad 0), .int (x)])).length) Slot.unset).toArray = ls at hl ⊢
  have hl : lv_has ls 2 [(0, .ref (ad 0)), (1, .int (x))] := hl
  refine W_abs (fun Q hQ => ?_)
  generalize ([.ref (ad 0), .int (x)] : List Value).toArray = args at hT hQ ⊢
  refine lv_aload_n hx hb (fk_get fk_cX12_tellsBy_0 0 rfl) rfl (lv_at hl 0 rfl) ?_
  refine va_get (D := G.1) (ci := 14) (v := .int ((fF S 0 41))) (C := RX12) (T := TX12) (N := 49) hx hb hT inX12 hown hK hP 0 (ix_at (by decide) (cR_0 G ad S)) rfl 41 (by decide) (hT _ m5_142) (fun _ h9 => h9) rfl (fk_get fk_cX12_tellsBy_0 1 rfl) ?_
  by_cases c_1 : (fF S 0 41) = (3 : Int32)
  · refine lv_tableIn (off := 32) (tgt := 36) hx hb (dk_get dk_cX12_tellsBy_0 0 rfl) (by rw [c_1]; decide) (by rw [c_1]; decide) (by rw [c_1]; rfl) (by decide) ?_
    refine lv_aload_n hx hb (fk_get fk_cX12_tellsBy_0 2 rfl) rfl (lv_at hl 0 rfl) ?_
    refine lv_iload_n hx hb (fk_get fk_cX12_tellsBy_0 3 rfl) rfl (lv_at hl 1 rfl) ?_
    have hFc := va_self hD hS hA
    refine va_calli (va_runV (As := [.int (x)]) (rest := []) ⟨hx, hb, hml, hown, hT⟩ (c_tellsChild l G ad S s.heap.size (t) (κ) (v) (i) (x) (by first | assumption | exact ntS_40 _ _ _ | exact ntl_40 _ _ _ (by first | assumption | exact ntS_40 _ _ _ | exact ntl_40 _ _ _ (by first | assumption | exact ntS_40 _ _ _))) (by have := aB_len κ; have := bP_len κ; have := bB_len κ; have := tP_len κ; omega) (by first | assumption | (simp only [ntl_41, ntS_41]; assumption) | (simp only [ntl_42, ntS_42]; assumption) | (simp only [ntl_43, ntS_43]; assumption)) (by first | assumption | (simp only [ntl_41, ntS_41]; assumption) | (simp only [ntl_42, ntS_42]; assumption) | (simp only [ntl_43, ntS_43]; assumption)) (by first | assumption | (simp only [ntl_41, ntS_41]; assumption) | (simp only [ntl_42, ntS_42]; assumption) | (simp only [ntl_43, ntS_43]; assumption))) (tV 1 hT m7_124 m7_126 mp_67 m1_17 m7_127 rfl rfl (by decide +kernel) ⟨Nat.le_of_ble_eq_true rfl, Nat.le_of_ble_eq_true rfl⟩) ⟨PcW_blind, va_recv hK hP (ci := 14) (q0 := 0) rfl (ix_at (by decide) (cR_0 G ad S)), PcW_of hP hK hD _⟩ rfl rfl hl.1 rfl (lv_room (Nat.le_of_ble_eq_true rfl)) (fk_get fk_cX12_tellsBy_0 4 rfl) ⟨Nat.zero_le _, Nat.zero_le _⟩) hS (fun q _ h => hFc q h) hFc (fun r_2 S_4 t_ H locs ht_ hvm_ hw_3 hB_ hz_ hk_ hS => ?_)
    obtain ⟨hP, -, hD1_⟩ := hB_
    rw [ht_] at hP
    have hD : va_D A (wR G ad S_4) := hD1_.weaken (fun k q _ h => hFc q.1 h)
    try dsimp only at hw_3
    obtain ⟨hw_3, hS1_⟩ := hw_3
    subst hS1_
    try dsimp only at hw_3
    subst hw_3
    subst hQ
    have hpost : ((bV κ v i x * 2 + bV κ v i 1) : Int32) = tlV κ v i x ∧ (ntl (t) S (40 :: (tP κ ++ bB κ))) = ntl t S (tlB κ) := by
      first
      | (unfold tlV tlB
         (repeat (first | rw [if_pos (by first | assumption | (rw [← hκ]; assumption))] | rw [if_neg (by first | assumption | (rw [← hκ]; assumption))]))
         exact ⟨rfl, rfl⟩)
      | (obtain rfl : κ = 4 := by rw [← hκ]; assumption
         refine ⟨?_, ?_⟩ <;> simp [tlV, tlB])
    exact W.iret (v := (bV κ v i x * 2 + bV κ v i 1)) hx hb hr (fun t_ ht_ hW_ => ⟨⟨(bV κ v i x * 2 + bV κ v i 1), (ntl (t) S (40 :: (tP κ ++ bB κ))), rfl, hpost, by rw [ht_]; exact hP, va_K.moved hW_.alike hK, hD⟩, hS.F ht_⟩) hS.2.2 (fk_get fk_cX12_tellsBy_0 5 rfl)
  by_cases c_5 : (fF S 0 41) = (4 : Int32)
  · refine lv_tableIn (off := 44) (tgt := 48) hx hb (dk_get dk_cX12_tellsBy_0 0 rfl) (by rw [c_5]; decide) (by rw [c_5]; decide) (by rw [c_5]; rfl) (by decide) ?_
    refine lv_aload_n hx hb (fk_get fk_cX12_tellsBy_0 10 rfl) rfl (lv_at hl 0 rfl) ?_
    refine lv_iload_n hx hb (fk_get fk_cX12_tellsBy_0 11 rfl) rfl (lv_at hl 1 rfl) ?_
    have hFc := va_self hD hS hA
    refine va_calli (va_runV (As := [.int (x)]) (rest := []) ⟨hx, hb, hml, hown, hT⟩ (c_tellsPlain l G ad S s.heap.size (t) (κ) (v) (i) (x) (by first | assumption | exact ntS_40 _ _ _ | exact ntl_40 _ _ _ (by first | assumption | exact ntS_40 _ _ _ | exact ntl_40 _ _ _ (by first | assumption | exact ntS_40 _ _ _))) (by have := aB_len κ; have := bP_len κ; have := bB_len κ; have := tP_len κ; omega) (by first | assumption | (simp only [ntl_41, ntS_41]; assumption) | (simp only [ntl_42, ntS_42]; assumption) | (simp only [ntl_43, ntS_43]; assumption)) (by first | assumption | (simp only [ntl_41, ntS_41]; assumption) | (simp only [ntl_42, ntS_42]; assumption) | (simp only [ntl_43, ntS_43]; assumption)) (by first | assumption | (simp only [ntl_41, ntS_41]; assumption) | (simp only [ntl_42, ntS_42]; assumption) | (simp only [ntl_43, ntS_43]; assumption))) (tV 1 hT m7_128 m7_130 mp_68 m1_17 m7_131 rfl rfl (by decide +kernel) ⟨Nat.le_of_ble_eq_true rfl, Nat.le_of_ble_eq_true rfl⟩) ⟨PcW_blind, va_recv hK hP (ci := 14) (q0 := 0) rfl (ix_at (by decide) (cR_0 G ad S)), PcW_of hP hK hD _⟩ rfl rfl hl.1 rfl (lv_room (Nat.le_of_ble_eq_true rfl)) (fk_get fk_cX12_tellsBy_0 12 rfl) ⟨Nat.zero_le _, Nat.zero_le _⟩) hS (fun q _ h => hFc q h) hFc (fun r_6 S_8 t_ H locs ht_ hvm_ hw_7 hB_ hz_ hk_ hS => ?_)
    obtain ⟨hP, -, hD1_⟩ := hB_
    rw [ht_] at hP
    have hD : va_D A (wR G ad S_8) := hD1_.weaken (fun k q _ h => hFc q.1 h)
    try dsimp only at hw_7
    obtain ⟨hw_7, hS1_⟩ := hw_7
    subst hS1_
    try dsimp only at hw_7
    subst hw_7
    subst hQ
    have hpost : ((bV κ v i x * 2) : Int32) = tlV κ v i x ∧ (ntl (t) S (tP κ)) = ntl t S (tlB κ) := by
      first
      | (unfold tlV tlB
         (repeat (first | rw [if_pos (by first | assumption | (rw [← hκ]; assumption))] | rw [if_neg (by first | assumption | (rw [← hκ]; assumption))]))
         exact ⟨rfl, rfl⟩)
      | (obtain rfl : κ = 4 := by rw [← hκ]; assumption
         refine ⟨?_, ?_⟩ <;> simp [tlV, tlB])
    exact W.iret (v := (bV κ v i x * 2)) hx hb hr (fun t_ ht_ hW_ => ⟨⟨(bV κ v i x * 2), (ntl (t) S (tP κ)), rfl, hpost, by rw [ht_]; exact hP, va_K.moved hW_.alike hK, hD⟩, hS.F ht_⟩) hS.2.2 (fk_get fk_cX12_tellsBy_0 13 rfl)
  by_cases c_9 : (fF S 0 41) = (5 : Int32)
  · refine lv_tableIn (off := 38) (tgt := 42) hx hb (dk_get dk_cX12_tellsBy_0 0 rfl) (by rw [c_9]; decide) (by rw [c_9]; decide) (by rw [c_9]; rfl) (by decide) ?_
    refine lv_aload_n hx hb (fk_get fk_cX12_tellsBy_0 6 rfl) rfl (lv_at hl 0 rfl) ?_
    refine lv_iload_n hx hb (fk_get fk_cX12_tellsBy_0 7 rfl) rfl (lv_at hl 1 rfl) ?_
    have hFc := va_self hD hS hA
    refine va_calli (va_runV (As := [.int (x)]) (rest := []) ⟨hx, hb, hml, hown, hT⟩ (c_tellsLeaving l G ad S s.heap.size (t) (κ) (v) (i) (x) (by first | assumption | exact ntS_40 _ _ _ | exact ntl_40 _ _ _ (by first | assumption | exact ntS_40 _ _ _ | exact ntl_40 _ _ _ (by first | assumption | exact ntS_40 _ _ _))) (by have := aB_len κ; have := bP_len κ; have := bB_len κ; have := tP_len κ; omega) (by first | assumption | (simp only [ntl_41, ntS_41]; assumption) | (simp only [ntl_42, ntS_42]; assumption) | (simp only [ntl_43, ntS_43]; assumption)) (by first | assumption | (simp only [ntl_41, ntS_41]; assumption) | (simp only [ntl_42, ntS_42]; assumption) | (simp only [ntl_43, ntS_43]; assumption)) (by first | assumption | (simp only [ntl_41, ntS_41]; assumption) | (simp only [ntl_42, ntS_42]; assumption) | (simp only [ntl_43, ntS_43]; assumption))) (tV 1 hT m7_132 m7_134 mp_69 m1_17 m7_135 rfl rfl (by decide +kernel) ⟨Nat.le_of_ble_eq_true rfl, Nat.le_of_ble_eq_true rfl⟩) ⟨PcW_blind, va_recv hK hP (ci := 14) (q0 := 0) rfl (ix_at (by decide) (cR_0 G ad S)), PcW_of hP hK hD _⟩ rfl rfl hl.1 rfl (lv_room (Nat.le_of_ble_eq_true rfl)) (fk_get fk_cX12_tellsBy_0 8 rfl) ⟨Nat.zero_le _, Nat.zero_le _⟩) hS (fun q _ h => hFc q h) hFc (fun r_10 S_12 t_ H locs ht_ hvm_ hw_11 hB_ hz_ hk_ hS => ?_)
    obtain ⟨hP, -, hD1_⟩ := hB_
    rw [ht_] at hP
    have hD : va_D A (wR G ad S_12) := hD1_.weaken (fun k q _ h => hFc q.1 h)
    try dsimp only at hw_11
    obtain ⟨hw_11, hS1_⟩ := hw_11
    subst hS1_
    try dsimp only at hw_11
    subst hw_11
    subst hQ
    have hpost : ((bV κ v i (x - i) * 2) : Int32) = tlV κ v i x ∧ (ntl (t) S (60 :: tP κ)) = ntl t S (tlB κ) := by
      first
      | (unfold tlV tlB
         (repeat (first | rw [if_pos (by first | assumption | (rw [← hκ]; assumption))] | rw [if_neg (by first | assumption | (rw [← hκ]; assumption))]))
         exact ⟨rfl, rfl⟩)
      | (obtain rfl : κ = 4 := by rw [← hκ]; assumption
         refine ⟨?_, ?_⟩ <;> simp [tlV, tlB])
    exact W.iret (v := (bV κ v i (x - i) * 2)) hx hb hr (fun t_ ht_ hW_ => ⟨⟨(bV κ v i (x - i) * 2), (ntl (t) S (60 :: tP κ)), rfl, hpost, by rw [ht_]; exact hP, va_K.moved hW_.alike hK, hD⟩, hS.F ht_⟩) hS.2.2 (fk_get fk_cX12_tellsBy_0 9 rfl)
  by_cases c_13 : (fF S 0 41) = (6 : Int32)
  · refine lv_tableIn (off := 32) (tgt := 36) hx hb (dk_get dk_cX12_tellsBy_0 0 rfl) (by rw [c_13]; decide) (by rw [c_13]; decide) (by rw [c_13]; rfl) (by decide) ?_
    refine lv_aload_n hx hb (fk_get fk_cX12_tellsBy_0 2 rfl) rfl (lv_at hl 0 rfl) ?_
    refine lv_iload_n hx hb (fk_get fk_cX12_tellsBy_0 3 rfl) rfl (lv_at hl 1 rfl) ?_
    have hFc := va_self hD hS hA
    refine va_calli (va_runV (As := [.int (x)]) (rest := []) ⟨hx, hb, hml, hown, hT⟩ (c_tellsChild l G ad S s.heap.size (t) (κ) (v) (i) (x) (by first | assumption | exact ntS_40 _ _ _ | exact ntl_40 _ _ _ (by first | assumption | exact ntS_40 _ _ _ | exact ntl_40 _ _ _ (by first | assumption | exact ntS_40 _ _ _))) (by have := aB_len κ; have := bP_len κ; have := bB_len κ; have := tP_len κ; omega) (by first | assumption | (simp only [ntl_41, ntS_41]; assumption) | (simp only [ntl_42, ntS_42]; assumption) | (simp only [ntl_43, ntS_43]; assumption)) (by first | assumption | (simp only [ntl_41, ntS_41]; assumption) | (simp only [ntl_42, ntS_42]; assumption) | (simp only [ntl_43, ntS_43]; assumption)) (by first | assumption | (simp only [ntl_41, ntS_41]; assumption) | (simp only [ntl_42, ntS_42]; assumption) | (simp only [ntl_43, ntS_43]; assumption))) (tV 1 hT m7_124 m7_126 mp_67 m1_17 m7_127 rfl rfl (by decide +kernel) ⟨Nat.le_of_ble_eq_true rfl, Nat.le_of_ble_eq_true rfl⟩) ⟨PcW_blind, va_recv hK hP (ci := 14) (q0 := 0) rfl (ix_at (by decide) (cR_0 G ad S)), PcW_of hP hK hD _⟩ rfl rfl hl.1 rfl (lv_room (Nat.le_of_ble_eq_true rfl)) (fk_get fk_cX12_tellsBy_0 4 rfl) ⟨Nat.zero_le _, Nat.zero_le _⟩) hS (fun q _ h => hFc q h) hFc (fun r_14 S_16 t_ H locs ht_ hvm_ hw_15 hB_ hz_ hk_ hS => ?_)
    obtain ⟨hP, -, hD1_⟩ := hB_
    rw [ht_] at hP
    have hD : va_D A (wR G ad S_16) := hD1_.weaken (fun k q _ h => hFc q.1 h)
    try dsimp only at hw_15
    obtain ⟨hw_15, hS1_⟩ := hw_15
    subst hS1_
    try dsimp only at hw_15
    subst hw_15
    subst hQ
    have hpost : ((bV κ v i x * 2 + bV κ v i 1) : Int32) = tlV κ v i x ∧ (ntl (t) S (40 :: (tP κ ++ bB κ))) = ntl t S (tlB κ) := by
      first
      | (unfold tlV tlB
         (repeat (first | rw [if_pos (by first | assumption | (rw [← hκ]; assumption))] | rw [if_neg (by first | assumption | (rw [← hκ]; assumption))]))
         exact ⟨rfl, rfl⟩)
      | (obtain rfl : κ = 4 := by rw [← hκ]; assumption
         refine ⟨?_, ?_⟩ <;> simp [tlV, tlB])
    exact W.iret (v := (bV κ v i x * 2 + bV κ v i 1)) hx hb hr (fun t_ ht_ hW_ => ⟨⟨(bV κ v i x * 2 + bV κ v i 1), (ntl (t) S (40 :: (tP κ ++ bB κ))), rfl, hpost, by rw [ht_]; exact hP, va_K.moved hW_.alike hK, hD⟩, hS.F ht_⟩) hS.2.2 (fk_get fk_cX12_tellsBy_0 5 rfl)
  have o_17 : ((fF S 0 41)).toInt < 3 ∨ 6 < ((fF S 0 41)).toInt := by
    have qc_1 : ¬ ((fF S 0 41)).toInt = 3 := lv_neT c_1 (by decide)
    have qc_5 : ¬ ((fF S 0 41)).toInt = 4 := lv_neT c_5 (by decide)
    have qc_9 : ¬ ((fF S 0 41)).toInt = 5 := lv_neT c_9 (by decide)
    have qc_13 : ¬ ((fF S 0 41)).toInt = 6 := lv_neT c_13 (by decide)
    omega
  refine lv_tableOut (tgt := 48) hx hb (dk_get dk_cX12_tellsBy_0 0 rfl) o_17 (by decide) ?_
  refine lv_aload_n hx hb (fk_get fk_cX12_tellsBy_0 10 rfl) rfl (lv_at hl 0 rfl) ?_
  refine lv_iload_n hx hb (fk_get fk_cX12_tellsBy_0 11 rfl) rfl (lv_at hl 1 rfl) ?_
  have hFc := va_self hD hS hA
  refine va_calli (va_runV (As := [.int (x)]) (rest := []) ⟨hx, hb, hml, hown, hT⟩ (c_tellsPlain l G ad S s.heap.size (t) (κ) (v) (i) (x) (by first | assumption | exact ntS_40 _ _ _ | exact ntl_40 _ _ _ (by first | assumption | exact ntS_40 _ _ _ | exact ntl_40 _ _ _ (by first | assumption | exact ntS_40 _ _ _))) (by have := aB_len κ; have := bP_len κ; have := bB_len κ; have := tP_len κ; omega) (by first | assumption | (simp only [ntl_41, ntS_41]; assumption) | (simp only [ntl_42, ntS_42]; assumption) | (simp only [ntl_43, ntS_43]; assumption)) (by first | assumption | (simp only [ntl_41, ntS_41]; assumption) | (simp only [ntl_42, ntS_42]; assumption) | (simp only [ntl_43, ntS_43]; assumption)) (by first | assumption | (simp only [ntl_41, ntS_41]; assumption) | (simp only [ntl_42, ntS_42]; assumption) | (simp only [ntl_43, ntS_43]; assumption))) (tV 1 hT m7_128 m7_130 mp_68 m1_17 m7_131 rfl rfl (by decide +kernel) ⟨Nat.le_of_ble_eq_true rfl, Nat.le_of_ble_eq_true rfl⟩) ⟨PcW_blind, va_recv hK hP (ci := 14) (q0 := 0) rfl (ix_at (by decide) (cR_0 G ad S)), PcW_of hP hK hD _⟩ rfl rfl hl.1 rfl (lv_room (Nat.le_of_ble_eq_true rfl)) (fk_get fk_cX12_tellsBy_0 12 rfl) ⟨Nat.zero_le _, Nat.zero_le _⟩) hS (fun q _ h => hFc q h) hFc (fun r_18 S_20 t_ H locs ht_ hvm_ hw_19 hB_ hz_ hk_ hS => ?_)
  obtain ⟨hP, -, hD1_⟩ := hB_
  rw [ht_] at hP
  have hD : va_D A (wR G ad S_20) := hD1_.weaken (fun k q _ h => hFc q.1 h)
  try dsimp only at hw_19
  obtain ⟨hw_19, hS1_⟩ := hw_19
  subst hS1_
  try dsimp only at hw_19
  subst hw_19
  subst hQ
  have hpost : ((bV κ v i x * 2) : Int32) = tlV κ v i x ∧ (ntl (t) S (tP κ)) = ntl t S (tlB κ) := by
    first
    | (unfold tlV tlB
       (repeat (first | rw [if_pos (by first | assumption | (rw [← hκ]; assumption))] | rw [if_neg (by first | assumption | (rw [← hκ]; assumption))]))
       exact ⟨rfl, rfl⟩)
    | (obtain rfl : κ = 4 := by rw [← hκ]; assumption
       refine ⟨?_, ?_⟩ <;> simp [tlV, tlB])
  exact W.iret (v := (bV κ v i x * 2)) hx hb hr (fun t_ ht_ hW_ => ⟨⟨(bV κ v i x * 2), (ntl (t) S (tP κ)), rfl, hpost, by rw [ht_]; exact hP, va_K.moved hW_.alike hK, hD⟩, hS.F ht_⟩) hS.2.2 (fk_get fk_cX12_tellsBy_0 13 rfl)
set_option maxHeartbeats 800000 in
set_option maxRecDepth 100000 in
theorem c_act (l : Launch) (G : GG) (ad : Nat → Nat) (S : FS) (sz : Nat) (n : Nat) (c act x : Int32) (hn : fF S 0 1 = nI n) (hn6 : n ≤ 6) : Met l yX12_act (Cond.code yX12_act cX12_act 4 (some .int) :: TBL) ({ frames := 13, cells := 0, slots := 0, locals := 340 } : Room) (PcW G (wR G ad S) sz [.ref (ad 0), .int (c), .int (act), .int (x)]) (va_Qi (fun (r : Int32) (S' : FS) => (¬ ((0 ≤ c ∧ c ≤ fF S 0 1 - 1) ∧ 0 ≤ act ∧ act ≤ 2) ∧ r = 0 ∧ S' = (setF (setF S 0 8 0) 0 40 0)) ∨ (((0 ≤ c ∧ c ≤ fF S 0 1 - 1) ∧ 0 ≤ act ∧ act ≤ 2) ∧ r = (if act = 0 then aV (fA S 1 (12 * c.toNatClampNeg + 0)) (fA S 1 (12 * c.toNatClampNeg + 1)) c x else if act = 1 then bV (fA S 1 (12 * c.toNatClampNeg + 0)) (fA S 1 (12 * c.toNatClampNeg + 1)) c x else tlV (fA S 1 (12 * c.toNatClampNeg + 0)) (fA S 1 (12 * c.toNatClampNeg + 1)) c x) ∧ S' = ntl 0 (setF (setF (setF (setF (setF S 0 8 0) 0 40 0) 0 41 (fA S 1 (12 * c.toNatClampNeg + 0))) 0 42 (fA S 1 (12 * c.toNatClampNeg + 1))) 0 43 c) (if act = 0 then aB (fA S 1 (12 * c.toNatClampNeg + 0)) else if act = 1 then bB (fA S 1 (12 * c.toNatClampNeg + 0)) else tlB (fA S 1 (12 * c.toNatClampNeg + 0))))) (fun S' t => BW G (va_A (wR G ad S) sz) (wR G ad S') t) (va_A (wR G ad S) sz)) 0 0 (va_A (wR G ad S) sz) := by
  refine Met.ofW (cc := cX12_act) (maxL := 4) (ret := (some .int)) (by decide) rfl ?_
  intro p e s m args below meth c₀ s₁ B hml hv
  obtain ⟨rfl, hsz, hP, hK, hD0⟩ := hv
  have hx := B.exec
  have hb := B.bytes
  have hr := B.returns
  have hT : ∀ w ∈ TBL, w.before ([.ref (ad 0), .int (c), .int (act), .int (x)] : List Value).toArray s = true := fun w h => atoms_spec (ws := Cond.code yX12_act cX12_act 4 (some .int) :: TBL) B.pre w (List.mem_cons_of_mem _ h)
  have hown : s.vm.findClass "LittleMoreModel" = some m.cls := findClass_of_methodNamed B.named
  have hlocks := B.notSynchronized
  subst hsz
  have hD := hD0.self (sz := s.heap.size)
  generalize hAe : va_A (wR G ad S) s.heap.size = A at hD ⊢
  have hA : ∀ q : Nat, s.heap.size ≤ q → A q := fun q h => by rw [← hAe]; exact Or.inr h
  have hS : va_S A s.heap s.heap [] := va_S.rf
  have hP : va_P G.1 vwCl (wR G ad S) s.heap := hP
  have hl := lv_entry ([.ref (ad 0), .int (c), .int (act), .int (x)]) (n := 4) (Nat.le_of_ble_eq_true rfl)
  rw [lg_entry_eq]
  generalize (lg_sl ([.ref (ad 0), .int (c), .int (act), .int (x)]) ++ List.replicate (4 - (lg_sl ([.ref (ad 0), .int (c), .int (act), .int (x)])).length) Slot.unset).toArray = ls at hl ⊢
  have hl : lv_has ls 4 [(0, .ref (ad 0)), (1, .int (c)), (2, .int (act)), (3, .int (x))] := hl
  refine W_abs (fun Q hQ => ?_)
  generalize ([.ref (ad 0), .int (c), .int (act), .int (x)] : List Value).toArray = args at hT hQ ⊢
  refine lv_aload_n hx hb (fk_get fk_cX12_act_0 0 rfl) rfl (lv_at hl 0 rfl) ?_
  refine lv_iconst (v := 0) hx hb (fk_get fk_cX12_act_0 1 rfl) (by decide) ?_
  refine va_put (D := G.1) (ci := 14) (v := .int (0)) (ty := .int) (C := RX12) (T := TX12) (N := 49) hx hb hT inX12 tyX12 tyX12_ok nmX12 hown hK hP hD hS 0 (ix_at (by decide) (cR_0 G ad S)) rfl 8 (by decide) (hT _ m5_109) (fun _ h9 => h9) rfl (by decide +kernel) rfl rfl (Nat.le_of_ble_eq_true rfl) (fk_get fk_cX12_act_0 2 rfl) (fun H locs hP hD hS => ?_)
  rw [pR_thrown G ad S (0)] at hP hD
  refine lv_aload_n hx hb (fk_get fk_cX12_act_0 3 rfl) rfl (lv_at hl 0 rfl) ?_
  refine lv_iconst (v := 0) hx hb (fk_get fk_cX12_act_0 4 rfl) (by decide) ?_
  refine va_put (D := G.1) (ci := 14) (v := .int (0)) (ty := .int) (C := RX12) (T := TX12) (N := 49) hx hb hT inX12 tyX12 tyX12_ok nmX12 hown hK hP hD hS 0 (ix_at (by decide) (cR_0 G ad (setF S 0 8 (0)))) rfl 40 (by decide) (hT _ m5_141) (fun _ h9 => h9) rfl (by decide +kernel) rfl rfl (Nat.le_of_ble_eq_true rfl) (fk_get fk_cX12_act_0 5 rfl) (fun H locs hP hD hS => ?_)
  rw [pR_trailed G ad (setF S 0 8 (0)) (0)] at hP hD
  refine lv_aload_n hx hb (fk_get fk_cX12_act_0 6 rfl) rfl (lv_at hl 0 rfl) ?_
  refine lv_iload_n hx hb (fk_get fk_cX12_act_0 7 rfl) rfl (lv_at hl 1 rfl) ?_
  refine vp_callSi (W.runV (As := [.int (c)]) (rest := []) ⟨hx, hb, hml, hown, hT⟩ (c_isCustomer l G ad (setF (setF S 0 8 (0)) 0 40 (0)) H.size (c) ) (tV 1 hT m6_110 m6_112 mp_32 m1_17 m6_113 rfl rfl (by decide +kernel) ⟨Nat.le_of_ble_eq_true rfl, Nat.le_of_ble_eq_true rfl⟩) ⟨PcW_blind, va_recv hK hP (ci := 14) (q0 := 0) rfl (ix_at (by decide) (cR_0 G ad (setF (setF S 0 8 (0)) 0 40 (0)))), PcW_of hP hK hD _⟩ rfl rfl hl.1 rfl (lv_room (Nat.le_of_ble_eq_true rfl)) (fk_get fk_cX12_act_0 8 rfl) ⟨Nat.zero_le _, Nat.zero_le _⟩) (fun r_1 hw_2 => ?_)
  try dsimp only at hw_2
  have hw_2 : r_1 = if 0 ≤ c ∧ c ≤ fF S 0 1 - 1 then 1 else 0 := hw_2
  refine lv_if_eq (tgt := 30) hx hb (fk_get fk_cX12_act_0 9 rfl) (by decide) (fun c_3 => ?_) (fun c_3 => ?_)
  · have p_c_3 := if1_f hw_2 c_3
    refine lv_iconst (v := 0) hx hb (fk_get fk_cX12_act_0 16 rfl) (by decide) ?_
    subst hQ
    have hpost : (¬ ((0 ≤ c ∧ c ≤ fF S 0 1 - 1) ∧ 0 ≤ act ∧ act ≤ 2) ∧ (0 : Int32) = 0 ∧ (setF (setF S 0 8 (0)) 0 40 (0)) = (setF (setF S 0 8 0) 0 40 0)) ∨ (((0 ≤ c ∧ c ≤ fF S 0 1 - 1) ∧ 0 ≤ act ∧ act ≤ 2) ∧ (0 : Int32) = (if act = 0 then aV (fA S 1 (12 * c.toNatClampNeg + 0)) (fA S 1 (12 * c.toNatClampNeg + 1)) c x else if act = 1 then bV (fA S 1 (12 * c.toNatClampNeg + 0)) (fA S 1 (12 * c.toNatClampNeg + 1)) c x else tlV (fA S 1 (12 * c.toNatClampNeg + 0)) (fA S 1 (12 * c.toNatClampNeg + 1)) c x) ∧ (setF (setF S 0 8 (0)) 0 40 (0)) = ntl 0 (setF (setF (setF (setF (setF S 0 8 0) 0 40 0) 0 41 (fA S 1 (12 * c.toNatClampNeg + 0))) 0 42 (fA S 1 (12 * c.toNatClampNeg + 1))) 0 43 c) (if act = 0 then aB (fA S 1 (12 * c.toNatClampNeg + 0)) else if act = 1 then bB (fA S 1 (12 * c.toNatClampNeg + 0)) else tlB (fA S 1 (12 * c.toNatClampNeg + 0)))) := by
      first | exact Or.inl ⟨fun q => by first | exact absurd q.1 (by assumption) | exact absurd q.2 (by assumption), rfl, rfl⟩ | (refine Or.inr ⟨⟨by assumption, by assumption⟩, ?_, ?_⟩ <;> (repeat (first | rw [if_pos (by assumption)] | rw [if_neg (by assumption)])) <;> rfl)
    exact W.iret (v := 0) hx hb hr (fun t_ ht_ hW_ => ⟨⟨0, (setF (setF S 0 8 (0)) 0 40 (0)), rfl, hpost, by rw [ht_]; exact hP, va_K.moved hW_.alike hK, hD⟩, hS.F ht_⟩) hS.2.2 (fk_get fk_cX12_act_0 17 rfl)
  have p_c_3 := if1_t hw_2 c_3
  obtain ⟨hj, ej⟩ := isC_n p_c_3 hn hn6
  refine lv_iload_n hx hb (fk_get fk_cX12_act_0 10 rfl) rfl (lv_at hl 2 rfl) ?_
  refine lv_i2l hx hb (fk_get fk_cX12_act_0 11 rfl) rfl ?_
  refine lv_lconst (v := 0) hx hb (fk_get fk_cX12_act_0 12 rfl) (by decide) ?_
  refine lv_ldc2 (v := 2) hx hb hown (hT _ m7_75) (fk_get fk_cX12_act_0 13 rfl) ?_
  refine vp_callSi (W.runS (As := [.long ((act).toInt64), .long (0), .long (2)]) (rest := []) ⟨hx, hb, hml, hown, hT⟩ (c_in l ((act).toInt64) (0) (2) ) (tS 3 hT m6_31 m6_32 m1_17 m6_33 rfl rfl (by decide +kernel) ⟨Nat.le_of_ble_eq_true rfl, Nat.le_of_ble_eq_true rfl⟩) ⟨PcN_blind, PcN_of _ _ _⟩ rfl rfl hl.1 rfl (lv_room (Nat.le_of_ble_eq_true rfl)) (fk_get fk_cX12_act_0 14 rfl) ⟨Nat.zero_le _, Nat.zero_le _⟩) (fun r_4 hw_5 => ?_)
  try dsimp only at hw_5
  have hw_5 := in_eq hw_5 (act) 0 2 (rfl) (by decide) (by decide)
  refine lv_if_ne (tgt := 32) hx hb (fk_get fk_cX12_act_0 15 rfl) (by decide) (fun c_6 => ?_) (fun c_6 => ?_)
  · have p_c_6 := if1_t hw_5 c_6
    refine lv_aload_n hx hb (fk_get fk_cX12_act_0 18 rfl) rfl (lv_at hl 0 rfl) ?_
    refine lv_aload_n hx hb (fk_get fk_cX12_act_0 19 rfl) rfl (lv_at hl 0 rfl) ?_
    refine lv_iload_n hx hb (fk_get fk_cX12_act_0 20 rfl) rfl (lv_at hl 1 rfl) ?_
    refine lv_iconst (v := 0) hx hb (fk_get fk_cX12_act_0 21 rfl) (by decide) ?_
    refine vp_callSi (W.runV (As := [.int (c), .int (0)]) (rest := [.ref (ad 0)]) ⟨hx, hb, hml, hown, hT⟩ (c_of0 l G ad (setF (setF S 0 8 (0)) 0 40 (0)) H.size (c) (0) (((12 * c.toNatClampNeg) + 0)) (n_add (n_mul (rfl) (ej)) (rfl)) (by omega)) (tV 2 hT m6_119 m6_121 mp_34 m1_17 m6_122 rfl rfl (by decide +kernel) ⟨Nat.le_of_ble_eq_true rfl, Nat.le_of_ble_eq_true rfl⟩) ⟨PcW_blind, va_recv hK hP (ci := 14) (q0 := 0) rfl (ix_at (by decide) (cR_0 G ad (setF (setF S 0 8 (0)) 0 40 (0)))), PcW_of hP hK hD _⟩ rfl rfl hl.1 rfl (lv_room (Nat.le_of_ble_eq_true rfl)) (fk_get fk_cX12_act_0 22 rfl) ⟨Nat.zero_le _, Nat.zero_le _⟩) (fun r_7 hw_8 => ?_)
    try dsimp only at hw_8
    have hw_8 : r_7 = fA S 1 (12 * c.toNatClampNeg + 0) := hw_8
    subst hw_8
    refine va_put (D := G.1) (ci := 14) (v := .int ((fA S 1 (12 * c.toNatClampNeg + 0)))) (ty := .int) (C := RX12) (T := TX12) (N := 49) hx hb hT inX12 tyX12 tyX12_ok nmX12 hown hK hP hD hS 0 (ix_at (by decide) (cR_0 G ad (setF (setF S 0 8 (0)) 0 40 (0)))) rfl 41 (by decide) (hT _ m5_142) (fun _ h9 => h9) rfl (by decide +kernel) rfl rfl (Nat.le_of_ble_eq_true rfl) (fk_get fk_cX12_act_0 23 rfl) (fun H locs hP hD hS => ?_)
    rw [pR_kind0 G ad (setF (setF S 0 8 (0)) 0 40 (0)) ((fA S 1 (12 * c.toNatClampNeg + 0)))] at hP hD
    refine lv_aload_n hx hb (fk_get fk_cX12_act_0 24 rfl) rfl (lv_at hl 0 rfl) ?_
    refine lv_aload_n hx hb (fk_get fk_cX12_act_0 25 rfl) rfl (lv_at hl 0 rfl) ?_
    refine lv_iload_n hx hb (fk_get fk_cX12_act_0 26 rfl) rfl (lv_at hl 1 rfl) ?_
    refine lv_iconst (v := 1) hx hb (fk_get fk_cX12_act_0 27 rfl) (by decide) ?_
    refine vp_callSi (W.runV (As := [.int (c), .int (1)]) (rest := [.ref (ad 0)]) ⟨hx, hb, hml, hown, hT⟩ (c_of0 l G ad (setF (setF (setF S 0 8 (0)) 0 40 (0)) 0 41 ((fA S 1 (12 * c.toNatClampNeg + 0)))) H.size (c) (1) (((12 * c.toNatClampNeg) + 1)) (n_add (n_mul (rfl) (ej)) (rfl)) (by omega)) (tV 2 hT m6_119 m6_121 mp_34 m1_17 m6_122 rfl rfl (by decide +kernel) ⟨Nat.le_of_ble_eq_true rfl, Nat.le_of_ble_eq_true rfl⟩) ⟨PcW_blind, va_recv hK hP (ci := 14) (q0 := 0) rfl (ix_at (by decide) (cR_0 G ad (setF (setF (setF S 0 8 (0)) 0 40 (0)) 0 41 ((fA S 1 (12 * c.toNatClampNeg + 0)))))), PcW_of hP hK hD _⟩ rfl rfl hl.1 rfl (lv_room (Nat.le_of_ble_eq_true rfl)) (fk_get fk_cX12_act_0 28 rfl) ⟨Nat.zero_le _, Nat.zero_le _⟩) (fun r_9 hw_10 => ?_)
    try dsimp only at hw_10
    have hw_10 : r_9 = fA S 1 (12 * c.toNatClampNeg + 1) := hw_10
    subst hw_10
    refine va_put (D := G.1) (ci := 14) (v := .int ((fA S 1 (12 * c.toNatClampNeg + 1)))) (ty := .int) (C := RX12) (T := TX12) (N := 49) hx hb hT inX12 tyX12 tyX12_ok nmX12 hown hK hP hD hS 0 (ix_at (by decide) (cR_0 G ad (setF (setF (setF S 0 8 (0)) 0 40 (0)) 0 41 ((fA S 1 (12 * c.toNatClampNeg + 0)))))) rfl 42 (by decide) (hT _ m5_143) (fun _ h9 => h9) rfl (by decide +kernel) rfl rfl (Nat.le_of_ble_eq_true rfl) (fk_get fk_cX12_act_0 29 rfl) (fun H locs hP hD hS => ?_)
    rw [pR_v0 G ad (setF (setF (setF S 0 8 (0)) 0 40 (0)) 0 41 ((fA S 1 (12 * c.toNatClampNeg + 0)))) ((fA S 1 (12 * c.toNatClampNeg + 1)))] at hP hD
    refine lv_aload_n hx hb (fk_get fk_cX12_act_0 30 rfl) rfl (lv_at hl 0 rfl) ?_
    refine lv_iload_n hx hb (fk_get fk_cX12_act_0 31 rfl) rfl (lv_at hl 1 rfl) ?_
    refine va_put (D := G.1) (ci := 14) (v := .int (c)) (ty := .int) (C := RX12) (T := TX12) (N := 49) hx hb hT inX12 tyX12 tyX12_ok nmX12 hown hK hP hD hS 0 (ix_at (by decide) (cR_0 G ad (setF (setF (setF (setF S 0 8 (0)) 0 40 (0)) 0 41 ((fA S 1 (12 * c.toNatClampNeg + 0)))) 0 42 ((fA S 1 (12 * c.toNatClampNeg + 1)))))) rfl 43 (by decide) (hT _ m5_144) (fun _ h9 => h9) rfl (by decide +kernel) rfl rfl (Nat.le_of_ble_eq_true rfl) (fk_get fk_cX12_act_1 0 rfl) (fun H locs hP hD hS => ?_)
    rw [pR_i0 G ad (setF (setF (setF (setF S 0 8 (0)) 0 40 (0)) 0 41 ((fA S 1 (12 * c.toNatClampNeg + 0)))) 0 42 ((fA S 1 (12 * c.toNatClampNeg + 1)))) (c)] at hP hD
    refine lv_iload_n hx hb (fk_get fk_cX12_act_1 1 rfl) rfl (lv_at hl 2 rfl) ?_
    refine lv_if_ne (tgt := 69) hx hb (fk_get fk_cX12_act_1 2 rfl) (by decide) (fun c_11 => ?_) (fun c_11 => ?_)
    · refine lv_iload_n hx hb (fk_get fk_cX12_act_1 7 rfl) rfl (lv_at hl 2 rfl) ?_
      refine lv_iconst (v := 1) hx hb (fk_get fk_cX12_act_1 8 rfl) (by decide) ?_
      refine lv_icmp_ne (tgt := 82) hx hb (fk_get fk_cX12_act_1 9 rfl) (by decide) (fun c_12 => ?_) (fun c_12 => ?_)
      · refine lv_aload_n hx hb (fk_get fk_cX12_act_1 14 rfl) rfl (lv_at hl 0 rfl) ?_
        refine lv_iload_n hx hb (fk_get fk_cX12_act_1 15 rfl) rfl (lv_at hl 3 rfl) ?_
        have hFc := va_self hD hS hA
        refine va_calli (va_runV (As := [.int (x)]) (rest := []) ⟨hx, hb, hml, hown, hT⟩ (c_tellsBy l G ad (setF (setF (setF (setF (setF S 0 8 (0)) 0 40 (0)) 0 41 ((fA S 1 (12 * c.toNatClampNeg + 0)))) 0 42 ((fA S 1 (12 * c.toNatClampNeg + 1)))) 0 43 (c)) H.size (0) (fA S 1 (12 * c.toNatClampNeg + 0)) (fA S 1 (12 * c.toNatClampNeg + 1)) (c) (x) (rfl) (by decide) (rfl) (rfl) (rfl)) (tV 1 hT m7_120 m7_122 mp_66 m1_17 m7_123 rfl rfl (by decide +kernel) ⟨Nat.le_of_ble_eq_true rfl, Nat.le_of_ble_eq_true rfl⟩) ⟨PcW_blind, va_recv hK hP (ci := 14) (q0 := 0) rfl (ix_at (by decide) (cR_0 G ad (setF (setF (setF (setF (setF S 0 8 (0)) 0 40 (0)) 0 41 ((fA S 1 (12 * c.toNatClampNeg + 0)))) 0 42 ((fA S 1 (12 * c.toNatClampNeg + 1)))) 0 43 (c)))), PcW_of hP hK hD _⟩ rfl rfl hl.1 rfl (lv_room (Nat.le_of_ble_eq_true rfl)) (fk_get fk_cX12_act_1 16 rfl) ⟨Nat.zero_le _, Nat.zero_le _⟩) hS (fun q _ h => hFc q h) hFc (fun r_13 S_15 t_ H locs ht_ hvm_ hw_14 hB_ hz_ hk_ hS => ?_)
        obtain ⟨hP, -, hD1_⟩ := hB_
        rw [ht_] at hP
        have hD : va_D A (wR G ad S_15) := hD1_.weaken (fun k q _ h => hFc q.1 h)
        try dsimp only at hw_14
        obtain ⟨hw_14, hS1_⟩ := hw_14
        subst hS1_
        try dsimp only at hw_14
        subst hw_14
        subst hQ
        have hpost : (¬ ((0 ≤ c ∧ c ≤ fF S 0 1 - 1) ∧ 0 ≤ act ∧ act ≤ 2) ∧ ((tlV (fA S 1 (12 * c.toNatClampNeg + 0)) (fA S 1 (12 * c.toNatClampNeg + 1)) c x) : Int32) = 0 ∧ (ntl (0) (setF (setF (setF (setF (setF S 0 8 (0)) 0 40 (0)) 0 41 ((fA S 1 (12 * c.toNatClampNeg + 0)))) 0 42 ((fA S 1 (12 * c.toNatClampNeg + 1)))) 0 43 (c)) (tlB (fA S 1 (12 * c.toNatClampNeg + 0)))) = (setF (setF S 0 8 0) 0 40 0)) ∨ (((0 ≤ c ∧ c ≤ fF S 0 1 - 1) ∧ 0 ≤ act ∧ act ≤ 2) ∧ ((tlV (fA S 1 (12 * c.toNatClampNeg + 0)) (fA S 1 (12 * c.toNatClampNeg + 1)) c x) : Int32) = (if act = 0 then aV (fA S 1 (12 * c.toNatClampNeg + 0)) (fA S 1 (12 * c.toNatClampNeg + 1)) c x else if act = 1 then bV (fA S 1 (12 * c.toNatClampNeg + 0)) (fA S 1 (12 * c.toNatClampNeg + 1)) c x else tlV (fA S 1 (12 * c.toNatClampNeg + 0)) (fA S 1 (12 * c.toNatClampNeg + 1)) c x) ∧ (ntl (0) (setF (setF (setF (setF (setF S 0 8 (0)) 0 40 (0)) 0 41 ((fA S 1 (12 * c.toNatClampNeg + 0)))) 0 42 ((fA S 1 (12 * c.toNatClampNeg + 1)))) 0 43 (c)) (tlB (fA S 1 (12 * c.toNatClampNeg + 0)))) = ntl 0 (setF (setF (setF (setF (setF S 0 8 0) 0 40 0) 0 41 (fA S 1 (12 * c.toNatClampNeg + 0))) 0 42 (fA S 1 (12 * c.toNatClampNeg + 1))) 0 43 c) (if act = 0 then aB (fA S 1 (12 * c.toNatClampNeg + 0)) else if act = 1 then bB (fA S 1 (12 * c.toNatClampNeg + 0)) else tlB (fA S 1 (12 * c.toNatClampNeg + 0)))) := by
          first | exact Or.inl ⟨fun q => by first | exact absurd q.1 (by assumption) | exact absurd q.2 (by assumption), rfl, rfl⟩ | (refine Or.inr ⟨⟨by assumption, by assumption⟩, ?_, ?_⟩ <;> (repeat (first | rw [if_pos (by assumption)] | rw [if_neg (by assumption)])) <;> rfl)
        exact W.iret (v := (tlV (fA S 1 (12 * c.toNatClampNeg + 0)) (fA S 1 (12 * c.toNatClampNeg + 1)) c x)) hx hb hr (fun t_ ht_ hW_ => ⟨⟨(tlV (fA S 1 (12 * c.toNatClampNeg + 0)) (fA S 1 (12 * c.toNatClampNeg + 1)) c x), (ntl (0) (setF (setF (setF (setF (setF S 0 8 (0)) 0 40 (0)) 0 41 ((fA S 1 (12 * c.toNatClampNeg + 0)))) 0 42 ((fA S 1 (12 * c.toNatClampNeg + 1)))) 0 43 (c)) (tlB (fA S 1 (12 * c.toNatClampNeg + 0)))), rfl, hpost, by rw [ht_]; exact hP, va_K.moved hW_.alike hK, hD⟩, hS.F ht_⟩) hS.2.2 (fk_get fk_cX12_act_1 17 rfl)
      refine lv_aload_n hx hb (fk_get fk_cX12_act_1 10 rfl) rfl (lv_at hl 0 rfl) ?_
      refine lv_iload_n hx hb (fk_get fk_cX12_act_1 11 rfl) rfl (lv_at hl 3 rfl) ?_
      have hFc := va_self hD hS hA
      refine va_calli (va_runV (As := [.int (x)]) (rest := []) ⟨hx, hb, hml, hown, hT⟩ (c_buysBy l G ad (setF (setF (setF (setF (setF S 0 8 (0)) 0 40 (0)) 0 41 ((fA S 1 (12 * c.toNatClampNeg + 0)))) 0 42 ((fA S 1 (12 * c.toNatClampNeg + 1)))) 0 43 (c)) H.size (0) (fA S 1 (12 * c.toNatClampNeg + 0)) (fA S 1 (12 * c.toNatClampNeg + 1)) (c) (x) (rfl) (by decide) (rfl) (rfl) (rfl)) (tV 1 hT m7_100 m7_102 mp_61 m1_17 m7_103 rfl rfl (by decide +kernel) ⟨Nat.le_of_ble_eq_true rfl, Nat.le_of_ble_eq_true rfl⟩) ⟨PcW_blind, va_recv hK hP (ci := 14) (q0 := 0) rfl (ix_at (by decide) (cR_0 G ad (setF (setF (setF (setF (setF S 0 8 (0)) 0 40 (0)) 0 41 ((fA S 1 (12 * c.toNatClampNeg + 0)))) 0 42 ((fA S 1 (12 * c.toNatClampNeg + 1)))) 0 43 (c)))), PcW_of hP hK hD _⟩ rfl rfl hl.1 rfl (lv_room (Nat.le_of_ble_eq_true rfl)) (fk_get fk_cX12_act_1 12 rfl) ⟨Nat.zero_le _, Nat.zero_le _⟩) hS (fun q _ h => hFc q h) hFc (fun r_16 S_18 t_ H locs ht_ hvm_ hw_17 hB_ hz_ hk_ hS => ?_)
      obtain ⟨hP, -, hD1_⟩ := hB_
      rw [ht_] at hP
      have hD : va_D A (wR G ad S_18) := hD1_.weaken (fun k q _ h => hFc q.1 h)
      try dsimp only at hw_17
      obtain ⟨hw_17, hS1_⟩ := hw_17
      subst hS1_
      try dsimp only at hw_17
      subst hw_17
      refine lv_goto (tgt := 87) hx hb (fk_get fk_cX12_act_1 13 rfl) (by decide) ?_
      subst hQ
      have hpost : (¬ ((0 ≤ c ∧ c ≤ fF S 0 1 - 1) ∧ 0 ≤ act ∧ act ≤ 2) ∧ ((bV (fA S 1 (12 * c.toNatClampNeg + 0)) (fA S 1 (12 * c.toNatClampNeg + 1)) c x) : Int32) = 0 ∧ (ntl (0) (setF (setF (setF (setF (setF S 0 8 (0)) 0 40 (0)) 0 41 ((fA S 1 (12 * c.toNatClampNeg + 0)))) 0 42 ((fA S 1 (12 * c.toNatClampNeg + 1)))) 0 43 (c)) (bB (fA S 1 (12 * c.toNatClampNeg + 0)))) = (setF (setF S 0 8 0) 0 40 0)) ∨ (((0 ≤ c ∧ c ≤ fF S 0 1 - 1) ∧ 0 ≤ act ∧ act ≤ 2) ∧ ((bV (fA S 1 (12 * c.toNatClampNeg + 0)) (fA S 1 (12 * c.toNatClampNeg + 1)) c x) : Int32) = (if act = 0 then aV (fA S 1 (12 * c.toNatClampNeg + 0)) (fA S 1 (12 * c.toNatClampNeg + 1)) c x else if act = 1 then bV (fA S 1 (12 * c.toNatClampNeg + 0)) (fA S 1 (12 * c.toNatClampNeg + 1)) c x else tlV (fA S 1 (12 * c.toNatClampNeg + 0)) (fA S 1 (12 * c.toNatClampNeg + 1)) c x) ∧ (ntl (0) (setF (setF (setF (setF (setF S 0 8 (0)) 0 40 (0)) 0 41 ((fA S 1 (12 * c.toNatClampNeg + 0)))) 0 42 ((fA S 1 (12 * c.toNatClampNeg + 1)))) 0 43 (c)) (bB (fA S 1 (12 * c.toNatClampNeg + 0)))) = ntl 0 (setF (setF (setF (setF (setF S 0 8 0) 0 40 0) 0 41 (fA S 1 (12 * c.toNatClampNeg + 0))) 0 42 (fA S 1 (12 * c.toNatClampNeg + 1))) 0 43 c) (if act = 0 then aB (fA S 1 (12 * c.toNatClampNeg + 0)) else if act = 1 then bB (fA S 1 (12 * c.toNatClampNeg + 0)) else tlB (fA S 1 (12 * c.toNatClampNeg + 0)))) := by
        first | exact Or.inl ⟨fun q => by first | exact absurd q.1 (by assumption) | exact absurd q.2 (by assumption), rfl, rfl⟩ | (refine Or.inr ⟨⟨by assumption, by assumption⟩, ?_, ?_⟩ <;> (repeat (first | rw [if_pos (by assumption)] | rw [if_neg (by assumption)])) <;> rfl)
      exact W.iret (v := (bV (fA S 1 (12 * c.toNatClampNeg + 0)) (fA S 1 (12 * c.toNatClampNeg + 1)) c x)) hx hb hr (fun t_ ht_ hW_ => ⟨⟨(bV (fA S 1 (12 * c.toNatClampNeg + 0)) (fA S 1 (12 * c.toNatClampNeg + 1)) c x), (ntl (0) (setF (setF (setF (setF (setF S 0 8 (0)) 0 40 (0)) 0 41 ((fA S 1 (12 * c.toNatClampNeg + 0)))) 0 42 ((fA S 1 (12 * c.toNatClampNeg + 1)))) 0 43 (c)) (bB (fA S 1 (12 * c.toNatClampNeg + 0)))), rfl, hpost, by rw [ht_]; exact hP, va_K.moved hW_.alike hK, hD⟩, hS.F ht_⟩) hS.2.2 (fk_get fk_cX12_act_1 17 rfl)
    refine lv_aload_n hx hb (fk_get fk_cX12_act_1 3 rfl) rfl (lv_at hl 0 rfl) ?_
    refine lv_iload_n hx hb (fk_get fk_cX12_act_1 4 rfl) rfl (lv_at hl 3 rfl) ?_
    have hFc := va_self hD hS hA
    refine va_calli (va_runV (As := [.int (x)]) (rest := []) ⟨hx, hb, hml, hown, hT⟩ (c_asksBy l G ad (setF (setF (setF (setF (setF S 0 8 (0)) 0 40 (0)) 0 41 ((fA S 1 (12 * c.toNatClampNeg + 0)))) 0 42 ((fA S 1 (12 * c.toNatClampNeg + 1)))) 0 43 (c)) H.size (0) (fA S 1 (12 * c.toNatClampNeg + 0)) (fA S 1 (12 * c.toNatClampNeg + 1)) (c) (x) (rfl) (by decide) (rfl) (rfl) (rfl)) (tV 1 hT m7_76 m7_78 mp_55 m1_17 m7_79 rfl rfl (by decide +kernel) ⟨Nat.le_of_ble_eq_true rfl, Nat.le_of_ble_eq_true rfl⟩) ⟨PcW_blind, va_recv hK hP (ci := 14) (q0 := 0) rfl (ix_at (by decide) (cR_0 G ad (setF (setF (setF (setF (setF S 0 8 (0)) 0 40 (0)) 0 41 ((fA S 1 (12 * c.toNatClampNeg + 0)))) 0 42 ((fA S 1 (12 * c.toNatClampNeg + 1)))) 0 43 (c)))), PcW_of hP hK hD _⟩ rfl rfl hl.1 rfl (lv_room (Nat.le_of_ble_eq_true rfl)) (fk_get fk_cX12_act_1 5 rfl) ⟨Nat.zero_le _, Nat.zero_le _⟩) hS (fun q _ h => hFc q h) hFc (fun r_19 S_21 t_ H locs ht_ hvm_ hw_20 hB_ hz_ hk_ hS => ?_)
    obtain ⟨hP, -, hD1_⟩ := hB_
    rw [ht_] at hP
    have hD : va_D A (wR G ad S_21) := hD1_.weaken (fun k q _ h => hFc q.1 h)
    try dsimp only at hw_20
    obtain ⟨hw_20, hS1_⟩ := hw_20
    subst hS1_
    try dsimp only at hw_20
    subst hw_20
    refine lv_goto (tgt := 87) hx hb (fk_get fk_cX12_act_1 6 rfl) (by decide) ?_
    subst hQ
    have hpost : (¬ ((0 ≤ c ∧ c ≤ fF S 0 1 - 1) ∧ 0 ≤ act ∧ act ≤ 2) ∧ ((aV (fA S 1 (12 * c.toNatClampNeg + 0)) (fA S 1 (12 * c.toNatClampNeg + 1)) c x) : Int32) = 0 ∧ (ntl (0) (setF (setF (setF (setF (setF S 0 8 (0)) 0 40 (0)) 0 41 ((fA S 1 (12 * c.toNatClampNeg + 0)))) 0 42 ((fA S 1 (12 * c.toNatClampNeg + 1)))) 0 43 (c)) (aB (fA S 1 (12 * c.toNatClampNeg + 0)))) = (setF (setF S 0 8 0) 0 40 0)) ∨ (((0 ≤ c ∧ c ≤ fF S 0 1 - 1) ∧ 0 ≤ act ∧ act ≤ 2) ∧ ((aV (fA S 1 (12 * c.toNatClampNeg + 0)) (fA S 1 (12 * c.toNatClampNeg + 1)) c x) : Int32) = (if act = 0 then aV (fA S 1 (12 * c.toNatClampNeg + 0)) (fA S 1 (12 * c.toNatClampNeg + 1)) c x else if act = 1 then bV (fA S 1 (12 * c.toNatClampNeg + 0)) (fA S 1 (12 * c.toNatClampNeg + 1)) c x else tlV (fA S 1 (12 * c.toNatClampNeg + 0)) (fA S 1 (12 * c.toNatClampNeg + 1)) c x) ∧ (ntl (0) (setF (setF (setF (setF (setF S 0 8 (0)) 0 40 (0)) 0 41 ((fA S 1 (12 * c.toNatClampNeg + 0)))) 0 42 ((fA S 1 (12 * c.toNatClampNeg + 1)))) 0 43 (c)) (aB (fA S 1 (12 * c.toNatClampNeg + 0)))) = ntl 0 (setF (setF (setF (setF (setF S 0 8 0) 0 40 0) 0 41 (fA S 1 (12 * c.toNatClampNeg + 0))) 0 42 (fA S 1 (12 * c.toNatClampNeg + 1))) 0 43 c) (if act = 0 then aB (fA S 1 (12 * c.toNatClampNeg + 0)) else if act = 1 then bB (fA S 1 (12 * c.toNatClampNeg + 0)) else tlB (fA S 1 (12 * c.toNatClampNeg + 0)))) := by
      first | exact Or.inl ⟨fun q => by first | exact absurd q.1 (by assumption) | exact absurd q.2 (by assumption), rfl, rfl⟩ | (refine Or.inr ⟨⟨by assumption, by assumption⟩, ?_, ?_⟩ <;> (repeat (first | rw [if_pos (by assumption)] | rw [if_neg (by assumption)])) <;> rfl)
    exact W.iret (v := (aV (fA S 1 (12 * c.toNatClampNeg + 0)) (fA S 1 (12 * c.toNatClampNeg + 1)) c x)) hx hb hr (fun t_ ht_ hW_ => ⟨⟨(aV (fA S 1 (12 * c.toNatClampNeg + 0)) (fA S 1 (12 * c.toNatClampNeg + 1)) c x), (ntl (0) (setF (setF (setF (setF (setF S 0 8 (0)) 0 40 (0)) 0 41 ((fA S 1 (12 * c.toNatClampNeg + 0)))) 0 42 ((fA S 1 (12 * c.toNatClampNeg + 1)))) 0 43 (c)) (aB (fA S 1 (12 * c.toNatClampNeg + 0)))), rfl, hpost, by rw [ht_]; exact hP, va_K.moved hW_.alike hK, hD⟩, hS.F ht_⟩) hS.2.2 (fk_get fk_cX12_act_1 17 rfl)
  have p_c_6 := if1_f hw_5 c_6
  refine lv_iconst (v := 0) hx hb (fk_get fk_cX12_act_0 16 rfl) (by decide) ?_
  subst hQ
  have hpost : (¬ ((0 ≤ c ∧ c ≤ fF S 0 1 - 1) ∧ 0 ≤ act ∧ act ≤ 2) ∧ (0 : Int32) = 0 ∧ (setF (setF S 0 8 (0)) 0 40 (0)) = (setF (setF S 0 8 0) 0 40 0)) ∨ (((0 ≤ c ∧ c ≤ fF S 0 1 - 1) ∧ 0 ≤ act ∧ act ≤ 2) ∧ (0 : Int32) = (if act = 0 then aV (fA S 1 (12 * c.toNatClampNeg + 0)) (fA S 1 (12 * c.toNatClampNeg + 1)) c x else if act = 1 then bV (fA S 1 (12 * c.toNatClampNeg + 0)) (fA S 1 (12 * c.toNatClampNeg + 1)) c x else tlV (fA S 1 (12 * c.toNatClampNeg + 0)) (fA S 1 (12 * c.toNatClampNeg + 1)) c x) ∧ (setF (setF S 0 8 (0)) 0 40 (0)) = ntl 0 (setF (setF (setF (setF (setF S 0 8 0) 0 40 0) 0 41 (fA S 1 (12 * c.toNatClampNeg + 0))) 0 42 (fA S 1 (12 * c.toNatClampNeg + 1))) 0 43 c) (if act = 0 then aB (fA S 1 (12 * c.toNatClampNeg + 0)) else if act = 1 then bB (fA S 1 (12 * c.toNatClampNeg + 0)) else tlB (fA S 1 (12 * c.toNatClampNeg + 0)))) := by
    first | exact Or.inl ⟨fun q => by first | exact absurd q.1 (by assumption) | exact absurd q.2 (by assumption), rfl, rfl⟩ | (refine Or.inr ⟨⟨by assumption, by assumption⟩, ?_, ?_⟩ <;> (repeat (first | rw [if_pos (by assumption)] | rw [if_neg (by assumption)])) <;> rfl)
  exact W.iret (v := 0) hx hb hr (fun t_ ht_ hW_ => ⟨⟨0, (setF (setF S 0 8 (0)) 0 40 (0)), rfl, hpost, by rw [ht_]; exact hP, va_K.moved hW_.alike hK, hD⟩, hS.F ht_⟩) hS.2.2 (fk_get fk_cX12_act_0 17 rfl)
