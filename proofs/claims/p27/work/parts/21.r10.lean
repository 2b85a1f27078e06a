set_option maxHeartbeats 800000 in
set_option maxRecDepth 100000 in
theorem c_sign (l : Launch) (G : GG) (ad : Nat → Nat) (S : FS) (sz : Nat) (h z q : Nat) (x : Int32) (hh : fF S 0 3 = nI h) (hh6 : h < 6) (h8 : fA S 8 h = nI z) (hz1 : z ≤ 100) (ex : x = nI q) (hq : q ≤ 1000) : Met l yX12_sign (Cond.code yX12_sign cX12_sign 2 (some .int) :: TBL) ({ frames := 2, cells := 0, slots := 0, locals := 64 } : Room) (PcW G (wR G ad S) sz [.ref (ad 0), .int (x)]) (vp_Si (fun (r : Int32) => r = hrS (fun p => fA S 7 (100 * h + p)) z q)) 0 0 (fun _ => False) := by
  refine Met.ofW (cc := cX12_sign) (maxL := 2) (ret := (some .int)) (by decide) rfl ?_
  intro p e s m args below meth c₀ s₁ B hml hv
  obtain ⟨rfl, hsz, hP, hK, hD0⟩ := hv
  have hx := B.exec
  have hb := B.bytes
  have hr := B.returns
  have hT : ∀ w ∈ TBL, w.before ([.ref (ad 0), .int (x)] : List Value).toArray s = true := fun w h => atoms_spec (ws := Cond.code yX12_sign cX12_sign 2 (some .int) :: TBL) B.pre w (List.mem_cons_of_mem _ h)
  have hown : s.vm.findClass "LittleMoreModel" = some m.cls := findClass_of_methodNamed B.named
  have hlocks := B.notSynchronized
  have hD := hD0
  have hP : va_P G.1 vwCl (wR G ad S) s.heap := hP
  have hl := lv_entry ([.ref (ad 0), .int (x)]) (n := 2) (Nat.le_of_ble_eq_true rfl)
  rw [lg_entry_eq]
  generalize (lg_sl ([.ref (ad 0), .int (x)]) ++ List.replicate (2 - (lg_sl ([.ref (ad 0), .int (x)])).length) Slot.unset).toArray = ls at hl ⊢
  have hl : lv_has ls 2 [(0, .ref (ad 0)), (1, .int (x))] := hl
  refine W_abs (fun Q hQ => ?_)
  generalize ([.ref (ad 0), .int (x)] : List Value).toArray = args at hT hQ ⊢
  refine lv_iload_n hx hb (fk_get fk_cX12_sign_0 0 rfl) rfl (lv_at hl 1 rfl) ?_
  refine lv_aload_n hx hb (fk_get fk_cX12_sign_0 1 rfl) rfl (lv_at hl 0 rfl) ?_
  refine va_get (D := G.1) (ci := 14) (v := .ref (ad 8)) (C := RX12) (T := TX12) (N := 49) hx hb hT inX12 hown hK hP 0 (ix_at (by decide) (cR_0 G ad S)) rfl 19 (by decide) (hT _ m5_120) (fun _ h9 => h9) rfl (fk_get fk_cX12_sign_0 2 rfl) ?_
  refine lv_aload_n hx hb (fk_get fk_cX12_sign_0 3 rfl) rfl (lv_at hl 0 rfl) ?_
  refine va_get (D := G.1) (ci := 14) (v := .int ((fF S 0 3))) (C := RX12) (T := TX12) (N := 49) hx hb hT inX12 hown hK hP 0 (ix_at (by decide) (cR_0 G ad S)) rfl 3 (by decide) (hT _ m5_104) (fun _ h9 => h9) rfl (fk_get fk_cX12_sign_0 4 rfl) ?_
  refine r_iald (f := fA S 8) hx hb hK hP 8 0 (ix_at (by decide) (cR_sizes G ad S)) rfl (h) (hh) (by omega) (by decide) (fk_get fk_cX12_sign_0 5 rfl) ?_
  refine lv_icmp_ge (tgt := 30) hx hb (fk_get fk_cX12_sign_0 6 rfl) (by decide) (fun c_1 => ?_) (fun c_1 => ?_)
  · have hge : ¬ q < z := Nat.not_lt.mpr ((nI_leI (a := z) (b := q) (by omega) (by omega)).mp (by rw [← ex, ← h8]; exact c_1))
    refine lv_iconst (v := (-1)) hx hb (fk_get fk_cX12_sign_0 17 rfl) (by decide) ?_
    subst hQ
    have hpost : ((-1) : Int32) = hrS (fun p => fA S 7 (100 * h + p)) z q := by
      unfold hrS
      first | (rw [if_pos (by assumption)]; done) | (rw [if_neg (by assumption)]; done)
    exact W.iret (v := (-1)) hx hb hr (fun t_ ht_ hW_ => ⟨(-1), rfl, hpost, ht_⟩) (fun q h => by cases h) (fk_get fk_cX12_sign_0 18 rfl)
  have hlt : q < z := Nat.lt_of_not_le (fun w => c_1 (by rw [ex, h8]; exact (nI_leI (a := z) (b := q) (by omega) (by omega)).mpr w))
  refine lv_aload_n hx hb (fk_get fk_cX12_sign_0 7 rfl) rfl (lv_at hl 0 rfl) ?_
  refine va_get (D := G.1) (ci := 14) (v := .ref (ad 7)) (C := RX12) (T := TX12) (N := 49) hx hb hT inX12 hown hK hP 0 (ix_at (by decide) (cR_0 G ad S)) rfl 18 (by decide) (hT _ m5_119) (fun _ h9 => h9) rfl (fk_get fk_cX12_sign_0 8 rfl) ?_
  refine lv_bipush (v := 100) hx hb (fk_get fk_cX12_sign_0 9 rfl) (by decide) ?_
  refine lv_aload_n hx hb (fk_get fk_cX12_sign_0 10 rfl) rfl (lv_at hl 0 rfl) ?_
  refine va_get (D := G.1) (ci := 14) (v := .int ((fF S 0 3))) (C := RX12) (T := TX12) (N := 49) hx hb hT inX12 hown hK hP 0 (ix_at (by decide) (cR_0 G ad S)) rfl 3 (by decide) (hT _ m5_104) (fun _ h9 => h9) rfl (fk_get fk_cX12_sign_0 11 rfl) ?_
  refine lv_imul hx hb (fk_get fk_cX12_sign_0 12 rfl) ?_
  refine lv_iload_n hx hb (fk_get fk_cX12_sign_0 13 rfl) rfl (lv_at hl 1 rfl) ?_
  refine lv_iadd hx hb (fk_get fk_cX12_sign_0 14 rfl) ?_
  refine r_iald (f := fA S 7) hx hb hK hP 7 0 (ix_at (by decide) (cR_texts G ad S)) rfl (((100 * h) + q)) (n_add (n_mul (rfl) (hh)) (ex)) (by omega) (by decide) (fk_get fk_cX12_sign_0 15 rfl) ?_
  refine lv_goto (tgt := 31) hx hb (fk_get fk_cX12_sign_0 16 rfl) (by decide) ?_
  subst hQ
  have hpost : ((fA S 7 (((100 * h) + q))) : Int32) = hrS (fun p => fA S 7 (100 * h + p)) z q := by
    unfold hrS
    first | (rw [if_pos (by assumption)]; done) | (rw [if_neg (by assumption)]; done)
  exact W.iret (v := (fA S 7 (((100 * h) + q)))) hx hb hr (fun t_ ht_ hW_ => ⟨(fA S 7 (((100 * h) + q))), rfl, hpost, ht_⟩) (fun q h => by cases h) (fk_get fk_cX12_sign_0 18 rfl)
set_option maxHeartbeats 800000 in
set_option maxRecDepth 100000 in
theorem c_tested (l : Launch) (G : GG) (ad : Nat → Nat) (S : FS) (sz : Nat) (c letter : Int32) (j : Nat) (ej : c = nI j) (hj : j < 6) : Met l yX12_tested (Cond.code yX12_tested cX12_tested 3 (some .int) :: TBL) ({ frames := 3, cells := 0, slots := 0, locals := 90 } : Room) (PcW G (wR G ad S) sz [.ref (ad 0), .int (c), .int (letter)]) (vp_Si (fun (r : Int32) => True)) 0 0 (fun _ => False) := by
  refine Met.ofW (cc := cX12_tested) (maxL := 3) (ret := (some .int)) (by decide) rfl ?_
  intro p e s m args below meth c₀ s₁ B hml hv
  obtain ⟨rfl, hsz, hP, hK, hD0⟩ := hv
  have hx := B.exec
  have hb := B.bytes
  have hr := B.returns
  have hT : ∀ w ∈ TBL, w.before ([.ref (ad 0), .int (c), .int (letter)] : List Value).toArray s = true := fun w h => atoms_spec (ws := Cond.code yX12_tested cX12_tested 3 (some .int) :: TBL) B.pre w (List.mem_cons_of_mem _ h)
  have hown : s.vm.findClass "LittleMoreModel" = some m.cls := findClass_of_methodNamed B.named
  have hlocks := B.notSynchronized
  have hD := hD0
  have hP : va_P G.1 vwCl (wR G ad S) s.heap := hP
  have hl := lv_entry ([.ref (ad 0), .int (c), .int (letter)]) (n := 3) (Nat.le_of_ble_eq_true rfl)
  rw [lg_entry_eq]
  generalize (lg_sl ([.ref (ad 0), .int (c), .int (letter)]) ++ List.replicate (3 - (lg_sl ([.ref (ad 0), .int (c), .int (letter)])).length) Slot.unset).toArray = ls at hl ⊢
  have hl : lv_has ls 3 [(0, .ref (ad 0)), (1, .int (c)), (2, .int (letter))] := hl
  refine W_abs (fun Q hQ => ?_)
  generalize ([.ref (ad 0), .int (c), .int (letter)] : List Value).toArray = args at hT hQ ⊢
  refine lv_iload_n hx hb (fk_get fk_cX12_tested_0 0 rfl) rfl (lv_at hl 2 rfl) ?_
  by_cases c_1 : letter = (99 : Int32)
  · refine lv_lookup (off := 51) (tgt := 52) hx hb (dk_get dk_cX12_tested_0 0 rfl) (by decide) (by rw [c_1]; decide) (by decide) ?_
    refine lv_iload_n hx hb (fk_get fk_cX12_tested_0 1 rfl) rfl (lv_at hl 1 rfl) ?_
    subst hQ
    have hpost : True := by
      trivial
    exact W.iret (v := c) hx hb hr (fun t_ ht_ hW_ => ⟨c, rfl, hpost, ht_⟩) (fun q h => by cases h) (fk_get fk_cX12_tested_0 2 rfl)
  by_cases c_2 : letter = (107 : Int32)
  · refine lv_lookup (off := 53) (tgt := 54) hx hb (dk_get dk_cX12_tested_0 0 rfl) (by decide) (by rw [c_2]; decide) (by decide) ?_
    refine lv_aload_n hx hb (fk_get fk_cX12_tested_0 3 rfl) rfl (lv_at hl 0 rfl) ?_
    refine lv_iload_n hx hb (fk_get fk_cX12_tested_0 4 rfl) rfl (lv_at hl 1 rfl) ?_
    refine lv_iconst (v := 0) hx hb (fk_get fk_cX12_tested_0 5 rfl) (by decide) ?_
    refine vp_callSi (W.runV (As := [.int (c), .int (0)]) (rest := []) ⟨hx, hb, hml, hown, hT⟩ (c_of0 l G ad S s.heap.size (c) (0) (((12 * j) + 0)) (n_add (n_mul (rfl) (ej)) (rfl)) (by omega)) (tV 2 hT m6_119 m6_121 mp_34 m1_17 m6_122 rfl rfl (by decide +kernel) ⟨Nat.le_of_ble_eq_true rfl, Nat.le_of_ble_eq_true rfl⟩) ⟨PcW_blind, va_recv hK hP (ci := 14) (q0 := 0) rfl (ix_at (by decide) (cR_0 G ad S)), PcW_of hP hK hD _⟩ rfl rfl hl.1 rfl (lv_room (Nat.le_of_ble_eq_true rfl)) (fk_get fk_cX12_tested_0 6 rfl) ⟨Nat.zero_le _, Nat.zero_le _⟩) (fun r_3 hw_4 => ?_)
    try dsimp only at hw_4
    subst hQ
    have hpost : True := by
      trivial
    exact W.iret (v := r_3) hx hb hr (fun t_ ht_ hW_ => ⟨r_3, rfl, hpost, ht_⟩) (fun q h => by cases h) (fk_get fk_cX12_tested_0 7 rfl)
  by_cases c_5 : letter = (110 : Int32)
  · refine lv_lookup (off := 74) (tgt := 75) hx hb (dk_get dk_cX12_tested_0 0 rfl) (by decide) (by rw [c_5]; decide) (by decide) ?_
    refine lv_aload_n hx hb (fk_get fk_cX12_tested_0 18 rfl) rfl (lv_at hl 0 rfl) ?_
    refine lv_iload_n hx hb (fk_get fk_cX12_tested_0 19 rfl) rfl (lv_at hl 1 rfl) ?_
    refine lv_iconst (v := 5) hx hb (fk_get fk_cX12_tested_0 20 rfl) (by decide) ?_
    refine vp_callSi (W.runV (As := [.int (c), .int (5)]) (rest := []) ⟨hx, hb, hml, hown, hT⟩ (c_of0 l G ad S s.heap.size (c) (5) (((12 * j) + 5)) (n_add (n_mul (rfl) (ej)) (rfl)) (by omega)) (tV 2 hT m6_119 m6_121 mp_34 m1_17 m6_122 rfl rfl (by decide +kernel) ⟨Nat.le_of_ble_eq_true rfl, Nat.le_of_ble_eq_true rfl⟩) ⟨PcW_blind, va_recv hK hP (ci := 14) (q0 := 0) rfl (ix_at (by decide) (cR_0 G ad S)), PcW_of hP hK hD _⟩ rfl rfl hl.1 rfl (lv_room (Nat.le_of_ble_eq_true rfl)) (fk_get fk_cX12_tested_0 21 rfl) ⟨Nat.zero_le _, Nat.zero_le _⟩) (fun r_6 hw_7 => ?_)
    try dsimp only at hw_7
    subst hQ
    have hpost : True := by
      trivial
    exact W.iret (v := r_6) hx hb hr (fun t_ ht_ hW_ => ⟨r_6, rfl, hpost, ht_⟩) (fun q h => by cases h) (fk_get fk_cX12_tested_0 22 rfl)
  by_cases c_8 : letter = (111 : Int32)
  · refine lv_lookup (off := 67) (tgt := 68) hx hb (dk_get dk_cX12_tested_0 0 rfl) (by decide) (by rw [c_8]; decide) (by decide) ?_
    refine lv_aload_n hx hb (fk_get fk_cX12_tested_0 13 rfl) rfl (lv_at hl 0 rfl) ?_
    refine lv_iload_n hx hb (fk_get fk_cX12_tested_0 14 rfl) rfl (lv_at hl 1 rfl) ?_
    refine lv_iconst (v := 4) hx hb (fk_get fk_cX12_tested_0 15 rfl) (by decide) ?_
    refine vp_callSi (W.runV (As := [.int (c), .int (4)]) (rest := []) ⟨hx, hb, hml, hown, hT⟩ (c_of0 l G ad S s.heap.size (c) (4) (((12 * j) + 4)) (n_add (n_mul (rfl) (ej)) (rfl)) (by omega)) (tV 2 hT m6_119 m6_121 mp_34 m1_17 m6_122 rfl rfl (by decide +kernel) ⟨Nat.le_of_ble_eq_true rfl, Nat.le_of_ble_eq_true rfl⟩) ⟨PcW_blind, va_recv hK hP (ci := 14) (q0 := 0) rfl (ix_at (by decide) (cR_0 G ad S)), PcW_of hP hK hD _⟩ rfl rfl hl.1 rfl (lv_room (Nat.le_of_ble_eq_true rfl)) (fk_get fk_cX12_tested_0 16 rfl) ⟨Nat.zero_le _, Nat.zero_le _⟩) (fun r_9 hw_10 => ?_)
    try dsimp only at hw_10
    subst hQ
    have hpost : True := by
      trivial
    exact W.iret (v := r_9) hx hb hr (fun t_ ht_ hW_ => ⟨r_9, rfl, hpost, ht_⟩) (fun q h => by cases h) (fk_get fk_cX12_tested_0 17 rfl)
  by_cases c_11 : letter = (116 : Int32)
  · refine lv_lookup (off := 60) (tgt := 61) hx hb (dk_get dk_cX12_tested_0 0 rfl) (by decide) (by rw [c_11]; decide) (by decide) ?_
    refine lv_aload_n hx hb (fk_get fk_cX12_tested_0 8 rfl) rfl (lv_at hl 0 rfl) ?_
    refine lv_iload_n hx hb (fk_get fk_cX12_tested_0 9 rfl) rfl (lv_at hl 1 rfl) ?_
    refine lv_iconst (v := 3) hx hb (fk_get fk_cX12_tested_0 10 rfl) (by decide) ?_
    refine vp_callSi (W.runV (As := [.int (c), .int (3)]) (rest := []) ⟨hx, hb, hml, hown, hT⟩ (c_of0 l G ad S s.heap.size (c) (3) (((12 * j) + 3)) (n_add (n_mul (rfl) (ej)) (rfl)) (by omega)) (tV 2 hT m6_119 m6_121 mp_34 m1_17 m6_122 rfl rfl (by decide +kernel) ⟨Nat.le_of_ble_eq_true rfl, Nat.le_of_ble_eq_true rfl⟩) ⟨PcW_blind, va_recv hK hP (ci := 14) (q0 := 0) rfl (ix_at (by decide) (cR_0 G ad S)), PcW_of hP hK hD _⟩ rfl rfl hl.1 rfl (lv_room (Nat.le_of_ble_eq_true rfl)) (fk_get fk_cX12_tested_0 11 rfl) ⟨Nat.zero_le _, Nat.zero_le _⟩) (fun r_12 hw_13 => ?_)
    try dsimp only at hw_13
    subst hQ
    have hpost : True := by
      trivial
    exact W.iret (v := r_12) hx hb hr (fun t_ ht_ hW_ => ⟨r_12, rfl, hpost, ht_⟩) (fun q h => by cases h) (fk_get fk_cX12_tested_0 12 rfl)
  refine lv_lookup (off := 81) (tgt := 82) hx hb (dk_get dk_cX12_tested_0 0 rfl) (by decide) (by rw [lv_osw c_1 (by decide), lv_osw c_2 (by decide), lv_osw c_5 (by decide), lv_osw c_8 (by decide), lv_osw c_11 (by decide)]; rfl) (by decide) ?_
  refine lv_aload_n hx hb (fk_get fk_cX12_tested_0 23 rfl) rfl (lv_at hl 0 rfl) ?_
  refine lv_iload_n hx hb (fk_get fk_cX12_tested_0 24 rfl) rfl (lv_at hl 1 rfl) ?_
  refine lv_bipush (v := 6) hx hb (fk_get fk_cX12_tested_0 25 rfl) (by decide) ?_
  refine vp_callSi (W.runV (As := [.int (c), .int (6)]) (rest := []) ⟨hx, hb, hml, hown, hT⟩ (c_of0 l G ad S s.heap.size (c) (6) (((12 * j) + 6)) (n_add (n_mul (rfl) (ej)) (rfl)) (by omega)) (tV 2 hT m6_119 m6_121 mp_34 m1_17 m6_122 rfl rfl (by decide +kernel) ⟨Nat.le_of_ble_eq_true rfl, Nat.le_of_ble_eq_true rfl⟩) ⟨PcW_blind, va_recv hK hP (ci := 14) (q0 := 0) rfl (ix_at (by decide) (cR_0 G ad S)), PcW_of hP hK hD _⟩ rfl rfl hl.1 rfl (lv_room (Nat.le_of_ble_eq_true rfl)) (fk_get fk_cX12_tested_0 26 rfl) ⟨Nat.zero_le _, Nat.zero_le _⟩) (fun r_14 hw_15 => ?_)
  try dsimp only at hw_15
  refine lv_bipush (v := 7) hx hb (fk_get fk_cX12_tested_0 27 rfl) (by decide) ?_
  refine lv_irem hx hb (fk_get fk_cX12_tested_0 28 rfl) (by decide) ?_
  subst hQ
  have hpost : True := by
    trivial
  exact W.iret (v := (r_14 - r_14 / 7 * 7)) hx hb hr (fun t_ ht_ hW_ => ⟨(r_14 - r_14 / 7 * 7), rfl, hpost, ht_⟩) (fun q h => by cases h) (fk_get fk_cX12_tested_0 29 rfl)
set_option maxHeartbeats 800000 in
set_option maxRecDepth 100000 in
theorem c_openLevel (l : Launch) (G : GG) (ad : Nat → Nat) (S : FS) (sz : Nat) (v : Nat) (level : Int32) (ev : level = nI v) (hv : v < 6) : Met l yX12_openLevel (Cond.code yX12_openLevel cX12_openLevel 2 none :: TBL) ({ frames := 2, cells := 0, slots := 0, locals := 64 } : Room) (PcW G (wR G ad S) sz [.ref (ad 0), .int (level)]) (va_Qv (fun (S' : FS) => HFr S S') (fun S' t => BW G (va_A (wR G ad S) sz) (wR G ad S') t) (va_A (wR G ad S) sz)) 0 0 (va_A (wR G ad S) sz) := by
  refine Met.ofW (cc := cX12_openLevel) (maxL := 2) (ret := none) (by decide) rfl ?_
  intro p e s m args below meth c₀ s₁ B hml hv
  obtain ⟨rfl, hsz, hP, hK, hD0⟩ := hv
  have hx := B.exec
  have hb := B.bytes
  have hr := B.returns
  have hT : ∀ w ∈ TBL, w.before ([.ref (ad 0), .int (level)] : List Value).toArray s = true := fun w h => atoms_spec (ws := Cond.code yX12_openLevel cX12_openLevel 2 none :: TBL) B.pre w (List.mem_cons_of_mem _ h)
  have hown : s.vm.findClass "LittleMoreModel" = some m.cls := findClass_of_methodNamed B.named
  have hlocks := B.notSynchronized
  subst hsz
  have hD := hD0.self (sz := s.heap.size)
  generalize hAe : va_A (wR G ad S) s.heap.size = A at hD ⊢
  have hA : ∀ q : Nat, s.heap.size ≤ q → A q := fun q h => by rw [← hAe]; exact Or.inr h
  have hS : va_S A s.heap s.heap [] := va_S.rf
  have hP : va_P G.1 vwCl (wR G ad S) s.heap := hP
  have hl := lv_entry ([.ref (ad 0), .int (level)]) (n := 2) (Nat.le_of_ble_eq_true rfl)
  rw [lg_entry_eq]
  generalize (lg_sl ([.ref (ad 0), .int (level)]) ++ List.replicate (2 - (lg_sl ([.ref (ad 0), .int (level)])).length) Slot.unset).toArray = ls at hl ⊢
  have hl : lv_has ls 2 [(0, .ref (ad 0)), (1, .int (level))] := hl
  refine W_abs (fun Q hQ => ?_)
  generalize ([.ref (ad 0), .int (level)] : List Value).toArray = args at hT hQ ⊢
  refine lv_aload_n hx hb (fk_get fk_cX12_openLevel_0 0 rfl) rfl (lv_at hl 0 rfl) ?_
  refine va_get (D := G.1) (ci := 14) (v := .ref (ad 14)) (C := RX12) (T := TX12) (N := 49) hx hb hT inX12 hown hK hP 0 (ix_at (by decide) (cR_0 G ad S)) rfl 30 (by decide) (hT _ m5_131) (fun _ h9 => h9) rfl (fk_get fk_cX12_openLevel_0 1 rfl) ?_
  refine lv_iload_n hx hb (fk_get fk_cX12_openLevel_0 2 rfl) rfl (lv_at hl 1 rfl) ?_
  refine lv_iconst (v := 0) hx hb (fk_get fk_cX12_openLevel_0 3 rfl) (by decide) ?_
  refine r_zast hx hb hK hP hD hS 14 3 (ix_at (by decide) (cR_ors G ad S)) rfl (v) (ev) (by omega) (by decide) (Or.inl rfl) (fk_get fk_cX12_openLevel_0 4 rfl) (fun H locs hP hD hS => ?_)
  rw [pR_A G ad S (by decide) (by decide) (by decide) (cR_ors G ad S) (upd (fA S 14) (v) (0))] at hP hD
  refine lv_aload_n hx hb (fk_get fk_cX12_openLevel_0 5 rfl) rfl (lv_at hl 0 rfl) ?_
  refine va_get (D := G.1) (ci := 14) (v := .ref (ad 15)) (C := RX12) (T := TX12) (N := 49) hx hb hT inX12 hown hK hP 0 (ix_at (by decide) (cR_0 G ad (setA S 14 (upd (fA S 14) (v) (0))))) rfl 31 (by decide) (hT _ m5_132) (fun _ h9 => h9) rfl (fk_get fk_cX12_openLevel_0 6 rfl) ?_
  refine lv_iload_n hx hb (fk_get fk_cX12_openLevel_0 7 rfl) rfl (lv_at hl 1 rfl) ?_
  refine lv_iconst (v := 1) hx hb (fk_get fk_cX12_openLevel_0 8 rfl) (by decide) ?_
  refine r_zast hx hb hK hP hD hS 15 3 (ix_at (by decide) (cR_ands G ad (setA S 14 (upd (fA S 14) (v) (0))))) rfl (v) (ev) (by omega) (by decide) (Or.inr rfl) (fk_get fk_cX12_openLevel_0 9 rfl) (fun H locs hP hD hS => ?_)
  rw [pR_A G ad (setA S 14 (upd (fA S 14) (v) (0))) (by decide) (by decide) (by decide) (cR_ands G ad (setA S 14 (upd (fA S 14) (v) (0)))) (upd (fA (setA S 14 (upd (fA S 14) (v) (0))) 15) (v) (1))] at hP hD
  refine lv_aload_n hx hb (fk_get fk_cX12_openLevel_0 10 rfl) rfl (lv_at hl 0 rfl) ?_
  refine va_get (D := G.1) (ci := 14) (v := .ref (ad 16)) (C := RX12) (T := TX12) (N := 49) hx hb hT inX12 hown hK hP 0 (ix_at (by decide) (cR_0 G ad (setA (setA S 14 (upd (fA S 14) (v) (0))) 15 (upd (fA (setA S 14 (upd (fA S 14) (v) (0))) 15) (v) (1))))) rfl 32 (by decide) (hT _ m5_133) (fun _ h9 => h9) rfl (fk_get fk_cX12_openLevel_0 11 rfl) ?_
  refine lv_iload_n hx hb (fk_get fk_cX12_openLevel_0 12 rfl) rfl (lv_at hl 1 rfl) ?_
  refine lv_iconst (v := 0) hx hb (fk_get fk_cX12_openLevel_0 13 rfl) (by decide) ?_
  refine r_zast hx hb hK hP hD hS 16 3 (ix_at (by decide) (cR_turns G ad (setA (setA S 14 (upd (fA S 14) (v) (0))) 15 (upd (fA (setA S 14 (upd (fA S 14) (v) (0))) 15) (v) (1))))) rfl (v) (ev) (by omega) (by decide) (Or.inl rfl) (fk_get fk_cX12_openLevel_0 14 rfl) (fun H locs hP hD hS => ?_)
  rw [pR_A G ad (setA (setA S 14 (upd (fA S 14) (v) (0))) 15 (upd (fA (setA S 14 (upd (fA S 14) (v) (0))) 15) (v) (1))) (by decide) (by decide) (by decide) (cR_turns G ad (setA (setA S 14 (upd (fA S 14) (v) (0))) 15 (upd (fA (setA S 14 (upd (fA S 14) (v) (0))) 15) (v) (1)))) (upd (fA (setA (setA S 14 (upd (fA S 14) (v) (0))) 15 (upd (fA (setA S 14 (upd (fA S 14) (v) (0))) 15) (v) (1))) 16) (v) (0))] at hP hD
  subst hQ
  have hpost : HFr S (setA (setA (setA S 14 (upd (fA S 14) (v) (0))) 15 (upd (fA (setA S 14 (upd (fA S 14) (v) (0))) 15) (v) (1))) 16 (upd (fA (setA (setA S 14 (upd (fA S 14) (v) (0))) 15 (upd (fA (setA S 14 (upd (fA S 14) (v) (0))) 15) (v) (1))) 16) (v) (0))) := by
    exact (((HFr.rf S).setA (by decide) _).setA (by decide) _).setA (by decide) _
  exact W.vret hx hb hr (fun t_ ht_ hW_ => ⟨⟨(setA (setA (setA S 14 (upd (fA S 14) (v) (0))) 15 (upd (fA (setA S 14 (upd (fA S 14) (v) (0))) 15) (v) (1))) 16 (upd (fA (setA (setA S 14 (upd (fA S 14) (v) (0))) 15 (upd (fA (setA S 14 (upd (fA S 14) (v) (0))) 15) (v) (1))) 16) (v) (0))), rfl, hpost, by rw [ht_]; exact hP, va_K.moved hW_.alike hK, hD⟩, hS.F ht_⟩) hS.2.2 (fk_get fk_cX12_openLevel_0 15 rfl)
set_option maxHeartbeats 800000 in
set_option maxRecDepth 100000 in
theorem c_factorIs (l : Launch) (G : GG) (ad : Nat → Nat) (S : FS) (sz : Nat) (v : Nat) (level value : Int32) (ev : level = nI v) (hv : v < 6) : Met l yX12_factorIs (Cond.code yX12_factorIs cX12_factorIs 3 none :: TBL) ({ frames := 2, cells := 0, slots := 0, locals := 64 } : Room) (PcW G (wR G ad S) sz [.ref (ad 0), .int (level), .int (value)]) (va_Qv (fun (S' : FS) => HFr S S') (fun S' t => BW G (va_A (wR G ad S) sz) (wR G ad S') t) (va_A (wR G ad S) sz)) 0 0 (va_A (wR G ad S) sz) := by
  refine Met.ofW (cc := cX12_factorIs) (maxL := 3) (ret := none) (by decide) rfl ?_
  intro p e s m args below meth c₀ s₁ B hml hv
  obtain ⟨rfl, hsz, hP, hK, hD0⟩ := hv
  have hx := B.exec
  have hb := B.bytes
  have hr := B.returns
  have hT : ∀ w ∈ TBL, w.before ([.ref (ad 0), .int (level), .int (value)] : List Value).toArray s = true := fun w h => atoms_spec (ws := Cond.code yX12_factorIs cX12_factorIs 3 none :: TBL) B.pre w (List.mem_cons_of_mem _ h)
  have hown : s.vm.findClass "LittleMoreModel" = some m.cls := findClass_of_methodNamed B.named
  have hlocks := B.notSynchronized
  subst hsz
  have hD := hD0.self (sz := s.heap.size)
  generalize hAe : va_A (wR G ad S) s.heap.size = A at hD ⊢
  have hA : ∀ q : Nat, s.heap.size ≤ q → A q := fun q h => by rw [← hAe]; exact Or.inr h
  have hS : va_S A s.heap s.heap [] := va_S.rf
  have hP : va_P G.1 vwCl (wR G ad S) s.heap := hP
  have hl := lv_entry ([.ref (ad 0), .int (level), .int (value)]) (n := 3) (Nat.le_of_ble_eq_true rfl)
  rw [lg_entry_eq]
  generalize (lg_sl ([.ref (ad 0), .int (level), .int (value)]) ++ List.replicate (3 - (lg_sl ([.ref (ad 0), .int (level), .int (value)])).length) Slot.unset).toArray = ls at hl ⊢
  have hl : lv_has ls 3 [(0, .ref (ad 0)), (1, .int (level)), (2, .int (value))] := hl
  refine W_abs (fun Q hQ => ?_)
  generalize ([.ref (ad 0), .int (level), .int (value)] : List Value).toArray = args at hT hQ ⊢
  refine lv_aload_n hx hb (fk_get fk_cX12_factorIs_0 0 rfl) rfl (lv_at hl 0 rfl) ?_
  refine va_get (D := G.1) (ci := 14) (v := .ref (ad 15)) (C := RX12) (T := TX12) (N := 49) hx hb hT inX12 hown hK hP 0 (ix_at (by decide) (cR_0 G ad S)) rfl 31 (by decide) (hT _ m5_132) (fun _ h9 => h9) rfl (fk_get fk_cX12_factorIs_0 1 rfl) ?_
  refine lv_iload_n hx hb (fk_get fk_cX12_factorIs_0 2 rfl) rfl (lv_at hl 1 rfl) ?_
  refine lv_aload_n hx hb (fk_get fk_cX12_factorIs_0 3 rfl) rfl (lv_at hl 0 rfl) ?_
  refine va_get (D := G.1) (ci := 14) (v := .ref (ad 15)) (C := RX12) (T := TX12) (N := 49) hx hb hT inX12 hown hK hP 0 (ix_at (by decide) (cR_0 G ad S)) rfl 31 (by decide) (hT _ m5_132) (fun _ h9 => h9) rfl (fk_get fk_cX12_factorIs_0 4 rfl) ?_
  refine lv_iload_n hx hb (fk_get fk_cX12_factorIs_0 5 rfl) rfl (lv_at hl 1 rfl) ?_
  refine r_zald (f := fA S 15) hx hb hK hP 15 3 (ix_at (by decide) (cR_ands G ad S)) rfl (v) (ev) (by omega) (by decide) (fk_get fk_cX12_factorIs_0 6 rfl) ?_
  refine lv_if_eq (tgt := 28) hx hb (fk_get fk_cX12_factorIs_0 7 rfl) (by decide) (fun c_1 => ?_) (fun c_1 => ?_)
  · refine lv_iconst (v := 0) hx hb (fk_get fk_cX12_factorIs_0 16 rfl) (by decide) ?_
    refine r_zast hx hb hK hP hD hS 15 3 (ix_at (by decide) (cR_ands G ad S)) rfl (v) (ev) (by omega) (by decide) (Or.inl rfl) (fk_get fk_cX12_factorIs_0 17 rfl) (fun H locs hP hD hS => ?_)
    rw [pR_A G ad S (by decide) (by decide) (by decide) (cR_ands G ad S) (upd (fA S 15) (v) (0))] at hP hD
    refine lv_aload_n hx hb (fk_get fk_cX12_factorIs_0 18 rfl) rfl (lv_at hl 0 rfl) ?_
    refine va_get (D := G.1) (ci := 14) (v := .ref (ad 16)) (C := RX12) (T := TX12) (N := 49) hx hb hT inX12 hown hK hP 0 (ix_at (by decide) (cR_0 G ad (setA S 15 (upd (fA S 15) (v) (0))))) rfl 32 (by decide) (hT _ m5_133) (fun _ h9 => h9) rfl (fk_get fk_cX12_factorIs_0 19 rfl) ?_
    refine lv_iload_n hx hb (fk_get fk_cX12_factorIs_0 20 rfl) rfl (lv_at hl 1 rfl) ?_
    refine lv_iconst (v := 0) hx hb (fk_get fk_cX12_factorIs_0 21 rfl) (by decide) ?_
    refine r_zast hx hb hK hP hD hS 16 3 (ix_at (by decide) (cR_turns G ad (setA S 15 (upd (fA S 15) (v) (0))))) rfl (v) (ev) (by omega) (by decide) (Or.inl rfl) (fk_get fk_cX12_factorIs_0 22 rfl) (fun H locs hP hD hS => ?_)
    rw [pR_A G ad (setA S 15 (upd (fA S 15) (v) (0))) (by decide) (by decide) (by decide) (cR_turns G ad (setA S 15 (upd (fA S 15) (v) (0)))) (upd (fA (setA S 15 (upd (fA S 15) (v) (0))) 16) (v) (0))] at hP hD
    subst hQ
    have hpost : HFr S (setA (setA S 15 (upd (fA S 15) (v) (0))) 16 (upd (fA (setA S 15 (upd (fA S 15) (v) (0))) 16) (v) (0))) := by
      exact ((HFr.rf S).setA (by decide) _).setA (by decide) _
    exact W.vret hx hb hr (fun t_ ht_ hW_ => ⟨⟨(setA (setA S 15 (upd (fA S 15) (v) (0))) 16 (upd (fA (setA S 15 (upd (fA S 15) (v) (0))) 16) (v) (0))), rfl, hpost, by rw [ht_]; exact hP, va_K.moved hW_.alike hK, hD⟩, hS.F ht_⟩) hS.2.2 (fk_get fk_cX12_factorIs_0 23 rfl)
  refine lv_iload_n hx hb (fk_get fk_cX12_factorIs_0 8 rfl) rfl (lv_at hl 2 rfl) ?_
  refine lv_aload_n hx hb (fk_get fk_cX12_factorIs_0 9 rfl) rfl (lv_at hl 0 rfl) ?_
  refine va_get (D := G.1) (ci := 14) (v := .ref (ad 16)) (C := RX12) (T := TX12) (N := 49) hx hb hT inX12 hown hK hP 0 (ix_at (by decide) (cR_0 G ad S)) rfl 32 (by decide) (hT _ m5_133) (fun _ h9 => h9) rfl (fk_get fk_cX12_factorIs_0 10 rfl) ?_
  refine lv_iload_n hx hb (fk_get fk_cX12_factorIs_0 11 rfl) rfl (lv_at hl 1 rfl) ?_
  refine r_zald (f := fA S 16) hx hb hK hP 16 3 (ix_at (by decide) (cR_turns G ad S)) rfl (v) (ev) (by omega) (by decide) (fk_get fk_cX12_factorIs_0 12 rfl) ?_
  refine lv_icmp_eq (tgt := 28) hx hb (fk_get fk_cX12_factorIs_0 13 rfl) (by decide) (fun c_2 => ?_) (fun c_2 => ?_)
  · refine lv_iconst (v := 0) hx hb (fk_get fk_cX12_factorIs_0 16 rfl) (by decide) ?_
    refine r_zast hx hb hK hP hD hS 15 3 (ix_at (by decide) (cR_ands G ad S)) rfl (v) (ev) (by omega) (by decide) (Or.inl rfl) (fk_get fk_cX12_factorIs_0 17 rfl) (fun H locs hP hD hS => ?_)
    rw [pR_A G ad S (by decide) (by decide) (by decide) (cR_ands G ad S) (upd (fA S 15) (v) (0))] at hP hD
    refine lv_aload_n hx hb (fk_get fk_cX12_factorIs_0 18 rfl) rfl (lv_at hl 0 rfl) ?_
    refine va_get (D := G.1) (ci := 14) (v := .ref (ad 16)) (C := RX12) (T := TX12) (N := 49) hx hb hT inX12 hown hK hP 0 (ix_at (by decide) (cR_0 G ad (setA S 15 (upd (fA S 15) (v) (0))))) rfl 32 (by decide) (hT _ m5_133) (fun _ h9 => h9) rfl (fk_get fk_cX12_factorIs_0 19 rfl) ?_
    refine lv_iload_n hx hb (fk_get fk_cX12_factorIs_0 20 rfl) rfl (lv_at hl 1 rfl) ?_
    refine lv_iconst (v := 0) hx hb (fk_get fk_cX12_factorIs_0 21 rfl) (by decide) ?_
    refine r_zast hx hb hK hP hD hS 16 3 (ix_at (by decide) (cR_turns G ad (setA S 15 (upd (fA S 15) (v) (0))))) rfl (v) (ev) (by omega) (by decide) (Or.inl rfl) (fk_get fk_cX12_factorIs_0 22 rfl) (fun H locs hP hD hS => ?_)
    rw [pR_A G ad (setA S 15 (upd (fA S 15) (v) (0))) (by decide) (by decide) (by decide) (cR_turns G ad (setA S 15 (upd (fA S 15) (v) (0)))) (upd (fA (setA S 15 (upd (fA S 15) (v) (0))) 16) (v) (0))] at hP hD
    subst hQ
    have hpost : HFr S (setA (setA S 15 (upd (fA S 15) (v) (0))) 16 (upd (fA (setA S 15 (upd (fA S 15) (v) (0))) 16) (v) (0))) := by
      exact ((HFr.rf S).setA (by decide) _).setA (by decide) _
    exact W.vret hx hb hr (fun t_ ht_ hW_ => ⟨⟨(setA (setA S 15 (upd (fA S 15) (v) (0))) 16 (upd (fA (setA S 15 (upd (fA S 15) (v) (0))) 16) (v) (0))), rfl, hpost, by rw [ht_]; exact hP, va_K.moved hW_.alike hK, hD⟩, hS.F ht_⟩) hS.2.2 (fk_get fk_cX12_factorIs_0 23 rfl)
  refine lv_iconst (v := 1) hx hb (fk_get fk_cX12_factorIs_0 14 rfl) (by decide) ?_
  refine lv_goto (tgt := 29) hx hb (fk_get fk_cX12_factorIs_0 15 rfl) (by decide) ?_
  refine r_zast hx hb hK hP hD hS 15 3 (ix_at (by decide) (cR_ands G ad S)) rfl (v) (ev) (by omega) (by decide) (Or.inr rfl) (fk_get fk_cX12_factorIs_0 17 rfl) (fun H locs hP hD hS => ?_)
  rw [pR_A G ad S (by decide) (by decide) (by decide) (cR_ands G ad S) (upd (fA S 15) (v) (1))] at hP hD
  refine lv_aload_n hx hb (fk_get fk_cX12_factorIs_0 18 rfl) rfl (lv_at hl 0 rfl) ?_
  refine va_get (D := G.1) (ci := 14) (v := .ref (ad 16)) (C := RX12) (T := TX12) (N := 49) hx hb hT inX12 hown hK hP 0 (ix_at (by decide) (cR_0 G ad (setA S 15 (upd (fA S 15) (v) (1))))) rfl 32 (by decide) (hT _ m5_133) (fun _ h9 => h9) rfl (fk_get fk_cX12_factorIs_0 19 rfl) ?_
  refine lv_iload_n hx hb (fk_get fk_cX12_factorIs_0 20 rfl) rfl (lv_at hl 1 rfl) ?_
  refine lv_iconst (v := 0) hx hb (fk_get fk_cX12_factorIs_0 21 rfl) (by decide) ?_
  refine r_zast hx hb hK hP hD hS 16 3 (ix_at (by decide) (cR_turns G ad (setA S 15 (upd (fA S 15) (v) (1))))) rfl (v) (ev) (by omega) (by decide) (Or.inl rfl) (fk_get fk_cX12_factorIs_0 22 rfl) (fun H locs hP hD hS => ?_)
  rw [pR_A G ad (setA S 15 (upd (fA S 15) (v) (1))) (by decide) (by decide) (by decide) (cR_turns G ad (setA S 15 (upd (fA S 15) (v) (1)))) (upd (fA (setA S 15 (upd (fA S 15) (v) (1))) 16) (v) (0))] at hP hD
  subst hQ
  have hpost : HFr S (setA (setA S 15 (upd (fA S 15) (v) (1))) 16 (upd (fA (setA S 15 (upd (fA S 15) (v) (1))) 16) (v) (0))) := by
    exact ((HFr.rf S).setA (by decide) _).setA (by decide) _
  exact W.vret hx hb hr (fun t_ ht_ hW_ => ⟨⟨(setA (setA S 15 (upd (fA S 15) (v) (1))) 16 (upd (fA (setA S 15 (upd (fA S 15) (v) (1))) 16) (v) (0))), rfl, hpost, by rw [ht_]; exact hP, va_K.moved hW_.alike hK, hD⟩, hS.F ht_⟩) hS.2.2 (fk_get fk_cX12_factorIs_0 23 rfl)
set_option maxHeartbeats 800000 in
set_option maxRecDepth 100000 in
theorem c_holds (l : Launch) (G : GG) (ad : Nat → Nat) (S : FS) (sz : Nat) (h z a j : Nat) (c : Int32) (hh : fF S 0 3 = nI h) (hh6 : h < 6) (h8 : fA S 8 h = nI z) (hz1 : z ≤ 100) (hOK : OKs (fun p => fA S 7 (100 * h + p)) z a) (ha : a ≤ 100) (ej : c = nI j) (hj : j < 6) : Met l yX12_holds (Cond.code yX12_holds cX12_holds 9 (some .boolean) :: TBL) ({ frames := 4, cells := 0, slots := 0, locals := 116 } : Room) (PcW G (wR G ad S) sz [.ref (ad 0), .int (c), .int ((nI a))]) (va_Qi (fun (r : Int32) (S' : FS) => HFr S S' ∧ (r = 0 ∨ r = 1)) (fun S' t => BW G (va_A (wR G ad S) sz) (wR G ad S') t) (va_A (wR G ad S) sz)) 0 0 (va_A (wR G ad S) sz) := by
  refine Met.ofW (cc := cX12_holds) (maxL := 9) (ret := (some .boolean)) (by decide) rfl ?_
  intro p e s m args below meth c₀ s₁ B hml hv
  obtain ⟨rfl, hsz, hP, hK, hD0⟩ := hv
  have hx := B.exec
  have hb := B.bytes
  have hr := B.returns
  have hT : ∀ w ∈ TBL, w.before ([.ref (ad 0), .int (c), .int ((nI a))] : List Value).toArray s = true := fun w h => atoms_spec (ws := Cond.code yX12_holds cX12_holds 9 (some .boolean) :: TBL) B.pre w (List.mem_cons_of_mem _ h)
  have hown : s.vm.findClass "LittleMoreModel" = some m.cls := findClass_of_methodNamed B.named
  have hlocks := B.notSynchronized
  subst hsz
  have hD := hD0.self (sz := s.heap.size)
  generalize hAe : va_A (wR G ad S) s.heap.size = A at hD ⊢
  have hA : ∀ q : Nat, s.heap.size ≤ q → A q := fun q h => by rw [← hAe]; exact Or.inr h
  have hS : va_S A s.heap s.heap [] := va_S.rf
  have hP : va_P G.1 vwCl (wR G ad S) s.heap := hP
  have hl := lv_entry ([.ref (ad 0), .int (c), .int ((nI a))]) (n := 9) (Nat.le_of_ble_eq_true rfl)
  rw [lg_entry_eq]
  generalize (lg_sl ([.ref (ad 0), .int (c), .int ((nI a))]) ++ List.replicate (9 - (lg_sl ([.ref (ad 0), .int (c), .int ((nI a))])).length) Slot.unset).toArray = ls at hl ⊢
  have hl : lv_has ls 9 [(0, .ref (ad 0)), (1, .int (c)), (2, .int ((nI a)))] := hl
  refine W_abs (fun Q hQ => ?_)
  generalize ([.ref (ad 0), .int (c), .int ((nI a))] : List Value).toArray = args at hT hQ ⊢
  refine lv_iconst (v := 0) hx hb (fk_get fk_cX12_holds_0 0 rfl) (by decide) ?_
  refine lv_istore_n (lv' := [(3, .int (0)), (0, .ref (ad 0)), (1, .int (c)), (2, .int ((nI a)))]) hx hb (fk_get fk_cX12_holds_0 1 rfl) rfl hl (by decide) rfl (fun ls hl => ?_)
  refine lv_iload_n hx hb (fk_get fk_cX12_holds_0 2 rfl) rfl (lv_at hl 3 rfl) ?_
  refine lv_istore (lv' := [(4, .int ((nI a))), (3, .int (0)), (0, .ref (ad 0)), (1, .int (c)), (2, .int ((nI a)))]) hx hb (fk_get fk_cX12_holds_0 3 rfl) hl (by decide) rfl (fun ls hl => ?_)
  refine lv_aload_n hx hb (fk_get fk_cX12_holds_0 4 rfl) rfl (lv_at hl 2 rfl) ?_
  refine lv_iconst (v := 0) hx hb (fk_get fk_cX12_holds_0 5 rfl) (by decide) ?_
  have hFc := va_self hD hS hA
  refine va_callv (va_runV (As := [.int (0)]) (rest := []) ⟨hx, hb, hml, hown, hT⟩ (c_openLevel l G ad S s.heap.size (0) (0) (nI_0.symm) (by decide)) (tV 1 hT m6_127 m6_129 mp_36 m1_17 m6_130 rfl rfl (by decide +kernel) ⟨Nat.le_of_ble_eq_true rfl, Nat.le_of_ble_eq_true rfl⟩) ⟨PcW_blind, va_recv hK hP (ci := 14) (q0 := 0) rfl (ix_at (by decide) (cR_0 G ad S)), PcW_of hP hK hD _⟩ rfl rfl hl.1 rfl (lv_room (Nat.le_of_ble_eq_true rfl)) (fk_get fk_cX12_holds_0 6 rfl) ⟨Nat.zero_le _, Nat.zero_le _⟩) hS (fun q _ h => hFc q h) hFc (fun S_3 t_ H locs ht_ hvm_ hw_2 hB_ hz_ hk_ hS => ?_)
  obtain ⟨hP, -, hD1_⟩ := hB_
  rw [ht_] at hP
  have hD : va_D A (wR G ad S_3) := hD1_.weaken (fun k q _ h => hFc q.1 h)
  try dsimp only at hw_2
  have hH0 := hw_2
  have lp_4 : ∀ (fu : Nat) (n q lv : Nat) (SL : FS) (H_6 : Heap) (locs_7 : List Loc) (ls : Array Slot),  (q ≤ z + 104) → (z + 105 < q + fu) → (HFr S SL) → (itr (fun p => fA S 7 (100 * h + p)) z a n = (q, lv)) → va_P G.1 vwCl (wR G ad SL) H_6 → va_D A (wR G ad SL) → va_S A s.heap H_6 locs_7 → lv_has ls 9 [(4, .int ((nI q))), (3, .int ((nI lv))), (0, .ref (ad 0)), (1, .int (c))] → W p l e ({ frames := 4, cells := 0, slots := 0, locals := 116 } : Room) s m args below meth c₀ H_6 locs_7 0 0 Q (F0 m 10 ls []) := by
    intro fu
    induction fu with
    | zero =>
      intro n q lv SL H_6 locs_7 ls hq hf hH hI hP hD hS hl
      exact absurd hf (by omega)
    | succ fu ih =>
      intro n q lv SL H_6 locs_7 ls hq hf hH hI hP hD hS hl
      obtain ⟨hlv, h41⟩ := OKs_lv hOK hI
      refine lv_aload_n hx hb (fk_get fk_cX12_holds_0 7 rfl) rfl (lv_at hl 2 rfl) ?_
      refine lv_iload hx hb (fk_get fk_cX12_holds_0 8 rfl) (lv_at hl 0 rfl) ?_
      refine vp_callSi (W.runV (As := [.int ((nI q))]) (rest := []) ⟨hx, hb, hml, hown, hT⟩ (c_sign l G ad SL H_6.size (h) (z) (q) ((nI q)) ((hH.2.2.1 3).trans hh) (hh6) ((congrFun (hH.a (by decide)) h).trans h8) (hz1) (rfl) (by omega)) (tV 1 hT m6_131 m6_133 mp_37 m1_17 m6_134 rfl rfl (by decide +kernel) ⟨Nat.le_of_ble_eq_true rfl, Nat.le_of_ble_eq_true rfl⟩) ⟨PcW_blind, va_recv hK hP (ci := 14) (q0 := 0) rfl (ix_at (by decide) (cR_0 G ad SL)), PcW_of hP hK hD _⟩ rfl rfl hl.1 rfl (lv_room (Nat.le_of_ble_eq_true rfl)) (fk_get fk_cX12_holds_0 9 rfl) ⟨Nat.zero_le _, Nat.zero_le _⟩) (fun r_8 hw_9 => ?_)
      try dsimp only at hw_9
      rw [hH.a (i := 7) (by decide)] at hw_9
      subst hw_9
      refine lv_if_lt (tgt := 323) hx hb (fk_get fk_cX12_holds_0 10 rfl) (by decide) (fun c_10 => ?_) (fun c_10 => ?_)
      · refine lv_aload_n hx hb (fk_get fk_cX12_holds_5 4 rfl) rfl (lv_at hl 2 rfl) ?_
        refine va_get (D := G.1) (ci := 14) (v := .ref (ad 14)) (C := RX12) (T := TX12) (N := 49) hx hb hT inX12 hown hK hP 0 (ix_at (by decide) (cR_0 G ad SL)) rfl 30 (by decide) (hT _ m5_131) (fun _ h9 => h9) rfl (fk_get fk_cX12_holds_5 5 rfl) ?_
        refine lv_iconst (v := 0) hx hb (fk_get fk_cX12_holds_5 6 rfl) (by decide) ?_
        refine r_zald (f := fA SL 14) hx hb hK hP 14 3 (ix_at (by decide) (cR_ors G ad SL)) rfl (0) (rfl) (by omega) (by decide) (fk_get fk_cX12_holds_5 7 rfl) ?_
        refine lv_if_ne (tgt := 341) hx hb (fk_get fk_cX12_holds_5 8 rfl) (by decide) (fun c_11 => ?_) (fun c_11 => ?_)
        · refine lv_iconst (v := 1) hx hb (fk_get fk_cX12_holds_5 14 rfl) (by decide) ?_
          refine lv_goto (tgt := 346) hx hb (fk_get fk_cX12_holds_5 15 rfl) (by decide) ?_
          subst hQ
          have hpost : HFr S SL ∧ ((1 : Int32) = 0 ∨ (1 : Int32) = 1) := by
            exact ⟨hH, by first | exact Or.inl rfl | exact Or.inr rfl⟩
          exact W.zret (v := 1) hx hb hr rfl (fun t_ ht_ hW_ => ⟨⟨1, SL, rfl, hpost, by rw [ht_]; exact hP, va_K.moved hW_.alike hK, hD⟩, hS.F ht_⟩) hS.2.2 (fk_get fk_cX12_holds_5 17 rfl)
        refine lv_aload_n hx hb (fk_get fk_cX12_holds_5 9 rfl) rfl (lv_at hl 2 rfl) ?_
        refine va_get (D := G.1) (ci := 14) (v := .ref (ad 15)) (C := RX12) (T := TX12) (N := 49) hx hb hT inX12 hown hK hP 0 (ix_at (by decide) (cR_0 G ad SL)) rfl 31 (by decide) (hT _ m5_132) (fun _ h9 => h9) rfl (fk_get fk_cX12_holds_5 10 rfl) ?_
        refine lv_iconst (v := 0) hx hb (fk_get fk_cX12_holds_5 11 rfl) (by decide) ?_
        refine r_zald (f := fA SL 15) hx hb hK hP 15 3 (ix_at (by decide) (cR_ands G ad SL)) rfl (0) (rfl) (by omega) (by decide) (fk_get fk_cX12_holds_5 12 rfl) ?_
        refine lv_if_eq (tgt := 345) hx hb (fk_get fk_cX12_holds_5 13 rfl) (by decide) (fun c_12 => ?_) (fun c_12 => ?_)
        · refine lv_iconst (v := 0) hx hb (fk_get fk_cX12_holds_5 16 rfl) (by decide) ?_
          subst hQ
          have hpost : HFr S SL ∧ ((0 : Int32) = 0 ∨ (0 : Int32) = 1) := by
            exact ⟨hH, by first | exact Or.inl rfl | exact Or.inr rfl⟩
          exact W.zret (v := 0) hx hb hr rfl (fun t_ ht_ hW_ => ⟨⟨0, SL, rfl, hpost, by rw [ht_]; exact hP, va_K.moved hW_.alike hK, hD⟩, hS.F ht_⟩) hS.2.2 (fk_get fk_cX12_holds_5 17 rfl)
        refine lv_iconst (v := 1) hx hb (fk_get fk_cX12_holds_5 14 rfl) (by decide) ?_
        refine lv_goto (tgt := 346) hx hb (fk_get fk_cX12_holds_5 15 rfl) (by decide) ?_
        subst hQ
        have hpost : HFr S SL ∧ ((1 : Int32) = 0 ∨ (1 : Int32) = 1) := by
          exact ⟨hH, by first | exact Or.inl rfl | exact Or.inr rfl⟩
        exact W.zret (v := 1) hx hb hr rfl (fun t_ ht_ hW_ => ⟨⟨1, SL, rfl, hpost, by rw [ht_]; exact hP, va_K.moved hW_.alike hK, hD⟩, hS.F ht_⟩) hS.2.2 (fk_get fk_cX12_holds_5 17 rfl)
      have hlt := hr_pos c_10
      refine lv_aload_n hx hb (fk_get fk_cX12_holds_0 11 rfl) rfl (lv_at hl 2 rfl) ?_
      refine lv_iload hx hb (fk_get fk_cX12_holds_0 12 rfl) (lv_at hl 0 rfl) ?_
      refine vp_callSi (W.runV (As := [.int ((nI q))]) (rest := []) ⟨hx, hb, hml, hown, hT⟩ (c_sign l G ad SL H_6.size (h) (z) (q) ((nI q)) ((hH.2.2.1 3).trans hh) (hh6) ((congrFun (hH.a (by decide)) h).trans h8) (hz1) (rfl) (by omega)) (tV 1 hT m6_131 m6_133 mp_37 m1_17 m6_134 rfl rfl (by decide +kernel) ⟨Nat.le_of_ble_eq_true rfl, Nat.le_of_ble_eq_true rfl⟩) ⟨PcW_blind, va_recv hK hP (ci := 14) (q0 := 0) rfl (ix_at (by decide) (cR_0 G ad SL)), PcW_of hP hK hD _⟩ rfl rfl hl.1 rfl (lv_room (Nat.le_of_ble_eq_true rfl)) (fk_get fk_cX12_holds_0 13 rfl) ⟨Nat.zero_le _, Nat.zero_le _⟩) (fun r_13 hw_14 => ?_)
      try dsimp only at hw_14
      rw [hH.a (i := 7) (by decide)] at hw_14
      subst hw_14
      refine lv_bipush (v := 59) hx hb (fk_get fk_cX12_holds_0 14 rfl) (by decide) ?_
      refine lv_icmp_eq (tgt := 323) hx hb (fk_get fk_cX12_holds_0 15 rfl) (by decide) (fun c_15 => ?_) (fun c_15 => ?_)
      · refine lv_aload_n hx hb (fk_get fk_cX12_holds_5 4 rfl) rfl (lv_at hl 2 rfl) ?_
        refine va_get (D := G.1) (ci := 14) (v := .ref (ad 14)) (C := RX12) (T := TX12) (N := 49) hx hb hT inX12 hown hK hP 0 (ix_at (by decide) (cR_0 G ad SL)) rfl 30 (by decide) (hT _ m5_131) (fun _ h9 => h9) rfl (fk_get fk_cX12_holds_5 5 rfl) ?_
        refine lv_iconst (v := 0) hx hb (fk_get fk_cX12_holds_5 6 rfl) (by decide) ?_
        refine r_zald (f := fA SL 14) hx hb hK hP 14 3 (ix_at (by decide) (cR_ors G ad SL)) rfl (0) (rfl) (by omega) (by decide) (fk_get fk_cX12_holds_5 7 rfl) ?_
        refine lv_if_ne (tgt := 341) hx hb (fk_get fk_cX12_holds_5 8 rfl) (by decide) (fun c_16 => ?_) (fun c_16 => ?_)
        · refine lv_iconst (v := 1) hx hb (fk_get fk_cX12_holds_5 14 rfl) (by decide) ?_
          refine lv_goto (tgt := 346) hx hb (fk_get fk_cX12_holds_5 15 rfl) (by decide) ?_
          subst hQ
          have hpost : HFr S SL ∧ ((1 : Int32) = 0 ∨ (1 : Int32) = 1) := by
            exact ⟨hH, by first | exact Or.inl rfl | exact Or.inr rfl⟩
          exact W.zret (v := 1) hx hb hr rfl (fun t_ ht_ hW_ => ⟨⟨1, SL, rfl, hpost, by rw [ht_]; exact hP, va_K.moved hW_.alike hK, hD⟩, hS.F ht_⟩) hS.2.2 (fk_get fk_cX12_holds_5 17 rfl)
        refine lv_aload_n hx hb (fk_get fk_cX12_holds_5 9 rfl) rfl (lv_at hl 2 rfl) ?_
        refine va_get (D := G.1) (ci := 14) (v := .ref (ad 15)) (C := RX12) (T := TX12) (N := 49) hx hb hT inX12 hown hK hP 0 (ix_at (by decide) (cR_0 G ad SL)) rfl 31 (by decide) (hT _ m5_132) (fun _ h9 => h9) rfl (fk_get fk_cX12_holds_5 10 rfl) ?_
        refine lv_iconst (v := 0) hx hb (fk_get fk_cX12_holds_5 11 rfl) (by decide) ?_
        refine r_zald (f := fA SL 15) hx hb hK hP 15 3 (ix_at (by decide) (cR_ands G ad SL)) rfl (0) (rfl) (by omega) (by decide) (fk_get fk_cX12_holds_5 12 rfl) ?_
        refine lv_if_eq (tgt := 345) hx hb (fk_get fk_cX12_holds_5 13 rfl) (by decide) (fun c_17 => ?_) (fun c_17 => ?_)
        · refine lv_iconst (v := 0) hx hb (fk_get fk_cX12_holds_5 16 rfl) (by decide) ?_
          subst hQ
          have hpost : HFr S SL ∧ ((0 : Int32) = 0 ∨ (0 : Int32) = 1) := by
            exact ⟨hH, by first | exact Or.inl rfl | exact Or.inr rfl⟩
          exact W.zret (v := 0) hx hb hr rfl (fun t_ ht_ hW_ => ⟨⟨0, SL, rfl, hpost, by rw [ht_]; exact hP, va_K.moved hW_.alike hK, hD⟩, hS.F ht_⟩) hS.2.2 (fk_get fk_cX12_holds_5 17 rfl)
        refine lv_iconst (v := 1) hx hb (fk_get fk_cX12_holds_5 14 rfl) (by decide) ?_
        refine lv_goto (tgt := 346) hx hb (fk_get fk_cX12_holds_5 15 rfl) (by decide) ?_
        subst hQ
        have hpost : HFr S SL ∧ ((1 : Int32) = 0 ∨ (1 : Int32) = 1) := by
          exact ⟨hH, by first | exact Or.inl rfl | exact Or.inr rfl⟩
        exact W.zret (v := 1) hx hb hr rfl (fun t_ ht_ hW_ => ⟨⟨1, SL, rfl, hpost, by rw [ht_]; exact hP, va_K.moved hW_.alike hK, hD⟩, hS.F ht_⟩) hS.2.2 (fk_get fk_cX12_holds_5 17 rfl)
      refine lv_aload_n hx hb (fk_get fk_cX12_holds_0 16 rfl) rfl (lv_at hl 2 rfl) ?_
      refine lv_iload hx hb (fk_get fk_cX12_holds_0 17 rfl) (lv_at hl 0 rfl) ?_
      refine vp_callSi (W.runV (As := [.int ((nI q))]) (rest := []) ⟨hx, hb, hml, hown, hT⟩ (c_sign l G ad SL H_6.size (h) (z) (q) ((nI q)) ((hH.2.2.1 3).trans hh) (hh6) ((congrFun (hH.a (by decide)) h).trans h8) (hz1) (rfl) (by omega)) (tV 1 hT m6_131 m6_133 mp_37 m1_17 m6_134 rfl rfl (by decide +kernel) ⟨Nat.le_of_ble_eq_true rfl, Nat.le_of_ble_eq_true rfl⟩) ⟨PcW_blind, va_recv hK hP (ci := 14) (q0 := 0) rfl (ix_at (by decide) (cR_0 G ad SL)), PcW_of hP hK hD _⟩ rfl rfl hl.1 rfl (lv_room (Nat.le_of_ble_eq_true rfl)) (fk_get fk_cX12_holds_0 18 rfl) ⟨Nat.zero_le _, Nat.zero_le _⟩) (fun r_18 hw_19 => ?_)
      try dsimp only at hw_19
      rw [hH.a (i := 7) (by decide)] at hw_19
      subst hw_19
      refine lv_istore (lv' := [(5, .int ((hrS (fun p => fA S 7 (100 * h + p)) z (q)))), (4, .int ((nI q))), (3, .int ((nI lv))), (0, .ref (ad 0)), (1, .int (c))]) hx hb (fk_get fk_cX12_holds_0 19 rfl) hl (by decide) rfl (fun ls hl => ?_)
      refine lv_iinc (v := (nI (q + 1))) (lv' := [(4, .int ((nI (q + 1)))), (5, .int ((hrS (fun p => fA S 7 (100 * h + p)) z (q)))), (3, .int ((nI lv))), (0, .ref (ad 0)), (1, .int (c))]) hx hb (fk_get fk_cX12_holds_0 20 rfl) hl (k := 1) rfl ((nI_1 q)) (by decide) rfl (fun ls hl => ?_)
      refine lv_iload hx hb (fk_get fk_cX12_holds_0 21 rfl) (lv_at hl 1 rfl) ?_
      refine lv_bipush (v := 33) hx hb (fk_get fk_cX12_holds_0 22 rfl) (by decide) ?_
      refine lv_icmp_ne (tgt := 71) hx hb (fk_get fk_cX12_holds_0 23 rfl) (by decide) (fun c_20 => ?_) (fun c_20 => ?_)
      · refine lv_iload hx hb (fk_get fk_cX12_holds_1 5 rfl) (lv_at hl 1 rfl) ?_
        refine lv_bipush (v := 40) hx hb (fk_get fk_cX12_holds_1 6 rfl) (by decide) ?_
        refine lv_icmp_ne (tgt := 89) hx hb (fk_get fk_cX12_holds_1 7 rfl) (by decide) (fun c_21 => ?_) (fun c_21 => ?_)
        · refine lv_iload hx hb (fk_get fk_cX12_holds_1 13 rfl) (lv_at hl 1 rfl) ?_
          refine lv_bipush (v := 41) hx hb (fk_get fk_cX12_holds_1 14 rfl) (by decide) ?_
          refine lv_icmp_ne (tgt := 134) hx hb (fk_get fk_cX12_holds_1 15 rfl) (by decide) (fun c_22 => ?_) (fun c_22 => ?_)
          · refine lv_iload hx hb (fk_get fk_cX12_holds_2 4 rfl) (lv_at hl 1 rfl) ?_
            refine lv_bipush (v := 124) hx hb (fk_get fk_cX12_holds_2 5 rfl) (by decide) ?_
            refine lv_icmp_ne (tgt := 180) hx hb (fk_get fk_cX12_holds_2 6 rfl) (by decide) (fun c_23 => ?_) (fun c_23 => ?_)
            · refine lv_iload hx hb (fk_get fk_cX12_holds_2 30 rfl) (lv_at hl 1 rfl) ?_
              refine lv_bipush (v := 38) hx hb (fk_get fk_cX12_holds_2 31 rfl) (by decide) ?_
              refine lv_icmp_eq (tgt := 320) hx hb (fk_get fk_cX12_holds_3 0 rfl) (by decide) (fun c_24 => ?_) (fun c_24 => ?_)
              · refine lv_goto (tgt := 10) hx hb (fk_get fk_cX12_holds_5 3 rfl) (by decide) ?_
                exact ih (n + 1) (q + 1) (lv) (SL) _ _ ls (by omega) (by omega) ((by first | exact hH2 | exact hH.setA (by decide) _ | exact (hH.setA (by decide) _).setA (by decide) _ | exact hH)) ((by first | exact it_33 hI hlt (by assumption) | exact it_40 hI hlt (by assumption) | exact it_41 hI hlt (by assumption) | exact it_124 hI hlt (by assumption) | exact it_38 hI hlt (by assumption) | exact hI2)) hP hD hS (lv_sub hl [0, 2, 3, 4] rfl)
              refine lv_aload_n hx hb (fk_get fk_cX12_holds_3 1 rfl) rfl (lv_at hl 3 rfl) ?_
              refine lv_iload hx hb (fk_get fk_cX12_holds_3 2 rfl) (lv_at hl 0 rfl) ?_
              refine vp_callSi (W.runV (As := [.int ((nI (q + 1)))]) (rest := []) ⟨hx, hb, hml, hown, hT⟩ (c_sign l G ad SL H_6.size (h) (z) (q + 1) ((nI (q + 1))) ((hH.2.2.1 3).trans hh) (hh6) ((congrFun (hH.a (by decide)) h).trans h8) (hz1) (rfl) (by omega)) (tV 1 hT m6_131 m6_133 mp_37 m1_17 m6_134 rfl rfl (by decide +kernel) ⟨Nat.le_of_ble_eq_true rfl, Nat.le_of_ble_eq_true rfl⟩) ⟨PcW_blind, va_recv hK hP (ci := 14) (q0 := 0) rfl (ix_at (by decide) (cR_0 G ad SL)), PcW_of hP hK hD _⟩ rfl rfl hl.1 rfl (lv_room (Nat.le_of_ble_eq_true rfl)) (fk_get fk_cX12_holds_3 3 rfl) ⟨Nat.zero_le _, Nat.zero_le _⟩) (fun r_25 hw_26 => ?_)
              try dsimp only at hw_26
              rw [hH.a (i := 7) (by decide)] at hw_26
              subst hw_26
              refine lv_istore (lv' := [(6, .int ((hrS (fun p => fA S 7 (100 * h + p)) z (q + 1)))), (4, .int ((nI (q + 1)))), (5, .int ((hrS (fun p => fA S 7 (100 * h + p)) z (q)))), (3, .int ((nI lv))), (0, .ref (ad 0)), (1, .int (c))]) hx hb (fk_get fk_cX12_holds_3 4 rfl) hl (by decide) rfl (fun ls hl => ?_)
              refine lv_aload_n hx hb (fk_get fk_cX12_holds_3 5 rfl) rfl (lv_at hl 4 rfl) ?_
              refine lv_iload hx hb (fk_get fk_cX12_holds_3 6 rfl) (lv_at hl 1 rfl) ?_
              refine lv_iconst (v := 1) hx hb (fk_get fk_cX12_holds_3 7 rfl) (by decide) ?_
              refine lv_iadd hx hb (fk_get fk_cX12_holds_3 8 rfl) ?_
              rw [show ((nI (q + 1)) + 1) = (nI (q + 1 + 1)) from (nI_1 (q + 1))]
              refine vp_callSi (W.runV (As := [.int ((nI (q + 1 + 1)))]) (rest := []) ⟨hx, hb, hml, hown, hT⟩ (c_sign l G ad SL H_6.size (h) (z) (q + 1 + 1) ((nI (q + 1 + 1))) ((hH.2.2.1 3).trans hh) (hh6) ((congrFun (hH.a (by decide)) h).trans h8) (hz1) (rfl) (by omega)) (tV 1 hT m6_131 m6_133 mp_37 m1_17 m6_134 rfl rfl (by decide +kernel) ⟨Nat.le_of_ble_eq_true rfl, Nat.le_of_ble_eq_true rfl⟩) ⟨PcW_blind, va_recv hK hP (ci := 14) (q0 := 0) rfl (ix_at (by decide) (cR_0 G ad SL)), PcW_of hP hK hD _⟩ rfl rfl hl.1 rfl (lv_room (Nat.le_of_ble_eq_true rfl)) (fk_get fk_cX12_holds_3 9 rfl) ⟨Nat.zero_le _, Nat.zero_le _⟩) (fun r_27 hw_28 => ?_)
              try dsimp only at hw_28
              rw [hH.a (i := 7) (by decide)] at hw_28
              subst hw_28
              refine lv_bipush (v := 48) hx hb (fk_get fk_cX12_holds_3 10 rfl) (by decide) ?_
              refine lv_isub hx hb (fk_get fk_cX12_holds_3 11 rfl) ?_
              refine lv_istore (lv' := [(7, .int (((hrS (fun p => fA S 7 (100 * h + p)) z (q + 1 + 1)) - 48))), (6, .int ((hrS (fun p => fA S 7 (100 * h + p)) z (q + 1)))), (4, .int ((nI (q + 1)))), (5, .int ((hrS (fun p => fA S 7 (100 * h + p)) z (q)))), (3, .int ((nI lv))), (0, .ref (ad 0)), (1, .int (c))]) hx hb (fk_get fk_cX12_holds_3 12 rfl) hl (by decide) rfl (fun ls hl => ?_)
              refine lv_iinc (v := (nI (q + 1 + 2))) (lv' := [(4, .int ((nI (q + 1 + 2)))), (7, .int (((hrS (fun p => fA S 7 (100 * h + p)) z (q + 1 + 1)) - 48))), (6, .int ((hrS (fun p => fA S 7 (100 * h + p)) z (q + 1)))), (5, .int ((hrS (fun p => fA S 7 (100 * h + p)) z (q)))), (3, .int ((nI lv))), (0, .ref (ad 0)), (1, .int (c))]) hx hb (fk_get fk_cX12_holds_3 13 rfl) hl (k := 2) rfl ((nI_add (q + 1) 2)) (by decide) rfl (fun ls hl => ?_)
              have jn_29 : ∀ (q2 : Nat) (w7 : Int32) (ls : Array Slot),  (itr (fun p => fA S 7 (100 * h + p)) z a (n + 1) = (q2, lv)) → (q2 ≤ z + 4 ∧ q < q2) → lv_has ls 9 [(4, .int ((nI q2))), (7, .int (w7)), (6, .int ((hrS (fun p => fA S 7 (100 * h + p)) z (q + 1)))), (5, .int ((hrS (fun p => fA S 7 (100 * h + p)) z (q)))), (3, .int ((nI lv))), (0, .ref (ad 0)), (1, .int (c))] → W p l e ({ frames := 4, cells := 0, slots := 0, locals := 116 } : Room) s m args below meth c₀ H_6 locs_7 0 0 Q (F0 m 250 ls []) := by
                intro q2 w7 ls hI2 hq2 hl
                refine lv_aload_n hx hb (fk_get fk_cX12_holds_4 1 rfl) rfl (lv_at hl 5 rfl) ?_
                refine lv_iload_n hx hb (fk_get fk_cX12_holds_4 2 rfl) rfl (lv_at hl 6 rfl) ?_
                refine lv_iload hx hb (fk_get fk_cX12_holds_4 3 rfl) (lv_at hl 3 rfl) ?_
                refine vp_callSi (W.runV (As := [.int (c), .int ((hrS (fun p => fA S 7 (100 * h + p)) z (q)))]) (rest := []) ⟨hx, hb, hml, hown, hT⟩ (c_tested l G ad SL H_6.size (c) ((hrS (fun p => fA S 7 (100 * h + p)) z (q))) (j) (ej) (hj)) (tV 2 hT m6_139 m6_141 mp_39 m1_17 m6_142 rfl rfl (by decide +kernel) ⟨Nat.le_of_ble_eq_true rfl, Nat.le_of_ble_eq_true rfl⟩) ⟨PcW_blind, va_recv hK hP (ci := 14) (q0 := 0) rfl (ix_at (by decide) (cR_0 G ad SL)), PcW_of hP hK hD _⟩ rfl rfl hl.1 rfl (lv_room (Nat.le_of_ble_eq_true rfl)) (fk_get fk_cX12_holds_4 4 rfl) ⟨Nat.zero_le _, Nat.zero_le _⟩) (fun r_30 hw_31 => ?_)
                try dsimp only at hw_31
                refine lv_istore (lv' := [(8, .int (r_30)), (4, .int ((nI q2))), (7, .int (w7)), (6, .int ((hrS (fun p => fA S 7 (100 * h + p)) z (q + 1)))), (5, .int ((hrS (fun p => fA S 7 (100 * h + p)) z (q)))), (3, .int ((nI lv))), (0, .ref (ad 0)), (1, .int (c))]) hx hb (fk_get fk_cX12_holds_4 5 rfl) hl (by decide) rfl (fun ls hl => ?_)
                have jn_32 : ∀ (v : Int32) (ls : Array Slot),  lv_has ls 9 [(8, .int (r_30)), (4, .int ((nI q2))), (7, .int (w7)), (6, .int ((hrS (fun p => fA S 7 (100 * h + p)) z (q + 1)))), (5, .int ((hrS (fun p => fA S 7 (100 * h + p)) z (q)))), (3, .int ((nI lv))), (0, .ref (ad 0)), (1, .int (c))] → W p l e ({ frames := 4, cells := 0, slots := 0, locals := 116 } : Room) s m args below meth c₀ H_6 locs_7 0 0 Q (F0 m 317 ls [.int (v), .int ((nI lv)), .ref (ad 0)]) := by
                  intro v ls  hl
                  have hFc := va_self hD hS hA
                  refine va_callv (va_runV (As := [.int ((nI lv)), .int (v)]) (rest := []) ⟨hx, hb, hml, hown, hT⟩ (c_factorIs l G ad SL H_6.size (lv) ((nI lv)) (v) (rfl) (by omega)) (tV 2 hT m6_135 m6_137 mp_38 m1_17 m6_138 rfl rfl (by decide +kernel) ⟨Nat.le_of_ble_eq_true rfl, Nat.le_of_ble_eq_true rfl⟩) ⟨PcW_blind, va_recv hK hP (ci := 14) (q0 := 0) rfl (ix_at (by decide) (cR_0 G ad SL)), PcW_of hP hK hD _⟩ rfl rfl hl.1 rfl (lv_room (Nat.le_of_ble_eq_true rfl)) (fk_get fk_cX12_holds_5 2 rfl) ⟨Nat.zero_le _, Nat.zero_le _⟩) hS (fun q _ h => hFc q h) hFc (fun S_35 t_ H locs ht_ hvm_ hw_34 hB_ hz_ hk_ hS => ?_)
                  obtain ⟨hP, -, hD1_⟩ := hB_
                  rw [ht_] at hP
                  have hD : va_D A (wR G ad S_35) := hD1_.weaken (fun k q _ h => hFc q.1 h)
                  try dsimp only at hw_34
                  have hH2 := hH.trans hw_34
                  refine lv_goto (tgt := 10) hx hb (fk_get fk_cX12_holds_5 3 rfl) (by decide) ?_
                  exact ih (n + 1) (q2) (lv) (S_35) _ _ ls (by omega) (by omega) ((by first | exact hH2 | exact hH.setA (by decide) _ | exact (hH.setA (by decide) _).setA (by decide) _ | exact hH)) ((by first | exact it_33 hI hlt (by assumption) | exact it_40 hI hlt (by assumption) | exact it_41 hI hlt (by assumption) | exact it_124 hI hlt (by assumption) | exact it_38 hI hlt (by assumption) | exact hI2)) hP hD hS (lv_sub hl [1, 5, 6, 7] rfl)
                refine lv_aload_n hx hb (fk_get fk_cX12_holds_4 6 rfl) rfl (lv_at hl 6 rfl) ?_
                refine lv_iload_n hx hb (fk_get fk_cX12_holds_4 7 rfl) rfl (lv_at hl 5 rfl) ?_
                refine lv_iload hx hb (fk_get fk_cX12_holds_4 8 rfl) (lv_at hl 3 rfl) ?_
                refine lv_bipush (v := 60) hx hb (fk_get fk_cX12_holds_4 9 rfl) (by decide) ?_
                refine lv_icmp_ne (tgt := 283) hx hb (fk_get fk_cX12_holds_4 10 rfl) (by decide) (fun c_36 => ?_) (fun c_36 => ?_)
                · refine lv_iload hx hb (fk_get fk_cX12_holds_4 18 rfl) (lv_at hl 3 rfl) ?_
                  refine lv_bipush (v := 61) hx hb (fk_get fk_cX12_holds_4 19 rfl) (by decide) ?_
                  refine lv_icmp_ne (tgt := 305) hx hb (fk_get fk_cX12_holds_4 20 rfl) (by decide) (fun c_37 => ?_) (fun c_37 => ?_)
                  · refine lv_iload hx hb (fk_get fk_cX12_holds_4 28 rfl) (lv_at hl 0 rfl) ?_
                    refine lv_iload hx hb (fk_get fk_cX12_holds_4 29 rfl) (lv_at hl 2 rfl) ?_
                    refine lv_icmp_le (tgt := 316) hx hb (fk_get fk_cX12_holds_4 30 rfl) (by decide) (fun c_38 => ?_) (fun c_38 => ?_)
                    · refine lv_iconst (v := 0) hx hb (fk_get fk_cX12_holds_5 1 rfl) (by decide) ?_
                      exact jn_32 ((0)) ls  (lv_sub hl [0, 1, 2, 3, 4, 5, 6, 7] rfl)
                    refine lv_iconst (v := 1) hx hb (fk_get fk_cX12_holds_4 31 rfl) (by decide) ?_
                    refine lv_goto (tgt := 317) hx hb (fk_get fk_cX12_holds_5 0 rfl) (by decide) ?_
                    exact jn_32 ((1)) ls  (lv_sub hl [0, 1, 2, 3, 4, 5, 6, 7] rfl)
                  refine lv_iload hx hb (fk_get fk_cX12_holds_4 21 rfl) (lv_at hl 0 rfl) ?_
                  refine lv_iload hx hb (fk_get fk_cX12_holds_4 22 rfl) (lv_at hl 2 rfl) ?_
                  refine lv_icmp_ne (tgt := 301) hx hb (fk_get fk_cX12_holds_4 23 rfl) (by decide) (fun c_39 => ?_) (fun c_39 => ?_)
                  · refine lv_iconst (v := 0) hx hb (fk_get fk_cX12_holds_4 26 rfl) (by decide) ?_
                    refine lv_goto (tgt := 317) hx hb (fk_get fk_cX12_holds_4 27 rfl) (by decide) ?_
                    exact jn_32 ((0)) ls  (lv_sub hl [0, 1, 2, 3, 4, 5, 6, 7] rfl)
                  refine lv_iconst (v := 1) hx hb (fk_get fk_cX12_holds_4 24 rfl) (by decide) ?_
                  refine lv_goto (tgt := 317) hx hb (fk_get fk_cX12_holds_4 25 rfl) (by decide) ?_
                  exact jn_32 ((1)) ls  (lv_sub hl [0, 1, 2, 3, 4, 5, 6, 7] rfl)
                refine lv_iload hx hb (fk_get fk_cX12_holds_4 11 rfl) (lv_at hl 0 rfl) ?_
                refine lv_iload hx hb (fk_get fk_cX12_holds_4 12 rfl) (lv_at hl 2 rfl) ?_
                refine lv_icmp_ge (tgt := 279) hx hb (fk_get fk_cX12_holds_4 13 rfl) (by decide) (fun c_40 => ?_) (fun c_40 => ?_)
                · refine lv_iconst (v := 0) hx hb (fk_get fk_cX12_holds_4 16 rfl) (by decide) ?_
                  refine lv_goto (tgt := 317) hx hb (fk_get fk_cX12_holds_4 17 rfl) (by decide) ?_
                  exact jn_32 ((0)) ls  (lv_sub hl [0, 1, 2, 3, 4, 5, 6, 7] rfl)
                refine lv_iconst (v := 1) hx hb (fk_get fk_cX12_holds_4 14 rfl) (by decide) ?_
                refine lv_goto (tgt := 317) hx hb (fk_get fk_cX12_holds_4 15 rfl) (by decide) ?_
                exact jn_32 ((1)) ls  (lv_sub hl [0, 1, 2, 3, 4, 5, 6, 7] rfl)
              refine lv_aload_n hx hb (fk_get fk_cX12_holds_3 14 rfl) rfl (lv_at hl 5 rfl) ?_
              refine lv_iload hx hb (fk_get fk_cX12_holds_3 15 rfl) (lv_at hl 0 rfl) ?_
              refine vp_callSi (W.runV (As := [.int ((nI (q + 1 + 2)))]) (rest := []) ⟨hx, hb, hml, hown, hT⟩ (c_sign l G ad SL H_6.size (h) (z) (q + 1 + 2) ((nI (q + 1 + 2))) ((hH.2.2.1 3).trans hh) (hh6) ((congrFun (hH.a (by decide)) h).trans h8) (hz1) (rfl) (by omega)) (tV 1 hT m6_131 m6_133 mp_37 m1_17 m6_134 rfl rfl (by decide +kernel) ⟨Nat.le_of_ble_eq_true rfl, Nat.le_of_ble_eq_true rfl⟩) ⟨PcW_blind, va_recv hK hP (ci := 14) (q0 := 0) rfl (ix_at (by decide) (cR_0 G ad SL)), PcW_of hP hK hD _⟩ rfl rfl hl.1 rfl (lv_room (Nat.le_of_ble_eq_true rfl)) (fk_get fk_cX12_holds_3 16 rfl) ⟨Nat.zero_le _, Nat.zero_le _⟩) (fun r_41 hw_42 => ?_)
              try dsimp only at hw_42
              rw [hH.a (i := 7) (by decide)] at hw_42
              subst hw_42
              refine lv_i2l hx hb (fk_get fk_cX12_holds_3 17 rfl) rfl ?_
              refine lv_ldc2 (v := 48) hx hb hown (hT _ m6_71) (fk_get fk_cX12_holds_3 18 rfl) ?_
              refine lv_ldc2 (v := 57) hx hb hown (hT _ m6_72) (fk_get fk_cX12_holds_3 19 rfl) ?_
              refine vp_callSi (W.runS (As := [.long (((hrS (fun p => fA S 7 (100 * h + p)) z (q + 1 + 2))).toInt64), .long (48), .long (57)]) (rest := []) ⟨hx, hb, hml, hown, hT⟩ (c_in l (((hrS (fun p => fA S 7 (100 * h + p)) z (q + 1 + 2))).toInt64) (48) (57) ) (tS 3 hT m6_31 m6_32 m1_17 m6_33 rfl rfl (by decide +kernel) ⟨Nat.le_of_ble_eq_true rfl, Nat.le_of_ble_eq_true rfl⟩) ⟨PcN_blind, PcN_of _ _ _⟩ rfl rfl hl.1 rfl (lv_room (Nat.le_of_ble_eq_true rfl)) (fk_get fk_cX12_holds_3 20 rfl) ⟨Nat.zero_le _, Nat.zero_le _⟩) (fun r_43 hw_44 => ?_)
              try dsimp only at hw_44
              have hw_44 := in_eq hw_44 ((hrS (fun p => fA S 7 (100 * h + p)) z (q + 1 + 2))) 48 57 (rfl) (by decide) (by decide)
              refine lv_if_eq (tgt := 250) hx hb (fk_get fk_cX12_holds_3 21 rfl) (by decide) (fun c_45 => ?_) (fun c_45 => ?_)
              · have p_c_45 := if1_f hw_44 c_45
                exact jn_29 (q + 1 + 2) (((hrS (fun p => fA S 7 (100 * h + p)) z (q + 1 + 1)) - 48)) ls ((by first | exact it_t4 hI hlt (by assumption) (by assumption) (by assumption) (by assumption) (by assumption) (by assumption) (by assumption) | exact it_t3 hI hlt (by assumption) (by assumption) (by assumption) (by assumption) (by assumption) (by assumption) (by assumption))) (by omega) (lv_sub hl [0, 1, 2, 3, 4, 5, 6] rfl)
              have p_c_45 := if1_t hw_44 c_45
              refine lv_bipush (v := 10) hx hb (fk_get fk_cX12_holds_3 22 rfl) (by decide) ?_
              refine lv_iload hx hb (fk_get fk_cX12_holds_3 23 rfl) (lv_at hl 1 rfl) ?_
              refine lv_imul hx hb (fk_get fk_cX12_holds_3 24 rfl) ?_
              refine lv_aload_n hx hb (fk_get fk_cX12_holds_3 25 rfl) rfl (lv_at hl 5 rfl) ?_
              refine lv_iload hx hb (fk_get fk_cX12_holds_3 26 rfl) (lv_at hl 0 rfl) ?_
              refine vp_callSi (W.runV (As := [.int ((nI (q + 1 + 2)))]) (rest := [.int ((10 * ((hrS (fun p => fA S 7 (100 * h + p)) z (q + 1 + 1)) - 48)))]) ⟨hx, hb, hml, hown, hT⟩ (c_sign l G ad SL H_6.size (h) (z) (q + 1 + 2) ((nI (q + 1 + 2))) ((hH.2.2.1 3).trans hh) (hh6) ((congrFun (hH.a (by decide)) h).trans h8) (hz1) (rfl) (by omega)) (tV 1 hT m6_131 m6_133 mp_37 m1_17 m6_134 rfl rfl (by decide +kernel) ⟨Nat.le_of_ble_eq_true rfl, Nat.le_of_ble_eq_true rfl⟩) ⟨PcW_blind, va_recv hK hP (ci := 14) (q0 := 0) rfl (ix_at (by decide) (cR_0 G ad SL)), PcW_of hP hK hD _⟩ rfl rfl hl.1 rfl (lv_room (Nat.le_of_ble_eq_true rfl)) (fk_get fk_cX12_holds_3 27 rfl) ⟨Nat.zero_le _, Nat.zero_le _⟩) (fun r_46 hw_47 => ?_)
              try dsimp only at hw_47
              rw [hH.a (i := 7) (by decide)] at hw_47
              subst hw_47
              refine lv_iadd hx hb (fk_get fk_cX12_holds_3 28 rfl) ?_
              refine lv_bipush (v := 48) hx hb (fk_get fk_cX12_holds_3 29 rfl) (by decide) ?_
              refine lv_isub hx hb (fk_get fk_cX12_holds_3 30 rfl) ?_
              refine lv_istore (lv' := [(7, .int ((((10 * ((hrS (fun p => fA S 7 (100 * h + p)) z (q + 1 + 1)) - 48)) + (hrS (fun p => fA S 7 (100 * h + p)) z (q + 1 + 2))) - 48))), (4, .int ((nI (q + 1 + 2)))), (6, .int ((hrS (fun p => fA S 7 (100 * h + p)) z (q + 1)))), (5, .int ((hrS (fun p => fA S 7 (100 * h + p)) z (q)))), (3, .int ((nI lv))), (0, .ref (ad 0)), (1, .int (c))]) hx hb (fk_get fk_cX12_holds_3 31 rfl) hl (by decide) rfl (fun ls hl => ?_)
              refine lv_iinc (v := (nI (q + 1 + 2 + 1))) (lv' := [(4, .int ((nI (q + 1 + 2 + 1)))), (7, .int ((((10 * ((hrS (fun p => fA S 7 (100 * h + p)) z (q + 1 + 1)) - 48)) + (hrS (fun p => fA S 7 (100 * h + p)) z (q + 1 + 2))) - 48))), (6, .int ((hrS (fun p => fA S 7 (100 * h + p)) z (q + 1)))), (5, .int ((hrS (fun p => fA S 7 (100 * h + p)) z (q)))), (3, .int ((nI lv))), (0, .ref (ad 0)), (1, .int (c))]) hx hb (fk_get fk_cX12_holds_4 0 rfl) hl (k := 1) rfl ((nI_1 (q + 1 + 2))) (by decide) rfl (fun ls hl => ?_)
              exact jn_29 (q + 1 + 2 + 1) ((((10 * ((hrS (fun p => fA S 7 (100 * h + p)) z (q + 1 + 1)) - 48)) + (hrS (fun p => fA S 7 (100 * h + p)) z (q + 1 + 2))) - 48)) ls ((by first | exact it_t4 hI hlt (by assumption) (by assumption) (by assumption) (by assumption) (by assumption) (by assumption) (by assumption) | exact it_t3 hI hlt (by assumption) (by assumption) (by assumption) (by assumption) (by assumption) (by assumption) (by assumption))) (by omega) (lv_sub hl [0, 1, 2, 3, 4, 5, 6] rfl)
            refine lv_aload_n hx hb (fk_get fk_cX12_holds_2 7 rfl) rfl (lv_at hl 3 rfl) ?_
            refine va_get (D := G.1) (ci := 14) (v := .ref (ad 14)) (C := RX12) (T := TX12) (N := 49) hx hb hT inX12 hown hK hP 0 (ix_at (by decide) (cR_0 G ad SL)) rfl 30 (by decide) (hT _ m5_131) (fun _ h9 => h9) rfl (fk_get fk_cX12_holds_2 8 rfl) ?_
            refine lv_iload_n hx hb (fk_get fk_cX12_holds_2 9 rfl) rfl (lv_at hl 2 rfl) ?_
            refine lv_aload_n hx hb (fk_get fk_cX12_holds_2 10 rfl) rfl (lv_at hl 3 rfl) ?_
            refine va_get (D := G.1) (ci := 14) (v := .ref (ad 14)) (C := RX12) (T := TX12) (N := 49) hx hb hT inX12 hown hK hP 0 (ix_at (by decide) (cR_0 G ad SL)) rfl 30 (by decide) (hT _ m5_131) (fun _ h9 => h9) rfl (fk_get fk_cX12_holds_2 11 rfl) ?_
            refine lv_iload_n hx hb (fk_get fk_cX12_holds_2 12 rfl) rfl (lv_at hl 2 rfl) ?_
            refine r_zald (f := fA SL 14) hx hb hK hP 14 3 (ix_at (by decide) (cR_ors G ad SL)) rfl (lv) (rfl) (by omega) (by decide) (fk_get fk_cX12_holds_2 13 rfl) ?_
            refine lv_if_ne (tgt := 164) hx hb (fk_get fk_cX12_holds_2 14 rfl) (by decide) (fun c_48 => ?_) (fun c_48 => ?_)
            · refine lv_iconst (v := 1) hx hb (fk_get fk_cX12_holds_2 20 rfl) (by decide) ?_
              refine lv_goto (tgt := 169) hx hb (fk_get fk_cX12_holds_2 21 rfl) (by decide) ?_
              refine r_zast hx hb hK hP hD hS 14 3 (ix_at (by decide) (cR_ors G ad SL)) rfl (lv) (rfl) (by omega) (by decide) (Or.inr rfl) (fk_get fk_cX12_holds_2 23 rfl) (fun H locs hP hD hS => ?_)
              rw [pR_A G ad SL (by decide) (by decide) (by decide) (cR_ors G ad SL) (upd (fA SL 14) (lv) (1))] at hP hD
              refine lv_aload_n hx hb (fk_get fk_cX12_holds_2 24 rfl) rfl (lv_at hl 3 rfl) ?_
              refine va_get (D := G.1) (ci := 14) (v := .ref (ad 15)) (C := RX12) (T := TX12) (N := 49) hx hb hT inX12 hown hK hP 0 (ix_at (by decide) (cR_0 G ad (setA SL 14 (upd (fA SL 14) (lv) (1))))) rfl 31 (by decide) (hT _ m5_132) (fun _ h9 => h9) rfl (fk_get fk_cX12_holds_2 25 rfl) ?_
              refine lv_iload_n hx hb (fk_get fk_cX12_holds_2 26 rfl) rfl (lv_at hl 2 rfl) ?_
              refine lv_iconst (v := 1) hx hb (fk_get fk_cX12_holds_2 27 rfl) (by decide) ?_
              refine r_zast hx hb hK hP hD hS 15 3 (ix_at (by decide) (cR_ands G ad (setA SL 14 (upd (fA SL 14) (lv) (1))))) rfl (lv) (rfl) (by omega) (by decide) (Or.inr rfl) (fk_get fk_cX12_holds_2 28 rfl) (fun H locs hP hD hS => ?_)
              rw [pR_A G ad (setA SL 14 (upd (fA SL 14) (lv) (1))) (by decide) (by decide) (by decide) (cR_ands G ad (setA SL 14 (upd (fA SL 14) (lv) (1)))) (upd (fA (setA SL 14 (upd (fA SL 14) (lv) (1))) 15) (lv) (1))] at hP hD
              refine lv_goto (tgt := 320) hx hb (fk_get fk_cX12_holds_2 29 rfl) (by decide) ?_
              refine lv_goto (tgt := 10) hx hb (fk_get fk_cX12_holds_5 3 rfl) (by decide) ?_
              exact ih (n + 1) (q + 1) (lv) (setA (setA SL 14 (upd (fA SL 14) (lv) (1))) 15 (upd (fA (setA SL 14 (upd (fA SL 14) (lv) (1))) 15) (lv) (1))) _ _ ls (by omega) (by omega) ((by first | exact hH2 | exact hH.setA (by decide) _ | exact (hH.setA (by decide) _).setA (by decide) _ | exact hH)) ((by first | exact it_33 hI hlt (by assumption) | exact it_40 hI hlt (by assumption) | exact it_41 hI hlt (by assumption) | exact it_124 hI hlt (by assumption) | exact it_38 hI hlt (by assumption) | exact hI2)) hP hD hS (lv_sub hl [0, 2, 3, 4] rfl)
            refine lv_aload_n hx hb (fk_get fk_cX12_holds_2 15 rfl) rfl (lv_at hl 3 rfl) ?_
            refine va_get (D := G.1) (ci := 14) (v := .ref (ad 15)) (C := RX12) (T := TX12) (N := 49) hx hb hT inX12 hown hK hP 0 (ix_at (by decide) (cR_0 G ad SL)) rfl 31 (by decide) (hT _ m5_132) (fun _ h9 => h9) rfl (fk_get fk_cX12_holds_2 16 rfl) ?_
            refine lv_iload_n hx hb (fk_get fk_cX12_holds_2 17 rfl) rfl (lv_at hl 2 rfl) ?_
            refine r_zald (f := fA SL 15) hx hb hK hP 15 3 (ix_at (by decide) (cR_ands G ad SL)) rfl (lv) (rfl) (by omega) (by decide) (fk_get fk_cX12_holds_2 18 rfl) ?_
            refine lv_if_eq (tgt := 168) hx hb (fk_get fk_cX12_holds_2 19 rfl) (by decide) (fun c_49 => ?_) (fun c_49 => ?_)
            · refine lv_iconst (v := 0) hx hb (fk_get fk_cX12_holds_2 22 rfl) (by decide) ?_
              refine r_zast hx hb hK hP hD hS 14 3 (ix_at (by decide) (cR_ors G ad SL)) rfl (lv) (rfl) (by omega) (by decide) (Or.inl rfl) (fk_get fk_cX12_holds_2 23 rfl) (fun H locs hP hD hS => ?_)
              rw [pR_A G ad SL (by decide) (by decide) (by decide) (cR_ors G ad SL) (upd (fA SL 14) (lv) (0))] at hP hD
              refine lv_aload_n hx hb (fk_get fk_cX12_holds_2 24 rfl) rfl (lv_at hl 3 rfl) ?_
              refine va_get (D := G.1) (ci := 14) (v := .ref (ad 15)) (C := RX12) (T := TX12) (N := 49) hx hb hT inX12 hown hK hP 0 (ix_at (by decide) (cR_0 G ad (setA SL 14 (upd (fA SL 14) (lv) (0))))) rfl 31 (by decide) (hT _ m5_132) (fun _ h9 => h9) rfl (fk_get fk_cX12_holds_2 25 rfl) ?_
              refine lv_iload_n hx hb (fk_get fk_cX12_holds_2 26 rfl) rfl (lv_at hl 2 rfl) ?_
              refine lv_iconst (v := 1) hx hb (fk_get fk_cX12_holds_2 27 rfl) (by decide) ?_
              refine r_zast hx hb hK hP hD hS 15 3 (ix_at (by decide) (cR_ands G ad (setA SL 14 (upd (fA SL 14) (lv) (0))))) rfl (lv) (rfl) (by omega) (by decide) (Or.inr rfl) (fk_get fk_cX12_holds_2 28 rfl) (fun H locs hP hD hS => ?_)
              rw [pR_A G ad (setA SL 14 (upd (fA SL 14) (lv) (0))) (by decide) (by decide) (by decide) (cR_ands G ad (setA SL 14 (upd (fA SL 14) (lv) (0)))) (upd (fA (setA SL 14 (upd (fA SL 14) (lv) (0))) 15) (lv) (1))] at hP hD
              refine lv_goto (tgt := 320) hx hb (fk_get fk_cX12_holds_2 29 rfl) (by decide) ?_
              refine lv_goto (tgt := 10) hx hb (fk_get fk_cX12_holds_5 3 rfl) (by decide) ?_
              exact ih (n + 1) (q + 1) (lv) (setA (setA SL 14 (upd (fA SL 14) (lv) (0))) 15 (upd (fA (setA SL 14 (upd (fA SL 14) (lv) (0))) 15) (lv) (1))) _ _ ls (by omega) (by omega) ((by first | exact hH2 | exact hH.setA (by decide) _ | exact (hH.setA (by decide) _).setA (by decide) _ | exact hH)) ((by first | exact it_33 hI hlt (by assumption) | exact it_40 hI hlt (by assumption) | exact it_41 hI hlt (by assumption) | exact it_124 hI hlt (by assumption) | exact it_38 hI hlt (by assumption) | exact hI2)) hP hD hS (lv_sub hl [0, 2, 3, 4] rfl)
            refine lv_iconst (v := 1) hx hb (fk_get fk_cX12_holds_2 20 rfl) (by decide) ?_
            refine lv_goto (tgt := 169) hx hb (fk_get fk_cX12_holds_2 21 rfl) (by decide) ?_
            refine r_zast hx hb hK hP hD hS 14 3 (ix_at (by decide) (cR_ors G ad SL)) rfl (lv) (rfl) (by omega) (by decide) (Or.inr rfl) (fk_get fk_cX12_holds_2 23 rfl) (fun H locs hP hD hS => ?_)
            rw [pR_A G ad SL (by decide) (by decide) (by decide) (cR_ors G ad SL) (upd (fA SL 14) (lv) (1))] at hP hD
            refine lv_aload_n hx hb (fk_get fk_cX12_holds_2 24 rfl) rfl (lv_at hl 3 rfl) ?_
            refine va_get (D := G.1) (ci := 14) (v := .ref (ad 15)) (C := RX12) (T := TX12) (N := 49) hx hb hT inX12 hown hK hP 0 (ix_at (by decide) (cR_0 G ad (setA SL 14 (upd (fA SL 14) (lv) (1))))) rfl 31 (by decide) (hT _ m5_132) (fun _ h9 => h9) rfl (fk_get fk_cX12_holds_2 25 rfl) ?_
            refine lv_iload_n hx hb (fk_get fk_cX12_holds_2 26 rfl) rfl (lv_at hl 2 rfl) ?_
            refine lv_iconst (v := 1) hx hb (fk_get fk_cX12_holds_2 27 rfl) (by decide) ?_
            refine r_zast hx hb hK hP hD hS 15 3 (ix_at (by decide) (cR_ands G ad (setA SL 14 (upd (fA SL 14) (lv) (1))))) rfl (lv) (rfl) (by omega) (by decide) (Or.inr rfl) (fk_get fk_cX12_holds_2 28 rfl) (fun H locs hP hD hS => ?_)
            rw [pR_A G ad (setA SL 14 (upd (fA SL 14) (lv) (1))) (by decide) (by decide) (by decide) (cR_ands G ad (setA SL 14 (upd (fA SL 14) (lv) (1)))) (upd (fA (setA SL 14 (upd (fA SL 14) (lv) (1))) 15) (lv) (1))] at hP hD
            refine lv_goto (tgt := 320) hx hb (fk_get fk_cX12_holds_2 29 rfl) (by decide) ?_
            refine lv_goto (tgt := 10) hx hb (fk_get fk_cX12_holds_5 3 rfl) (by decide) ?_
            exact ih (n + 1) (q + 1) (lv) (setA (setA SL 14 (upd (fA SL 14) (lv) (1))) 15 (upd (fA (setA SL 14 (upd (fA SL 14) (lv) (1))) 15) (lv) (1))) _ _ ls (by omega) (by omega) ((by first | exact hH2 | exact hH.setA (by decide) _ | exact (hH.setA (by decide) _).setA (by decide) _ | exact hH)) ((by first | exact it_33 hI hlt (by assumption) | exact it_40 hI hlt (by assumption) | exact it_41 hI hlt (by assumption) | exact it_124 hI hlt (by assumption) | exact it_38 hI hlt (by assumption) | exact hI2)) hP hD hS (lv_sub hl [0, 2, 3, 4] rfl)
          have h1lv := h41 hlt c_22
          refine lv_aload_n hx hb (fk_get fk_cX12_holds_1 16 rfl) rfl (lv_at hl 3 rfl) ?_
          refine va_get (D := G.1) (ci := 14) (v := .ref (ad 14)) (C := RX12) (T := TX12) (N := 49) hx hb hT inX12 hown hK hP 0 (ix_at (by decide) (cR_0 G ad SL)) rfl 30 (by decide) (hT _ m5_131) (fun _ h9 => h9) rfl (fk_get fk_cX12_holds_1 17 rfl) ?_
          refine lv_iload_n hx hb (fk_get fk_cX12_holds_1 18 rfl) rfl (lv_at hl 2 rfl) ?_
          refine r_zald (f := fA SL 14) hx hb hK hP 14 3 (ix_at (by decide) (cR_ors G ad SL)) rfl (lv) (rfl) (by omega) (by decide) (fk_get fk_cX12_holds_1 19 rfl) ?_
          refine lv_if_ne (tgt := 114) hx hb (fk_get fk_cX12_holds_1 20 rfl) (by decide) (fun c_50 => ?_) (fun c_50 => ?_)
          · refine lv_iconst (v := 1) hx hb (fk_get fk_cX12_holds_1 26 rfl) (by decide) ?_
            refine lv_goto (tgt := 119) hx hb (fk_get fk_cX12_holds_1 27 rfl) (by decide) ?_
            refine lv_istore (lv' := [(6, .int (1)), (4, .int ((nI (q + 1)))), (5, .int ((hrS (fun p => fA S 7 (100 * h + p)) z (q)))), (3, .int ((nI lv))), (0, .ref (ad 0)), (1, .int (c))]) hx hb (fk_get fk_cX12_holds_1 29 rfl) hl (by decide) rfl (fun ls hl => ?_)
            refine lv_iinc (v := (nI (lv - 1))) (lv' := [(3, .int ((nI (lv - 1)))), (6, .int (1)), (4, .int ((nI (q + 1)))), (5, .int ((hrS (fun p => fA S 7 (100 * h + p)) z (q)))), (0, .ref (ad 0)), (1, .int (c))]) hx hb (fk_get fk_cX12_holds_1 30 rfl) hl (k := 3) rfl ((by rw [show lv = lv - 1 + 1 by omega]; exact pk_m1 (lv - 1))) (by decide) rfl (fun ls hl => ?_)
            refine lv_aload_n hx hb (fk_get fk_cX12_holds_1 31 rfl) rfl (lv_at hl 4 rfl) ?_
            refine lv_iload_n hx hb (fk_get fk_cX12_holds_2 0 rfl) rfl (lv_at hl 0 rfl) ?_
            refine lv_iload hx hb (fk_get fk_cX12_holds_2 1 rfl) (lv_at hl 1 rfl) ?_
            have hFc := va_self hD hS hA
            refine va_callv (va_runV (As := [.int ((nI (lv - 1))), .int (1)]) (rest := []) ⟨hx, hb, hml, hown, hT⟩ (c_factorIs l G ad SL H_6.size (lv - 1) ((nI (lv - 1))) (1) (rfl) (by omega)) (tV 2 hT m6_135 m6_137 mp_38 m1_17 m6_138 rfl rfl (by decide +kernel) ⟨Nat.le_of_ble_eq_true rfl, Nat.le_of_ble_eq_true rfl⟩) ⟨PcW_blind, va_recv hK hP (ci := 14) (q0 := 0) rfl (ix_at (by decide) (cR_0 G ad SL)), PcW_of hP hK hD _⟩ rfl rfl hl.1 rfl (lv_room (Nat.le_of_ble_eq_true rfl)) (fk_get fk_cX12_holds_2 2 rfl) ⟨Nat.zero_le _, Nat.zero_le _⟩) hS (fun q _ h => hFc q h) hFc (fun S_53 t_ H locs ht_ hvm_ hw_52 hB_ hz_ hk_ hS => ?_)
            obtain ⟨hP, -, hD1_⟩ := hB_
            rw [ht_] at hP
            have hD : va_D A (wR G ad S_53) := hD1_.weaken (fun k q _ h => hFc q.1 h)
            try dsimp only at hw_52
            have hH2 := hH.trans hw_52
            refine lv_goto (tgt := 320) hx hb (fk_get fk_cX12_holds_2 3 rfl) (by decide) ?_
            refine lv_goto (tgt := 10) hx hb (fk_get fk_cX12_holds_5 3 rfl) (by decide) ?_
            exact ih (n + 1) (q + 1) (lv - 1) (S_53) _ _ ls (by omega) (by omega) ((by first | exact hH2 | exact hH.setA (by decide) _ | exact (hH.setA (by decide) _).setA (by decide) _ | exact hH)) ((by first | exact it_33 hI hlt (by assumption) | exact it_40 hI hlt (by assumption) | exact it_41 hI hlt (by assumption) | exact it_124 hI hlt (by assumption) | exact it_38 hI hlt (by assumption) | exact hI2)) hP hD hS (lv_sub hl [2, 0, 4, 5] rfl)
          refine lv_aload_n hx hb (fk_get fk_cX12_holds_1 21 rfl) rfl (lv_at hl 3 rfl) ?_
          refine va_get (D := G.1) (ci := 14) (v := .ref (ad 15)) (C := RX12) (T := TX12) (N := 49) hx hb hT inX12 hown hK hP 0 (ix_at (by decide) (cR_0 G ad SL)) rfl 31 (by decide) (hT _ m5_132) (fun _ h9 => h9) rfl (fk_get fk_cX12_holds_1 22 rfl) ?_
          refine lv_iload_n hx hb (fk_get fk_cX12_holds_1 23 rfl) rfl (lv_at hl 2 rfl) ?_
          refine r_zald (f := fA SL 15) hx hb hK hP 15 3 (ix_at (by decide) (cR_ands G ad SL)) rfl (lv) (rfl) (by omega) (by decide) (fk_get fk_cX12_holds_1 24 rfl) ?_
          refine lv_if_eq (tgt := 118) hx hb (fk_get fk_cX12_holds_1 25 rfl) (by decide) (fun c_54 => ?_) (fun c_54 => ?_)
          · refine lv_iconst (v := 0) hx hb (fk_get fk_cX12_holds_1 28 rfl) (by decide) ?_
            refine lv_istore (lv' := [(6, .int (0)), (4, .int ((nI (q + 1)))), (5, .int ((hrS (fun p => fA S 7 (100 * h + p)) z (q)))), (3, .int ((nI lv))), (0, .ref (ad 0)), (1, .int (c))]) hx hb (fk_get fk_cX12_holds_1 29 rfl) hl (by decide) rfl (fun ls hl => ?_)
            refine lv_iinc (v := (nI (lv - 1))) (lv' := [(3, .int ((nI (lv - 1)))), (6, .int (0)), (4, .int ((nI (q + 1)))), (5, .int ((hrS (fun p => fA S 7 (100 * h + p)) z (q)))), (0, .ref (ad 0)), (1, .int (c))]) hx hb (fk_get fk_cX12_holds_1 30 rfl) hl (k := 3) rfl ((by rw [show lv = lv - 1 + 1 by omega]; exact pk_m1 (lv - 1))) (by decide) rfl (fun ls hl => ?_)
            refine lv_aload_n hx hb (fk_get fk_cX12_holds_1 31 rfl) rfl (lv_at hl 4 rfl) ?_
            refine lv_iload_n hx hb (fk_get fk_cX12_holds_2 0 rfl) rfl (lv_at hl 0 rfl) ?_
            refine lv_iload hx hb (fk_get fk_cX12_holds_2 1 rfl) (lv_at hl 1 rfl) ?_
            have hFc := va_self hD hS hA
            refine va_callv (va_runV (As := [.int ((nI (lv - 1))), .int (0)]) (rest := []) ⟨hx, hb, hml, hown, hT⟩ (c_factorIs l G ad SL H_6.size (lv - 1) ((nI (lv - 1))) (0) (rfl) (by omega)) (tV 2 hT m6_135 m6_137 mp_38 m1_17 m6_138 rfl rfl (by decide +kernel) ⟨Nat.le_of_ble_eq_true rfl, Nat.le_of_ble_eq_true rfl⟩) ⟨PcW_blind, va_recv hK hP (ci := 14) (q0 := 0) rfl (ix_at (by decide) (cR_0 G ad SL)), PcW_of hP hK hD _⟩ rfl rfl hl.1 rfl (lv_room (Nat.le_of_ble_eq_true rfl)) (fk_get fk_cX12_holds_2 2 rfl) ⟨Nat.zero_le _, Nat.zero_le _⟩) hS (fun q _ h => hFc q h) hFc (fun S_57 t_ H locs ht_ hvm_ hw_56 hB_ hz_ hk_ hS => ?_)
            obtain ⟨hP, -, hD1_⟩ := hB_
            rw [ht_] at hP
            have hD : va_D A (wR G ad S_57) := hD1_.weaken (fun k q _ h => hFc q.1 h)
            try dsimp only at hw_56
            have hH2 := hH.trans hw_56
            refine lv_goto (tgt := 320) hx hb (fk_get fk_cX12_holds_2 3 rfl) (by decide) ?_
            refine lv_goto (tgt := 10) hx hb (fk_get fk_cX12_holds_5 3 rfl) (by decide) ?_
            exact ih (n + 1) (q + 1) (lv - 1) (S_57) _ _ ls (by omega) (by omega) ((by first | exact hH2 | exact hH.setA (by decide) _ | exact (hH.setA (by decide) _).setA (by decide) _ | exact hH)) ((by first | exact it_33 hI hlt (by assumption) | exact it_40 hI hlt (by assumption) | exact it_41 hI hlt (by assumption) | exact it_124 hI hlt (by assumption) | exact it_38 hI hlt (by assumption) | exact hI2)) hP hD hS (lv_sub hl [2, 0, 4, 5] rfl)
          refine lv_iconst (v := 1) hx hb (fk_get fk_cX12_holds_1 26 rfl) (by decide) ?_
          refine lv_goto (tgt := 119) hx hb (fk_get fk_cX12_holds_1 27 rfl) (by decide) ?_
          refine lv_istore (lv' := [(6, .int (1)), (4, .int ((nI (q + 1)))), (5, .int ((hrS (fun p => fA S 7 (100 * h + p)) z (q)))), (3, .int ((nI lv))), (0, .ref (ad 0)), (1, .int (c))]) hx hb (fk_get fk_cX12_holds_1 29 rfl) hl (by decide) rfl (fun ls hl => ?_)
          refine lv_iinc (v := (nI (lv - 1))) (lv' := [(3, .int ((nI (lv - 1)))), (6, .int (1)), (4, .int ((nI (q + 1)))), (5, .int ((hrS (fun p => fA S 7 (100 * h + p)) z (q)))), (0, .ref (ad 0)), (1, .int (c))]) hx hb (fk_get fk_cX12_holds_1 30 rfl) hl (k := 3) rfl ((by rw [show lv = lv - 1 + 1 by omega]; exact pk_m1 (lv - 1))) (by decide) rfl (fun ls hl => ?_)
          refine lv_aload_n hx hb (fk_get fk_cX12_holds_1 31 rfl) rfl (lv_at hl 4 rfl) ?_
          refine lv_iload_n hx hb (fk_get fk_cX12_holds_2 0 rfl) rfl (lv_at hl 0 rfl) ?_
          refine lv_iload hx hb (fk_get fk_cX12_holds_2 1 rfl) (lv_at hl 1 rfl) ?_
          have hFc := va_self hD hS hA
          refine va_callv (va_runV (As := [.int ((nI (lv - 1))), .int (1)]) (rest := []) ⟨hx, hb, hml, hown, hT⟩ (c_factorIs l G ad SL H_6.size (lv - 1) ((nI (lv - 1))) (1) (rfl) (by omega)) (tV 2 hT m6_135 m6_137 mp_38 m1_17 m6_138 rfl rfl (by decide +kernel) ⟨Nat.le_of_ble_eq_true rfl, Nat.le_of_ble_eq_true rfl⟩) ⟨PcW_blind, va_recv hK hP (ci := 14) (q0 := 0) rfl (ix_at (by decide) (cR_0 G ad SL)), PcW_of hP hK hD _⟩ rfl rfl hl.1 rfl (lv_room (Nat.le_of_ble_eq_true rfl)) (fk_get fk_cX12_holds_2 2 rfl) ⟨Nat.zero_le _, Nat.zero_le _⟩) hS (fun q _ h => hFc q h) hFc (fun S_60 t_ H locs ht_ hvm_ hw_59 hB_ hz_ hk_ hS => ?_)
          obtain ⟨hP, -, hD1_⟩ := hB_
          rw [ht_] at hP
          have hD : va_D A (wR G ad S_60) := hD1_.weaken (fun k q _ h => hFc q.1 h)
          try dsimp only at hw_59
          have hH2 := hH.trans hw_59
          refine lv_goto (tgt := 320) hx hb (fk_get fk_cX12_holds_2 3 rfl) (by decide) ?_
          refine lv_goto (tgt := 10) hx hb (fk_get fk_cX12_holds_5 3 rfl) (by decide) ?_
          exact ih (n + 1) (q + 1) (lv - 1) (S_60) _ _ ls (by omega) (by omega) ((by first | exact hH2 | exact hH.setA (by decide) _ | exact (hH.setA (by decide) _).setA (by decide) _ | exact hH)) ((by first | exact it_33 hI hlt (by assumption) | exact it_40 hI hlt (by assumption) | exact it_41 hI hlt (by assumption) | exact it_124 hI hlt (by assumption) | exact it_38 hI hlt (by assumption) | exact hI2)) hP hD hS (lv_sub hl [2, 0, 4, 5] rfl)
        have hlv2 := (OKs_lv hOK (it_40 hI hlt c_21)).1
        refine lv_iinc (v := (nI (lv + 1))) (lv' := [(3, .int ((nI (lv + 1)))), (4, .int ((nI (q + 1)))), (5, .int ((hrS (fun p => fA S 7 (100 * h + p)) z (q)))), (0, .ref (ad 0)), (1, .int (c))]) hx hb (fk_get fk_cX12_holds_1 8 rfl) hl (k := 2) rfl ((nI_1 lv)) (by decide) rfl (fun ls hl => ?_)
        refine lv_aload_n hx hb (fk_get fk_cX12_holds_1 9 rfl) rfl (lv_at hl 3 rfl) ?_
        refine lv_iload_n hx hb (fk_get fk_cX12_holds_1 10 rfl) rfl (lv_at hl 0 rfl) ?_
        have hFc := va_self hD hS hA
        refine va_callv (va_runV (As := [.int ((nI (lv + 1)))]) (rest := []) ⟨hx, hb, hml, hown, hT⟩ (c_openLevel l G ad SL H_6.size (lv + 1) ((nI (lv + 1))) (rfl) (by omega)) (tV 1 hT m6_127 m6_129 mp_36 m1_17 m6_130 rfl rfl (by decide +kernel) ⟨Nat.le_of_ble_eq_true rfl, Nat.le_of_ble_eq_true rfl⟩) ⟨PcW_blind, va_recv hK hP (ci := 14) (q0 := 0) rfl (ix_at (by decide) (cR_0 G ad SL)), PcW_of hP hK hD _⟩ rfl rfl hl.1 rfl (lv_room (Nat.le_of_ble_eq_true rfl)) (fk_get fk_cX12_holds_1 11 rfl) ⟨Nat.zero_le _, Nat.zero_le _⟩) hS (fun q _ h => hFc q h) hFc (fun S_63 t_ H locs ht_ hvm_ hw_62 hB_ hz_ hk_ hS => ?_)
        obtain ⟨hP, -, hD1_⟩ := hB_
        rw [ht_] at hP
        have hD : va_D A (wR G ad S_63) := hD1_.weaken (fun k q _ h => hFc q.1 h)
        try dsimp only at hw_62
        have hH2 := hH.trans hw_62
        refine lv_goto (tgt := 320) hx hb (fk_get fk_cX12_holds_1 12 rfl) (by decide) ?_
        refine lv_goto (tgt := 10) hx hb (fk_get fk_cX12_holds_5 3 rfl) (by decide) ?_
        exact ih (n + 1) (q + 1) (lv + 1) (S_63) _ _ ls (by omega) (by omega) ((by first | exact hH2 | exact hH.setA (by decide) _ | exact (hH.setA (by decide) _).setA (by decide) _ | exact hH)) ((by first | exact it_33 hI hlt (by assumption) | exact it_40 hI hlt (by assumption) | exact it_41 hI hlt (by assumption) | exact it_124 hI hlt (by assumption) | exact it_38 hI hlt (by assumption) | exact hI2)) hP hD hS (lv_sub hl [1, 0, 3, 4] rfl)
      refine lv_aload_n hx hb (fk_get fk_cX12_holds_0 24 rfl) rfl (lv_at hl 3 rfl) ?_
      refine va_get (D := G.1) (ci := 14) (v := .ref (ad 16)) (C := RX12) (T := TX12) (N := 49) hx hb hT inX12 hown hK hP 0 (ix_at (by decide) (cR_0 G ad SL)) rfl 32 (by decide) (hT _ m5_133) (fun _ h9 => h9) rfl (fk_get fk_cX12_holds_0 25 rfl) ?_
      refine lv_iload_n hx hb (fk_get fk_cX12_holds_0 26 rfl) rfl (lv_at hl 2 rfl) ?_
      refine lv_aload_n hx hb (fk_get fk_cX12_holds_0 27 rfl) rfl (lv_at hl 3 rfl) ?_
      refine va_get (D := G.1) (ci := 14) (v := .ref (ad 16)) (C := RX12) (T := TX12) (N := 49) hx hb hT inX12 hown hK hP 0 (ix_at (by decide) (cR_0 G ad SL)) rfl 32 (by decide) (hT _ m5_133) (fun _ h9 => h9) rfl (fk_get fk_cX12_holds_0 28 rfl) ?_
      refine lv_iload_n hx hb (fk_get fk_cX12_holds_0 29 rfl) rfl (lv_at hl 2 rfl) ?_
      refine r_zald (f := fA SL 16) hx hb hK hP 16 3 (ix_at (by decide) (cR_turns G ad SL)) rfl (lv) (rfl) (by omega) (by decide) (fk_get fk_cX12_holds_0 30 rfl) ?_
      refine lv_if_ne (tgt := 66) hx hb (fk_get fk_cX12_holds_0 31 rfl) (by decide) (fun c_64 => ?_) (fun c_64 => ?_)
      · refine lv_iconst (v := 0) hx hb (fk_get fk_cX12_holds_1 2 rfl) (by decide) ?_
        refine r_zast hx hb hK hP hD hS 16 3 (ix_at (by decide) (cR_turns G ad SL)) rfl (lv) (rfl) (by omega) (by decide) (Or.inl rfl) (fk_get fk_cX12_holds_1 3 rfl) (fun H locs hP hD hS => ?_)
        rw [pR_A G ad SL (by decide) (by decide) (by decide) (cR_turns G ad SL) (upd (fA SL 16) (lv) (0))] at hP hD
        refine lv_goto (tgt := 320) hx hb (fk_get fk_cX12_holds_1 4 rfl) (by decide) ?_
        refine lv_goto (tgt := 10) hx hb (fk_get fk_cX12_holds_5 3 rfl) (by decide) ?_
        exact ih (n + 1) (q + 1) (lv) (setA SL 16 (upd (fA SL 16) (lv) (0))) _ _ ls (by omega) (by omega) ((by first | exact hH2 | exact hH.setA (by decide) _ | exact (hH.setA (by decide) _).setA (by decide) _ | exact hH)) ((by first | exact it_33 hI hlt (by assumption) | exact it_40 hI hlt (by assumption) | exact it_41 hI hlt (by assumption) | exact it_124 hI hlt (by assumption) | exact it_38 hI hlt (by assumption) | exact hI2)) hP hD hS (lv_sub hl [0, 2, 3, 4] rfl)
      refine lv_iconst (v := 1) hx hb (fk_get fk_cX12_holds_1 0 rfl) (by decide) ?_
      refine lv_goto (tgt := 67) hx hb (fk_get fk_cX12_holds_1 1 rfl) (by decide) ?_
      refine r_zast hx hb hK hP hD hS 16 3 (ix_at (by decide) (cR_turns G ad SL)) rfl (lv) (rfl) (by omega) (by decide) (Or.inr rfl) (fk_get fk_cX12_holds_1 3 rfl) (fun H locs hP hD hS => ?_)
      rw [pR_A G ad SL (by decide) (by decide) (by decide) (cR_turns G ad SL) (upd (fA SL 16) (lv) (1))] at hP hD
      refine lv_goto (tgt := 320) hx hb (fk_get fk_cX12_holds_1 4 rfl) (by decide) ?_
      refine lv_goto (tgt := 10) hx hb (fk_get fk_cX12_holds_5 3 rfl) (by decide) ?_
      exact ih (n + 1) (q + 1) (lv) (setA SL 16 (upd (fA SL 16) (lv) (1))) _ _ ls (by omega) (by omega) ((by first | exact hH2 | exact hH.setA (by decide) _ | exact (hH.setA (by decide) _).setA (by decide) _ | exact hH)) ((by first | exact it_33 hI hlt (by assumption) | exact it_40 hI hlt (by assumption) | exact it_41 hI hlt (by assumption) | exact it_124 hI hlt (by assumption) | exact it_38 hI hlt (by assumption) | exact hI2)) hP hD hS (lv_sub hl [0, 2, 3, 4] rfl)
  exact lp_4 (z + 106) (0) (a) (0) (S_3) _ _ ls (by omega) (by omega) (hH0) (rfl) hP hD hS (lv_sub hl [0, 1, 2, 3] rfl)
