set_option maxHeartbeats 800000 in
set_option maxRecDepth 100000 in
theorem c_takeAllE (l : Launch) (G : GG) (ad : Nat → Nat) (S : FS) (sz : Nat) (z v k : Nat) (st : Bool × Nat) (hz : fF S 0 17 = nI z) (hz1 : z ≤ 100) (hS0 : SRs z S st) (hv : v < 256 ^ k) (hk : k ≤ 7) : Met l yX12_takeAll (Cond.code yX12_takeAll cX12_takeAll 5 none :: TBL) ({ frames := 4, cells := 0, slots := 0, locals := 113 } : Room) (PcW G (wR G ad S) sz [.ref (ad 0), .long (lN v)]) (va_Qv (fun (S' : FS) => QFr S S' ∧ SRs z S' ((bts k v).foldl (tkF (hrS (fA S 6) z)) st)) (fun S' t => BW G (va_A (wR G ad S) sz) (wR G ad S') t) (va_A (wR G ad S) sz)) 0 0 (va_A (wR G ad S) sz) := by
  refine Met.ofW (cc := cX12_takeAll) (maxL := 5) (ret := none) (by decide) rfl ?_
  intro p e s m args below meth c₀ s₁ B hml hv
  obtain ⟨rfl, hsz, hP, hK, hD0⟩ := hv
  have hx := B.exec
  have hb := B.bytes
  have hr := B.returns
  have hT : ∀ w ∈ TBL, w.before ([.ref (ad 0), .long (lN v)] : List Value).toArray s = true := fun w h => atoms_spec (ws := Cond.code yX12_takeAll cX12_takeAll 5 none :: TBL) B.pre w (List.mem_cons_of_mem _ h)
  have hown : s.vm.findClass "LittleMoreModel" = some m.cls := findClass_of_methodNamed B.named
  have hlocks := B.notSynchronized
  subst hsz
  have hD := hD0.self (sz := s.heap.size)
  generalize hAe : va_A (wR G ad S) s.heap.size = A at hD ⊢
  have hA : ∀ q : Nat, s.heap.size ≤ q → A q := fun q h => by rw [← hAe]; exact Or.inr h
  have hS : va_S A s.heap s.heap [] := va_S.rf
  have hP : va_P G.1 vwCl (wR G ad S) s.heap := hP
  have hl := lv_entry ([.ref (ad 0), .long (lN v)]) (n := 5) (Nat.le_of_ble_eq_true rfl)
  rw [lg_entry_eq]
  generalize (lg_sl ([.ref (ad 0), .long (lN v)]) ++ List.replicate (5 - (lg_sl ([.ref (ad 0), .long (lN v)])).length) Slot.unset).toArray = ls at hl ⊢
  have hl : lv_has ls 5 [(0, .ref (ad 0)), (1, .long (lN v))] := hl
  refine W_abs (fun Q hQ => ?_)
  generalize ([.ref (ad 0), .long (lN v)] : List Value).toArray = args at hT hQ ⊢
  refine lv_lload_n hx hb (fk_get fk_cX12_takeAll_0 0 rfl) rfl (lv_at hl 1 rfl) ?_
  refine lv_lstore_n (lv' := [(3, .long (lN v)), (0, .ref (ad 0)), (1, .long (lN v))]) hx hb (fk_get fk_cX12_takeAll_0 1 rfl) rfl hl (by decide) rfl (fun ls hl => ?_)
  have lp_1 : ∀ (fu : Nat) (y j : Nat) (sn : Bool × Nat) (SL : FS) (H_3 : Heap) (locs_4 : List Loc) (ls : Array Slot),  (y < 256 ^ j) → (j ≤ 7) → (y < fu) → (QFr S SL) → (SRs z SL sn) → ((bts j y).foldl (tkF (hrS (fA S 6) z)) sn = (bts k v).foldl (tkF (hrS (fA S 6) z)) st) → va_P G.1 vwCl (wR G ad SL) H_3 → va_D A (wR G ad SL) → va_S A s.heap H_3 locs_4 → lv_has ls 5 [(3, .long (lN y)), (0, .ref (ad 0))] → W p l e ({ frames := 4, cells := 0, slots := 0, locals := 113 } : Room) s m args below meth c₀ H_3 locs_4 0 0 Q (F0 m 2 ls []) := by
    intro fu
    induction fu with
    | zero =>
      intro y j sn SL H_3 locs_4 ls hvj hj hf hQ1 hs1 hR hP hD hS hl
      exact absurd hf (by omega)
    | succ fu ih =>
      intro y j sn SL H_3 locs_4 ls hvj hj hf hQ1 hs1 hR hP hD hS hl
      have hv62 : y < 2 ^ 62 := Nat.lt_of_lt_of_le hvj (Nat.le_trans (Nat.pow_le_pow_right (by decide) hj) (by decide))
      refine lv_lload_n hx hb (fk_get fk_cX12_takeAll_0 2 rfl) rfl (lv_at hl 0 rfl) ?_
      refine lv_lconst (v := 0) hx hb (fk_get fk_cX12_takeAll_0 3 rfl) (by decide) ?_
      refine W.lcmp hx hb (fk_get fk_cX12_takeAll_0 4 rfl) ?_
      refine lv_if_eq (tgt := 27) hx hb (fk_get fk_cX12_takeAll_0 5 rfl) (by decide) (fun c_5 => ?_) (fun c_5 => ?_)
      · have hv0 := lN_z hv62 c_5
        subst hQ
        have hpost : QFr S SL ∧ SRs z SL ((bts k v).foldl (tkF (hrS (fA S 6) z)) st) := by
          exact ⟨hQ1, by rw [← hR, hv0, bts_0]; exact hs1⟩
        exact W.vret hx hb hr (fun t_ ht_ hW_ => ⟨⟨SL, rfl, hpost, by rw [ht_]; exact hP, va_K.moved hW_.alike hK, hD⟩, hS.F ht_⟩) hS.2.2 (fk_get fk_cX12_takeAll_0 15 rfl)
      have hv0 := lN_ne hv62 c_5
      obtain ⟨hb1_, hb2_, hb3_⟩ := bts_s hvj hv0
      refine lv_aload_n hx hb (fk_get fk_cX12_takeAll_0 6 rfl) rfl (lv_at hl 1 rfl) ?_
      refine lv_lload_n hx hb (fk_get fk_cX12_takeAll_0 7 rfl) rfl (lv_at hl 0 rfl) ?_
      refine lv_ldc2 (v := 256) hx hb hown (hT _ m6_56) (fk_get fk_cX12_takeAll_0 8 rfl) ?_
      refine lv_lrem hx hb (dk_get dk_cX12_takeAll_0 0 rfl) (by decide) ?_
      refine lv_l2i hx hb (fk_get fk_cX12_takeAll_0 9 rfl) rfl ?_
      rw [show ((lN y - lN y / 256 * 256)).toInt32 = (nI (y % 256)) from (rem_is hv62)]
      have hFc := va_self hD hS hA
      refine va_callv (va_runV (As := [.int ((nI (y % 256)))]) (rest := []) ⟨hx, hb, hml, hown, hT⟩ (c_take l G ad SL H_3.size (z) (sn.2) ((nI (y % 256))) (hQ1.f17 hz) (hz1) (hs1.1) (by have := hs1.2.2; omega)) (tV 1 hT m6_57 m6_59 mp_24 m1_17 m6_60 rfl rfl (by decide +kernel) ⟨Nat.le_of_ble_eq_true rfl, Nat.le_of_ble_eq_true rfl⟩) ⟨PcW_blind, va_recv hK hP (ci := 14) (q0 := 0) rfl (ix_at (by decide) (cR_0 G ad SL)), PcW_of hP hK hD _⟩ rfl rfl hl.1 rfl (lv_room (Nat.le_of_ble_eq_true rfl)) (fk_get fk_cX12_takeAll_0 10 rfl) ⟨Nat.zero_le _, Nat.zero_le _⟩) hS (fun q _ h => hFc q h) hFc (fun S_8 t_ H locs ht_ hvm_ hw_7 hB_ hz_ hk_ hS => ?_)
      obtain ⟨hP, -, hD1_⟩ := hB_
      rw [ht_] at hP
      have hD : va_D A (wR G ad S_8) := hD1_.weaken (fun k q _ h => hFc q.1 h)
      try dsimp only at hw_7
      obtain ⟨hQ2, hs2⟩ := srs_tk hQ1 hs1 hw_7 hb3_
      refine lv_lload_n hx hb (fk_get fk_cX12_takeAll_0 11 rfl) rfl (lv_at hl 0 rfl) ?_
      refine lv_ldc2 (v := 256) hx hb hown (hT _ m6_56) (fk_get fk_cX12_takeAll_0 12 rfl) ?_
      refine lv_ldiv hx hb (dk_get dk_cX12_takeAll_0 1 rfl) (by decide) ?_
      rw [show (lN y / 256) = (lN (y / 256)) from (pk_lDiv (a := y) (b := 256) (by omega) (by omega) (by omega))]
      refine lv_lstore_n (lv' := [(3, .long ((lN (y / 256)))), (0, .ref (ad 0))]) hx hb (fk_get fk_cX12_takeAll_0 13 rfl) rfl hl (by decide) rfl (fun ls hl => ?_)
      refine lv_goto (tgt := 2) hx hb (fk_get fk_cX12_takeAll_0 14 rfl) (by decide) ?_
      exact ih (y / 256) (j - 1) ((tkF (hrS (fA S 6) z) sn (nI (y % 256)))) (S_8) _ _ ls (hb2_) (by omega) (by omega) (hQ2) (hs2) ((by rw [← hR, hb1_]; rfl)) hP hD hS (lv_sub hl [0, 1] rfl)
  exact lp_1 (v + 1) (v) (k) (st) (S) _ _ ls (hv) (hk) (by omega) (QFr.rf S) (hS0) (rfl) hP hD hS (lv_sub hl [0, 1] rfl)
theorem rn_x {z u : Nat} {r : Int32} {S S' : FS} {τ : Nat → Int32} {b : Bool} (hτ : hrS (fA S 6) z = τ) (h : SRs z S (b, u)) (hN : RNP z u S r S') : QFr S S' ∧ SRs z S' (b && (numP τ u).1.isSome, if b = true then (numP τ u).2 else u) ∧ ∀ n, b = true → (numP τ u).1 = some n → r = n := by
  obtain ⟨g1, g2⟩ := hN
  rw [srs_b h] at g2
  rw [← hτ]
  have hg := num_good (f := fA S 6) (z := z) (p := u) h.2.2
  refine ⟨g1, ?_⟩
  rcases g2 with ⟨a, b1, c, d⟩ | ⟨⟨a, a2⟩, b1, c, d, e⟩ | ⟨⟨a, a2⟩, b1, c, d, e⟩
  · by_cases q : b = true
    · have hd : ¬ dgt (hrS (fA S 6) z u) := fun x => a ⟨q, x⟩
      subst q
      rw [num_0 hd]
      exact ⟨⟨c, b1, h.2.2⟩, fun n _ e => by cases e⟩
    · have q2 : b = false := by cases b <;> simp_all
      subst q2
      exact ⟨⟨c, b1, h.2.2⟩, fun n e _ => by cases e⟩
  · have q2 : b = true := a
    subst q2
    rw [num_1 (τ := hrS (fA S 6) z) a2 b1] at hg ⊢
    refine ⟨⟨d, c, hg.2.1⟩, fun n _ x => ?_⟩
    cases x
    have hlt := (hrS_dig a2).1
    rw [e]
    unfold hrS
    rw [if_pos hlt]
  · have q2 : b = true := a
    subst q2
    rw [num_2 (τ := hrS (fA S 6) z) a2 b1] at hg ⊢
    refine ⟨⟨d, c, hg.2.1⟩, fun n _ x => ?_⟩
    cases x
    have hlt := (hrS_dig a2).1
    have hlt2 := (hrS_dig b1).1
    rw [e]
    unfold hrS
    rw [if_pos hlt, if_pos hlt2]
set_option maxHeartbeats 800000 in
set_option maxRecDepth 100000 in
theorem c_readWordE (l : Launch) (G : GG) (ad : Nat → Nat) (S : FS) (sz : Nat) (z u : Nat) (hz : fF S 0 17 = nI z) (hz1 : z ≤ 100) (hp : fF S 0 25 = nI u) (hp1 : u ≤ z) (hb0 : fF S 0 26 = 0) : Met l yX12_readWord (Cond.code yX12_readWord cX12_readWord 3 (some .int) :: TBL) ({ frames := 5, cells := 0, slots := 0, locals := 141 } : Room) (PcW G (wR G ad S) sz [.ref (ad 0)]) (va_Qi (fun (r : Int32) (S' : FS) => RwQ (hrS (fA S 6) z) z u r S S') (fun S' t => BW G (va_A (wR G ad S) sz) (wR G ad S') t) (va_A (wR G ad S) sz)) 0 0 (va_A (wR G ad S) sz) := by
  refine Met.ofW (cc := cX12_readWord) (maxL := 3) (ret := (some .int)) (by decide) rfl ?_
  intro p e s m args below meth c₀ s₁ B hml hv
  obtain ⟨rfl, hsz, hP, hK, hD0⟩ := hv
  have hx := B.exec
  have hb := B.bytes
  have hr := B.returns
  have hT : ∀ w ∈ TBL, w.before ([.ref (ad 0)] : List Value).toArray s = true := fun w h => atoms_spec (ws := Cond.code yX12_readWord cX12_readWord 3 (some .int) :: TBL) B.pre w (List.mem_cons_of_mem _ h)
  have hown : s.vm.findClass "LittleMoreModel" = some m.cls := findClass_of_methodNamed B.named
  have hlocks := B.notSynchronized
  subst hsz
  have hD := hD0.self (sz := s.heap.size)
  generalize hAe : va_A (wR G ad S) s.heap.size = A at hD ⊢
  have hA : ∀ q : Nat, s.heap.size ≤ q → A q := fun q h => by rw [← hAe]; exact Or.inr h
  have hS : va_S A s.heap s.heap [] := va_S.rf
  have hP : va_P G.1 vwCl (wR G ad S) s.heap := hP
  have hl := lv_entry ([.ref (ad 0)]) (n := 3) (Nat.le_of_ble_eq_true rfl)
  rw [lg_entry_eq]
  generalize (lg_sl ([.ref (ad 0)]) ++ List.replicate (3 - (lg_sl ([.ref (ad 0)])).length) Slot.unset).toArray = ls at hl ⊢
  have hl : lv_has ls 3 [(0, .ref (ad 0))] := hl
  refine W_abs (fun Q hQ => ?_)
  generalize ([.ref (ad 0)] : List Value).toArray = args at hT hQ ⊢
  refine lv_aload_n hx hb (fk_get fk_cX12_readWord_0 0 rfl) rfl (lv_at hl 0 rfl) ?_
  refine vp_callSi (W.runV (As := []) (rest := []) ⟨hx, hb, hml, hown, hT⟩ (c_here l G ad S s.heap.size (z) (u) (hz) (hz1) (hp) (by omega)) (tV 0 hT m6_46 m6_48 mp_22 m1_17 m6_49 rfl rfl (by decide +kernel) ⟨Nat.le_of_ble_eq_true rfl, Nat.le_of_ble_eq_true rfl⟩) ⟨PcW_blind, va_recv hK hP (ci := 14) (q0 := 0) rfl (ix_at (by decide) (cR_0 G ad S)), PcW_of hP hK hD _⟩ rfl rfl hl.1 rfl (lv_room (Nat.le_of_ble_eq_true rfl)) (fk_get fk_cX12_readWord_0 1 rfl) ⟨Nat.zero_le _, Nat.zero_le _⟩) (fun r_1 hw_2 => ?_)
  try dsimp only at hw_2
  subst hw_2
  refine lv_istore_n (lv' := [(1, .int ((hrS (fA S 6) z u))), (0, .ref (ad 0))]) hx hb (fk_get fk_cX12_readWord_0 2 rfl) rfl hl (by decide) rfl (fun ls hl => ?_)
  refine lv_iload_n hx hb (fk_get fk_cX12_readWord_0 3 rfl) rfl (lv_at hl 0 rfl) ?_
  refine lv_bipush (v := 109) hx hb (fk_get fk_cX12_readWord_0 4 rfl) (by decide) ?_
  refine lv_icmp_eq (tgt := 17) hx hb (fk_get fk_cX12_readWord_0 5 rfl) (by decide) (fun c_3 => ?_) (fun c_3 => ?_)
  · have hlt := hr_lt (t := fA S 6) (z := z) (u := u) (by rw [show hrS (fA S 6) z u = 109 from c_3]; decide)
    refine lv_aload_n hx hb (fk_get fk_cX12_readWord_0 9 rfl) rfl (lv_at hl 1 rfl) ?_
    refine lv_dup hx hb (fk_get fk_cX12_readWord_0 10 rfl) rfl ?_
    refine va_get (D := G.1) (ci := 14) (v := .int ((fF S 0 25))) (C := RX12) (T := TX12) (N := 49) hx hb hT inX12 hown hK hP 0 (ix_at (by decide) (cR_0 G ad S)) rfl 25 (by decide) (hT _ m5_126) (fun _ h9 => h9) rfl (fk_get fk_cX12_readWord_0 11 rfl) ?_
    refine lv_iconst (v := 1) hx hb (fk_get fk_cX12_readWord_0 12 rfl) (by decide) ?_
    refine lv_iadd hx hb (fk_get fk_cX12_readWord_0 13 rfl) ?_
    rw [show ((fF S 0 25) + 1) = (nI (u + 1)) from (by rw [hp]; exact nI_1 u)]
    refine va_put (D := G.1) (ci := 14) (v := .int ((nI (u + 1)))) (ty := .int) (C := RX12) (T := TX12) (N := 49) hx hb hT inX12 tyX12 tyX12_ok nmX12 hown hK hP hD hS 0 (ix_at (by decide) (cR_0 G ad S)) rfl 25 (by decide) (hT _ m5_126) (fun _ h9 => h9) rfl (by decide +kernel) rfl rfl (Nat.le_of_ble_eq_true rfl) (fk_get fk_cX12_readWord_0 14 rfl) (fun H locs hP hD hS => ?_)
    rw [pR_at G ad S ((nI (u + 1)))] at hP hD
    refine lv_aload_n hx hb (fk_get fk_cX12_readWord_0 15 rfl) rfl (lv_at hl 1 rfl) ?_
    refine lv_iload_n hx hb (fk_get fk_cX12_readWord_0 16 rfl) rfl (lv_at hl 0 rfl) ?_
    refine lv_bipush (v := 109) hx hb (fk_get fk_cX12_readWord_0 17 rfl) (by decide) ?_
    refine lv_icmp_ne (tgt := 40) hx hb (fk_get fk_cX12_readWord_0 18 rfl) (by decide) (fun c_4 => absurd (by first | assumption | exact Int32.not_lt.mp (by assumption) | exact Int32.not_le.mp (by assumption) | exact Int32.not_lt.mpr (by assumption) | exact Int32.not_le.mpr (by assumption) ) c_4) (fun _ => ?_)
    refine lv_ldc2 (v := 543519343) hx hb hown (hT _ m6_50) (fk_get fk_cX12_readWord_0 19 rfl) ?_
    refine lv_goto (tgt := 43) hx hb (fk_get fk_cX12_readWord_0 20 rfl) (by decide) ?_
    have hFc := va_self hD hS hA
    refine va_callv (va_runV (As := [.long (543519343)]) (rest := []) ⟨hx, hb, hml, hown, hT⟩ (c_takeAllE l G ad (setF S 0 25 ((nI (u + 1)))) H.size (z) (543519343) (7) ((true, u + 1)) (hz) (hz1) (⟨rfl, hb0, hlt⟩) (by decide) (by decide)) (tV 1 hT m6_52 m6_54 mp_23 m1_17 m6_55 rfl rfl (by decide +kernel) ⟨Nat.le_of_ble_eq_true rfl, Nat.le_of_ble_eq_true rfl⟩) ⟨PcW_blind, va_recv hK hP (ci := 14) (q0 := 0) rfl (ix_at (by decide) (cR_0 G ad (setF S 0 25 ((nI (u + 1)))))), PcW_of hP hK hD _⟩ rfl rfl hl.1 rfl (lv_room (Nat.le_of_ble_eq_true rfl)) (fk_get fk_cX12_readWord_0 22 rfl) ⟨Nat.zero_le _, Nat.zero_le _⟩) hS (fun q _ h => hFc q h) hFc (fun S_7 t_ H locs ht_ hvm_ hw_6 hB_ hz_ hk_ hS => ?_)
    obtain ⟨hP, -, hD1_⟩ := hB_
    rw [ht_] at hP
    have hD : va_D A (wR G ad S_7) := hD1_.weaken (fun k q _ h => hFc q.1 h)
    try dsimp only at hw_6
    obtain ⟨hQ3, hs3⟩ := hw_6
    have hQ3 : QFr S S_7 := (QFr.setF (QFr.rf S) (by decide) _).trans hQ3
    refine lv_iload_n hx hb (fk_get fk_cX12_readWord_0 23 rfl) rfl (lv_at hl 0 rfl) ?_
    refine lv_bipush (v := 109) hx hb (fk_get fk_cX12_readWord_0 24 rfl) (by decide) ?_
    refine lv_icmp_ne (tgt := 56) hx hb (fk_get fk_cX12_readWord_0 25 rfl) (by decide) (fun c_8 => absurd (by first | assumption | exact Int32.not_lt.mp (by assumption) | exact Int32.not_le.mp (by assumption) | exact Int32.not_lt.mpr (by assumption) | exact Int32.not_le.mpr (by assumption) ) c_8) (fun _ => ?_)
    refine lv_iconst (v := 0) hx hb (fk_get fk_cX12_readWord_0 26 rfl) (by decide) ?_
    refine lv_goto (tgt := 57) hx hb (fk_get fk_cX12_readWord_0 27 rfl) (by decide) ?_
    subst hQ
    have hpost : RwQ (hrS (fA S 6) z) z u (0 : Int32) S S_7 := by
      first | exact rwq_of hQ3 hs3 (rw_m (by assumption)) rfl (by decide) | exact rwq_of hQ3 hs3 (rw_p (by assumption)) rfl (by decide) | exact rwq_of hQ5 hs4 ((rw_l (by assumption) (by assumption)).trans (if_pos (by assumption))) rfl (by decide) | exact rwq_of hQ5 hs4 ((rw_l (by assumption) (by assumption)).trans (if_neg (by assumption))) rfl (by decide)
    exact W.iret (v := 0) hx hb hr (fun t_ ht_ hW_ => ⟨⟨0, S_7, rfl, hpost, by rw [ht_]; exact hP, va_K.moved hW_.alike hK, hD⟩, hS.F ht_⟩) hS.2.2 (fk_get fk_cX12_readWord_0 29 rfl)
  refine lv_iload_n hx hb (fk_get fk_cX12_readWord_0 6 rfl) rfl (lv_at hl 0 rfl) ?_
  refine lv_bipush (v := 112) hx hb (fk_get fk_cX12_readWord_0 7 rfl) (by decide) ?_
  refine lv_icmp_ne (tgt := 58) hx hb (fk_get fk_cX12_readWord_0 8 rfl) (by decide) (fun c_9 => ?_) (fun c_9 => ?_)
  · have hS0 : SRs z S (true, u) := ⟨hp, hb0, hp1⟩
    refine lv_aload_n hx hb (fk_get fk_cX12_readWord_0 30 rfl) rfl (lv_at hl 1 rfl) ?_
    refine lv_bipush (v := 108) hx hb (fk_get fk_cX12_readWord_0 31 rfl) (by decide) ?_
    have hFc := va_self hD hS hA
    refine va_callv (va_runV (As := [.int (108)]) (rest := []) ⟨hx, hb, hml, hown, hT⟩ (c_take l G ad S s.heap.size (z) (u) (108) (hz) (hz1) (hp) (by omega)) (tV 1 hT m6_57 m6_59 mp_24 m1_17 m6_60 rfl rfl (by decide +kernel) ⟨Nat.le_of_ble_eq_true rfl, Nat.le_of_ble_eq_true rfl⟩) ⟨PcW_blind, va_recv hK hP (ci := 14) (q0 := 0) rfl (ix_at (by decide) (cR_0 G ad S)), PcW_of hP hK hD _⟩ rfl rfl hl.1 rfl (lv_room (Nat.le_of_ble_eq_true rfl)) (fk_get fk_cX12_readWord_1 0 rfl) ⟨Nat.zero_le _, Nat.zero_le _⟩) hS (fun q _ h => hFc q h) hFc (fun S_12 t_ H locs ht_ hvm_ hw_11 hB_ hz_ hk_ hS => ?_)
    obtain ⟨hP, -, hD1_⟩ := hB_
    rw [ht_] at hP
    have hD : va_D A (wR G ad S_12) := hD1_.weaken (fun k q _ h => hFc q.1 h)
    try dsimp only at hw_11
    obtain ⟨hQ1, hs1⟩ := srs_tk (QFr.rf S) hS0 hw_11 (by decide)
    refine lv_aload_n hx hb (fk_get fk_cX12_readWord_1 1 rfl) rfl (lv_at hl 1 rfl) ?_
    refine lv_bipush (v := 101) hx hb (fk_get fk_cX12_readWord_1 2 rfl) (by decide) ?_
    have hFc := va_self hD hS hA
    refine va_callv (va_runV (As := [.int (101)]) (rest := []) ⟨hx, hb, hml, hown, hT⟩ (c_take l G ad S_12 H.size (z) ((tkF (hrS (fA S 6) z) (true, u) 108).2) (101) (hQ1.f17 hz) (hz1) (hs1.1) (by have := hs1.2.2; omega)) (tV 1 hT m6_57 m6_59 mp_24 m1_17 m6_60 rfl rfl (by decide +kernel) ⟨Nat.le_of_ble_eq_true rfl, Nat.le_of_ble_eq_true rfl⟩) ⟨PcW_blind, va_recv hK hP (ci := 14) (q0 := 0) rfl (ix_at (by decide) (cR_0 G ad S_12)), PcW_of hP hK hD _⟩ rfl rfl hl.1 rfl (lv_room (Nat.le_of_ble_eq_true rfl)) (fk_get fk_cX12_readWord_1 3 rfl) ⟨Nat.zero_le _, Nat.zero_le _⟩) hS (fun q _ h => hFc q h) hFc (fun S_15 t_ H locs ht_ hvm_ hw_14 hB_ hz_ hk_ hS => ?_)
    obtain ⟨hP, -, hD1_⟩ := hB_
    rw [ht_] at hP
    have hD : va_D A (wR G ad S_15) := hD1_.weaken (fun k q _ h => hFc q.1 h)
    try dsimp only at hw_14
    obtain ⟨hQ2, hs2⟩ := srs_tk hQ1 hs1 hw_14 (by decide)
    have hs2 : SRs z S_15 ([108, 101].foldl (tkF (hrS (fA S 6) z)) (true, u)) := hs2
    refine lv_aload_n hx hb (fk_get fk_cX12_readWord_1 4 rfl) rfl (lv_at hl 1 rfl) ?_
    refine vp_callSi (W.runV (As := []) (rest := []) ⟨hx, hb, hml, hown, hT⟩ (c_here l G ad S_15 H.size (z) (([108, 101].foldl (tkF (hrS (fA S 6) z)) (true, u)).2) (hQ2.f17 hz) (hz1) (hs2.1) (by have := hs2.2.2; omega)) (tV 0 hT m6_46 m6_48 mp_22 m1_17 m6_49 rfl rfl (by decide +kernel) ⟨Nat.le_of_ble_eq_true rfl, Nat.le_of_ble_eq_true rfl⟩) ⟨PcW_blind, va_recv hK hP (ci := 14) (q0 := 0) rfl (ix_at (by decide) (cR_0 G ad S_15)), PcW_of hP hK hD _⟩ rfl rfl hl.1 rfl (lv_room (Nat.le_of_ble_eq_true rfl)) (fk_get fk_cX12_readWord_1 5 rfl) ⟨Nat.zero_le _, Nat.zero_le _⟩) (fun r_16 hw_17 => ?_)
    try dsimp only at hw_17
    rw [hQ2.a6] at hw_17
    subst hw_17
    refine lv_istore_n (lv' := [(2, .int ((hrS (fA S 6) z ([108, 101].foldl (tkF (hrS (fA S 6) z)) (true, u)).2))), (1, .int ((hrS (fA S 6) z u))), (0, .ref (ad 0))]) hx hb (fk_get fk_cX12_readWord_1 6 rfl) rfl hl (by decide) rfl (fun ls hl => ?_)
    refine lv_aload_n hx hb (fk_get fk_cX12_readWord_1 7 rfl) rfl (lv_at hl 2 rfl) ?_
    refine lv_aload_n hx hb (fk_get fk_cX12_readWord_1 8 rfl) rfl (lv_at hl 2 rfl) ?_
    refine va_get (D := G.1) (ci := 14) (v := .int ((fF S_15 0 26))) (C := RX12) (T := TX12) (N := 49) hx hb hT inX12 hown hK hP 0 (ix_at (by decide) (cR_0 G ad S_15)) rfl 26 (by decide) (hT _ m5_127) (fun _ h9 => h9) rfl (fk_get fk_cX12_readWord_1 9 rfl) ?_
    refine lv_if_ne (tgt := 95) hx hb (fk_get fk_cX12_readWord_1 10 rfl) (by decide) (fun c_18 => ?_) (fun c_18 => ?_)
    · refine lv_iconst (v := 1) hx hb (fk_get fk_cX12_readWord_1 17 rfl) (by decide) ?_
      refine lv_goto (tgt := 100) hx hb (fk_get fk_cX12_readWord_1 18 rfl) (by decide) ?_
      refine va_put (D := G.1) (ci := 14) (v := .int (1)) (ty := .boolean) (C := RX12) (T := TX12) (N := 49) hx hb hT inX12 tyX12 tyX12_ok nmX12 hown hK hP hD hS 0 (ix_at (by decide) (cR_0 G ad S_15)) rfl 26 (by decide) (hT _ m5_127) (fun _ h9 => h9) rfl (by decide +kernel) rfl rfl (Nat.le_of_ble_eq_true rfl) (fk_get fk_cX12_readWord_1 20 rfl) (fun H locs hP hD hS => ?_)
      rw [pR_isBad G ad S_15 (1)] at hP hD
      refine lv_aload_n hx hb (fk_get fk_cX12_readWord_1 21 rfl) rfl (lv_at hl 2 rfl) ?_
      refine lv_dup hx hb (fk_get fk_cX12_readWord_1 22 rfl) rfl ?_
      refine va_get (D := G.1) (ci := 14) (v := .int ((fF S_15 0 25))) (C := RX12) (T := TX12) (N := 49) hx hb hT inX12 hown hK hP 0 (ix_at (by decide) (cR_0 G ad (setF S_15 0 26 (1)))) rfl 25 (by decide) (hT _ m5_126) (fun _ h9 => h9) rfl (fk_get fk_cX12_readWord_1 23 rfl) ?_
      refine lv_aload_n hx hb (fk_get fk_cX12_readWord_1 24 rfl) rfl (lv_at hl 2 rfl) ?_
      refine va_get (D := G.1) (ci := 14) (v := .int (1)) (C := RX12) (T := TX12) (N := 49) hx hb hT inX12 hown hK hP 0 (ix_at (by decide) (cR_0 G ad (setF S_15 0 26 (1)))) rfl 26 (by decide) (hT _ m5_127) (fun _ h9 => h9) rfl (fk_get fk_cX12_readWord_1 25 rfl) ?_
      refine lv_if_eq (tgt := 119) hx hb (fk_get fk_cX12_readWord_1 26 rfl) (by decide) (fun c_19 => absurd c_19 ((by decide))) (fun _ => ?_)
      refine lv_iconst (v := 0) hx hb (fk_get fk_cX12_readWord_1 27 rfl) (by decide) ?_
      refine lv_goto (tgt := 120) hx hb (fk_get fk_cX12_readWord_1 28 rfl) (by decide) ?_
      refine lv_iadd hx hb (fk_get fk_cX12_readWord_1 30 rfl) ?_
      rw [show ((fF S_15 0 25) + 0) = (nI ([108, 101].foldl (tkF (hrS (fA S 6) z)) (true, u)).2) from (by rw [hs2.1]; exact Int32.add_zero _)]
      refine va_put (D := G.1) (ci := 14) (v := .int ((nI ([108, 101].foldl (tkF (hrS (fA S 6) z)) (true, u)).2))) (ty := .int) (C := RX12) (T := TX12) (N := 49) hx hb hT inX12 tyX12 tyX12_ok nmX12 hown hK hP hD hS 0 (ix_at (by decide) (cR_0 G ad (setF S_15 0 26 (1)))) rfl 25 (by decide) (hT _ m5_126) (fun _ h9 => h9) rfl (by decide +kernel) rfl rfl (Nat.le_of_ble_eq_true rfl) (fk_get fk_cX12_readWord_1 31 rfl) (fun H locs hP hD hS => ?_)
      rw [pR_at G ad (setF S_15 0 26 (1)) ((nI ([108, 101].foldl (tkF (hrS (fA S 6) z)) (true, u)).2))] at hP hD
      refine lv_aload_n hx hb (fk_get fk_cX12_readWord_2 0 rfl) rfl (lv_at hl 2 rfl) ?_
      refine lv_iload_n hx hb (fk_get fk_cX12_readWord_2 1 rfl) rfl (lv_at hl 0 rfl) ?_
      refine lv_bipush (v := 115) hx hb (fk_get fk_cX12_readWord_2 2 rfl) (by decide) ?_
      refine lv_icmp_ne (tgt := 137) hx hb (fk_get fk_cX12_readWord_2 3 rfl) (by decide) (fun c_20 => ?_) (fun c_20 => ?_)
      · refine lv_ldc2 (v := 2125426) hx hb hown (hT _ m6_62) (fk_get fk_cX12_readWord_2 6 rfl) ?_
        have hFc := va_self hD hS hA
        refine va_callv (va_runV (As := [.long (2125426)]) (rest := []) ⟨hx, hb, hml, hown, hT⟩ (c_takeAllE l G ad (setF (setF S_15 0 26 (1)) 0 25 ((nI ([108, 101].foldl (tkF (hrS (fA S 6) z)) (true, u)).2))) H.size (z) (2125426) (3) ((tkG (hrS (fA S 6) z) ([108, 101].foldl (tkF (hrS (fA S 6) z)) (true, u)))) (hQ2.f17 hz) (hz1) (by first | (rw [tkG_b hs2 (by assumption)]; exact ⟨rfl, rfl, hs2.2.2⟩) | (rw [tkG_n (by assumption) (by assumption)]; exact ⟨rfl, rfl, hs2.2.2⟩) | (rw [tkG_y hs2 (by assumption) (by first | exact Or.inl (by assumption) | exact Or.inr (by assumption))]; exact ⟨rfl, rfl, hlt2⟩)) (by decide) (by decide)) (tV 1 hT m6_52 m6_54 mp_23 m1_17 m6_55 rfl rfl (by decide +kernel) ⟨Nat.le_of_ble_eq_true rfl, Nat.le_of_ble_eq_true rfl⟩) ⟨PcW_blind, va_recv hK hP (ci := 14) (q0 := 0) rfl (ix_at (by decide) (cR_0 G ad (setF (setF S_15 0 26 (1)) 0 25 ((nI ([108, 101].foldl (tkF (hrS (fA S 6) z)) (true, u)).2))))), PcW_of hP hK hD _⟩ rfl rfl hl.1 rfl (lv_room (Nat.le_of_ble_eq_true rfl)) (fk_get fk_cX12_readWord_2 7 rfl) ⟨Nat.zero_le _, Nat.zero_le _⟩) hS (fun q _ h => hFc q h) hFc (fun S_23 t_ H locs ht_ hvm_ hw_22 hB_ hz_ hk_ hS => ?_)
        obtain ⟨hP, -, hD1_⟩ := hB_
        rw [ht_] at hP
        have hD : va_D A (wR G ad S_23) := hD1_.weaken (fun k q _ h => hFc q.1 h)
        try dsimp only at hw_22
        obtain ⟨hQ4, hs4⟩ := hw_22
        have hQ5 : QFr S S_23 := ((hQ2.setF (by decide) _).setF (by decide) _).trans hQ4
        rw [fA_setF, fA_setF, hQ2.a6] at hs4
        refine lv_iload_n hx hb (fk_get fk_cX12_readWord_2 8 rfl) rfl (lv_at hl 0 rfl) ?_
        refine lv_bipush (v := 115) hx hb (fk_get fk_cX12_readWord_2 9 rfl) (by decide) ?_
        refine lv_icmp_ne (tgt := 153) hx hb (fk_get fk_cX12_readWord_2 10 rfl) (by decide) (fun _ => ?_) (fun c_24 => absurd c_24 (by first | assumption | exact Int32.not_lt.mp (by assumption) | exact Int32.not_le.mp (by assumption) | exact Int32.not_lt.mpr (by assumption) | exact Int32.not_le.mpr (by assumption) ))
        refine lv_iconst (v := 3) hx hb (fk_get fk_cX12_readWord_2 13 rfl) (by decide) ?_
        subst hQ
        have hpost : RwQ (hrS (fA S 6) z) z u (3 : Int32) S S_23 := by
          first | exact rwq_of hQ3 hs3 (rw_m (by assumption)) rfl (by decide) | exact rwq_of hQ3 hs3 (rw_p (by assumption)) rfl (by decide) | exact rwq_of hQ5 hs4 ((rw_l (by assumption) (by assumption)).trans (if_pos (by assumption))) rfl (by decide) | exact rwq_of hQ5 hs4 ((rw_l (by assumption) (by assumption)).trans (if_neg (by assumption))) rfl (by decide)
        exact W.iret (v := 3) hx hb hr (fun t_ ht_ hW_ => ⟨⟨3, S_23, rfl, hpost, by rw [ht_]; exact hP, va_K.moved hW_.alike hK, hD⟩, hS.F ht_⟩) hS.2.2 (fk_get fk_cX12_readWord_2 14 rfl)
      refine lv_ldc2 (v := 8307) hx hb hown (hT _ m6_61) (fk_get fk_cX12_readWord_2 4 rfl) ?_
      refine lv_goto (tgt := 140) hx hb (fk_get fk_cX12_readWord_2 5 rfl) (by decide) ?_
      have hFc := va_self hD hS hA
      refine va_callv (va_runV (As := [.long (8307)]) (rest := []) ⟨hx, hb, hml, hown, hT⟩ (c_takeAllE l G ad (setF (setF S_15 0 26 (1)) 0 25 ((nI ([108, 101].foldl (tkF (hrS (fA S 6) z)) (true, u)).2))) H.size (z) (8307) (2) ((tkG (hrS (fA S 6) z) ([108, 101].foldl (tkF (hrS (fA S 6) z)) (true, u)))) (hQ2.f17 hz) (hz1) (by first | (rw [tkG_b hs2 (by assumption)]; exact ⟨rfl, rfl, hs2.2.2⟩) | (rw [tkG_n (by assumption) (by assumption)]; exact ⟨rfl, rfl, hs2.2.2⟩) | (rw [tkG_y hs2 (by assumption) (by first | exact Or.inl (by assumption) | exact Or.inr (by assumption))]; exact ⟨rfl, rfl, hlt2⟩)) (by decide) (by decide)) (tV 1 hT m6_52 m6_54 mp_23 m1_17 m6_55 rfl rfl (by decide +kernel) ⟨Nat.le_of_ble_eq_true rfl, Nat.le_of_ble_eq_true rfl⟩) ⟨PcW_blind, va_recv hK hP (ci := 14) (q0 := 0) rfl (ix_at (by decide) (cR_0 G ad (setF (setF S_15 0 26 (1)) 0 25 ((nI ([108, 101].foldl (tkF (hrS (fA S 6) z)) (true, u)).2))))), PcW_of hP hK hD _⟩ rfl rfl hl.1 rfl (lv_room (Nat.le_of_ble_eq_true rfl)) (fk_get fk_cX12_readWord_2 7 rfl) ⟨Nat.zero_le _, Nat.zero_le _⟩) hS (fun q _ h => hFc q h) hFc (fun S_27 t_ H locs ht_ hvm_ hw_26 hB_ hz_ hk_ hS => ?_)
      obtain ⟨hP, -, hD1_⟩ := hB_
      rw [ht_] at hP
      have hD : va_D A (wR G ad S_27) := hD1_.weaken (fun k q _ h => hFc q.1 h)
      try dsimp only at hw_26
      obtain ⟨hQ4, hs4⟩ := hw_26
      have hQ5 : QFr S S_27 := ((hQ2.setF (by decide) _).setF (by decide) _).trans hQ4
      rw [fA_setF, fA_setF, hQ2.a6] at hs4
      refine lv_iload_n hx hb (fk_get fk_cX12_readWord_2 8 rfl) rfl (lv_at hl 0 rfl) ?_
      refine lv_bipush (v := 115) hx hb (fk_get fk_cX12_readWord_2 9 rfl) (by decide) ?_
      refine lv_icmp_ne (tgt := 153) hx hb (fk_get fk_cX12_readWord_2 10 rfl) (by decide) (fun c_28 => absurd (by first | assumption | exact Int32.not_lt.mp (by assumption) | exact Int32.not_le.mp (by assumption) | exact Int32.not_lt.mpr (by assumption) | exact Int32.not_le.mpr (by assumption) ) c_28) (fun _ => ?_)
      refine lv_iconst (v := 1) hx hb (fk_get fk_cX12_readWord_2 11 rfl) (by decide) ?_
      refine lv_goto (tgt := 154) hx hb (fk_get fk_cX12_readWord_2 12 rfl) (by decide) ?_
      subst hQ
      have hpost : RwQ (hrS (fA S 6) z) z u (1 : Int32) S S_27 := by
        first | exact rwq_of hQ3 hs3 (rw_m (by assumption)) rfl (by decide) | exact rwq_of hQ3 hs3 (rw_p (by assumption)) rfl (by decide) | exact rwq_of hQ5 hs4 ((rw_l (by assumption) (by assumption)).trans (if_pos (by assumption))) rfl (by decide) | exact rwq_of hQ5 hs4 ((rw_l (by assumption) (by assumption)).trans (if_neg (by assumption))) rfl (by decide)
      exact W.iret (v := 1) hx hb hr (fun t_ ht_ hW_ => ⟨⟨1, S_27, rfl, hpost, by rw [ht_]; exact hP, va_K.moved hW_.alike hK, hD⟩, hS.F ht_⟩) hS.2.2 (fk_get fk_cX12_readWord_2 14 rfl)
    refine lv_iload_n hx hb (fk_get fk_cX12_readWord_1 11 rfl) rfl (lv_at hl 0 rfl) ?_
    refine lv_bipush (v := 115) hx hb (fk_get fk_cX12_readWord_1 12 rfl) (by decide) ?_
    refine lv_icmp_eq (tgt := 99) hx hb (fk_get fk_cX12_readWord_1 13 rfl) (by decide) (fun c_29 => ?_) (fun c_29 => ?_)
    · have hlt2 := hr_lt (t := fA S 6) (z := z) (u := ([108, 101].foldl (tkF (hrS (fA S 6) z)) (true, u)).2) (by rw [show hrS (fA S 6) z ([108, 101].foldl (tkF (hrS (fA S 6) z)) (true, u)).2 = 115 from c_29]; decide)
      refine lv_iconst (v := 0) hx hb (fk_get fk_cX12_readWord_1 19 rfl) (by decide) ?_
      refine va_put (D := G.1) (ci := 14) (v := .int (0)) (ty := .boolean) (C := RX12) (T := TX12) (N := 49) hx hb hT inX12 tyX12 tyX12_ok nmX12 hown hK hP hD hS 0 (ix_at (by decide) (cR_0 G ad S_15)) rfl 26 (by decide) (hT _ m5_127) (fun _ h9 => h9) rfl (by decide +kernel) rfl rfl (Nat.le_of_ble_eq_true rfl) (fk_get fk_cX12_readWord_1 20 rfl) (fun H locs hP hD hS => ?_)
      rw [pR_isBad G ad S_15 (0)] at hP hD
      refine lv_aload_n hx hb (fk_get fk_cX12_readWord_1 21 rfl) rfl (lv_at hl 2 rfl) ?_
      refine lv_dup hx hb (fk_get fk_cX12_readWord_1 22 rfl) rfl ?_
      refine va_get (D := G.1) (ci := 14) (v := .int ((fF S_15 0 25))) (C := RX12) (T := TX12) (N := 49) hx hb hT inX12 hown hK hP 0 (ix_at (by decide) (cR_0 G ad (setF S_15 0 26 (0)))) rfl 25 (by decide) (hT _ m5_126) (fun _ h9 => h9) rfl (fk_get fk_cX12_readWord_1 23 rfl) ?_
      refine lv_aload_n hx hb (fk_get fk_cX12_readWord_1 24 rfl) rfl (lv_at hl 2 rfl) ?_
      refine va_get (D := G.1) (ci := 14) (v := .int (0)) (C := RX12) (T := TX12) (N := 49) hx hb hT inX12 hown hK hP 0 (ix_at (by decide) (cR_0 G ad (setF S_15 0 26 (0)))) rfl 26 (by decide) (hT _ m5_127) (fun _ h9 => h9) rfl (fk_get fk_cX12_readWord_1 25 rfl) ?_
      refine lv_if_eq (tgt := 119) hx hb (fk_get fk_cX12_readWord_1 26 rfl) (by decide) (fun _ => ?_) (fun c_30 => absurd ((by decide)) c_30)
      refine lv_iconst (v := 1) hx hb (fk_get fk_cX12_readWord_1 29 rfl) (by decide) ?_
      refine lv_iadd hx hb (fk_get fk_cX12_readWord_1 30 rfl) ?_
      rw [show ((fF S_15 0 25) + 1) = (nI (([108, 101].foldl (tkF (hrS (fA S 6) z)) (true, u)).2 + 1)) from (by rw [hs2.1]; exact nI_1 _)]
      refine va_put (D := G.1) (ci := 14) (v := .int ((nI (([108, 101].foldl (tkF (hrS (fA S 6) z)) (true, u)).2 + 1)))) (ty := .int) (C := RX12) (T := TX12) (N := 49) hx hb hT inX12 tyX12 tyX12_ok nmX12 hown hK hP hD hS 0 (ix_at (by decide) (cR_0 G ad (setF S_15 0 26 (0)))) rfl 25 (by decide) (hT _ m5_126) (fun _ h9 => h9) rfl (by decide +kernel) rfl rfl (Nat.le_of_ble_eq_true rfl) (fk_get fk_cX12_readWord_1 31 rfl) (fun H locs hP hD hS => ?_)
      rw [pR_at G ad (setF S_15 0 26 (0)) ((nI (([108, 101].foldl (tkF (hrS (fA S 6) z)) (true, u)).2 + 1)))] at hP hD
      refine lv_aload_n hx hb (fk_get fk_cX12_readWord_2 0 rfl) rfl (lv_at hl 2 rfl) ?_
      refine lv_iload_n hx hb (fk_get fk_cX12_readWord_2 1 rfl) rfl (lv_at hl 0 rfl) ?_
      refine lv_bipush (v := 115) hx hb (fk_get fk_cX12_readWord_2 2 rfl) (by decide) ?_
      refine lv_icmp_ne (tgt := 137) hx hb (fk_get fk_cX12_readWord_2 3 rfl) (by decide) (fun c_31 => absurd (by first | assumption | exact Int32.not_lt.mp (by assumption) | exact Int32.not_le.mp (by assumption) | exact Int32.not_lt.mpr (by assumption) | exact Int32.not_le.mpr (by assumption) ) c_31) (fun _ => ?_)
      refine lv_ldc2 (v := 8307) hx hb hown (hT _ m6_61) (fk_get fk_cX12_readWord_2 4 rfl) ?_
      refine lv_goto (tgt := 140) hx hb (fk_get fk_cX12_readWord_2 5 rfl) (by decide) ?_
      have hFc := va_self hD hS hA
      refine va_callv (va_runV (As := [.long (8307)]) (rest := []) ⟨hx, hb, hml, hown, hT⟩ (c_takeAllE l G ad (setF (setF S_15 0 26 (0)) 0 25 ((nI (([108, 101].foldl (tkF (hrS (fA S 6) z)) (true, u)).2 + 1)))) H.size (z) (8307) (2) ((tkG (hrS (fA S 6) z) ([108, 101].foldl (tkF (hrS (fA S 6) z)) (true, u)))) (hQ2.f17 hz) (hz1) (by first | (rw [tkG_b hs2 (by assumption)]; exact ⟨rfl, rfl, hs2.2.2⟩) | (rw [tkG_n (by assumption) (by assumption)]; exact ⟨rfl, rfl, hs2.2.2⟩) | (rw [tkG_y hs2 (by assumption) (by first | exact Or.inl (by assumption) | exact Or.inr (by assumption))]; exact ⟨rfl, rfl, hlt2⟩)) (by decide) (by decide)) (tV 1 hT m6_52 m6_54 mp_23 m1_17 m6_55 rfl rfl (by decide +kernel) ⟨Nat.le_of_ble_eq_true rfl, Nat.le_of_ble_eq_true rfl⟩) ⟨PcW_blind, va_recv hK hP (ci := 14) (q0 := 0) rfl (ix_at (by decide) (cR_0 G ad (setF (setF S_15 0 26 (0)) 0 25 ((nI (([108, 101].foldl (tkF (hrS (fA S 6) z)) (true, u)).2 + 1)))))), PcW_of hP hK hD _⟩ rfl rfl hl.1 rfl (lv_room (Nat.le_of_ble_eq_true rfl)) (fk_get fk_cX12_readWord_2 7 rfl) ⟨Nat.zero_le _, Nat.zero_le _⟩) hS (fun q _ h => hFc q h) hFc (fun S_34 t_ H locs ht_ hvm_ hw_33 hB_ hz_ hk_ hS => ?_)
      obtain ⟨hP, -, hD1_⟩ := hB_
      rw [ht_] at hP
      have hD : va_D A (wR G ad S_34) := hD1_.weaken (fun k q _ h => hFc q.1 h)
      try dsimp only at hw_33
      obtain ⟨hQ4, hs4⟩ := hw_33
      have hQ5 : QFr S S_34 := ((hQ2.setF (by decide) _).setF (by decide) _).trans hQ4
      rw [fA_setF, fA_setF, hQ2.a6] at hs4
      refine lv_iload_n hx hb (fk_get fk_cX12_readWord_2 8 rfl) rfl (lv_at hl 0 rfl) ?_
      refine lv_bipush (v := 115) hx hb (fk_get fk_cX12_readWord_2 9 rfl) (by decide) ?_
      refine lv_icmp_ne (tgt := 153) hx hb (fk_get fk_cX12_readWord_2 10 rfl) (by decide) (fun c_35 => absurd (by first | assumption | exact Int32.not_lt.mp (by assumption) | exact Int32.not_le.mp (by assumption) | exact Int32.not_lt.mpr (by assumption) | exact Int32.not_le.mpr (by assumption) ) c_35) (fun _ => ?_)
      refine lv_iconst (v := 1) hx hb (fk_get fk_cX12_readWord_2 11 rfl) (by decide) ?_
      refine lv_goto (tgt := 154) hx hb (fk_get fk_cX12_readWord_2 12 rfl) (by decide) ?_
      subst hQ
      have hpost : RwQ (hrS (fA S 6) z) z u (1 : Int32) S S_34 := by
        first | exact rwq_of hQ3 hs3 (rw_m (by assumption)) rfl (by decide) | exact rwq_of hQ3 hs3 (rw_p (by assumption)) rfl (by decide) | exact rwq_of hQ5 hs4 ((rw_l (by assumption) (by assumption)).trans (if_pos (by assumption))) rfl (by decide) | exact rwq_of hQ5 hs4 ((rw_l (by assumption) (by assumption)).trans (if_neg (by assumption))) rfl (by decide)
      exact W.iret (v := 1) hx hb hr (fun t_ ht_ hW_ => ⟨⟨1, S_34, rfl, hpost, by rw [ht_]; exact hP, va_K.moved hW_.alike hK, hD⟩, hS.F ht_⟩) hS.2.2 (fk_get fk_cX12_readWord_2 14 rfl)
    refine lv_iload_n hx hb (fk_get fk_cX12_readWord_1 14 rfl) rfl (lv_at hl 0 rfl) ?_
    refine lv_bipush (v := 97) hx hb (fk_get fk_cX12_readWord_1 15 rfl) (by decide) ?_
    refine lv_icmp_eq (tgt := 99) hx hb (fk_get fk_cX12_readWord_1 16 rfl) (by decide) (fun c_36 => ?_) (fun c_36 => ?_)
    · have hlt2 := hr_lt (t := fA S 6) (z := z) (u := ([108, 101].foldl (tkF (hrS (fA S 6) z)) (true, u)).2) (by rw [show hrS (fA S 6) z ([108, 101].foldl (tkF (hrS (fA S 6) z)) (true, u)).2 = 97 from c_36]; decide)
      refine lv_iconst (v := 0) hx hb (fk_get fk_cX12_readWord_1 19 rfl) (by decide) ?_
      refine va_put (D := G.1) (ci := 14) (v := .int (0)) (ty := .boolean) (C := RX12) (T := TX12) (N := 49) hx hb hT inX12 tyX12 tyX12_ok nmX12 hown hK hP hD hS 0 (ix_at (by decide) (cR_0 G ad S_15)) rfl 26 (by decide) (hT _ m5_127) (fun _ h9 => h9) rfl (by decide +kernel) rfl rfl (Nat.le_of_ble_eq_true rfl) (fk_get fk_cX12_readWord_1 20 rfl) (fun H locs hP hD hS => ?_)
      rw [pR_isBad G ad S_15 (0)] at hP hD
      refine lv_aload_n hx hb (fk_get fk_cX12_readWord_1 21 rfl) rfl (lv_at hl 2 rfl) ?_
      refine lv_dup hx hb (fk_get fk_cX12_readWord_1 22 rfl) rfl ?_
      refine va_get (D := G.1) (ci := 14) (v := .int ((fF S_15 0 25))) (C := RX12) (T := TX12) (N := 49) hx hb hT inX12 hown hK hP 0 (ix_at (by decide) (cR_0 G ad (setF S_15 0 26 (0)))) rfl 25 (by decide) (hT _ m5_126) (fun _ h9 => h9) rfl (fk_get fk_cX12_readWord_1 23 rfl) ?_
      refine lv_aload_n hx hb (fk_get fk_cX12_readWord_1 24 rfl) rfl (lv_at hl 2 rfl) ?_
      refine va_get (D := G.1) (ci := 14) (v := .int (0)) (C := RX12) (T := TX12) (N := 49) hx hb hT inX12 hown hK hP 0 (ix_at (by decide) (cR_0 G ad (setF S_15 0 26 (0)))) rfl 26 (by decide) (hT _ m5_127) (fun _ h9 => h9) rfl (fk_get fk_cX12_readWord_1 25 rfl) ?_
      refine lv_if_eq (tgt := 119) hx hb (fk_get fk_cX12_readWord_1 26 rfl) (by decide) (fun _ => ?_) (fun c_37 => absurd ((by decide)) c_37)
      refine lv_iconst (v := 1) hx hb (fk_get fk_cX12_readWord_1 29 rfl) (by decide) ?_
      refine lv_iadd hx hb (fk_get fk_cX12_readWord_1 30 rfl) ?_
      rw [show ((fF S_15 0 25) + 1) = (nI (([108, 101].foldl (tkF (hrS (fA S 6) z)) (true, u)).2 + 1)) from (by rw [hs2.1]; exact nI_1 _)]
      refine va_put (D := G.1) (ci := 14) (v := .int ((nI (([108, 101].foldl (tkF (hrS (fA S 6) z)) (true, u)).2 + 1)))) (ty := .int) (C := RX12) (T := TX12) (N := 49) hx hb hT inX12 tyX12 tyX12_ok nmX12 hown hK hP hD hS 0 (ix_at (by decide) (cR_0 G ad (setF S_15 0 26 (0)))) rfl 25 (by decide) (hT _ m5_126) (fun _ h9 => h9) rfl (by decide +kernel) rfl rfl (Nat.le_of_ble_eq_true rfl) (fk_get fk_cX12_readWord_1 31 rfl) (fun H locs hP hD hS => ?_)
      rw [pR_at G ad (setF S_15 0 26 (0)) ((nI (([108, 101].foldl (tkF (hrS (fA S 6) z)) (true, u)).2 + 1)))] at hP hD
      refine lv_aload_n hx hb (fk_get fk_cX12_readWord_2 0 rfl) rfl (lv_at hl 2 rfl) ?_
      refine lv_iload_n hx hb (fk_get fk_cX12_readWord_2 1 rfl) rfl (lv_at hl 0 rfl) ?_
      refine lv_bipush (v := 115) hx hb (fk_get fk_cX12_readWord_2 2 rfl) (by decide) ?_
      refine lv_icmp_ne (tgt := 137) hx hb (fk_get fk_cX12_readWord_2 3 rfl) (by decide) (fun _ => ?_) (fun c_38 => absurd c_38 (by first | assumption | exact Int32.not_lt.mp (by assumption) | exact Int32.not_le.mp (by assumption) | exact Int32.not_lt.mpr (by assumption) | exact Int32.not_le.mpr (by assumption) ))
      refine lv_ldc2 (v := 2125426) hx hb hown (hT _ m6_62) (fk_get fk_cX12_readWord_2 6 rfl) ?_
      have hFc := va_self hD hS hA
      refine va_callv (va_runV (As := [.long (2125426)]) (rest := []) ⟨hx, hb, hml, hown, hT⟩ (c_takeAllE l G ad (setF (setF S_15 0 26 (0)) 0 25 ((nI (([108, 101].foldl (tkF (hrS (fA S 6) z)) (true, u)).2 + 1)))) H.size (z) (2125426) (3) ((tkG (hrS (fA S 6) z) ([108, 101].foldl (tkF (hrS (fA S 6) z)) (true, u)))) (hQ2.f17 hz) (hz1) (by first | (rw [tkG_b hs2 (by assumption)]; exact ⟨rfl, rfl, hs2.2.2⟩) | (rw [tkG_n (by assumption) (by assumption)]; exact ⟨rfl, rfl, hs2.2.2⟩) | (rw [tkG_y hs2 (by assumption) (by first | exact Or.inl (by assumption) | exact Or.inr (by assumption))]; exact ⟨rfl, rfl, hlt2⟩)) (by decide) (by decide)) (tV 1 hT m6_52 m6_54 mp_23 m1_17 m6_55 rfl rfl (by decide +kernel) ⟨Nat.le_of_ble_eq_true rfl, Nat.le_of_ble_eq_true rfl⟩) ⟨PcW_blind, va_recv hK hP (ci := 14) (q0 := 0) rfl (ix_at (by decide) (cR_0 G ad (setF (setF S_15 0 26 (0)) 0 25 ((nI (([108, 101].foldl (tkF (hrS (fA S 6) z)) (true, u)).2 + 1)))))), PcW_of hP hK hD _⟩ rfl rfl hl.1 rfl (lv_room (Nat.le_of_ble_eq_true rfl)) (fk_get fk_cX12_readWord_2 7 rfl) ⟨Nat.zero_le _, Nat.zero_le _⟩) hS (fun q _ h => hFc q h) hFc (fun S_41 t_ H locs ht_ hvm_ hw_40 hB_ hz_ hk_ hS => ?_)
      obtain ⟨hP, -, hD1_⟩ := hB_
      rw [ht_] at hP
      have hD : va_D A (wR G ad S_41) := hD1_.weaken (fun k q _ h => hFc q.1 h)
      try dsimp only at hw_40
      obtain ⟨hQ4, hs4⟩ := hw_40
      have hQ5 : QFr S S_41 := ((hQ2.setF (by decide) _).setF (by decide) _).trans hQ4
      rw [fA_setF, fA_setF, hQ2.a6] at hs4
      refine lv_iload_n hx hb (fk_get fk_cX12_readWord_2 8 rfl) rfl (lv_at hl 0 rfl) ?_
      refine lv_bipush (v := 115) hx hb (fk_get fk_cX12_readWord_2 9 rfl) (by decide) ?_
      refine lv_icmp_ne (tgt := 153) hx hb (fk_get fk_cX12_readWord_2 10 rfl) (by decide) (fun _ => ?_) (fun c_42 => absurd c_42 (by first | assumption | exact Int32.not_lt.mp (by assumption) | exact Int32.not_le.mp (by assumption) | exact Int32.not_lt.mpr (by assumption) | exact Int32.not_le.mpr (by assumption) ))
      refine lv_iconst (v := 3) hx hb (fk_get fk_cX12_readWord_2 13 rfl) (by decide) ?_
      subst hQ
      have hpost : RwQ (hrS (fA S 6) z) z u (3 : Int32) S S_41 := by
        first | exact rwq_of hQ3 hs3 (rw_m (by assumption)) rfl (by decide) | exact rwq_of hQ3 hs3 (rw_p (by assumption)) rfl (by decide) | exact rwq_of hQ5 hs4 ((rw_l (by assumption) (by assumption)).trans (if_pos (by assumption))) rfl (by decide) | exact rwq_of hQ5 hs4 ((rw_l (by assumption) (by assumption)).trans (if_neg (by assumption))) rfl (by decide)
      exact W.iret (v := 3) hx hb hr (fun t_ ht_ hW_ => ⟨⟨3, S_41, rfl, hpost, by rw [ht_]; exact hP, va_K.moved hW_.alike hK, hD⟩, hS.F ht_⟩) hS.2.2 (fk_get fk_cX12_readWord_2 14 rfl)
    refine lv_iconst (v := 1) hx hb (fk_get fk_cX12_readWord_1 17 rfl) (by decide) ?_
    refine lv_goto (tgt := 100) hx hb (fk_get fk_cX12_readWord_1 18 rfl) (by decide) ?_
    refine va_put (D := G.1) (ci := 14) (v := .int (1)) (ty := .boolean) (C := RX12) (T := TX12) (N := 49) hx hb hT inX12 tyX12 tyX12_ok nmX12 hown hK hP hD hS 0 (ix_at (by decide) (cR_0 G ad S_15)) rfl 26 (by decide) (hT _ m5_127) (fun _ h9 => h9) rfl (by decide +kernel) rfl rfl (Nat.le_of_ble_eq_true rfl) (fk_get fk_cX12_readWord_1 20 rfl) (fun H locs hP hD hS => ?_)
    rw [pR_isBad G ad S_15 (1)] at hP hD
    refine lv_aload_n hx hb (fk_get fk_cX12_readWord_1 21 rfl) rfl (lv_at hl 2 rfl) ?_
    refine lv_dup hx hb (fk_get fk_cX12_readWord_1 22 rfl) rfl ?_
    refine va_get (D := G.1) (ci := 14) (v := .int ((fF S_15 0 25))) (C := RX12) (T := TX12) (N := 49) hx hb hT inX12 hown hK hP 0 (ix_at (by decide) (cR_0 G ad (setF S_15 0 26 (1)))) rfl 25 (by decide) (hT _ m5_126) (fun _ h9 => h9) rfl (fk_get fk_cX12_readWord_1 23 rfl) ?_
    refine lv_aload_n hx hb (fk_get fk_cX12_readWord_1 24 rfl) rfl (lv_at hl 2 rfl) ?_
    refine va_get (D := G.1) (ci := 14) (v := .int (1)) (C := RX12) (T := TX12) (N := 49) hx hb hT inX12 hown hK hP 0 (ix_at (by decide) (cR_0 G ad (setF S_15 0 26 (1)))) rfl 26 (by decide) (hT _ m5_127) (fun _ h9 => h9) rfl (fk_get fk_cX12_readWord_1 25 rfl) ?_
    refine lv_if_eq (tgt := 119) hx hb (fk_get fk_cX12_readWord_1 26 rfl) (by decide) (fun c_43 => absurd c_43 ((by decide))) (fun _ => ?_)
    refine lv_iconst (v := 0) hx hb (fk_get fk_cX12_readWord_1 27 rfl) (by decide) ?_
    refine lv_goto (tgt := 120) hx hb (fk_get fk_cX12_readWord_1 28 rfl) (by decide) ?_
    refine lv_iadd hx hb (fk_get fk_cX12_readWord_1 30 rfl) ?_
    rw [show ((fF S_15 0 25) + 0) = (nI ([108, 101].foldl (tkF (hrS (fA S 6) z)) (true, u)).2) from (by rw [hs2.1]; exact Int32.add_zero _)]
    refine va_put (D := G.1) (ci := 14) (v := .int ((nI ([108, 101].foldl (tkF (hrS (fA S 6) z)) (true, u)).2))) (ty := .int) (C := RX12) (T := TX12) (N := 49) hx hb hT inX12 tyX12 tyX12_ok nmX12 hown hK hP hD hS 0 (ix_at (by decide) (cR_0 G ad (setF S_15 0 26 (1)))) rfl 25 (by decide) (hT _ m5_126) (fun _ h9 => h9) rfl (by decide +kernel) rfl rfl (Nat.le_of_ble_eq_true rfl) (fk_get fk_cX12_readWord_1 31 rfl) (fun H locs hP hD hS => ?_)
    rw [pR_at G ad (setF S_15 0 26 (1)) ((nI ([108, 101].foldl (tkF (hrS (fA S 6) z)) (true, u)).2))] at hP hD
    refine lv_aload_n hx hb (fk_get fk_cX12_readWord_2 0 rfl) rfl (lv_at hl 2 rfl) ?_
    refine lv_iload_n hx hb (fk_get fk_cX12_readWord_2 1 rfl) rfl (lv_at hl 0 rfl) ?_
    refine lv_bipush (v := 115) hx hb (fk_get fk_cX12_readWord_2 2 rfl) (by decide) ?_
    refine lv_icmp_ne (tgt := 137) hx hb (fk_get fk_cX12_readWord_2 3 rfl) (by decide) (fun _ => ?_) (fun c_44 => absurd c_44 (by first | assumption | exact Int32.not_lt.mp (by assumption) | exact Int32.not_le.mp (by assumption) | exact Int32.not_lt.mpr (by assumption) | exact Int32.not_le.mpr (by assumption) ))
    refine lv_ldc2 (v := 2125426) hx hb hown (hT _ m6_62) (fk_get fk_cX12_readWord_2 6 rfl) ?_
    have hFc := va_self hD hS hA
    refine va_callv (va_runV (As := [.long (2125426)]) (rest := []) ⟨hx, hb, hml, hown, hT⟩ (c_takeAllE l G ad (setF (setF S_15 0 26 (1)) 0 25 ((nI ([108, 101].foldl (tkF (hrS (fA S 6) z)) (true, u)).2))) H.size (z) (2125426) (3) ((tkG (hrS (fA S 6) z) ([108, 101].foldl (tkF (hrS (fA S 6) z)) (true, u)))) (hQ2.f17 hz) (hz1) (by first | (rw [tkG_b hs2 (by assumption)]; exact ⟨rfl, rfl, hs2.2.2⟩) | (rw [tkG_n (by assumption) (by assumption)]; exact ⟨rfl, rfl, hs2.2.2⟩) | (rw [tkG_y hs2 (by assumption) (by first | exact Or.inl (by assumption) | exact Or.inr (by assumption))]; exact ⟨rfl, rfl, hlt2⟩)) (by decide) (by decide)) (tV 1 hT m6_52 m6_54 mp_23 m1_17 m6_55 rfl rfl (by decide +kernel) ⟨Nat.le_of_ble_eq_true rfl, Nat.le_of_ble_eq_true rfl⟩) ⟨PcW_blind, va_recv hK hP (ci := 14) (q0 := 0) rfl (ix_at (by decide) (cR_0 G ad (setF (setF S_15 0 26 (1)) 0 25 ((nI ([108, 101].foldl (tkF (hrS (fA S 6) z)) (true, u)).2))))), PcW_of hP hK hD _⟩ rfl rfl hl.1 rfl (lv_room (Nat.le_of_ble_eq_true rfl)) (fk_get fk_cX12_readWord_2 7 rfl) ⟨Nat.zero_le _, Nat.zero_le _⟩) hS (fun q _ h => hFc q h) hFc (fun S_47 t_ H locs ht_ hvm_ hw_46 hB_ hz_ hk_ hS => ?_)
    obtain ⟨hP, -, hD1_⟩ := hB_
    rw [ht_] at hP
    have hD : va_D A (wR G ad S_47) := hD1_.weaken (fun k q _ h => hFc q.1 h)
    try dsimp only at hw_46
    obtain ⟨hQ4, hs4⟩ := hw_46
    have hQ5 : QFr S S_47 := ((hQ2.setF (by decide) _).setF (by decide) _).trans hQ4
    rw [fA_setF, fA_setF, hQ2.a6] at hs4
    refine lv_iload_n hx hb (fk_get fk_cX12_readWord_2 8 rfl) rfl (lv_at hl 0 rfl) ?_
    refine lv_bipush (v := 115) hx hb (fk_get fk_cX12_readWord_2 9 rfl) (by decide) ?_
    refine lv_icmp_ne (tgt := 153) hx hb (fk_get fk_cX12_readWord_2 10 rfl) (by decide) (fun _ => ?_) (fun c_48 => absurd c_48 (by first | assumption | exact Int32.not_lt.mp (by assumption) | exact Int32.not_le.mp (by assumption) | exact Int32.not_lt.mpr (by assumption) | exact Int32.not_le.mpr (by assumption) ))
    refine lv_iconst (v := 3) hx hb (fk_get fk_cX12_readWord_2 13 rfl) (by decide) ?_
    subst hQ
    have hpost : RwQ (hrS (fA S 6) z) z u (3 : Int32) S S_47 := by
      first | exact rwq_of hQ3 hs3 (rw_m (by assumption)) rfl (by decide) | exact rwq_of hQ3 hs3 (rw_p (by assumption)) rfl (by decide) | exact rwq_of hQ5 hs4 ((rw_l (by assumption) (by assumption)).trans (if_pos (by assumption))) rfl (by decide) | exact rwq_of hQ5 hs4 ((rw_l (by assumption) (by assumption)).trans (if_neg (by assumption))) rfl (by decide)
    exact W.iret (v := 3) hx hb hr (fun t_ ht_ hW_ => ⟨⟨3, S_47, rfl, hpost, by rw [ht_]; exact hP, va_K.moved hW_.alike hK, hD⟩, hS.F ht_⟩) hS.2.2 (fk_get fk_cX12_readWord_2 14 rfl)
  have hlt := hr_lt (t := fA S 6) (z := z) (u := u) (by rw [show hrS (fA S 6) z u = 112 from c_9]; decide)
  refine lv_aload_n hx hb (fk_get fk_cX12_readWord_0 9 rfl) rfl (lv_at hl 1 rfl) ?_
  refine lv_dup hx hb (fk_get fk_cX12_readWord_0 10 rfl) rfl ?_
  refine va_get (D := G.1) (ci := 14) (v := .int ((fF S 0 25))) (C := RX12) (T := TX12) (N := 49) hx hb hT inX12 hown hK hP 0 (ix_at (by decide) (cR_0 G ad S)) rfl 25 (by decide) (hT _ m5_126) (fun _ h9 => h9) rfl (fk_get fk_cX12_readWord_0 11 rfl) ?_
  refine lv_iconst (v := 1) hx hb (fk_get fk_cX12_readWord_0 12 rfl) (by decide) ?_
  refine lv_iadd hx hb (fk_get fk_cX12_readWord_0 13 rfl) ?_
  rw [show ((fF S 0 25) + 1) = (nI (u + 1)) from (by rw [hp]; exact nI_1 u)]
  refine va_put (D := G.1) (ci := 14) (v := .int ((nI (u + 1)))) (ty := .int) (C := RX12) (T := TX12) (N := 49) hx hb hT inX12 tyX12 tyX12_ok nmX12 hown hK hP hD hS 0 (ix_at (by decide) (cR_0 G ad S)) rfl 25 (by decide) (hT _ m5_126) (fun _ h9 => h9) rfl (by decide +kernel) rfl rfl (Nat.le_of_ble_eq_true rfl) (fk_get fk_cX12_readWord_0 14 rfl) (fun H locs hP hD hS => ?_)
  rw [pR_at G ad S ((nI (u + 1)))] at hP hD
  refine lv_aload_n hx hb (fk_get fk_cX12_readWord_0 15 rfl) rfl (lv_at hl 1 rfl) ?_
  refine lv_iload_n hx hb (fk_get fk_cX12_readWord_0 16 rfl) rfl (lv_at hl 0 rfl) ?_
  refine lv_bipush (v := 109) hx hb (fk_get fk_cX12_readWord_0 17 rfl) (by decide) ?_
  refine lv_icmp_ne (tgt := 40) hx hb (fk_get fk_cX12_readWord_0 18 rfl) (by decide) (fun _ => ?_) (fun c_49 => absurd c_49 (by first | assumption | exact Int32.not_lt.mp (by assumption) | exact Int32.not_le.mp (by assumption) | exact Int32.not_lt.mpr (by assumption) | exact Int32.not_le.mpr (by assumption) ))
  refine lv_ldc2 (v := 139139967346) hx hb hown (hT _ m6_51) (fk_get fk_cX12_readWord_0 21 rfl) ?_
  have hFc := va_self hD hS hA
  refine va_callv (va_runV (As := [.long (139139967346)]) (rest := []) ⟨hx, hb, hml, hown, hT⟩ (c_takeAllE l G ad (setF S 0 25 ((nI (u + 1)))) H.size (z) (139139967346) (7) ((true, u + 1)) (hz) (hz1) (⟨rfl, hb0, hlt⟩) (by decide) (by decide)) (tV 1 hT m6_52 m6_54 mp_23 m1_17 m6_55 rfl rfl (by decide +kernel) ⟨Nat.le_of_ble_eq_true rfl, Nat.le_of_ble_eq_true rfl⟩) ⟨PcW_blind, va_recv hK hP (ci := 14) (q0 := 0) rfl (ix_at (by decide) (cR_0 G ad (setF S 0 25 ((nI (u + 1)))))), PcW_of hP hK hD _⟩ rfl rfl hl.1 rfl (lv_room (Nat.le_of_ble_eq_true rfl)) (fk_get fk_cX12_readWord_0 22 rfl) ⟨Nat.zero_le _, Nat.zero_le _⟩) hS (fun q _ h => hFc q h) hFc (fun S_52 t_ H locs ht_ hvm_ hw_51 hB_ hz_ hk_ hS => ?_)
  obtain ⟨hP, -, hD1_⟩ := hB_
  rw [ht_] at hP
  have hD : va_D A (wR G ad S_52) := hD1_.weaken (fun k q _ h => hFc q.1 h)
  try dsimp only at hw_51
  obtain ⟨hQ3, hs3⟩ := hw_51
  have hQ3 : QFr S S_52 := (QFr.setF (QFr.rf S) (by decide) _).trans hQ3
  refine lv_iload_n hx hb (fk_get fk_cX12_readWord_0 23 rfl) rfl (lv_at hl 0 rfl) ?_
  refine lv_bipush (v := 109) hx hb (fk_get fk_cX12_readWord_0 24 rfl) (by decide) ?_
  refine lv_icmp_ne (tgt := 56) hx hb (fk_get fk_cX12_readWord_0 25 rfl) (by decide) (fun _ => ?_) (fun c_53 => absurd c_53 (by first | assumption | exact Int32.not_lt.mp (by assumption) | exact Int32.not_le.mp (by assumption) | exact Int32.not_lt.mpr (by assumption) | exact Int32.not_le.mpr (by assumption) ))
  refine lv_iconst (v := 2) hx hb (fk_get fk_cX12_readWord_0 28 rfl) (by decide) ?_
  subst hQ
  have hpost : RwQ (hrS (fA S 6) z) z u (2 : Int32) S S_52 := by
    first | exact rwq_of hQ3 hs3 (rw_m (by assumption)) rfl (by decide) | exact rwq_of hQ3 hs3 (rw_p (by assumption)) rfl (by decide) | exact rwq_of hQ5 hs4 ((rw_l (by assumption) (by assumption)).trans (if_pos (by assumption))) rfl (by decide) | exact rwq_of hQ5 hs4 ((rw_l (by assumption) (by assumption)).trans (if_neg (by assumption))) rfl (by decide)
  exact W.iret (v := 2) hx hb hr (fun t_ ht_ hW_ => ⟨⟨2, S_52, rfl, hpost, by rw [ht_]; exact hP, va_K.moved hW_.alike hK, hD⟩, hS.F ht_⟩) hS.2.2 (fk_get fk_cX12_readWord_0 29 rfl)
set_option maxHeartbeats 800000 in
set_option maxRecDepth 100000 in
theorem c_readExpressionE (l : Launch) (G : GG) (ad : Nat → Nat) (S : FS) (sz : Nat) (z u0 : Nat) (hz : fF S 0 17 = nI z) (hz1 : z ≤ 100) (hp : fF S 0 25 = nI u0) (hp1 : u0 ≤ z) (hb26 : fF S 0 26 = 0) : Met l yX12_readExpression (Cond.code yX12_readExpression cX12_readExpression 4 none :: TBL) ({ frames := 6, cells := 0, slots := 0, locals := 166 } : Room) (PcW G (wR G ad S) sz [.ref (ad 0)]) (va_Qv (fun (S' : FS) => EXxe S S' z u0 (exR (hrS (fA S 6) z) (z + 3) true u0 0 0 (fun _ => 0))) (fun S' t => BW G (va_A (wR G ad S) sz) (wR G ad S') t) (va_A (wR G ad S) sz)) 0 0 (va_A (wR G ad S) sz) := by
  refine Met.ofW (cc := cX12_readExpression) (maxL := 4) (ret := none) (by decide) rfl ?_
  intro p e s m args below meth c₀ s₁ B hml hv
  obtain ⟨rfl, hsz, hP, hK, hD0⟩ := hv
  have hx := B.exec
  have hb := B.bytes
  have hr := B.returns
  have hT : ∀ w ∈ TBL, w.before ([.ref (ad 0)] : List Value).toArray s = true := fun w h => atoms_spec (ws := Cond.code yX12_readExpression cX12_readExpression 4 none :: TBL) B.pre w (List.mem_cons_of_mem _ h)
  have hown : s.vm.findClass "LittleMoreModel" = some m.cls := findClass_of_methodNamed B.named
  have hlocks := B.notSynchronized
  subst hsz
  have hD := hD0.self (sz := s.heap.size)
  generalize hAe : va_A (wR G ad S) s.heap.size = A at hD ⊢
  have hA : ∀ q : Nat, s.heap.size ≤ q → A q := fun q h => by rw [← hAe]; exact Or.inr h
  have hS : va_S A s.heap s.heap [] := va_S.rf
  have hP : va_P G.1 vwCl (wR G ad S) s.heap := hP
  have hl := lv_entry ([.ref (ad 0)]) (n := 4) (Nat.le_of_ble_eq_true rfl)
  rw [lg_entry_eq]
  generalize (lg_sl ([.ref (ad 0)]) ++ List.replicate (4 - (lg_sl ([.ref (ad 0)])).length) Slot.unset).toArray = ls at hl ⊢
  have hl : lv_has ls 4 [(0, .ref (ad 0))] := hl
  refine W_abs (fun Q hQ => ?_)
  generalize ([.ref (ad 0)] : List Value).toArray = args at hT hQ ⊢
  refine lv_aload_n hx hb (fk_get fk_cX12_readExpression_0 0 rfl) rfl (lv_at hl 0 rfl) ?_
  refine lv_iconst (v := 0) hx hb (fk_get fk_cX12_readExpression_0 1 rfl) (by decide) ?_
  refine va_put (D := G.1) (ci := 14) (v := .int (0)) (ty := .int) (C := RX12) (T := TX12) (N := 49) hx hb hT inX12 tyX12 tyX12_ok nmX12 hown hK hP hD hS 0 (ix_at (by decide) (cR_0 G ad S)) rfl 28 (by decide) (hT _ m5_129) (fun _ h9 => h9) rfl (by decide +kernel) rfl rfl (Nat.le_of_ble_eq_true rfl) (fk_get fk_cX12_readExpression_0 2 rfl) (fun H locs hP hD hS => ?_)
  rw [pR_depth G ad S (0)] at hP hD
  refine lv_aload_n hx hb (fk_get fk_cX12_readExpression_0 3 rfl) rfl (lv_at hl 0 rfl) ?_
  refine lv_iconst (v := 0) hx hb (fk_get fk_cX12_readExpression_0 4 rfl) (by decide) ?_
  refine va_put (D := G.1) (ci := 14) (v := .int (0)) (ty := .int) (C := RX12) (T := TX12) (N := 49) hx hb hT inX12 tyX12 tyX12_ok nmX12 hown hK hP hD hS 0 (ix_at (by decide) (cR_0 G ad (setF S 0 28 (0)))) rfl 29 (by decide) (hT _ m5_130) (fun _ h9 => h9) rfl (by decide +kernel) rfl rfl (Nat.le_of_ble_eq_true rfl) (fk_get fk_cX12_readExpression_0 5 rfl) (fun H locs hP hD hS => ?_)
  rw [pR_opened G ad (setF S 0 28 (0)) (0)] at hP hD
  refine lv_aload_n hx hb (fk_get fk_cX12_readExpression_0 6 rfl) rfl (lv_at hl 0 rfl) ?_
  refine va_get (D := G.1) (ci := 14) (v := .ref (ad 13)) (C := RX12) (T := TX12) (N := 49) hx hb hT inX12 hown hK hP 0 (ix_at (by decide) (cR_0 G ad (setF (setF S 0 28 (0)) 0 29 (0)))) rfl 27 (by decide) (hT _ m5_128) (fun _ h9 => h9) rfl (fk_get fk_cX12_readExpression_0 7 rfl) ?_
  refine lv_iconst (v := 0) hx hb (fk_get fk_cX12_readExpression_0 8 rfl) (by decide) ?_
  refine lv_iconst (v := 0) hx hb (fk_get fk_cX12_readExpression_0 9 rfl) (by decide) ?_
  refine r_iast hx hb hK hP hD hS 13 0 (ix_at (by decide) (cR_nots G ad (setF (setF S 0 28 (0)) 0 29 (0)))) rfl (0) (rfl) (by omega) (by decide) (fk_get fk_cX12_readExpression_0 10 rfl) (fun H locs hP hD hS => ?_)
  rw [pR_A G ad (setF (setF S 0 28 (0)) 0 29 (0)) (by decide) (by decide) (by decide) (cR_nots G ad (setF (setF S 0 28 (0)) 0 29 (0))) (upd (fA (setF (setF S 0 28 (0)) 0 29 (0)) 13) (0) (0))] at hP hD
  refine lv_iconst (v := 1) hx hb (fk_get fk_cX12_readExpression_0 11 rfl) (by decide) ?_
  refine lv_istore_n (lv' := [(1, .int (1)), (0, .ref (ad 0))]) hx hb (fk_get fk_cX12_readExpression_0 12 rfl) rfl hl (by decide) rfl (fun ls hl => ?_)
  refine lv_iconst (v := 0) hx hb (fk_get fk_cX12_readExpression_0 13 rfl) (by decide) ?_
  refine lv_istore_n (lv' := [(2, .int (0)), (1, .int (1)), (0, .ref (ad 0))]) hx hb (fk_get fk_cX12_readExpression_0 14 rfl) rfl hl (by decide) rfl (fun ls hl => ?_)
  have lp_1 : ∀ (fu : Nat) (wf en : Int32) (SL : FS) (H_3 : Heap) (locs_4 : List Loc) (ls : Array Slot),  (EXx S SL z u0 fu wf en (exR (hrS (fA S 6) z) (z + 3) true u0 0 0 (fun _ => 0))) → va_P G.1 vwCl (wR G ad SL) H_3 → va_D A (wR G ad SL) → va_S A s.heap H_3 locs_4 → lv_has ls 4 [(2, .int (en)), (1, .int (wf)), (0, .ref (ad 0))] → W p l e ({ frames := 6, cells := 0, slots := 0, locals := 166 } : Room) s m args below meth c₀ H_3 locs_4 0 0 Q (F0 m 21 ls []) := by
    intro fu
    induction fu with
    | zero =>
      intro wf en SL H_3 locs_4 ls hE hP hD hS hl
      exact absurd hE.2.2.2.1 (by omega)
    | succ fu ih =>
      intro wf en SL H_3 locs_4 ls hE hP hD hS hl
      obtain ⟨hf, hwf, hen, -, u, d, o, N, hp2, hu, hX, hN, hE2⟩ := id hE
      refine lv_aload_n hx hb (fk_get fk_cX12_readExpression_0 15 rfl) rfl (lv_at hl 2 rfl) ?_
      refine va_get (D := G.1) (ci := 14) (v := .int ((fF SL 0 26))) (C := RX12) (T := TX12) (N := 49) hx hb hT inX12 hown hK hP 0 (ix_at (by decide) (cR_0 G ad SL)) rfl 26 (by decide) (hT _ m5_127) (fun _ h9 => h9) rfl (fk_get fk_cX12_readExpression_0 16 rfl) ?_
      refine lv_if_ne (tgt := 168) hx hb (fk_get fk_cX12_readExpression_0 17 rfl) (by decide) (fun c_5 => ?_) (fun c_5 => ?_)
      · subst hQ
        have hpost : EXxe S SL z u0 (exR (hrS (fA S 6) z) (z + 3) true u0 0 0 (fun _ => 0)) := by
          exact EXx_end hE (by first | exact Or.inl (by assumption) | exact Or.inr (by assumption))
        exact W.vret hx hb hr (fun t_ ht_ hW_ => ⟨⟨SL, rfl, hpost, by rw [ht_]; exact hP, va_K.moved hW_.alike hK, hD⟩, hS.F ht_⟩) hS.2.2 (fk_get fk_cX12_readExpression_2 29 rfl)
      have hb0 := c_5
      have hXl := XL_le hX
      refine lv_iload_n hx hb (fk_get fk_cX12_readExpression_0 18 rfl) rfl (lv_at hl 0 rfl) ?_
      refine lv_if_ne (tgt := 168) hx hb (fk_get fk_cX12_readExpression_0 19 rfl) (by decide) (fun c_6 => ?_) (fun c_6 => ?_)
      · subst hQ
        have hpost : EXxe S SL z u0 (exR (hrS (fA S 6) z) (z + 3) true u0 0 0 (fun _ => 0)) := by
          exact EXx_end hE (by first | exact Or.inl (by assumption) | exact Or.inr (by assumption))
        exact W.vret hx hb hr (fun t_ ht_ hW_ => ⟨⟨SL, rfl, hpost, by rw [ht_]; exact hP, va_K.moved hW_.alike hK, hD⟩, hS.F ht_⟩) hS.2.2 (fk_get fk_cX12_readExpression_2 29 rfl)
      obtain ⟨hRP, h5_, hR_⟩ : RPi (fA S 6) z u0 u d ∧ z + 2 < u + (fu + 1) ∧ exR (hrS (fA S 6) z) (fu + 1) (decide (wf = 1)) u d o N = (exR (hrS (fA S 6) z) (z + 3) true u0 0 0 (fun _ => 0)) := by
        rcases hE2 with q | ⟨-, q1, -, q2⟩
        · exact absurd (q.1.symm.trans hb0) (by decide)
        · exact ⟨q1, q2 c_6⟩
      have hfu : 0 < fu := by omega
      refine lv_aload_n hx hb (fk_get fk_cX12_readExpression_0 20 rfl) rfl (lv_at hl 2 rfl) ?_
      refine vp_callSi (W.runV (As := []) (rest := []) ⟨hx, hb, hml, hown, hT⟩ (c_here l G ad SL H_3.size (z) (u) (hf.f17 hz) (hz1) (hp2) (by omega)) (tV 0 hT m6_46 m6_48 mp_22 m1_17 m6_49 rfl rfl (by decide +kernel) ⟨Nat.le_of_ble_eq_true rfl, Nat.le_of_ble_eq_true rfl⟩) ⟨PcW_blind, va_recv hK hP (ci := 14) (q0 := 0) rfl (ix_at (by decide) (cR_0 G ad SL)), PcW_of hP hK hD _⟩ rfl rfl hl.1 rfl (lv_room (Nat.le_of_ble_eq_true rfl)) (fk_get fk_cX12_readExpression_0 21 rfl) ⟨Nat.zero_le _, Nat.zero_le _⟩) (fun r_7 hw_8 => ?_)
      try dsimp only at hw_8
      rw [hf.a6] at hw_8
      subst hw_8
      refine lv_istore_n (lv' := [(3, .int ((hrS (fA S 6) z u))), (2, .int (en)), (1, .int (wf)), (0, .ref (ad 0))]) hx hb (fk_get fk_cX12_readExpression_0 22 rfl) rfl hl (by decide) rfl (fun ls hl => ?_)
      refine lv_iload_n hx hb (fk_get fk_cX12_readExpression_0 23 rfl) rfl (lv_at hl 2 rfl) ?_
      refine lv_if_eq (tgt := 70) hx hb (fk_get fk_cX12_readExpression_0 24 rfl) (by decide) (fun c_9 => ?_) (fun c_9 => ?_)
      · refine lv_iload_n hx hb (fk_get fk_cX12_readExpression_1 8 rfl) rfl (lv_at hl 0 rfl) ?_
        refine lv_bipush (v := 38) hx hb (fk_get fk_cX12_readExpression_1 9 rfl) (by decide) ?_
        refine lv_icmp_eq (tgt := 82) hx hb (fk_get fk_cX12_readExpression_1 10 rfl) (by decide) (fun c_10 => ?_) (fun c_10 => ?_)
        · refine lv_aload_n hx hb (fk_get fk_cX12_readExpression_1 14 rfl) rfl (lv_at hl 3 rfl) ?_
          refine lv_dup hx hb (fk_get fk_cX12_readExpression_1 15 rfl) rfl ?_
          refine va_get (D := G.1) (ci := 14) (v := .int ((fF SL 0 25))) (C := RX12) (T := TX12) (N := 49) hx hb hT inX12 hown hK hP 0 (ix_at (by decide) (cR_0 G ad SL)) rfl 25 (by decide) (hT _ m5_126) (fun _ h9 => h9) rfl (fk_get fk_cX12_readExpression_1 16 rfl) ?_
          refine lv_iconst (v := 1) hx hb (fk_get fk_cX12_readExpression_1 17 rfl) (by decide) ?_
          refine lv_iadd hx hb (fk_get fk_cX12_readExpression_1 18 rfl) ?_
          rw [show ((fF SL 0 25) + 1) = (nI (u + 1)) from (by rw [hp2]; exact nI_1 u)]
          refine va_put (D := G.1) (ci := 14) (v := .int ((nI (u + 1)))) (ty := .int) (C := RX12) (T := TX12) (N := 49) hx hb hT inX12 tyX12 tyX12_ok nmX12 hown hK hP hD hS 0 (ix_at (by decide) (cR_0 G ad SL)) rfl 25 (by decide) (hT _ m5_126) (fun _ h9 => h9) rfl (by decide +kernel) rfl rfl (Nat.le_of_ble_eq_true rfl) (fk_get fk_cX12_readExpression_1 19 rfl) (fun H locs hP hD hS => ?_)
          rw [pR_at G ad SL ((nI (u + 1)))] at hP hD
          refine lv_iconst (v := 1) hx hb (fk_get fk_cX12_readExpression_1 20 rfl) (by decide) ?_
          refine lv_istore_n (lv' := [(1, .int (1)), (3, .int ((hrS (fA S 6) z u))), (2, .int (en)), (0, .ref (ad 0))]) hx hb (fk_get fk_cX12_readExpression_1 21 rfl) rfl hl (by decide) rfl (fun ls hl => ?_)
          refine lv_goto (tgt := 165) hx hb (fk_get fk_cX12_readExpression_1 22 rfl) (by decide) ?_
          refine lv_goto (tgt := 21) hx hb (fk_get fk_cX12_readExpression_2 28 rfl) (by decide) ?_
          exact ih (1) (en) (setF SL 0 25 ((nI (u + 1)))) _ _ ls ((by (try rw [show en = 0 from by assumption]); (first | rw [show wf = 0 from by assumption] | rw [show wf = 1 from hwf.resolve_left (by assumption)] | skip); first | exact EXx_open hf hu hp2 hRP h5_ (by have q_ := hR_; rw [show wf = 1 from hwf.resolve_left (by assumption)] at q_; exact q_) hX rfl (Or.inl (by assumption)) hO | exact EXx_open hf hu hp2 hRP h5_ (by have q_ := hR_; rw [show wf = 1 from hwf.resolve_left (by assumption)] at q_; exact q_) hX rfl (Or.inr (by assumption)) hO | exact EXx_test hf hb0 hu hRP h5_ (by have q_ := hR_; rw [show wf = 1 from hwf.resolve_left (by assumption)] at q_; exact q_) (by assumption) (by assumption) hT1 hX1 | exact EXx_and hf hb0 hRP h5_ (by have q_ := hR_; rw [show wf = 0 from by assumption] at q_; exact q_) hX (Or.inl (by assumption)) | exact EXx_and hf hb0 hRP h5_ (by have q_ := hR_; rw [show wf = 0 from by assumption] at q_; exact q_) hX (Or.inr (by assumption)) | exact EXx_close hf hb0 hRP h5_ (by have q_ := hR_; rw [show wf = 0 from by assumption] at q_; exact q_) hX (hN (by assumption)) hd0 (by assumption) rfl rfl | exact EXx_stop (by first | rfl | assumption) hf hfu hu hp2 hRP (by have q_ := hR_; rw [show wf = 0 from by assumption] at q_; exact q_) (fun q => q.elim (fun q => absurd q (by assumption)) (fun q => absurd q (by assumption))) (fun q => absurd q.1 (by assumption)) hX (by first | exact hN | exact fun _ => hN (by assumption)) (Or.inl ⟨rfl, by assumption⟩) | exact EXx_stop (by first | rfl | assumption) hf hfu hu hp2 hRP (by have q_ := hR_; rw [show wf = 0 from by assumption] at q_; exact q_) (fun q => q.elim (fun q => absurd q (by assumption)) (fun q => absurd q (by assumption))) (fun q => absurd q.1 (by assumption)) hX (by first | exact hN | exact fun _ => hN (by assumption)) (Or.inr ⟨rfl, by assumption⟩) | exact EXx_stop (by first | rfl | assumption) hf hfu hu hp2 hRP (by have q_ := hR_; rw [show wf = 0 from by assumption] at q_; exact q_) (fun q => q.elim (fun q => absurd q (by assumption)) (fun q => absurd q (by assumption))) (fun q => by omega) hX (by first | exact hN | exact fun _ => hN (by assumption)) (Or.inl ⟨rfl, by assumption⟩) | exact EXx_stop (by first | rfl | assumption) hf hfu hu hp2 hRP (by have q_ := hR_; rw [show wf = 0 from by assumption] at q_; exact q_) (fun q => q.elim (fun q => absurd q (by assumption)) (fun q => absurd q (by assumption))) (fun q => by omega) hX (by first | exact hN | exact fun _ => hN (by assumption)) (Or.inr ⟨rfl, by assumption⟩))) hP hD hS (lv_sub hl [2, 0, 3] rfl)
        refine lv_iload_n hx hb (fk_get fk_cX12_readExpression_1 11 rfl) rfl (lv_at hl 0 rfl) ?_
        refine lv_bipush (v := 124) hx hb (fk_get fk_cX12_readExpression_1 12 rfl) (by decide) ?_
        refine lv_icmp_ne (tgt := 97) hx hb (fk_get fk_cX12_readExpression_1 13 rfl) (by decide) (fun c_11 => ?_) (fun c_11 => ?_)
        · refine lv_iload_n hx hb (fk_get fk_cX12_readExpression_1 23 rfl) rfl (lv_at hl 0 rfl) ?_
          refine lv_bipush (v := 41) hx hb (fk_get fk_cX12_readExpression_1 24 rfl) (by decide) ?_
          refine lv_icmp_ne (tgt := 147) hx hb (fk_get fk_cX12_readExpression_1 25 rfl) (by decide) (fun c_12 => ?_) (fun c_12 => ?_)
          · refine lv_iconst (v := 1) hx hb (fk_get fk_cX12_readExpression_2 18 rfl) (by decide) ?_
            refine lv_istore_n (lv' := [(2, .int (1)), (3, .int ((hrS (fA S 6) z u))), (1, .int (wf)), (0, .ref (ad 0))]) hx hb (fk_get fk_cX12_readExpression_2 19 rfl) rfl hl (by decide) rfl (fun ls hl => ?_)
            refine lv_aload_n hx hb (fk_get fk_cX12_readExpression_2 20 rfl) rfl (lv_at hl 3 rfl) ?_
            refine lv_aload_n hx hb (fk_get fk_cX12_readExpression_2 21 rfl) rfl (lv_at hl 3 rfl) ?_
            refine va_get (D := G.1) (ci := 14) (v := .int ((fF SL 0 28))) (C := RX12) (T := TX12) (N := 49) hx hb hT inX12 hown hK hP 0 (ix_at (by decide) (cR_0 G ad SL)) rfl 28 (by decide) (hT _ m5_129) (fun _ h9 => h9) rfl (fk_get fk_cX12_readExpression_2 22 rfl) ?_
            refine lv_if_le (tgt := 161) hx hb (fk_get fk_cX12_readExpression_2 23 rfl) (by decide) (fun c_13 => ?_) (fun c_13 => ?_)
            · have hd1 : d = 0 := by
                rcases Nat.eq_zero_or_pos d with q | q
                · exact q
                · exact absurd (show fF SL 0 28 ≤ 0 by assumption) (by rw [hX.1]; exact nI_nle q (by omega))
              refine lv_iconst (v := 0) hx hb (fk_get fk_cX12_readExpression_2 26 rfl) (by decide) ?_
              refine va_put (D := G.1) (ci := 14) (v := .int (0)) (ty := .boolean) (C := RX12) (T := TX12) (N := 49) hx hb hT inX12 tyX12 tyX12_ok nmX12 hown hK hP hD hS 0 (ix_at (by decide) (cR_0 G ad SL)) rfl 26 (by decide) (hT _ m5_127) (fun _ h9 => h9) rfl (by decide +kernel) rfl rfl (Nat.le_of_ble_eq_true rfl) (fk_get fk_cX12_readExpression_2 27 rfl) (fun H locs hP hD hS => ?_)
              rw [pR_isBad G ad SL (0)] at hP hD
              refine lv_goto (tgt := 21) hx hb (fk_get fk_cX12_readExpression_2 28 rfl) (by decide) ?_
              exact ih (wf) (1) (setF SL 0 26 (0)) _ _ ls ((by (try rw [show en = 0 from by assumption]); (first | rw [show wf = 0 from by assumption] | rw [show wf = 1 from hwf.resolve_left (by assumption)] | skip); first | exact EXx_open hf hu hp2 hRP h5_ (by have q_ := hR_; rw [show wf = 1 from hwf.resolve_left (by assumption)] at q_; exact q_) hX rfl (Or.inl (by assumption)) hO | exact EXx_open hf hu hp2 hRP h5_ (by have q_ := hR_; rw [show wf = 1 from hwf.resolve_left (by assumption)] at q_; exact q_) hX rfl (Or.inr (by assumption)) hO | exact EXx_test hf hb0 hu hRP h5_ (by have q_ := hR_; rw [show wf = 1 from hwf.resolve_left (by assumption)] at q_; exact q_) (by assumption) (by assumption) hT1 hX1 | exact EXx_and hf hb0 hRP h5_ (by have q_ := hR_; rw [show wf = 0 from by assumption] at q_; exact q_) hX (Or.inl (by assumption)) | exact EXx_and hf hb0 hRP h5_ (by have q_ := hR_; rw [show wf = 0 from by assumption] at q_; exact q_) hX (Or.inr (by assumption)) | exact EXx_close hf hb0 hRP h5_ (by have q_ := hR_; rw [show wf = 0 from by assumption] at q_; exact q_) hX (hN (by assumption)) hd0 (by assumption) rfl rfl | exact EXx_stop (by first | rfl | assumption) hf hfu hu hp2 hRP (by have q_ := hR_; rw [show wf = 0 from by assumption] at q_; exact q_) (fun q => q.elim (fun q => absurd q (by assumption)) (fun q => absurd q (by assumption))) (fun q => absurd q.1 (by assumption)) hX (by first | exact hN | exact fun _ => hN (by assumption)) (Or.inl ⟨rfl, by assumption⟩) | exact EXx_stop (by first | rfl | assumption) hf hfu hu hp2 hRP (by have q_ := hR_; rw [show wf = 0 from by assumption] at q_; exact q_) (fun q => q.elim (fun q => absurd q (by assumption)) (fun q => absurd q (by assumption))) (fun q => absurd q.1 (by assumption)) hX (by first | exact hN | exact fun _ => hN (by assumption)) (Or.inr ⟨rfl, by assumption⟩) | exact EXx_stop (by first | rfl | assumption) hf hfu hu hp2 hRP (by have q_ := hR_; rw [show wf = 0 from by assumption] at q_; exact q_) (fun q => q.elim (fun q => absurd q (by assumption)) (fun q => absurd q (by assumption))) (fun q => by omega) hX (by first | exact hN | exact fun _ => hN (by assumption)) (Or.inl ⟨rfl, by assumption⟩) | exact EXx_stop (by first | rfl | assumption) hf hfu hu hp2 hRP (by have q_ := hR_; rw [show wf = 0 from by assumption] at q_; exact q_) (fun q => q.elim (fun q => absurd q (by assumption)) (fun q => absurd q (by assumption))) (fun q => by omega) hX (by first | exact hN | exact fun _ => hN (by assumption)) (Or.inr ⟨rfl, by assumption⟩))) hP hD hS (lv_sub hl [0, 2, 3] rfl)
            have hd0 : 0 < d := by
              rcases Nat.eq_zero_or_pos d with q | q
              · exact absurd (by rw [hX.1, q]; decide) c_13
              · exact q
            refine lv_iconst (v := 1) hx hb (fk_get fk_cX12_readExpression_2 24 rfl) (by decide) ?_
            refine lv_goto (tgt := 162) hx hb (fk_get fk_cX12_readExpression_2 25 rfl) (by decide) ?_
            refine va_put (D := G.1) (ci := 14) (v := .int (1)) (ty := .boolean) (C := RX12) (T := TX12) (N := 49) hx hb hT inX12 tyX12 tyX12_ok nmX12 hown hK hP hD hS 0 (ix_at (by decide) (cR_0 G ad SL)) rfl 26 (by decide) (hT _ m5_127) (fun _ h9 => h9) rfl (by decide +kernel) rfl rfl (Nat.le_of_ble_eq_true rfl) (fk_get fk_cX12_readExpression_2 27 rfl) (fun H locs hP hD hS => ?_)
            rw [pR_isBad G ad SL (1)] at hP hD
            refine lv_goto (tgt := 21) hx hb (fk_get fk_cX12_readExpression_2 28 rfl) (by decide) ?_
            exact ih (wf) (1) (setF SL 0 26 (1)) _ _ ls ((by (try rw [show en = 0 from by assumption]); (first | rw [show wf = 0 from by assumption] | rw [show wf = 1 from hwf.resolve_left (by assumption)] | skip); first | exact EXx_open hf hu hp2 hRP h5_ (by have q_ := hR_; rw [show wf = 1 from hwf.resolve_left (by assumption)] at q_; exact q_) hX rfl (Or.inl (by assumption)) hO | exact EXx_open hf hu hp2 hRP h5_ (by have q_ := hR_; rw [show wf = 1 from hwf.resolve_left (by assumption)] at q_; exact q_) hX rfl (Or.inr (by assumption)) hO | exact EXx_test hf hb0 hu hRP h5_ (by have q_ := hR_; rw [show wf = 1 from hwf.resolve_left (by assumption)] at q_; exact q_) (by assumption) (by assumption) hT1 hX1 | exact EXx_and hf hb0 hRP h5_ (by have q_ := hR_; rw [show wf = 0 from by assumption] at q_; exact q_) hX (Or.inl (by assumption)) | exact EXx_and hf hb0 hRP h5_ (by have q_ := hR_; rw [show wf = 0 from by assumption] at q_; exact q_) hX (Or.inr (by assumption)) | exact EXx_close hf hb0 hRP h5_ (by have q_ := hR_; rw [show wf = 0 from by assumption] at q_; exact q_) hX (hN (by assumption)) hd0 (by assumption) rfl rfl | exact EXx_stop (by first | rfl | assumption) hf hfu hu hp2 hRP (by have q_ := hR_; rw [show wf = 0 from by assumption] at q_; exact q_) (fun q => q.elim (fun q => absurd q (by assumption)) (fun q => absurd q (by assumption))) (fun q => absurd q.1 (by assumption)) hX (by first | exact hN | exact fun _ => hN (by assumption)) (Or.inl ⟨rfl, by assumption⟩) | exact EXx_stop (by first | rfl | assumption) hf hfu hu hp2 hRP (by have q_ := hR_; rw [show wf = 0 from by assumption] at q_; exact q_) (fun q => q.elim (fun q => absurd q (by assumption)) (fun q => absurd q (by assumption))) (fun q => absurd q.1 (by assumption)) hX (by first | exact hN | exact fun _ => hN (by assumption)) (Or.inr ⟨rfl, by assumption⟩) | exact EXx_stop (by first | rfl | assumption) hf hfu hu hp2 hRP (by have q_ := hR_; rw [show wf = 0 from by assumption] at q_; exact q_) (fun q => q.elim (fun q => absurd q (by assumption)) (fun q => absurd q (by assumption))) (fun q => by omega) hX (by first | exact hN | exact fun _ => hN (by assumption)) (Or.inl ⟨rfl, by assumption⟩) | exact EXx_stop (by first | rfl | assumption) hf hfu hu hp2 hRP (by have q_ := hR_; rw [show wf = 0 from by assumption] at q_; exact q_) (fun q => q.elim (fun q => absurd q (by assumption)) (fun q => absurd q (by assumption))) (fun q => by omega) hX (by first | exact hN | exact fun _ => hN (by assumption)) (Or.inr ⟨rfl, by assumption⟩))) hP hD hS (lv_sub hl [0, 2, 3] rfl)
          refine lv_aload_n hx hb (fk_get fk_cX12_readExpression_1 26 rfl) rfl (lv_at hl 3 rfl) ?_
          refine va_get (D := G.1) (ci := 14) (v := .int ((fF SL 0 28))) (C := RX12) (T := TX12) (N := 49) hx hb hT inX12 hown hK hP 0 (ix_at (by decide) (cR_0 G ad SL)) rfl 28 (by decide) (hT _ m5_129) (fun _ h9 => h9) rfl (fk_get fk_cX12_readExpression_1 27 rfl) ?_
          refine lv_if_le (tgt := 147) hx hb (fk_get fk_cX12_readExpression_1 28 rfl) (by decide) (fun c_14 => ?_) (fun c_14 => ?_)
          · have hd1 : d = 0 := by
              rcases Nat.eq_zero_or_pos d with q | q
              · exact q
              · exact absurd (show fF SL 0 28 ≤ 0 by assumption) (by rw [hX.1]; exact nI_nle q (by omega))
            refine lv_iconst (v := 1) hx hb (fk_get fk_cX12_readExpression_2 18 rfl) (by decide) ?_
            refine lv_istore_n (lv' := [(2, .int (1)), (3, .int ((hrS (fA S 6) z u))), (1, .int (wf)), (0, .ref (ad 0))]) hx hb (fk_get fk_cX12_readExpression_2 19 rfl) rfl hl (by decide) rfl (fun ls hl => ?_)
            refine lv_aload_n hx hb (fk_get fk_cX12_readExpression_2 20 rfl) rfl (lv_at hl 3 rfl) ?_
            refine lv_aload_n hx hb (fk_get fk_cX12_readExpression_2 21 rfl) rfl (lv_at hl 3 rfl) ?_
            refine va_get (D := G.1) (ci := 14) (v := .int ((fF SL 0 28))) (C := RX12) (T := TX12) (N := 49) hx hb hT inX12 hown hK hP 0 (ix_at (by decide) (cR_0 G ad SL)) rfl 28 (by decide) (hT _ m5_129) (fun _ h9 => h9) rfl (fk_get fk_cX12_readExpression_2 22 rfl) ?_
            refine lv_if_le (tgt := 161) hx hb (fk_get fk_cX12_readExpression_2 23 rfl) (by decide) (fun _ => ?_) (fun c_15 => absurd (by first | assumption | exact Int32.not_lt.mp (by assumption) | exact Int32.not_le.mp (by assumption) | exact Int32.not_lt.mpr (by assumption) | exact Int32.not_le.mpr (by assumption) ) c_15)
            have hd1 : d = 0 := by
              rcases Nat.eq_zero_or_pos d with q | q
              · exact q
              · exact absurd (show fF SL 0 28 ≤ 0 by assumption) (by rw [hX.1]; exact nI_nle q (by omega))
            refine lv_iconst (v := 0) hx hb (fk_get fk_cX12_readExpression_2 26 rfl) (by decide) ?_
            refine va_put (D := G.1) (ci := 14) (v := .int (0)) (ty := .boolean) (C := RX12) (T := TX12) (N := 49) hx hb hT inX12 tyX12 tyX12_ok nmX12 hown hK hP hD hS 0 (ix_at (by decide) (cR_0 G ad SL)) rfl 26 (by decide) (hT _ m5_127) (fun _ h9 => h9) rfl (by decide +kernel) rfl rfl (Nat.le_of_ble_eq_true rfl) (fk_get fk_cX12_readExpression_2 27 rfl) (fun H locs hP hD hS => ?_)
            rw [pR_isBad G ad SL (0)] at hP hD
            refine lv_goto (tgt := 21) hx hb (fk_get fk_cX12_readExpression_2 28 rfl) (by decide) ?_
            exact ih (wf) (1) (setF SL 0 26 (0)) _ _ ls ((by (try rw [show en = 0 from by assumption]); (first | rw [show wf = 0 from by assumption] | rw [show wf = 1 from hwf.resolve_left (by assumption)] | skip); first | exact EXx_open hf hu hp2 hRP h5_ (by have q_ := hR_; rw [show wf = 1 from hwf.resolve_left (by assumption)] at q_; exact q_) hX rfl (Or.inl (by assumption)) hO | exact EXx_open hf hu hp2 hRP h5_ (by have q_ := hR_; rw [show wf = 1 from hwf.resolve_left (by assumption)] at q_; exact q_) hX rfl (Or.inr (by assumption)) hO | exact EXx_test hf hb0 hu hRP h5_ (by have q_ := hR_; rw [show wf = 1 from hwf.resolve_left (by assumption)] at q_; exact q_) (by assumption) (by assumption) hT1 hX1 | exact EXx_and hf hb0 hRP h5_ (by have q_ := hR_; rw [show wf = 0 from by assumption] at q_; exact q_) hX (Or.inl (by assumption)) | exact EXx_and hf hb0 hRP h5_ (by have q_ := hR_; rw [show wf = 0 from by assumption] at q_; exact q_) hX (Or.inr (by assumption)) | exact EXx_close hf hb0 hRP h5_ (by have q_ := hR_; rw [show wf = 0 from by assumption] at q_; exact q_) hX (hN (by assumption)) hd0 (by assumption) rfl rfl | exact EXx_stop (by first | rfl | assumption) hf hfu hu hp2 hRP (by have q_ := hR_; rw [show wf = 0 from by assumption] at q_; exact q_) (fun q => q.elim (fun q => absurd q (by assumption)) (fun q => absurd q (by assumption))) (fun q => absurd q.1 (by assumption)) hX (by first | exact hN | exact fun _ => hN (by assumption)) (Or.inl ⟨rfl, by assumption⟩) | exact EXx_stop (by first | rfl | assumption) hf hfu hu hp2 hRP (by have q_ := hR_; rw [show wf = 0 from by assumption] at q_; exact q_) (fun q => q.elim (fun q => absurd q (by assumption)) (fun q => absurd q (by assumption))) (fun q => absurd q.1 (by assumption)) hX (by first | exact hN | exact fun _ => hN (by assumption)) (Or.inr ⟨rfl, by assumption⟩) | exact EXx_stop (by first | rfl | assumption) hf hfu hu hp2 hRP (by have q_ := hR_; rw [show wf = 0 from by assumption] at q_; exact q_) (fun q => q.elim (fun q => absurd q (by assumption)) (fun q => absurd q (by assumption))) (fun q => by omega) hX (by first | exact hN | exact fun _ => hN (by assumption)) (Or.inl ⟨rfl, by assumption⟩) | exact EXx_stop (by first | rfl | assumption) hf hfu hu hp2 hRP (by have q_ := hR_; rw [show wf = 0 from by assumption] at q_; exact q_) (fun q => q.elim (fun q => absurd q (by assumption)) (fun q => absurd q (by assumption))) (fun q => by omega) hX (by first | exact hN | exact fun _ => hN (by assumption)) (Or.inr ⟨rfl, by assumption⟩))) hP hD hS (lv_sub hl [0, 2, 3] rfl)
          have hd0 : 0 < d := by
            rcases Nat.eq_zero_or_pos d with q | q
            · exact absurd (by rw [hX.1, q]; decide) c_14
            · exact q
          refine lv_aload_n hx hb (fk_get fk_cX12_readExpression_1 29 rfl) rfl (lv_at hl 3 rfl) ?_
          refine lv_dup hx hb (fk_get fk_cX12_readExpression_1 30 rfl) rfl ?_
          refine va_get (D := G.1) (ci := 14) (v := .int ((fF SL 0 25))) (C := RX12) (T := TX12) (N := 49) hx hb hT inX12 hown hK hP 0 (ix_at (by decide) (cR_0 G ad SL)) rfl 25 (by decide) (hT _ m5_126) (fun _ h9 => h9) rfl (fk_get fk_cX12_readExpression_1 31 rfl) ?_
          refine lv_iconst (v := 1) hx hb (fk_get fk_cX12_readExpression_2 0 rfl) (by decide) ?_
          refine lv_iadd hx hb (fk_get fk_cX12_readExpression_2 1 rfl) ?_
          rw [show ((fF SL 0 25) + 1) = (nI (u + 1)) from (by rw [hp2]; exact nI_1 u)]
          refine va_put (D := G.1) (ci := 14) (v := .int ((nI (u + 1)))) (ty := .int) (C := RX12) (T := TX12) (N := 49) hx hb hT inX12 tyX12 tyX12_ok nmX12 hown hK hP hD hS 0 (ix_at (by decide) (cR_0 G ad SL)) rfl 25 (by decide) (hT _ m5_126) (fun _ h9 => h9) rfl (by decide +kernel) rfl rfl (Nat.le_of_ble_eq_true rfl) (fk_get fk_cX12_readExpression_2 2 rfl) (fun H locs hP hD hS => ?_)
          rw [pR_at G ad SL ((nI (u + 1)))] at hP hD
          refine lv_aload_n hx hb (fk_get fk_cX12_readExpression_2 3 rfl) rfl (lv_at hl 3 rfl) ?_
          refine lv_dup hx hb (fk_get fk_cX12_readExpression_2 4 rfl) rfl ?_
          refine va_get (D := G.1) (ci := 14) (v := .int ((fF SL 0 28))) (C := RX12) (T := TX12) (N := 49) hx hb hT inX12 hown hK hP 0 (ix_at (by decide) (cR_0 G ad (setF SL 0 25 ((nI (u + 1)))))) rfl 28 (by decide) (hT _ m5_129) (fun _ h9 => h9) rfl (fk_get fk_cX12_readExpression_2 5 rfl) ?_
          refine lv_iconst (v := 1) hx hb (fk_get fk_cX12_readExpression_2 6 rfl) (by decide) ?_
          refine lv_isub hx hb (fk_get fk_cX12_readExpression_2 7 rfl) ?_
          rw [show ((fF SL 0 28) - 1) = (nI (d - 1)) from (by rw [hX.1]; exact pk_sub (b := 1) (by omega))]
          refine va_put (D := G.1) (ci := 14) (v := .int ((nI (d - 1)))) (ty := .int) (C := RX12) (T := TX12) (N := 49) hx hb hT inX12 tyX12 tyX12_ok nmX12 hown hK hP hD hS 0 (ix_at (by decide) (cR_0 G ad (setF SL 0 25 ((nI (u + 1)))))) rfl 28 (by decide) (hT _ m5_129) (fun _ h9 => h9) rfl (by decide +kernel) rfl rfl (Nat.le_of_ble_eq_true rfl) (fk_get fk_cX12_readExpression_2 8 rfl) (fun H locs hP hD hS => ?_)
          rw [pR_depth G ad (setF SL 0 25 ((nI (u + 1)))) ((nI (d - 1)))] at hP hD
          refine lv_aload_n hx hb (fk_get fk_cX12_readExpression_2 9 rfl) rfl (lv_at hl 3 rfl) ?_
          refine lv_dup hx hb (fk_get fk_cX12_readExpression_2 10 rfl) rfl ?_
          refine va_get (D := G.1) (ci := 14) (v := .int ((fF SL 0 29))) (C := RX12) (T := TX12) (N := 49) hx hb hT inX12 hown hK hP 0 (ix_at (by decide) (cR_0 G ad (setF (setF SL 0 25 ((nI (u + 1)))) 0 28 ((nI (d - 1)))))) rfl 29 (by decide) (hT _ m5_130) (fun _ h9 => h9) rfl (fk_get fk_cX12_readExpression_2 11 rfl) ?_
          refine lv_iconst (v := 1) hx hb (fk_get fk_cX12_readExpression_2 12 rfl) (by decide) ?_
          refine lv_isub hx hb (fk_get fk_cX12_readExpression_2 13 rfl) ?_
          rw [show ((fF SL 0 29) - 1) = (nI (o - 1)) from (by rw [hX.2.1]; exact pk_sub (b := 1) (by have := XL_le hX; omega))]
          refine va_put (D := G.1) (ci := 14) (v := .int ((nI (o - 1)))) (ty := .int) (C := RX12) (T := TX12) (N := 49) hx hb hT inX12 tyX12 tyX12_ok nmX12 hown hK hP hD hS 0 (ix_at (by decide) (cR_0 G ad (setF (setF SL 0 25 ((nI (u + 1)))) 0 28 ((nI (d - 1)))))) rfl 29 (by decide) (hT _ m5_130) (fun _ h9 => h9) rfl (by decide +kernel) rfl rfl (Nat.le_of_ble_eq_true rfl) (fk_get fk_cX12_readExpression_2 14 rfl) (fun H locs hP hD hS => ?_)
          rw [pR_opened G ad (setF (setF SL 0 25 ((nI (u + 1)))) 0 28 ((nI (d - 1)))) ((nI (o - 1)))] at hP hD
          refine lv_aload_n hx hb (fk_get fk_cX12_readExpression_2 15 rfl) rfl (lv_at hl 3 rfl) ?_
          have hFc := va_self hD hS hA
          refine va_callv (va_runV (As := []) (rest := []) ⟨hx, hb, hml, hown, hT⟩ (c_factorEnds l G ad (setF (setF (setF SL 0 25 ((nI (u + 1)))) 0 28 ((nI (d - 1)))) 0 29 ((nI (o - 1)))) H.size (d - 1) (o - 1) (N) (XL_close2 hX (hN (by assumption)) hd0)) (tV 0 hT m6_90 m6_92 mp_30 m1_17 m6_93 rfl rfl (by decide +kernel) ⟨Nat.le_of_ble_eq_true rfl, Nat.le_of_ble_eq_true rfl⟩) ⟨PcW_blind, va_recv hK hP (ci := 14) (q0 := 0) rfl (ix_at (by decide) (cR_0 G ad (setF (setF (setF SL 0 25 ((nI (u + 1)))) 0 28 ((nI (d - 1)))) 0 29 ((nI (o - 1)))))), PcW_of hP hK hD _⟩ rfl rfl hl.1 rfl (lv_room (Nat.le_of_ble_eq_true rfl)) (fk_get fk_cX12_readExpression_2 16 rfl) ⟨Nat.zero_le _, Nat.zero_le _⟩) hS (fun q _ h => hFc q h) hFc (fun S_18 t_ H locs ht_ hvm_ hw_17 hB_ hz_ hk_ hS => ?_)
          obtain ⟨hP, -, hD1_⟩ := hB_
          rw [ht_] at hP
          have hD : va_D A (wR G ad S_18) := hD1_.weaken (fun k q _ h => hFc q.1 h)
          try dsimp only at hw_17
          subst hw_17
          refine lv_goto (tgt := 165) hx hb (fk_get fk_cX12_readExpression_2 17 rfl) (by decide) ?_
          refine lv_goto (tgt := 21) hx hb (fk_get fk_cX12_readExpression_2 28 rfl) (by decide) ?_
          exact ih (wf) (en) (setA (setF (setF (setF (setF SL 0 25 ((nI (u + 1)))) 0 28 ((nI (d - 1)))) 0 29 ((nI (o - 1)))) 0 29 (nI (o - 1 - N (d - 1)))) 13 (upd (fA (setF (setF (setF SL 0 25 ((nI (u + 1)))) 0 28 ((nI (d - 1)))) 0 29 ((nI (o - 1)))) 13) (d - 1) 0)) _ _ ls ((by (try rw [show en = 0 from by assumption]); (first | rw [show wf = 0 from by assumption] | rw [show wf = 1 from hwf.resolve_left (by assumption)] | skip); first | exact EXx_open hf hu hp2 hRP h5_ (by have q_ := hR_; rw [show wf = 1 from hwf.resolve_left (by assumption)] at q_; exact q_) hX rfl (Or.inl (by assumption)) hO | exact EXx_open hf hu hp2 hRP h5_ (by have q_ := hR_; rw [show wf = 1 from hwf.resolve_left (by assumption)] at q_; exact q_) hX rfl (Or.inr (by assumption)) hO | exact EXx_test hf hb0 hu hRP h5_ (by have q_ := hR_; rw [show wf = 1 from hwf.resolve_left (by assumption)] at q_; exact q_) (by assumption) (by assumption) hT1 hX1 | exact EXx_and hf hb0 hRP h5_ (by have q_ := hR_; rw [show wf = 0 from by assumption] at q_; exact q_) hX (Or.inl (by assumption)) | exact EXx_and hf hb0 hRP h5_ (by have q_ := hR_; rw [show wf = 0 from by assumption] at q_; exact q_) hX (Or.inr (by assumption)) | exact EXx_close hf hb0 hRP h5_ (by have q_ := hR_; rw [show wf = 0 from by assumption] at q_; exact q_) hX (hN (by assumption)) hd0 (by assumption) rfl rfl | exact EXx_stop (by first | rfl | assumption) hf hfu hu hp2 hRP (by have q_ := hR_; rw [show wf = 0 from by assumption] at q_; exact q_) (fun q => q.elim (fun q => absurd q (by assumption)) (fun q => absurd q (by assumption))) (fun q => absurd q.1 (by assumption)) hX (by first | exact hN | exact fun _ => hN (by assumption)) (Or.inl ⟨rfl, by assumption⟩) | exact EXx_stop (by first | rfl | assumption) hf hfu hu hp2 hRP (by have q_ := hR_; rw [show wf = 0 from by assumption] at q_; exact q_) (fun q => q.elim (fun q => absurd q (by assumption)) (fun q => absurd q (by assumption))) (fun q => absurd q.1 (by assumption)) hX (by first | exact hN | exact fun _ => hN (by assumption)) (Or.inr ⟨rfl, by assumption⟩) | exact EXx_stop (by first | rfl | assumption) hf hfu hu hp2 hRP (by have q_ := hR_; rw [show wf = 0 from by assumption] at q_; exact q_) (fun q => q.elim (fun q => absurd q (by assumption)) (fun q => absurd q (by assumption))) (fun q => by omega) hX (by first | exact hN | exact fun _ => hN (by assumption)) (Or.inl ⟨rfl, by assumption⟩) | exact EXx_stop (by first | rfl | assumption) hf hfu hu hp2 hRP (by have q_ := hR_; rw [show wf = 0 from by assumption] at q_; exact q_) (fun q => q.elim (fun q => absurd q (by assumption)) (fun q => absurd q (by assumption))) (fun q => by omega) hX (by first | exact hN | exact fun _ => hN (by assumption)) (Or.inr ⟨rfl, by assumption⟩))) hP hD hS (lv_sub hl [1, 2, 3] rfl)
        refine lv_aload_n hx hb (fk_get fk_cX12_readExpression_1 14 rfl) rfl (lv_at hl 3 rfl) ?_
        refine lv_dup hx hb (fk_get fk_cX12_readExpression_1 15 rfl) rfl ?_
        refine va_get (D := G.1) (ci := 14) (v := .int ((fF SL 0 25))) (C := RX12) (T := TX12) (N := 49) hx hb hT inX12 hown hK hP 0 (ix_at (by decide) (cR_0 G ad SL)) rfl 25 (by decide) (hT _ m5_126) (fun _ h9 => h9) rfl (fk_get fk_cX12_readExpression_1 16 rfl) ?_
        refine lv_iconst (v := 1) hx hb (fk_get fk_cX12_readExpression_1 17 rfl) (by decide) ?_
        refine lv_iadd hx hb (fk_get fk_cX12_readExpression_1 18 rfl) ?_
        rw [show ((fF SL 0 25) + 1) = (nI (u + 1)) from (by rw [hp2]; exact nI_1 u)]
        refine va_put (D := G.1) (ci := 14) (v := .int ((nI (u + 1)))) (ty := .int) (C := RX12) (T := TX12) (N := 49) hx hb hT inX12 tyX12 tyX12_ok nmX12 hown hK hP hD hS 0 (ix_at (by decide) (cR_0 G ad SL)) rfl 25 (by decide) (hT _ m5_126) (fun _ h9 => h9) rfl (by decide +kernel) rfl rfl (Nat.le_of_ble_eq_true rfl) (fk_get fk_cX12_readExpression_1 19 rfl) (fun H locs hP hD hS => ?_)
        rw [pR_at G ad SL ((nI (u + 1)))] at hP hD
        refine lv_iconst (v := 1) hx hb (fk_get fk_cX12_readExpression_1 20 rfl) (by decide) ?_
        refine lv_istore_n (lv' := [(1, .int (1)), (3, .int ((hrS (fA S 6) z u))), (2, .int (en)), (0, .ref (ad 0))]) hx hb (fk_get fk_cX12_readExpression_1 21 rfl) rfl hl (by decide) rfl (fun ls hl => ?_)
        refine lv_goto (tgt := 165) hx hb (fk_get fk_cX12_readExpression_1 22 rfl) (by decide) ?_
        refine lv_goto (tgt := 21) hx hb (fk_get fk_cX12_readExpression_2 28 rfl) (by decide) ?_
        exact ih (1) (en) (setF SL 0 25 ((nI (u + 1)))) _ _ ls ((by (try rw [show en = 0 from by assumption]); (first | rw [show wf = 0 from by assumption] | rw [show wf = 1 from hwf.resolve_left (by assumption)] | skip); first | exact EXx_open hf hu hp2 hRP h5_ (by have q_ := hR_; rw [show wf = 1 from hwf.resolve_left (by assumption)] at q_; exact q_) hX rfl (Or.inl (by assumption)) hO | exact EXx_open hf hu hp2 hRP h5_ (by have q_ := hR_; rw [show wf = 1 from hwf.resolve_left (by assumption)] at q_; exact q_) hX rfl (Or.inr (by assumption)) hO | exact EXx_test hf hb0 hu hRP h5_ (by have q_ := hR_; rw [show wf = 1 from hwf.resolve_left (by assumption)] at q_; exact q_) (by assumption) (by assumption) hT1 hX1 | exact EXx_and hf hb0 hRP h5_ (by have q_ := hR_; rw [show wf = 0 from by assumption] at q_; exact q_) hX (Or.inl (by assumption)) | exact EXx_and hf hb0 hRP h5_ (by have q_ := hR_; rw [show wf = 0 from by assumption] at q_; exact q_) hX (Or.inr (by assumption)) | exact EXx_close hf hb0 hRP h5_ (by have q_ := hR_; rw [show wf = 0 from by assumption] at q_; exact q_) hX (hN (by assumption)) hd0 (by assumption) rfl rfl | exact EXx_stop (by first | rfl | assumption) hf hfu hu hp2 hRP (by have q_ := hR_; rw [show wf = 0 from by assumption] at q_; exact q_) (fun q => q.elim (fun q => absurd q (by assumption)) (fun q => absurd q (by assumption))) (fun q => absurd q.1 (by assumption)) hX (by first | exact hN | exact fun _ => hN (by assumption)) (Or.inl ⟨rfl, by assumption⟩) | exact EXx_stop (by first | rfl | assumption) hf hfu hu hp2 hRP (by have q_ := hR_; rw [show wf = 0 from by assumption] at q_; exact q_) (fun q => q.elim (fun q => absurd q (by assumption)) (fun q => absurd q (by assumption))) (fun q => absurd q.1 (by assumption)) hX (by first | exact hN | exact fun _ => hN (by assumption)) (Or.inr ⟨rfl, by assumption⟩) | exact EXx_stop (by first | rfl | assumption) hf hfu hu hp2 hRP (by have q_ := hR_; rw [show wf = 0 from by assumption] at q_; exact q_) (fun q => q.elim (fun q => absurd q (by assumption)) (fun q => absurd q (by assumption))) (fun q => by omega) hX (by first | exact hN | exact fun _ => hN (by assumption)) (Or.inl ⟨rfl, by assumption⟩) | exact EXx_stop (by first | rfl | assumption) hf hfu hu hp2 hRP (by have q_ := hR_; rw [show wf = 0 from by assumption] at q_; exact q_) (fun q => q.elim (fun q => absurd q (by assumption)) (fun q => absurd q (by assumption))) (fun q => by omega) hX (by first | exact hN | exact fun _ => hN (by assumption)) (Or.inr ⟨rfl, by assumption⟩))) hP hD hS (lv_sub hl [2, 0, 3] rfl)
      refine lv_iload_n hx hb (fk_get fk_cX12_readExpression_0 25 rfl) rfl (lv_at hl 0 rfl) ?_
      refine lv_bipush (v := 33) hx hb (fk_get fk_cX12_readExpression_0 26 rfl) (by decide) ?_
      refine lv_icmp_eq (tgt := 53) hx hb (fk_get fk_cX12_readExpression_0 27 rfl) (by decide) (fun c_19 => ?_) (fun c_19 => ?_)
      · refine lv_aload_n hx hb (fk_get fk_cX12_readExpression_0 31 rfl) rfl (lv_at hl 3 rfl) ?_
        refine lv_iload_n hx hb (fk_get fk_cX12_readExpression_1 0 rfl) rfl (lv_at hl 0 rfl) ?_
        have hFc := va_self hD hS hA
        refine va_callv (va_runV (As := [.int ((hrS (fA S 6) z u))]) (rest := []) ⟨hx, hb, hml, hown, hT⟩ (c_readOpening l G ad SL H_3.size (z) (u) (d) (o) (N) ((hrS (fA S 6) z u)) (hX) (hp2)) (tV 1 hT m6_77 m6_79 mp_28 m1_17 m6_80 rfl rfl (by decide +kernel) ⟨Nat.le_of_ble_eq_true rfl, Nat.le_of_ble_eq_true rfl⟩) ⟨PcW_blind, va_recv hK hP (ci := 14) (q0 := 0) rfl (ix_at (by decide) (cR_0 G ad SL)), PcW_of hP hK hD _⟩ rfl rfl hl.1 rfl (lv_room (Nat.le_of_ble_eq_true rfl)) (fk_get fk_cX12_readExpression_1 1 rfl) ⟨Nat.zero_le _, Nat.zero_le _⟩) hS (fun q _ h => hFc q h) hFc (fun S_22 t_ H locs ht_ hvm_ hw_21 hB_ hz_ hk_ hS => ?_)
        obtain ⟨hP, -, hD1_⟩ := hB_
        rw [ht_] at hP
        have hD : va_D A (wR G ad S_22) := hD1_.weaken (fun k q _ h => hFc q.1 h)
        try dsimp only at hw_21
        have hO := hw_21
        refine lv_goto (tgt := 165) hx hb (fk_get fk_cX12_readExpression_1 2 rfl) (by decide) ?_
        refine lv_goto (tgt := 21) hx hb (fk_get fk_cX12_readExpression_2 28 rfl) (by decide) ?_
        exact ih (wf) (en) (S_22) _ _ ls ((by (try rw [show en = 0 from by assumption]); (first | rw [show wf = 0 from by assumption] | rw [show wf = 1 from hwf.resolve_left (by assumption)] | skip); first | exact EXx_open hf hu hp2 hRP h5_ (by have q_ := hR_; rw [show wf = 1 from hwf.resolve_left (by assumption)] at q_; exact q_) hX rfl (Or.inl (by assumption)) hO | exact EXx_open hf hu hp2 hRP h5_ (by have q_ := hR_; rw [show wf = 1 from hwf.resolve_left (by assumption)] at q_; exact q_) hX rfl (Or.inr (by assumption)) hO | exact EXx_test hf hb0 hu hRP h5_ (by have q_ := hR_; rw [show wf = 1 from hwf.resolve_left (by assumption)] at q_; exact q_) (by assumption) (by assumption) hT1 hX1 | exact EXx_and hf hb0 hRP h5_ (by have q_ := hR_; rw [show wf = 0 from by assumption] at q_; exact q_) hX (Or.inl (by assumption)) | exact EXx_and hf hb0 hRP h5_ (by have q_ := hR_; rw [show wf = 0 from by assumption] at q_; exact q_) hX (Or.inr (by assumption)) | exact EXx_close hf hb0 hRP h5_ (by have q_ := hR_; rw [show wf = 0 from by assumption] at q_; exact q_) hX (hN (by assumption)) hd0 (by assumption) rfl rfl | exact EXx_stop (by first | rfl | assumption) hf hfu hu hp2 hRP (by have q_ := hR_; rw [show wf = 0 from by assumption] at q_; exact q_) (fun q => q.elim (fun q => absurd q (by assumption)) (fun q => absurd q (by assumption))) (fun q => absurd q.1 (by assumption)) hX (by first | exact hN | exact fun _ => hN (by assumption)) (Or.inl ⟨rfl, by assumption⟩) | exact EXx_stop (by first | rfl | assumption) hf hfu hu hp2 hRP (by have q_ := hR_; rw [show wf = 0 from by assumption] at q_; exact q_) (fun q => q.elim (fun q => absurd q (by assumption)) (fun q => absurd q (by assumption))) (fun q => absurd q.1 (by assumption)) hX (by first | exact hN | exact fun _ => hN (by assumption)) (Or.inr ⟨rfl, by assumption⟩) | exact EXx_stop (by first | rfl | assumption) hf hfu hu hp2 hRP (by have q_ := hR_; rw [show wf = 0 from by assumption] at q_; exact q_) (fun q => q.elim (fun q => absurd q (by assumption)) (fun q => absurd q (by assumption))) (fun q => by omega) hX (by first | exact hN | exact fun _ => hN (by assumption)) (Or.inl ⟨rfl, by assumption⟩) | exact EXx_stop (by first | rfl | assumption) hf hfu hu hp2 hRP (by have q_ := hR_; rw [show wf = 0 from by assumption] at q_; exact q_) (fun q => q.elim (fun q => absurd q (by assumption)) (fun q => absurd q (by assumption))) (fun q => by omega) hX (by first | exact hN | exact fun _ => hN (by assumption)) (Or.inr ⟨rfl, by assumption⟩))) hP hD hS (lv_sub hl [1, 2, 3] rfl)
      refine lv_iload_n hx hb (fk_get fk_cX12_readExpression_0 28 rfl) rfl (lv_at hl 0 rfl) ?_
      refine lv_bipush (v := 40) hx hb (fk_get fk_cX12_readExpression_0 29 rfl) (by decide) ?_
      refine lv_icmp_ne (tgt := 61) hx hb (fk_get fk_cX12_readExpression_0 30 rfl) (by decide) (fun c_23 => ?_) (fun c_23 => ?_)
      · refine lv_aload_n hx hb (fk_get fk_cX12_readExpression_1 3 rfl) rfl (lv_at hl 3 rfl) ?_
        have hFc := va_self hD hS hA
        refine va_callv (va_runV (As := []) (rest := []) ⟨hx, hb, hml, hown, hT⟩ (c_readTest l G ad SL H_3.size (z) (u) (d) (o) (N) (hX) (hf.f17 hz) (hz1) (hp2) (by omega)) (tV 0 hT m6_81 m6_83 mp_29 m1_17 m6_84 rfl rfl (by decide +kernel) ⟨Nat.le_of_ble_eq_true rfl, Nat.le_of_ble_eq_true rfl⟩) ⟨PcW_blind, va_recv hK hP (ci := 14) (q0 := 0) rfl (ix_at (by decide) (cR_0 G ad SL)), PcW_of hP hK hD _⟩ rfl rfl hl.1 rfl (lv_room (Nat.le_of_ble_eq_true rfl)) (fk_get fk_cX12_readExpression_1 4 rfl) ⟨Nat.zero_le _, Nat.zero_le _⟩) hS (fun q _ h => hFc q h) hFc (fun S_26 t_ H locs ht_ hvm_ hw_25 hB_ hz_ hk_ hS => ?_)
        obtain ⟨hP, -, hD1_⟩ := hB_
        rw [ht_] at hP
        have hD : va_D A (wR G ad S_26) := hD1_.weaken (fun k q _ h => hFc q.1 h)
        try dsimp only at hw_25
        obtain ⟨hT1, hX1⟩ := hw_25
        refine lv_iconst (v := 0) hx hb (fk_get fk_cX12_readExpression_1 5 rfl) (by decide) ?_
        refine lv_istore_n (lv' := [(1, .int (0)), (3, .int ((hrS (fA S 6) z u))), (2, .int (en)), (0, .ref (ad 0))]) hx hb (fk_get fk_cX12_readExpression_1 6 rfl) rfl hl (by decide) rfl (fun ls hl => ?_)
        refine lv_goto (tgt := 165) hx hb (fk_get fk_cX12_readExpression_1 7 rfl) (by decide) ?_
        refine lv_goto (tgt := 21) hx hb (fk_get fk_cX12_readExpression_2 28 rfl) (by decide) ?_
        exact ih (0) (en) (S_26) _ _ ls ((by (try rw [show en = 0 from by assumption]); (first | rw [show wf = 0 from by assumption] | rw [show wf = 1 from hwf.resolve_left (by assumption)] | skip); first | exact EXx_open hf hu hp2 hRP h5_ (by have q_ := hR_; rw [show wf = 1 from hwf.resolve_left (by assumption)] at q_; exact q_) hX rfl (Or.inl (by assumption)) hO | exact EXx_open hf hu hp2 hRP h5_ (by have q_ := hR_; rw [show wf = 1 from hwf.resolve_left (by assumption)] at q_; exact q_) hX rfl (Or.inr (by assumption)) hO | exact EXx_test hf hb0 hu hRP h5_ (by have q_ := hR_; rw [show wf = 1 from hwf.resolve_left (by assumption)] at q_; exact q_) (by assumption) (by assumption) hT1 hX1 | exact EXx_and hf hb0 hRP h5_ (by have q_ := hR_; rw [show wf = 0 from by assumption] at q_; exact q_) hX (Or.inl (by assumption)) | exact EXx_and hf hb0 hRP h5_ (by have q_ := hR_; rw [show wf = 0 from by assumption] at q_; exact q_) hX (Or.inr (by assumption)) | exact EXx_close hf hb0 hRP h5_ (by have q_ := hR_; rw [show wf = 0 from by assumption] at q_; exact q_) hX (hN (by assumption)) hd0 (by assumption) rfl rfl | exact EXx_stop (by first | rfl | assumption) hf hfu hu hp2 hRP (by have q_ := hR_; rw [show wf = 0 from by assumption] at q_; exact q_) (fun q => q.elim (fun q => absurd q (by assumption)) (fun q => absurd q (by assumption))) (fun q => absurd q.1 (by assumption)) hX (by first | exact hN | exact fun _ => hN (by assumption)) (Or.inl ⟨rfl, by assumption⟩) | exact EXx_stop (by first | rfl | assumption) hf hfu hu hp2 hRP (by have q_ := hR_; rw [show wf = 0 from by assumption] at q_; exact q_) (fun q => q.elim (fun q => absurd q (by assumption)) (fun q => absurd q (by assumption))) (fun q => absurd q.1 (by assumption)) hX (by first | exact hN | exact fun _ => hN (by assumption)) (Or.inr ⟨rfl, by assumption⟩) | exact EXx_stop (by first | rfl | assumption) hf hfu hu hp2 hRP (by have q_ := hR_; rw [show wf = 0 from by assumption] at q_; exact q_) (fun q => q.elim (fun q => absurd q (by assumption)) (fun q => absurd q (by assumption))) (fun q => by omega) hX (by first | exact hN | exact fun _ => hN (by assumption)) (Or.inl ⟨rfl, by assumption⟩) | exact EXx_stop (by first | rfl | assumption) hf hfu hu hp2 hRP (by have q_ := hR_; rw [show wf = 0 from by assumption] at q_; exact q_) (fun q => q.elim (fun q => absurd q (by assumption)) (fun q => absurd q (by assumption))) (fun q => by omega) hX (by first | exact hN | exact fun _ => hN (by assumption)) (Or.inr ⟨rfl, by assumption⟩))) hP hD hS (lv_sub hl [2, 0, 3] rfl)
      refine lv_aload_n hx hb (fk_get fk_cX12_readExpression_0 31 rfl) rfl (lv_at hl 3 rfl) ?_
      refine lv_iload_n hx hb (fk_get fk_cX12_readExpression_1 0 rfl) rfl (lv_at hl 0 rfl) ?_
      have hFc := va_self hD hS hA
      refine va_callv (va_runV (As := [.int ((hrS (fA S 6) z u))]) (rest := []) ⟨hx, hb, hml, hown, hT⟩ (c_readOpening l G ad SL H_3.size (z) (u) (d) (o) (N) ((hrS (fA S 6) z u)) (hX) (hp2)) (tV 1 hT m6_77 m6_79 mp_28 m1_17 m6_80 rfl rfl (by decide +kernel) ⟨Nat.le_of_ble_eq_true rfl, Nat.le_of_ble_eq_true rfl⟩) ⟨PcW_blind, va_recv hK hP (ci := 14) (q0 := 0) rfl (ix_at (by decide) (cR_0 G ad SL)), PcW_of hP hK hD _⟩ rfl rfl hl.1 rfl (lv_room (Nat.le_of_ble_eq_true rfl)) (fk_get fk_cX12_readExpression_1 1 rfl) ⟨Nat.zero_le _, Nat.zero_le _⟩) hS (fun q _ h => hFc q h) hFc (fun S_29 t_ H locs ht_ hvm_ hw_28 hB_ hz_ hk_ hS => ?_)
      obtain ⟨hP, -, hD1_⟩ := hB_
      rw [ht_] at hP
      have hD : va_D A (wR G ad S_29) := hD1_.weaken (fun k q _ h => hFc q.1 h)
      try dsimp only at hw_28
      have hO := hw_28
      refine lv_goto (tgt := 165) hx hb (fk_get fk_cX12_readExpression_1 2 rfl) (by decide) ?_
      refine lv_goto (tgt := 21) hx hb (fk_get fk_cX12_readExpression_2 28 rfl) (by decide) ?_
      exact ih (wf) (en) (S_29) _ _ ls ((by (try rw [show en = 0 from by assumption]); (first | rw [show wf = 0 from by assumption] | rw [show wf = 1 from hwf.resolve_left (by assumption)] | skip); first | exact EXx_open hf hu hp2 hRP h5_ (by have q_ := hR_; rw [show wf = 1 from hwf.resolve_left (by assumption)] at q_; exact q_) hX rfl (Or.inl (by assumption)) hO | exact EXx_open hf hu hp2 hRP h5_ (by have q_ := hR_; rw [show wf = 1 from hwf.resolve_left (by assumption)] at q_; exact q_) hX rfl (Or.inr (by assumption)) hO | exact EXx_test hf hb0 hu hRP h5_ (by have q_ := hR_; rw [show wf = 1 from hwf.resolve_left (by assumption)] at q_; exact q_) (by assumption) (by assumption) hT1 hX1 | exact EXx_and hf hb0 hRP h5_ (by have q_ := hR_; rw [show wf = 0 from by assumption] at q_; exact q_) hX (Or.inl (by assumption)) | exact EXx_and hf hb0 hRP h5_ (by have q_ := hR_; rw [show wf = 0 from by assumption] at q_; exact q_) hX (Or.inr (by assumption)) | exact EXx_close hf hb0 hRP h5_ (by have q_ := hR_; rw [show wf = 0 from by assumption] at q_; exact q_) hX (hN (by assumption)) hd0 (by assumption) rfl rfl | exact EXx_stop (by first | rfl | assumption) hf hfu hu hp2 hRP (by have q_ := hR_; rw [show wf = 0 from by assumption] at q_; exact q_) (fun q => q.elim (fun q => absurd q (by assumption)) (fun q => absurd q (by assumption))) (fun q => absurd q.1 (by assumption)) hX (by first | exact hN | exact fun _ => hN (by assumption)) (Or.inl ⟨rfl, by assumption⟩) | exact EXx_stop (by first | rfl | assumption) hf hfu hu hp2 hRP (by have q_ := hR_; rw [show wf = 0 from by assumption] at q_; exact q_) (fun q => q.elim (fun q => absurd q (by assumption)) (fun q => absurd q (by assumption))) (fun q => absurd q.1 (by assumption)) hX (by first | exact hN | exact fun _ => hN (by assumption)) (Or.inr ⟨rfl, by assumption⟩) | exact EXx_stop (by first | rfl | assumption) hf hfu hu hp2 hRP (by have q_ := hR_; rw [show wf = 0 from by assumption] at q_; exact q_) (fun q => q.elim (fun q => absurd q (by assumption)) (fun q => absurd q (by assumption))) (fun q => by omega) hX (by first | exact hN | exact fun _ => hN (by assumption)) (Or.inl ⟨rfl, by assumption⟩) | exact EXx_stop (by first | rfl | assumption) hf hfu hu hp2 hRP (by have q_ := hR_; rw [show wf = 0 from by assumption] at q_; exact q_) (fun q => q.elim (fun q => absurd q (by assumption)) (fun q => absurd q (by assumption))) (fun q => by omega) hX (by first | exact hN | exact fun _ => hN (by assumption)) (Or.inr ⟨rfl, by assumption⟩))) hP hD hS (lv_sub hl [1, 2, 3] rfl)
  exact lp_1 (z + 3) (1) (0) (setA (setF (setF S 0 28 (0)) 0 29 (0)) 13 (upd (fA (setF (setF S 0 28 (0)) 0 29 (0)) 13) (0) (0))) _ _ ls (EXx_start (PFr.rf S) hp1 hp hb26) hP hD hS (lv_sub hl [0, 1, 2] rfl)
theorem srs_or {S S' : FS} {z : Nat} {st : Bool × Nat} (h : SRs z S' st) (hb : fF S 0 26 = 0) : fF S' 0 26 = 1 ∨ (fF S' 0 26 = 0 ∧ fF S 0 26 = 0) := by
  rw [h.2.1]
  by_cases q : st.1 = true
  · rw [if_pos q]
    exact Or.inr ⟨rfl, hb⟩
  · rw [if_neg q]
    exact Or.inl rfl
theorem exe_of {S0 S : FS} {z a : Nat} {R : Bool × Nat} (h : EXxe S0 S z a R) : EXe S0 S z a := by
  obtain ⟨h1, u, h2, h3, h4⟩ := h
  exact ⟨h1, u, h2, h3, h4.imp (fun q => q.1) (fun q => ⟨q.1, q.2.1⟩)⟩
set_option maxHeartbeats 800000 in
set_option maxRecDepth 100000 in
theorem c_readClauseE (l : Launch) (G : GG) (ad : Nat → Nat) (S : FS) (sz : Nat) (z u k : Nat) (i : Int32) (hz : fF S 0 17 = nI z) (hz1 : z ≤ 100) (hp : fF S 0 25 = nI u) (hp1 : u ≤ z) (hb0 : fF S 0 26 = 0) (ei : i = nI k) (hk : k < 60) : Met l yX12_readClause (Cond.code yX12_readClause cX12_readClause 3 none :: TBL) ({ frames := 7, cells := 0, slots := 0, locals := 193 } : Room) (PcW G (wR G ad S) sz [.ref (ad 0), .int (i)]) (va_Qv (fun (S' : FS) => RCl z k S S' ∧ RcX (clP uA (hrS (fA S 6) z) u) z k S') (fun S' t => BW G (va_A (wR G ad S) sz) (wR G ad S') t) (va_A (wR G ad S) sz)) 0 0 (va_A (wR G ad S) sz) := by
  refine Met.ofW (cc := cX12_readClause) (maxL := 3) (ret := none) (by decide) rfl ?_
  intro p e s m args below meth c₀ s₁ B hml hv
  obtain ⟨rfl, hsz, hP, hK, hD0⟩ := hv
  have hx := B.exec
  have hb := B.bytes
  have hr := B.returns
  have hT : ∀ w ∈ TBL, w.before ([.ref (ad 0), .int (i)] : List Value).toArray s = true := fun w h => atoms_spec (ws := Cond.code yX12_readClause cX12_readClause 3 none :: TBL) B.pre w (List.mem_cons_of_mem _ h)
  have hown : s.vm.findClass "LittleMoreModel" = some m.cls := findClass_of_methodNamed B.named
  have hlocks := B.notSynchronized
  subst hsz
  have hD := hD0.self (sz := s.heap.size)
  generalize hAe : va_A (wR G ad S) s.heap.size = A at hD ⊢
  have hA : ∀ q : Nat, s.heap.size ≤ q → A q := fun q h => by rw [← hAe]; exact Or.inr h
  have hS : va_S A s.heap s.heap [] := va_S.rf
  have hP : va_P G.1 vwCl (wR G ad S) s.heap := hP
  have hl := lv_entry ([.ref (ad 0), .int (i)]) (n := 3) (Nat.le_of_ble_eq_true rfl)
  rw [lg_entry_eq]
  generalize (lg_sl ([.ref (ad 0), .int (i)]) ++ List.replicate (3 - (lg_sl ([.ref (ad 0), .int (i)])).length) Slot.unset).toArray = ls at hl ⊢
  have hl : lv_has ls 3 [(0, .ref (ad 0)), (1, .int (i))] := hl
  refine W_abs (fun Q hQ => ?_)
  generalize ([.ref (ad 0), .int (i)] : List Value).toArray = args at hT hQ ⊢
  refine lv_aload_n hx hb (fk_get fk_cX12_readClause_0 0 rfl) rfl (lv_at hl 0 rfl) ?_
  have hFc := va_self hD hS hA
  refine va_calli (va_runV (As := []) (rest := []) ⟨hx, hb, hml, hown, hT⟩ (c_readWordE l G ad S s.heap.size (z) (u) (hz) (hz1) (hp) (hp1) (hb0)) (tV 0 hT m6_42 m6_44 mp_21 m1_17 m6_45 rfl rfl (by decide +kernel) ⟨Nat.le_of_ble_eq_true rfl, Nat.le_of_ble_eq_true rfl⟩) ⟨PcW_blind, va_recv hK hP (ci := 14) (q0 := 0) rfl (ix_at (by decide) (cR_0 G ad S)), PcW_of hP hK hD _⟩ rfl rfl hl.1 rfl (lv_room (Nat.le_of_ble_eq_true rfl)) (fk_get fk_cX12_readClause_0 1 rfl) ⟨Nat.zero_le _, Nat.zero_le _⟩) hS (fun q _ h => hFc q h) hFc (fun r_1 S_3 t_ H locs ht_ hvm_ hw_2 hB_ hz_ hk_ hS => ?_)
  obtain ⟨hP, -, hD1_⟩ := hB_
  rw [ht_] at hP
  have hD : va_D A (wR G ad S_3) := hD1_.weaken (fun k q _ h => hFc q.1 h)
  try dsimp only at hw_2
  obtain ⟨hQ1, hs1, hw1, hr4⟩ := hw_2
  have hA1 := ta_srs hQ1 hs1 hb0
  obtain ⟨u1, eu1⟩ : ∃ y, y = (rwP (hrS (fA S 6) z) u).2 := ⟨_, rfl⟩
  rw [← eu1] at hs1
  have hu1 := hs1.2.2
  have hq1 := hs1.1
  have hb1 := srs_or hs1 hb0
  refine lv_istore_n (lv' := [(2, .int (r_1)), (0, .ref (ad 0)), (1, .int (i))]) hx hb (fk_get fk_cX12_readClause_0 2 rfl) rfl hl (by decide) rfl (fun ls hl => ?_)
  refine lv_aload_n hx hb (fk_get fk_cX12_readClause_0 3 rfl) rfl (lv_at hl 1 rfl) ?_
  refine va_get (D := G.1) (ci := 14) (v := .ref (ad 9)) (C := RX12) (T := TX12) (N := 49) hx hb hT inX12 hown hK hP 0 (ix_at (by decide) (cR_0 G ad S_3)) rfl 21 (by decide) (hT _ m5_122) (fun _ h9 => h9) rfl (fk_get fk_cX12_readClause_0 4 rfl) ?_
  refine lv_iload_n hx hb (fk_get fk_cX12_readClause_0 5 rfl) rfl (lv_at hl 2 rfl) ?_
  refine lv_iload_n hx hb (fk_get fk_cX12_readClause_0 6 rfl) rfl (lv_at hl 0 rfl) ?_
  refine r_iast hx hb hK hP hD hS 9 0 (ix_at (by decide) (cR_clauseWhat G ad S_3)) rfl (k) (ei) (by omega) (by decide) (fk_get fk_cX12_readClause_0 7 rfl) (fun H locs hP hD hS => ?_)
  rw [pR_A G ad S_3 (by decide) (by decide) (by decide) (cR_clauseWhat G ad S_3) (upd (fA S_3 9) (k) (r_1))] at hP hD
  refine lv_aload_n hx hb (fk_get fk_cX12_readClause_0 8 rfl) rfl (lv_at hl 1 rfl) ?_
  refine va_get (D := G.1) (ci := 14) (v := .ref (ad 10)) (C := RX12) (T := TX12) (N := 49) hx hb hT inX12 hown hK hP 0 (ix_at (by decide) (cR_0 G ad (setA S_3 9 (upd (fA S_3 9) (k) (r_1))))) rfl 22 (by decide) (hT _ m5_123) (fun _ h9 => h9) rfl (fk_get fk_cX12_readClause_0 9 rfl) ?_
  refine lv_iload_n hx hb (fk_get fk_cX12_readClause_0 10 rfl) rfl (lv_at hl 2 rfl) ?_
  refine lv_aload_n hx hb (fk_get fk_cX12_readClause_0 11 rfl) rfl (lv_at hl 1 rfl) ?_
  have hFc := va_self hD hS hA
  refine va_calli (va_runV (As := []) (rest := [.int (i), .ref (ad 10)]) ⟨hx, hb, hml, hown, hT⟩ (c_readNumber l G ad (setA S_3 9 (upd (fA S_3 9) (k) (r_1))) H.size (z) (u1) (hQ1.f17 hz) (hz1) (hq1) (by omega)) (tV 0 hT m6_63 m6_65 mp_25 m1_17 m6_66 rfl rfl (by decide +kernel) ⟨Nat.le_of_ble_eq_true rfl, Nat.le_of_ble_eq_true rfl⟩) ⟨PcW_blind, va_recv hK hP (ci := 14) (q0 := 0) rfl (ix_at (by decide) (cR_0 G ad (setA S_3 9 (upd (fA S_3 9) (k) (r_1))))), PcW_of hP hK hD _⟩ rfl rfl hl.1 rfl (lv_room (Nat.le_of_ble_eq_true rfl)) (fk_get fk_cX12_readClause_0 12 rfl) ⟨Nat.zero_le _, Nat.zero_le _⟩) hS (fun q _ h => hFc q h) hFc (fun r_4 S_6 t_ H locs ht_ hvm_ hw_5 hB_ hz_ hk_ hS => ?_)
  obtain ⟨hP, -, hD1_⟩ := hB_
  rw [ht_] at hP
  have hD : va_D A (wR G ad S_6) := hD1_.weaken (fun k q _ h => hFc q.1 h)
  try dsimp only at hw_5
  have hA2 := TA_num hw_5 hu1
  have hC2 := (((hA1.1.P.C k (k + 1)).setA (i := 9) (by decide) (k := k) (by omega) (r_1))).trans (hA2.1.P.C k (k + 1))
  obtain ⟨hQ2, u2, hu2, hq2, hb2⟩ := id hA2
  have h92 : fA S_6 9 k = (r_1) := (congrFun (hQ2.2.2.2 9) k).trans pk_us
  obtain ⟨-, hs2, hn2⟩ := rn_x (S := (setA S_3 9 (upd (fA S_3 9) (k) (r_1)))) (τ := (hrS (fA S 6) z)) (b := (rwP (hrS (fA S 6) z) u).1.isSome) (by rw [show fA (setA S_3 9 (upd (fA S_3 9) (k) (r_1))) 6 = fA S 6 from hQ1.a6]) hs1 hw_5
  obtain ⟨v18, hv18⟩ : ∃ y, r_4 = y := ⟨_, rfl⟩
  rw [hv18] at hn2
  rw [hv18]
  obtain ⟨st2, est2⟩ : ∃ y, y = ((rwP (hrS (fA S 6) z) u).1.isSome && (numP (hrS (fA S 6) z) u1).1.isSome, if (rwP (hrS (fA S 6) z) u).1.isSome = true then (numP (hrS (fA S 6) z) u1).2 else u1) := ⟨_, rfl⟩
  rw [← est2] at hs2
  have hWN : WN (hrS (fA S 6) z) z u (r_1) v18 st2 := ⟨by rw [est2, eu1], hw1, hr4, fun n a c => hn2 n a (by rw [eu1]; exact c)⟩
  have eu2 : u2 = st2.2 := (nI_eq (by omega) (by have := hs2.2.2; omega)).mp (hq2.symm.trans hs2.1)
  subst eu2
  refine r_iast hx hb hK hP hD hS 10 0 (ix_at (by decide) (cR_clauseN G ad S_6)) rfl (k) (ei) (by omega) (by decide) (fk_get fk_cX12_readClause_0 13 rfl) (fun H locs hP hD hS => ?_)
  rw [pR_A G ad S_6 (by decide) (by decide) (by decide) (cR_clauseN G ad S_6) (upd (fA S_6 10) (k) ((v18)))] at hP hD
  have hC3 : CF k (k + 1) S (setA S_6 10 (upd (fA S_6 10) (k) ((v18)))) := hC2.setA (i := 10) (by decide) (k := k) (by omega) _
  have h10 : fA (setA S_6 10 (upd (fA S_6 10) (k) ((v18)))) 10 k = v18 := by rw [fA_setA, if_pos rfl, pk_us]
  refine lv_iload_n hx hb (fk_get fk_cX12_readClause_0 14 rfl) rfl (lv_at hl 0 rfl) ?_
  refine lv_iconst (v := 2) hx hb (fk_get fk_cX12_readClause_0 15 rfl) (by decide) ?_
  refine lv_icmp_ge (tgt := 61) hx hb (fk_get fk_cX12_readClause_0 16 rfl) (by decide) (fun c_7 => ?_) (fun c_7 => ?_)
  · subst hQ
    have hpost : RCl z k S (setA S_6 10 (upd (fA S_6 10) (k) ((v18)))) ∧ RcX (clP uA (hrS (fA S 6) z) u) z k (setA S_6 10 (upd (fA S_6 10) (k) ((v18)))) := by
      refine ⟨?_, ?_⟩
      · first
        | exact RCl_exp hC5 hu3 (by rw [fA_setA, if_pos rfl, pk_us]; exact hq3) (bad0 hb1 (bad0 hb2 (bad0 hb3 h0_))) hE
        | exact RCl_of hC5 hu3 hq3 (Or.inl (bad1 (S0 := S) (z := z) (u := u) hb3 (by assumption)))
        | exact RCl_of hC3 hu2 hq2 (Or.inl (bad1 (S0 := S) (z := z) (u := u) hb2 (by assumption)))
        | exact RCl_of hC3 hu2 hq2 (hb2.elim Or.inl (fun q => Or.inr ⟨q.1, bad0 hb1 q.2, ge2 h92 (by assumption)⟩))
      · first
        | exact rcx_c hp1 hz1 hWN hs3 ht2 (by assumption) h0_ hq3 hu3 (by rw [hC5.a6]) hX58 h95 h105 h115
        | exact rcx_b hp1 hWN hs3 ht2 (by assumption) (by assumption)
        | exact rcx_a hp1 hWN hs2 h92 h10 (Or.inl (by assumption))
        | exact rcx_a hp1 hWN hs2 h92 h10 (Or.inr (by assumption))
    exact W.vret hx hb hr (fun t_ ht_ hW_ => ⟨⟨(setA S_6 10 (upd (fA S_6 10) (k) ((v18)))), rfl, hpost, by rw [ht_]; exact hP, va_K.moved hW_.alike hK, hD⟩, hS.F ht_⟩) hS.2.2 (fk_get fk_cX12_readClause_1 2 rfl)
  refine lv_aload_n hx hb (fk_get fk_cX12_readClause_0 17 rfl) rfl (lv_at hl 1 rfl) ?_
  refine va_get (D := G.1) (ci := 14) (v := .int ((fF S_6 0 26))) (C := RX12) (T := TX12) (N := 49) hx hb hT inX12 hown hK hP 0 (ix_at (by decide) (cR_0 G ad (setA S_6 10 (upd (fA S_6 10) (k) ((v18)))))) rfl 26 (by decide) (hT _ m5_127) (fun _ h9 => h9) rfl (fk_get fk_cX12_readClause_0 18 rfl) ?_
  refine lv_if_ne (tgt := 61) hx hb (fk_get fk_cX12_readClause_0 19 rfl) (by decide) (fun c_8 => ?_) (fun c_8 => ?_)
  · subst hQ
    have hpost : RCl z k S (setA S_6 10 (upd (fA S_6 10) (k) ((v18)))) ∧ RcX (clP uA (hrS (fA S 6) z) u) z k (setA S_6 10 (upd (fA S_6 10) (k) ((v18)))) := by
      refine ⟨?_, ?_⟩
      · first
        | exact RCl_exp hC5 hu3 (by rw [fA_setA, if_pos rfl, pk_us]; exact hq3) (bad0 hb1 (bad0 hb2 (bad0 hb3 h0_))) hE
        | exact RCl_of hC5 hu3 hq3 (Or.inl (bad1 (S0 := S) (z := z) (u := u) hb3 (by assumption)))
        | exact RCl_of hC3 hu2 hq2 (Or.inl (bad1 (S0 := S) (z := z) (u := u) hb2 (by assumption)))
        | exact RCl_of hC3 hu2 hq2 (hb2.elim Or.inl (fun q => Or.inr ⟨q.1, bad0 hb1 q.2, ge2 h92 (by assumption)⟩))
      · first
        | exact rcx_c hp1 hz1 hWN hs3 ht2 (by assumption) h0_ hq3 hu3 (by rw [hC5.a6]) hX58 h95 h105 h115
        | exact rcx_b hp1 hWN hs3 ht2 (by assumption) (by assumption)
        | exact rcx_a hp1 hWN hs2 h92 h10 (Or.inl (by assumption))
        | exact rcx_a hp1 hWN hs2 h92 h10 (Or.inr (by assumption))
    exact W.vret hx hb hr (fun t_ ht_ hW_ => ⟨⟨(setA S_6 10 (upd (fA S_6 10) (k) ((v18)))), rfl, hpost, by rw [ht_]; exact hP, va_K.moved hW_.alike hK, hD⟩, hS.F ht_⟩) hS.2.2 (fk_get fk_cX12_readClause_1 2 rfl)
  have ht2 := (srs_b hs2).mp c_8
  refine lv_aload_n hx hb (fk_get fk_cX12_readClause_0 20 rfl) rfl (lv_at hl 1 rfl) ?_
  refine lv_bipush (v := 32) hx hb (fk_get fk_cX12_readClause_0 21 rfl) (by decide) ?_
  have hFc := va_self hD hS hA
  refine va_callv (va_runV (As := [.int (32)]) (rest := []) ⟨hx, hb, hml, hown, hT⟩ (c_take l G ad (setA S_6 10 (upd (fA S_6 10) (k) ((v18)))) H.size (z) (st2.2) (32) (hC3.f17 hz) (hz1) (hq2) (by omega)) (tV 1 hT m6_57 m6_59 mp_24 m1_17 m6_60 rfl rfl (by decide +kernel) ⟨Nat.le_of_ble_eq_true rfl, Nat.le_of_ble_eq_true rfl⟩) ⟨PcW_blind, va_recv hK hP (ci := 14) (q0 := 0) rfl (ix_at (by decide) (cR_0 G ad (setA S_6 10 (upd (fA S_6 10) (k) ((v18)))))), PcW_of hP hK hD _⟩ rfl rfl hl.1 rfl (lv_room (Nat.le_of_ble_eq_true rfl)) (fk_get fk_cX12_readClause_0 22 rfl) ⟨Nat.zero_le _, Nat.zero_le _⟩) hS (fun q _ h => hFc q h) hFc (fun S_11 t_ H locs ht_ hvm_ hw_10 hB_ hz_ hk_ hS => ?_)
  obtain ⟨hP, -, hD1_⟩ := hB_
  rw [ht_] at hP
  have hD : va_D A (wR G ad S_11) := hD1_.weaken (fun k q _ h => hFc q.1 h)
  try dsimp only at hw_10
  have hA3 := TA_take hw_10 hu2 (by decide)
  have hC4 := hC3.trans (hA3.1.P.C k (k + 1))
  obtain ⟨hQ3, u3, hu3, hq3, hb3⟩ := id hA3
  have h93 : fA S_11 9 k = (r_1) := (congrFun (hQ3.2.2.2 9) k).trans h92
  have h103 : fA S_11 10 k = v18 := (congrFun (hQ3.2.2.2 10) k).trans h10
  obtain ⟨-, hs3⟩ := srs_tk (QFr.rf (setA S_6 10 (upd (fA S_6 10) (k) ((v18))))) (st := st2) hs2 hw_10 (by decide)
  rw [show hrS (fA (setA S_6 10 (upd (fA S_6 10) (k) ((v18)))) 6) z = (hrS (fA S 6) z) from by rw [hC3.a6]] at hs3
  refine lv_aload_n hx hb (fk_get fk_cX12_readClause_0 23 rfl) rfl (lv_at hl 1 rfl) ?_
  refine va_get (D := G.1) (ci := 14) (v := .ref (ad 11)) (C := RX12) (T := TX12) (N := 49) hx hb hT inX12 hown hK hP 0 (ix_at (by decide) (cR_0 G ad S_11)) rfl 23 (by decide) (hT _ m5_124) (fun _ h9 => h9) rfl (fk_get fk_cX12_readClause_0 24 rfl) ?_
  refine lv_iload_n hx hb (fk_get fk_cX12_readClause_0 25 rfl) rfl (lv_at hl 2 rfl) ?_
  refine lv_aload_n hx hb (fk_get fk_cX12_readClause_0 26 rfl) rfl (lv_at hl 1 rfl) ?_
  refine va_get (D := G.1) (ci := 14) (v := .int ((fF S_11 0 25))) (C := RX12) (T := TX12) (N := 49) hx hb hT inX12 hown hK hP 0 (ix_at (by decide) (cR_0 G ad S_11)) rfl 25 (by decide) (hT _ m5_126) (fun _ h9 => h9) rfl (fk_get fk_cX12_readClause_0 27 rfl) ?_
  refine r_iast hx hb hK hP hD hS 11 0 (ix_at (by decide) (cR_clauseAt G ad S_11)) rfl (k) (ei) (by omega) (by decide) (fk_get fk_cX12_readClause_0 28 rfl) (fun H locs hP hD hS => ?_)
  rw [pR_A G ad S_11 (by decide) (by decide) (by decide) (cR_clauseAt G ad S_11) (upd (fA S_11 11) (k) ((fF S_11 0 25)))] at hP hD
  have hC5 : CF k (k + 1) S (setA S_11 11 (upd (fA S_11 11) (k) ((fF S_11 0 25)))) := hC4.setA (i := 11) (by decide) (k := k) (by omega) _
  refine lv_aload_n hx hb (fk_get fk_cX12_readClause_0 29 rfl) rfl (lv_at hl 1 rfl) ?_
  refine va_get (D := G.1) (ci := 14) (v := .int ((fF S_11 0 26))) (C := RX12) (T := TX12) (N := 49) hx hb hT inX12 hown hK hP 0 (ix_at (by decide) (cR_0 G ad (setA S_11 11 (upd (fA S_11 11) (k) ((fF S_11 0 25)))))) rfl 26 (by decide) (hT _ m5_127) (fun _ h9 => h9) rfl (fk_get fk_cX12_readClause_0 30 rfl) ?_
  refine lv_if_ne (tgt := 61) hx hb (fk_get fk_cX12_readClause_0 31 rfl) (by decide) (fun c_12 => ?_) (fun c_12 => ?_)
  · subst hQ
    have hpost : RCl z k S (setA S_11 11 (upd (fA S_11 11) (k) ((fF S_11 0 25)))) ∧ RcX (clP uA (hrS (fA S 6) z) u) z k (setA S_11 11 (upd (fA S_11 11) (k) ((fF S_11 0 25)))) := by
      refine ⟨?_, ?_⟩
      · first
        | exact RCl_exp hC5 hu3 (by rw [fA_setA, if_pos rfl, pk_us]; exact hq3) (bad0 hb1 (bad0 hb2 (bad0 hb3 h0_))) hE
        | exact RCl_of hC5 hu3 hq3 (Or.inl (bad1 (S0 := S) (z := z) (u := u) hb3 (by assumption)))
        | exact RCl_of hC3 hu2 hq2 (Or.inl (bad1 (S0 := S) (z := z) (u := u) hb2 (by assumption)))
        | exact RCl_of hC3 hu2 hq2 (hb2.elim Or.inl (fun q => Or.inr ⟨q.1, bad0 hb1 q.2, ge2 h92 (by assumption)⟩))
      · first
        | exact rcx_c hp1 hz1 hWN hs3 ht2 (by assumption) h0_ hq3 hu3 (by rw [hC5.a6]) hX58 h95 h105 h115
        | exact rcx_b hp1 hWN hs3 ht2 (by assumption) (by assumption)
        | exact rcx_a hp1 hWN hs2 h92 h10 (Or.inl (by assumption))
        | exact rcx_a hp1 hWN hs2 h92 h10 (Or.inr (by assumption))
    exact W.vret hx hb hr (fun t_ ht_ hW_ => ⟨⟨(setA S_11 11 (upd (fA S_11 11) (k) ((fF S_11 0 25)))), rfl, hpost, by rw [ht_]; exact hP, va_K.moved hW_.alike hK, hD⟩, hS.F ht_⟩) hS.2.2 (fk_get fk_cX12_readClause_1 2 rfl)
  have h0_ := c_12
  refine lv_aload_n hx hb (fk_get fk_cX12_readClause_1 0 rfl) rfl (lv_at hl 1 rfl) ?_
  have hFc := va_self hD hS hA
  refine va_callv (va_runV (As := []) (rest := []) ⟨hx, hb, hml, hown, hT⟩ (c_readExpressionE l G ad (setA S_11 11 (upd (fA S_11 11) (k) ((fF S_11 0 25)))) H.size (z) (u3) (hC5.f17 hz) (hz1) (hq3) (hu3) (h0_)) (tV 0 hT m6_73 m6_75 mp_27 m1_17 m6_76 rfl rfl (by decide +kernel) ⟨Nat.le_of_ble_eq_true rfl, Nat.le_of_ble_eq_true rfl⟩) ⟨PcW_blind, va_recv hK hP (ci := 14) (q0 := 0) rfl (ix_at (by decide) (cR_0 G ad (setA S_11 11 (upd (fA S_11 11) (k) ((fF S_11 0 25)))))), PcW_of hP hK hD _⟩ rfl rfl hl.1 rfl (lv_room (Nat.le_of_ble_eq_true rfl)) (fk_get fk_cX12_readClause_1 1 rfl) ⟨Nat.zero_le _, Nat.zero_le _⟩) hS (fun q _ h => hFc q h) hFc (fun S_15 t_ H locs ht_ hvm_ hw_14 hB_ hz_ hk_ hS => ?_)
  obtain ⟨hP, -, hD1_⟩ := hB_
  rw [ht_] at hP
  have hD : va_D A (wR G ad S_15) := hD1_.weaken (fun k q _ h => hFc q.1 h)
  try dsimp only at hw_14
  have hX58 := hw_14
  have hE := exe_of hw_14
  have h95 : fA S_15 9 k = (r_1) := (congrFun (hE.1.2.2.2 9 (by decide)) k).trans h93
  have h105 : fA S_15 10 k = v18 := (congrFun (hE.1.2.2.2 10 (by decide)) k).trans h103
  have h115 : fA S_15 11 k = nI u3 := (congrFun (hE.1.2.2.2 11 (by decide)) k).trans (by rw [fA_setA, if_pos rfl, pk_us]; exact hq3)
  subst hQ
  have hpost : RCl z k S S_15 ∧ RcX (clP uA (hrS (fA S 6) z) u) z k S_15 := by
    refine ⟨?_, ?_⟩
    · first
      | exact RCl_exp hC5 hu3 (by rw [fA_setA, if_pos rfl, pk_us]; exact hq3) (bad0 hb1 (bad0 hb2 (bad0 hb3 h0_))) hE
      | exact RCl_of hC5 hu3 hq3 (Or.inl (bad1 (S0 := S) (z := z) (u := u) hb3 (by assumption)))
      | exact RCl_of hC3 hu2 hq2 (Or.inl (bad1 (S0 := S) (z := z) (u := u) hb2 (by assumption)))
      | exact RCl_of hC3 hu2 hq2 (hb2.elim Or.inl (fun q => Or.inr ⟨q.1, bad0 hb1 q.2, ge2 h92 (by assumption)⟩))
    · first
      | exact rcx_c hp1 hz1 hWN hs3 ht2 (by assumption) h0_ hq3 hu3 (by rw [hC5.a6]) hX58 h95 h105 h115
      | exact rcx_b hp1 hWN hs3 ht2 (by assumption) (by assumption)
      | exact rcx_a hp1 hWN hs2 h92 h10 (Or.inl (by assumption))
      | exact rcx_a hp1 hWN hs2 h92 h10 (Or.inr (by assumption))
  exact W.vret hx hb hr (fun t_ ht_ hW_ => ⟨⟨S_15, rfl, hpost, by rw [ht_]; exact hP, va_K.moved hW_.alike hK, hD⟩, hS.F ht_⟩) hS.2.2 (fk_get fk_cX12_readClause_1 2 rfl)
