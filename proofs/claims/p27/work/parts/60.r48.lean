theorem ad_lt {a b : Nat} (ha : a < 2 ^ 31) (hb : b < 2 ^ 31) (h : a ≤ b) (e : ¬ nI a = nI b) : a < b := Nat.lt_of_le_of_ne h (fun q => e (by rw [q]))
theorem ad_eq {a b : Nat} (ha : a < 2 ^ 31) (hb : b < 2 ^ 31) (e : nI a = nI b) : b = a := by
  have := congrArg Int32.toNatClampNeg e
  rw [nI_clamp ha, nI_clamp hb] at this
  exact this.symm
theorem pl_ok {P : Nat → Nat → Prop} {S S1 : FS} {p nz z : Nat} (h : Fr P S S1) (k : LB S1 p nz z) : 71 ≤ p ∧ (fK S p = 2 ∨ 71 + fC S ≤ p) := by
  refine ⟨k.2.1, ?_⟩
  by_cases q : p < 71 + fC S
  · exact Or.inl ((h.K q).symm.trans k.2.2.2.1)
  · exact Or.inr (Nat.not_lt.mp q)
set_option maxHeartbeats 800000 in
set_option maxRecDepth 100000 in
theorem c_jgrowA (l : Launch) (G : GG) (ad : Nat → Nat) (S : FS) (sz : Nat)  (hLA : LA S) (hX : XI S) : Met l yJx4a65c_grow_d5877 (Cond.code yJx4a65c_grow_d5877 cJx4a65c_grow_d5877 1 (some (.array (.object "java/lang/Object"))) :: TBL) ({ frames := 4, cells := 1, slots := 64, locals := 116 } : Room) (PcE G (wX G ad S) sz [.ref (ad 61)]) (va_Qq (fun (r : Option Nat) (u : FS × (Nat → Nat)) => XI u.1 ∧ Fr (fun j k => j = 61) S u.1 ∧ (∀ j, j < 71 + fC S → u.2 j = ad j) ∧ ∃ pl' nz', r = some (u.2 pl') ∧ LB u.1 pl' nz' 0 ∧ 0 < nz' ∧ ∀ i, i < 0 → el u.1 i = el S i) (fun u t => BW G (va_A (wX G ad S) sz) (wX G u.2 u.1) t) (va_A (wX G ad S) sz)) 1 64 (va_A (wX G ad S) sz) := by
  refine va_MetF (cc := cJx4a65c_grow_d5877) (maxL := 1) (ret := (some (.array (.object "java/lang/Object")))) (by decide +kernel) rfl ?_
  intro p e s m args below meth c₀ s₁ B hml hv
  obtain ⟨rfl, hsz, hP, hK, hD0, hE⟩ := hv
  have hx := B.exec
  have hb := B.bytes
  have hr := B.returns
  have hT : ∀ w ∈ TBL, w.before ([.ref (ad 61)] : List Value).toArray s = true := fun w h => atoms_spec (ws := Cond.code yJx4a65c_grow_d5877 cJx4a65c_grow_d5877 1 (some (.array (.object "java/lang/Object"))) :: TBL) B.pre w (List.mem_cons_of_mem _ h)
  have hown : s.vm.findClass "java/util/ArrayList" = some m.cls := findClass_of_methodNamed B.named
  have hlocks := B.notSynchronized
  subst hsz
  have hD := hD0.self (sz := s.heap.size)
  generalize hAe : va_A (wX G ad S) s.heap.size = A at hD hE ⊢
  have hA : ∀ q : Nat, s.heap.size ≤ q → A q := fun q h => by rw [← hAe]; exact Or.inr h
  have hS : va_S A s.heap s.heap [] := va_S.rf
  have hP : va_P G.1 vwCl (wX G ad S) s.heap := hP
  have hl := lv_entry ([.ref (ad 61)]) (n := 1) (Nat.le_of_ble_eq_true rfl)
  rw [lg_entry_eq]
  generalize (lg_sl ([.ref (ad 61)]) ++ List.replicate (1 - (lg_sl ([.ref (ad 61)])).length) Slot.unset).toArray = ls at hl ⊢
  have hl : lv_has ls 1 [(0, .ref (ad 61))] := hl
  refine W_abs (fun Q hQ => ?_)
  generalize ([.ref (ad 61)] : List Value).toArray = args at hT hQ ⊢
  refine lv_aload_n hx hb (fk_get fk_cJx4a65c_grow_d5877_0 0 rfl) rfl (lv_at hl 0 rfl) ?_
  refine lv_aload_n hx hb (fk_get fk_cJx4a65c_grow_d5877_0 1 rfl) rfl (lv_at hl 0 rfl) ?_
  refine va_get (D := G.1) (ci := 1) (v := .int (fF S 61 2)) (C := RJx4a65c) (T := TJx4a65c) (N := 3) hx hb hT inJx4a65c hown hK hP 61 (ix_at (lt71 (by omega)) (cX_lstA (show fR S 61 1 = none from (hLA).1))) rfl 2 (by decide) (hT _ m2_53) (fun _ h9 => h9) rfl (fk_get fk_cJx4a65c_grow_d5877_0 2 rfl) ?_
  rw [(show fF S 61 2 = nI 0 from (hLA).2)]
  refine lv_iconst (v := 1) hx hb (fk_get fk_cJx4a65c_grow_d5877_0 3 rfl) (by decide) ?_
  refine lv_iadd hx hb (fk_get fk_cJx4a65c_grow_d5877_0 4 rfl) ?_
  rw [show ((nI 0) + 1) = (nI (0 + 1)) from (nI_1 0)]
  have hFc := va_self hD hS hA
  refine va_callq (va_runV (As := [.int ((nI (0 + 1)))]) (rest := []) ⟨hx, hb, hml, hown, hT⟩ (c_jgrowA1 l G ad S s.heap.size  (hLA) (hX)) (tV 1 hT m4_161 m4_163 mp_17 m1_15 m4_164 rfl rfl (by decide +kernel) ⟨Nat.le_of_ble_eq_true rfl, Nat.le_of_ble_eq_true rfl⟩) ⟨PcE_blind, va_recv hK hP (ci := 1) (q0 := 61) rfl (ix_at (lt71 (by omega)) (cX_lstA (show fR S 61 1 = none from (hLA).1))), PcE_of hP hK hD hE hS (fun q h => hFc q h) _⟩ rfl rfl hl.1 rfl (lv_room (Nat.le_of_ble_eq_true rfl)) (fk_get fk_cJx4a65c_grow_d5877_0 5 rfl) ⟨Nat.le_of_ble_eq_true rfl, Nat.le_of_ble_eq_true rfl⟩) hS (fun q _ h => hFc q h) hFc (fun r_1 u_ t_ H locs ht_ hvm_ hw_2 hB_ hz_ hk_ hS => ?_)
  obtain ⟨S_3, ad_4⟩ := u_
  dsimp only at hB_ hw_2
  obtain ⟨hP, -, hD1_⟩ := hB_
  rw [ht_] at hP
  have hD : va_D A (wX G ad_4 S_3) := hD1_.weaken (fun k q _ h => hFc q.1 h)
  obtain ⟨hX_5, hF_6_, hg_7_, hw_2⟩ := hw_2
  have hg_7 : ∀ j, j < 71 + fC S → ad_4 j = ad j := fun j hj => (hg_7_ j (Nat.lt_of_lt_of_le hj (Nat.add_le_add_left ((Fr.rf : Fr (fun j k => j = 61) S S)).1 71))).trans ((fun _ _ => rfl) j hj)
  have hF_6 : Fr (fun j k => j = 61) S S_3 := Fr.tr (Fr.rf : Fr (fun j k => j = 61) S S) hF_6_ (fun j k hj h => by have hc_ := ((Fr.rf : Fr (fun j k => j = 61) S S)).1; have hk_ := Fr.K ((Fr.rf : Fr (fun j k => j = 61) S S)) hj; omega)
  have hl : lv_has ls 1 [(0, .ref (ad_4 61))] := by rw [hg_7_ 61 ((lt71 (by omega)))]; exact hl
  obtain ⟨po_7, no_7, rfl, hLo_7, hzo_7, heo_7⟩ := hw_2
  rw [show va_rf (some (ad_4 po_7)) = .ref (ad_4 po_7) from rfl]
  subst hQ
  have hpost : XI S_3 ∧ Fr (fun j k => j = 61) S S_3 ∧ (∀ j, j < 71 + fC S → ad_4 j = ad j) ∧ ∃ pl' nz', ((some (ad_4 po_7)) : Option Nat) = some (ad_4 pl') ∧ LB S_3 pl' nz' 0 ∧ 0 < nz' ∧ ∀ i, i < 0 → el S_3 i = el S i := by
    exact ⟨hX_5, hF_6, hg_7, ⟨po_7, no_7, rfl, hLo_7, hzo_7, heo_7⟩⟩
  refine W.widen (k := 1) (n := 64) (by omega) (by omega) ?_
  exact W.aret hx hb hr (Or.inr ⟨_, rfl⟩) (Or.inr ⟨_, rfl⟩) (fun t_ ht_ hW_ => ⟨⟨(some (ad_4 po_7)), (S_3, ad_4), rfl, hpost, by rw [ht_]; exact hP, va_K.moved hW_.alike hK, hD⟩, hS.F ht_⟩) hS.2.2 (fk_get fk_cJx4a65c_grow_d5877_0 6 rfl)
set_option maxHeartbeats 800000 in
set_option maxRecDepth 100000 in
theorem c_jgrowB (l : Launch) (G : GG) (ad : Nat → Nat) (S : FS) (sz : Nat) (pl z : Nat) (hLB : LB S pl z z) (hz40 : z ≤ 40) (hX : XI S) : Met l yJx4a65c_grow_d5877 (Cond.code yJx4a65c_grow_d5877 cJx4a65c_grow_d5877 1 (some (.array (.object "java/lang/Object"))) :: TBL) ({ frames := 6, cells := 1, slots := 64, locals := 168 } : Room) (PcE G (wX G ad S) sz [.ref (ad 61)]) (va_Qq (fun (r : Option Nat) (u : FS × (Nat → Nat)) => XI u.1 ∧ Fr (fun j k => j = 61) S u.1 ∧ (∀ j, j < 71 + fC S → u.2 j = ad j) ∧ ∃ pl' nz', r = some (u.2 pl') ∧ LB u.1 pl' nz' z ∧ z < nz' ∧ ∀ i, i < z → el u.1 i = el S i) (fun u t => BW G (va_A (wX G ad S) sz) (wX G u.2 u.1) t) (va_A (wX G ad S) sz)) 1 64 (va_A (wX G ad S) sz) := by
  refine va_MetF (cc := cJx4a65c_grow_d5877) (maxL := 1) (ret := (some (.array (.object "java/lang/Object")))) (by decide +kernel) rfl ?_
  intro p e s m args below meth c₀ s₁ B hml hv
  obtain ⟨rfl, hsz, hP, hK, hD0, hE⟩ := hv
  have hx := B.exec
  have hb := B.bytes
  have hr := B.returns
  have hT : ∀ w ∈ TBL, w.before ([.ref (ad 61)] : List Value).toArray s = true := fun w h => atoms_spec (ws := Cond.code yJx4a65c_grow_d5877 cJx4a65c_grow_d5877 1 (some (.array (.object "java/lang/Object"))) :: TBL) B.pre w (List.mem_cons_of_mem _ h)
  have hown : s.vm.findClass "java/util/ArrayList" = some m.cls := findClass_of_methodNamed B.named
  have hlocks := B.notSynchronized
  subst hsz
  have hD := hD0.self (sz := s.heap.size)
  generalize hAe : va_A (wX G ad S) s.heap.size = A at hD hE ⊢
  have hA : ∀ q : Nat, s.heap.size ≤ q → A q := fun q h => by rw [← hAe]; exact Or.inr h
  have hS : va_S A s.heap s.heap [] := va_S.rf
  have hP : va_P G.1 vwCl (wX G ad S) s.heap := hP
  have hl := lv_entry ([.ref (ad 61)]) (n := 1) (Nat.le_of_ble_eq_true rfl)
  rw [lg_entry_eq]
  generalize (lg_sl ([.ref (ad 61)]) ++ List.replicate (1 - (lg_sl ([.ref (ad 61)])).length) Slot.unset).toArray = ls at hl ⊢
  have hl : lv_has ls 1 [(0, .ref (ad 61))] := hl
  refine W_abs (fun Q hQ => ?_)
  generalize ([.ref (ad 61)] : List Value).toArray = args at hT hQ ⊢
  refine lv_aload_n hx hb (fk_get fk_cJx4a65c_grow_d5877_0 0 rfl) rfl (lv_at hl 0 rfl) ?_
  refine lv_aload_n hx hb (fk_get fk_cJx4a65c_grow_d5877_0 1 rfl) rfl (lv_at hl 0 rfl) ?_
  refine va_get (D := G.1) (ci := 1) (v := .int (fF S 61 2)) (C := RJx4a65c) (T := TJx4a65c) (N := 3) hx hb hT inJx4a65c hown hK hP 61 (ix_at (lt71 (by omega)) (cX_lstB (show fR S 61 1 = some pl from (hLB).1))) rfl 2 (by decide) (hT _ m2_53) (fun _ h9 => h9) rfl (fk_get fk_cJx4a65c_grow_d5877_0 2 rfl) ?_
  rw [(show fF S 61 2 = nI z from (hLB).2.2.2.2.2.2.2.1)]
  refine lv_iconst (v := 1) hx hb (fk_get fk_cJx4a65c_grow_d5877_0 3 rfl) (by decide) ?_
  refine lv_iadd hx hb (fk_get fk_cJx4a65c_grow_d5877_0 4 rfl) ?_
  rw [show ((nI z) + 1) = (nI (z + 1)) from (nI_1 z)]
  have hFc := va_self hD hS hA
  refine va_callq (va_runV (As := [.int ((nI (z + 1)))]) (rest := []) ⟨hx, hb, hml, hown, hT⟩ (c_jgrowB1 l G ad S s.heap.size (pl) (z) (hLB) (by first | assumption | omega) (hX)) (tV 1 hT m4_161 m4_163 mp_17 m1_15 m4_164 rfl rfl (by decide +kernel) ⟨Nat.le_of_ble_eq_true rfl, Nat.le_of_ble_eq_true rfl⟩) ⟨PcE_blind, va_recv hK hP (ci := 1) (q0 := 61) rfl (ix_at (lt71 (by omega)) (cX_lstB (show fR S 61 1 = some pl from (hLB).1))), PcE_of hP hK hD hE hS (fun q h => hFc q h) _⟩ rfl rfl hl.1 rfl (lv_room (Nat.le_of_ble_eq_true rfl)) (fk_get fk_cJx4a65c_grow_d5877_0 5 rfl) ⟨Nat.le_of_ble_eq_true rfl, Nat.le_of_ble_eq_true rfl⟩) hS (fun q _ h => hFc q h) hFc (fun r_1 u_ t_ H locs ht_ hvm_ hw_2 hB_ hz_ hk_ hS => ?_)
  obtain ⟨S_3, ad_4⟩ := u_
  dsimp only at hB_ hw_2
  obtain ⟨hP, -, hD1_⟩ := hB_
  rw [ht_] at hP
  have hD : va_D A (wX G ad_4 S_3) := hD1_.weaken (fun k q _ h => hFc q.1 h)
  obtain ⟨hX_5, hF_6_, hg_7_, hw_2⟩ := hw_2
  have hg_7 : ∀ j, j < 71 + fC S → ad_4 j = ad j := fun j hj => (hg_7_ j (Nat.lt_of_lt_of_le hj (Nat.add_le_add_left ((Fr.rf : Fr (fun j k => j = 61) S S)).1 71))).trans ((fun _ _ => rfl) j hj)
  have hF_6 : Fr (fun j k => j = 61) S S_3 := Fr.tr (Fr.rf : Fr (fun j k => j = 61) S S) hF_6_ (fun j k hj h => by have hc_ := ((Fr.rf : Fr (fun j k => j = 61) S S)).1; have hk_ := Fr.K ((Fr.rf : Fr (fun j k => j = 61) S S)) hj; omega)
  have hl : lv_has ls 1 [(0, .ref (ad_4 61))] := by rw [hg_7_ 61 ((lt71 (by omega)))]; exact hl
  obtain ⟨po_7, no_7, rfl, hLo_7, hzo_7, heo_7⟩ := hw_2
  rw [show va_rf (some (ad_4 po_7)) = .ref (ad_4 po_7) from rfl]
  subst hQ
  have hpost : XI S_3 ∧ Fr (fun j k => j = 61) S S_3 ∧ (∀ j, j < 71 + fC S → ad_4 j = ad j) ∧ ∃ pl' nz', ((some (ad_4 po_7)) : Option Nat) = some (ad_4 pl') ∧ LB S_3 pl' nz' z ∧ z < nz' ∧ ∀ i, i < z → el S_3 i = el S i := by
    exact ⟨hX_5, hF_6, hg_7, ⟨po_7, no_7, rfl, hLo_7, hzo_7, heo_7⟩⟩
  refine W.widen (k := 1) (n := 64) (by omega) (by omega) ?_
  exact W.aret hx hb hr (Or.inr ⟨_, rfl⟩) (Or.inr ⟨_, rfl⟩) (fun t_ ht_ hW_ => ⟨⟨(some (ad_4 po_7)), (S_3, ad_4), rfl, hpost, by rw [ht_]; exact hP, va_K.moved hW_.alike hK, hD⟩, hS.F ht_⟩) hS.2.2 (fk_get fk_cJx4a65c_grow_d5877_0 6 rfl)
set_option maxHeartbeats 800000 in
set_option maxRecDepth 100000 in
theorem c_jaddA1 (l : Launch) (G : GG) (ad : Nat → Nat) (S : FS) (sz : Nat) (jb : Nat) (hLA : LA S) (hjb : jb < 256) (hX : XI S) : Met l yJx4a65c_add_72be8 (Cond.code yJx4a65c_add_72be8 cJx4a65c_add_72be8 4 none :: TBL) ({ frames := 5, cells := 1, slots := 64, locals := 140 } : Room) (PcE G (wX G ad S) sz [.ref (ad 61), .ref (G.2.2.2 jb), .ref (G.2.2.1), .int ((nI 0))]) (va_Qv (fun (u : FS × (Nat → Nat)) => XI u.1 ∧ Fr (fun j k => j = 61 ∨ (71 ≤ j ∧ (fK S j = 2 ∨ 71 + fC S ≤ j))) S u.1 ∧ (∀ j, j < 71 + fC S → u.2 j = ad j) ∧ fF u.1 61 2 = nI (0 + 1) ∧ (∀ i, i < 0 → el u.1 i = el S i) ∧ el u.1 0 = some jb) (fun u t => BW G (va_A (wX G ad S) sz) (wX G u.2 u.1) t) (va_A (wX G ad S) sz)) 1 64 (va_A (wX G ad S) sz) := by
  refine va_MetF (cc := cJx4a65c_add_72be8) (maxL := 4) (ret := none) (by decide +kernel) rfl ?_
  intro p e s m args below meth c₀ s₁ B hml hv
  obtain ⟨rfl, hsz, hP, hK, hD0, hE⟩ := hv
  have hx := B.exec
  have hb := B.bytes
  have hr := B.returns
  have hT : ∀ w ∈ TBL, w.before ([.ref (ad 61), .ref (G.2.2.2 jb), .ref (G.2.2.1), .int ((nI 0))] : List Value).toArray s = true := fun w h => atoms_spec (ws := Cond.code yJx4a65c_add_72be8 cJx4a65c_add_72be8 4 none :: TBL) B.pre w (List.mem_cons_of_mem _ h)
  have hown : s.vm.findClass "java/util/ArrayList" = some m.cls := findClass_of_methodNamed B.named
  have hlocks := B.notSynchronized
  subst hsz
  have hD := hD0.self (sz := s.heap.size)
  generalize hAe : va_A (wX G ad S) s.heap.size = A at hD hE ⊢
  have hA : ∀ q : Nat, s.heap.size ≤ q → A q := fun q h => by rw [← hAe]; exact Or.inr h
  have hS : va_S A s.heap s.heap [] := va_S.rf
  have hP : va_P G.1 vwCl (wX G ad S) s.heap := hP
  have hl := lv_entry ([.ref (ad 61), .ref (G.2.2.2 jb), .ref (G.2.2.1), .int ((nI 0))]) (n := 4) (Nat.le_of_ble_eq_true rfl)
  rw [lg_entry_eq]
  generalize (lg_sl ([.ref (ad 61), .ref (G.2.2.2 jb), .ref (G.2.2.1), .int ((nI 0))]) ++ List.replicate (4 - (lg_sl ([.ref (ad 61), .ref (G.2.2.2 jb), .ref (G.2.2.1), .int ((nI 0))])).length) Slot.unset).toArray = ls at hl ⊢
  have hl : lv_has ls 4 [(0, .ref (ad 61)), (1, .ref (G.2.2.2 jb)), (2, .ref (G.2.2.1)), (3, .int ((nI 0)))] := hl
  refine W_abs (fun Q hQ => ?_)
  generalize ([.ref (ad 61), .ref (G.2.2.2 jb), .ref (G.2.2.1), .int ((nI 0))] : List Value).toArray = args at hT hQ ⊢
  refine lv_iload_n hx hb (fk_get fk_cJx4a65c_add_72be8_0 0 rfl) rfl (lv_at hl 3 rfl) ?_
  refine lv_aload_n hx hb (fk_get fk_cJx4a65c_add_72be8_0 1 rfl) rfl (lv_at hl 2 rfl) ?_
  refine va_tlen (v := 0) hx hb hE.1.2 hS rfl (fk_get fk_cJx4a65c_add_72be8_0 2 rfl) ?_
  refine lv_icmp_ne (tgt := 11) hx hb (fk_get fk_cJx4a65c_add_72be8_0 3 rfl) (by decide) (fun c_1 => absurd (rfl) c_1) (fun _ => ?_)
  refine lv_aload_n hx hb (fk_get fk_cJx4a65c_add_72be8_0 4 rfl) rfl (lv_at hl 0 rfl) ?_
  have hFc := va_self hD hS hA
  refine va_callq (va_runV (As := []) (rest := []) ⟨hx, hb, hml, hown, hT⟩ (c_jgrowA l G ad S s.heap.size  (hLA) (hX)) (tV 0 hT m4_157 m4_159 mp_16 m1_15 m4_160 rfl rfl (by decide +kernel) ⟨Nat.le_of_ble_eq_true rfl, Nat.le_of_ble_eq_true rfl⟩) ⟨PcE_blind, va_recv hK hP (ci := 1) (q0 := 61) rfl (ix_at (lt71 (by omega)) (cX_lstA (show fR S 61 1 = none from (hLA).1))), PcE_of hP hK hD hE hS (fun q h => hFc q h) _⟩ rfl rfl hl.1 rfl (lv_room (Nat.le_of_ble_eq_true rfl)) (fk_get fk_cJx4a65c_add_72be8_0 5 rfl) ⟨Nat.le_of_ble_eq_true rfl, Nat.le_of_ble_eq_true rfl⟩) hS (fun q _ h => hFc q h) hFc (fun r_2 u_ t_ H locs ht_ hvm_ hw_3 hB_ hz_ hk_ hS => ?_)
  obtain ⟨S_4, ad_5⟩ := u_
  dsimp only at hB_ hw_3
  obtain ⟨hP, -, hD1_⟩ := hB_
  rw [ht_] at hP
  have hD : va_D A (wX G ad_5 S_4) := hD1_.weaken (fun k q _ h => hFc q.1 h)
  obtain ⟨hX_6, hF_7_, hg_8_, hw_3⟩ := hw_3
  have hg_8 : ∀ j, j < 71 + fC S → ad_5 j = ad j := fun j hj => (hg_8_ j (Nat.lt_of_lt_of_le hj (Nat.add_le_add_left ((Fr.rf : Fr (fun j k => j = 61 ∨ (71 ≤ j ∧ (fK S j = 2 ∨ 71 + fC S ≤ j))) S S)).1 71))).trans ((fun _ _ => rfl) j hj)
  have hF_7 : Fr (fun j k => j = 61 ∨ (71 ≤ j ∧ (fK S j = 2 ∨ 71 + fC S ≤ j))) S S_4 := Fr.tr (Fr.rf : Fr (fun j k => j = 61 ∨ (71 ≤ j ∧ (fK S j = 2 ∨ 71 + fC S ≤ j))) S S) hF_7_ (fun j k hj h => by have hc_ := ((Fr.rf : Fr (fun j k => j = 61 ∨ (71 ≤ j ∧ (fK S j = 2 ∨ 71 + fC S ≤ j))) S S)).1; have hk_ := Fr.K ((Fr.rf : Fr (fun j k => j = 61 ∨ (71 ≤ j ∧ (fK S j = 2 ∨ 71 + fC S ≤ j))) S S)) hj; omega)
  have hl : lv_has ls 4 [(0, .ref (ad_5 61)), (1, .ref (G.2.2.2 jb)), (2, .ref (G.2.2.1)), (3, .int ((nI 0)))] := by rw [hg_8_ 61 ((lt71 (by omega)))]; exact hl
  obtain ⟨po_7, no_7, rfl, hLo_7, hzo_7, heo_7⟩ := hw_3
  rw [show va_rf (some (ad_5 po_7)) = .ref (ad_5 po_7) from rfl]
  have hpk_ := pl_ok hF_7 hLo_7
  refine lv_astore_n (lv' := [(2, .ref (ad_5 po_7)), (0, .ref (ad_5 61)), (1, .ref (G.2.2.2 jb)), (3, .int ((nI 0)))]) hx hb (fk_get fk_cJx4a65c_add_72be8_0 6 rfl) rfl hl (by decide) rfl (fun ls hl => ?_)
  refine lv_aload_n hx hb (fk_get fk_cJx4a65c_add_72be8_0 7 rfl) rfl (lv_at hl 0 rfl) ?_
  refine lv_iload_n hx hb (fk_get fk_cJx4a65c_add_72be8_0 8 rfl) rfl (lv_at hl 3 rfl) ?_
  refine lv_aload_n hx hb (fk_get fk_cJx4a65c_add_72be8_0 9 rfl) rfl (lv_at hl 2 rfl) ?_
  refine va_astqM hx hb hK hP hD hS po_7 6 (ix_at (hLo_7).2.2.1 (cX_obsn (show LB S_4 po_7 no_7 0 from hLo_7))) rfl (box_any hE hS hK hjb) (by rw [show ((nI 0) : Int32) = nI 0 from rfl]; exact vp_in_nI (by omega) (by have := (hLo_7).2.2.2.2.2.2.1; omega)) (fk_get fk_cJx4a65c_add_72be8_0 10 rfl) (fun H locs hP hD hS => ?_)
  rw [show ((nI 0) : Int32).toNatClampNeg = 0 from by rw [show ((nI 0) : Int32) = nI 0 from rfl]; exact nI_clamp (by omega)] at hP hD
  rw [pX_obsJ (G := G) (ad := ad_5) (S := S_4) (i := 0) jb (show LB S_4 po_7 no_7 0 from hLo_7).2.1 (show LB S_4 po_7 no_7 0 from hLo_7).2.2.1 (show LB S_4 po_7 no_7 0 from hLo_7).2.2.2.1 (show LB S_4 po_7 no_7 0 from hLo_7).2.2.2.2.1] at hP hD
  have h71_ := (show LB S_4 po_7 no_7 0 from hLo_7).2.1
  have hF_9 : Fr (fun j k => j = 61 ∨ (71 ≤ j ∧ (fK S j = 2 ∨ 71 + fC S ≤ j))) S (setR S_4 po_7 0 (some jb)) := Fr.sR hF_7 (by omega)
  refine lv_aload_n hx hb (fk_get fk_cJx4a65c_add_72be8_0 11 rfl) rfl (lv_at hl 1 rfl) ?_
  refine lv_iload_n hx hb (fk_get fk_cJx4a65c_add_72be8_0 12 rfl) rfl (lv_at hl 3 rfl) ?_
  refine lv_iconst (v := 1) hx hb (fk_get fk_cJx4a65c_add_72be8_0 13 rfl) (by decide) ?_
  refine lv_iadd hx hb (fk_get fk_cJx4a65c_add_72be8_0 14 rfl) ?_
  rw [show ((nI 0) + 1) = (nI (0 + 1)) from (nI_1 0)]
  refine va_put (D := G.1) (ci := 1) (v := .int ((nI (0 + 1)))) (ty := .int) (C := RJx4a65c) (T := TJx4a65c) (N := 3) hx hb hT inJx4a65c tyJx4a65c tyJx4a65c_ok nmJx4a65c hown hK hP hD hS 61 (ix_at (lt71 (by omega)) (cX_lstB (show fR (setR S_4 po_7 0 (some jb)) 61 1 = some po_7 from (by rw [fR_setR, if_neg (by omega)]; exact ((show LB S_4 po_7 no_7 0 from hLo_7)).1)))) rfl 2 (by decide) (hT _ m2_53) (fun _ h9 => h9) rfl (by decide +kernel) rfl rfl (Nat.le_of_ble_eq_true rfl) (fk_get fk_cJx4a65c_add_72be8_0 15 rfl) (fun H locs hP hD hS => ?_)
  rw [pX_lstB (G := G) (ad := ad_5) (S := (setR S_4 po_7 0 (some jb))) (show fR (setR S_4 po_7 0 (some jb)) 61 1 = some po_7 from (by rw [fR_setR, if_neg (by omega)]; exact ((show LB S_4 po_7 no_7 0 from hLo_7)).1)) 2 (by omega) ((nI (0 + 1)))] at hP hD
  have hF_10 : Fr (fun j k => j = 61 ∨ (71 ≤ j ∧ (fK S j = 2 ∨ 71 + fC S ≤ j))) S (setF (setR S_4 po_7 0 (some jb)) 61 2 ((nI (0 + 1)))) := Fr.sF hF_9 (by omega)
  subst hQ
  have hpost : XI (setF (setR S_4 po_7 0 (some jb)) 61 2 ((nI (0 + 1)))) ∧ Fr (fun j k => j = 61 ∨ (71 ≤ j ∧ (fK S j = 2 ∨ 71 + fC S ≤ j))) S (setF (setR S_4 po_7 0 (some jb)) 61 2 ((nI (0 + 1)))) ∧ (∀ j, j < 71 + fC S → ad_5 j = ad j) ∧ fF (setF (setR S_4 po_7 0 (some jb)) 61 2 ((nI (0 + 1)))) 61 2 = nI (0 + 1) ∧ (∀ i, i < 0 → el (setF (setR S_4 po_7 0 (some jb)) 61 2 ((nI (0 + 1)))) i = el S i) ∧ el (setF (setR S_4 po_7 0 (some jb)) 61 2 ((nI (0 + 1)))) 0 = some jb := by
    obtain ⟨q1_, q2_, q3_⟩ := hLo_7.appE hzo_7 hjb
    exact ⟨LB.appX hX_6 hLo_7 hzo_7 hjb, hF_10, hg_8, q1_, fun i hi => (q2_ i hi).trans (heo_7 i hi), q3_⟩
  refine W.widen (k := 1) (n := 64) (by omega) (by omega) ?_
  exact W.vret hx hb hr (fun t_ ht_ hW_ => ⟨⟨((setF (setR S_4 po_7 0 (some jb)) 61 2 ((nI (0 + 1)))), ad_5), rfl, hpost, by rw [ht_]; exact hP, va_K.moved hW_.alike hK, hD⟩, hS.F ht_⟩) hS.2.2 (fk_get fk_cJx4a65c_add_72be8_0 16 rfl)
set_option maxHeartbeats 800000 in
set_option maxRecDepth 100000 in
theorem c_jaddB1 (l : Launch) (G : GG) (ad : Nat → Nat) (S : FS) (sz : Nat) (pl nz z jb : Nat) (hLB : LB S pl nz z) (hz40 : z ≤ 40) (hjb : jb < 256) (hX : XI S) : Met l yJx4a65c_add_72be8 (Cond.code yJx4a65c_add_72be8 cJx4a65c_add_72be8 4 none :: TBL) ({ frames := 7, cells := 1, slots := 64, locals := 192 } : Room) (PcE G (wX G ad S) sz [.ref (ad 61), .ref (G.2.2.2 jb), .ref (ad pl), .int ((nI z))]) (va_Qv (fun (u : FS × (Nat → Nat)) => XI u.1 ∧ Fr (fun j k => j = 61 ∨ (71 ≤ j ∧ (fK S j = 2 ∨ 71 + fC S ≤ j))) S u.1 ∧ (∀ j, j < 71 + fC S → u.2 j = ad j) ∧ fF u.1 61 2 = nI (z + 1) ∧ (∀ i, i < z → el u.1 i = el S i) ∧ el u.1 z = some jb) (fun u t => BW G (va_A (wX G ad S) sz) (wX G u.2 u.1) t) (va_A (wX G ad S) sz)) 1 64 (va_A (wX G ad S) sz) := by
  refine va_MetF (cc := cJx4a65c_add_72be8) (maxL := 4) (ret := none) (by decide +kernel) rfl ?_
  intro p e s m args below meth c₀ s₁ B hml hv
  obtain ⟨rfl, hsz, hP, hK, hD0, hE⟩ := hv
  have hx := B.exec
  have hb := B.bytes
  have hr := B.returns
  have hT : ∀ w ∈ TBL, w.before ([.ref (ad 61), .ref (G.2.2.2 jb), .ref (ad pl), .int ((nI z))] : List Value).toArray s = true := fun w h => atoms_spec (ws := Cond.code yJx4a65c_add_72be8 cJx4a65c_add_72be8 4 none :: TBL) B.pre w (List.mem_cons_of_mem _ h)
  have hown : s.vm.findClass "java/util/ArrayList" = some m.cls := findClass_of_methodNamed B.named
  have hlocks := B.notSynchronized
  subst hsz
  have hD := hD0.self (sz := s.heap.size)
  generalize hAe : va_A (wX G ad S) s.heap.size = A at hD hE ⊢
  have hA : ∀ q : Nat, s.heap.size ≤ q → A q := fun q h => by rw [← hAe]; exact Or.inr h
  have hS : va_S A s.heap s.heap [] := va_S.rf
  have hP : va_P G.1 vwCl (wX G ad S) s.heap := hP
  have hl := lv_entry ([.ref (ad 61), .ref (G.2.2.2 jb), .ref (ad pl), .int ((nI z))]) (n := 4) (Nat.le_of_ble_eq_true rfl)
  rw [lg_entry_eq]
  generalize (lg_sl ([.ref (ad 61), .ref (G.2.2.2 jb), .ref (ad pl), .int ((nI z))]) ++ List.replicate (4 - (lg_sl ([.ref (ad 61), .ref (G.2.2.2 jb), .ref (ad pl), .int ((nI z))])).length) Slot.unset).toArray = ls at hl ⊢
  have hl : lv_has ls 4 [(0, .ref (ad 61)), (1, .ref (G.2.2.2 jb)), (2, .ref (ad pl)), (3, .int ((nI z)))] := hl
  refine W_abs (fun Q hQ => ?_)
  generalize ([.ref (ad 61), .ref (G.2.2.2 jb), .ref (ad pl), .int ((nI z))] : List Value).toArray = args at hT hQ ⊢
  have hzn := hLB.2.2.2.2.2.2.2.2.1
  have hn64 := hLB.2.2.2.2.2.2.1
  have hqk_ := hLB.2.2.2.1
  have hq71_ := hLB.2.1
  refine lv_iload_n hx hb (fk_get fk_cJx4a65c_add_72be8_0 0 rfl) rfl (lv_at hl 3 rfl) ?_
  refine lv_aload_n hx hb (fk_get fk_cJx4a65c_add_72be8_0 1 rfl) rfl (lv_at hl 2 rfl) ?_
  refine va_alen hx hb hK hP pl 6 (ix_at (hLB).2.2.1 (cX_obsn (show LB S pl nz z from hLB))) rfl (v := nI nz) rfl (fk_get fk_cJx4a65c_add_72be8_0 2 rfl) ?_
  refine lv_icmp_ne (tgt := 11) hx hb (fk_get fk_cJx4a65c_add_72be8_0 3 rfl) (by decide) (fun c_1 => ?_) (fun c_1 => ?_)
  · have hlt : z < nz := ad_lt (by omega) (by omega) hzn c_1
    refine lv_aload_n hx hb (fk_get fk_cJx4a65c_add_72be8_0 7 rfl) rfl (lv_at hl 2 rfl) ?_
    refine lv_iload_n hx hb (fk_get fk_cJx4a65c_add_72be8_0 8 rfl) rfl (lv_at hl 3 rfl) ?_
    refine lv_aload_n hx hb (fk_get fk_cJx4a65c_add_72be8_0 9 rfl) rfl (lv_at hl 1 rfl) ?_
    refine va_astqM hx hb hK hP hD hS pl 6 (ix_at (hLB).2.2.1 (cX_obsn (show LB S pl nz z from hLB))) rfl (box_any hE hS hK hjb) (by rw [show ((nI z) : Int32) = nI z from rfl]; exact vp_in_nI (by omega) (by have := (hLB).2.2.2.2.2.2.1; omega)) (fk_get fk_cJx4a65c_add_72be8_0 10 rfl) (fun H locs hP hD hS => ?_)
    rw [show ((nI z) : Int32).toNatClampNeg = z from by rw [show ((nI z) : Int32) = nI z from rfl]; exact nI_clamp (by omega)] at hP hD
    rw [pX_obsJ (G := G) (ad := ad) (S := S) (i := z) jb (show LB S pl nz z from hLB).2.1 (show LB S pl nz z from hLB).2.2.1 (show LB S pl nz z from hLB).2.2.2.1 (show LB S pl nz z from hLB).2.2.2.2.1] at hP hD
    have h71_ := (show LB S pl nz z from hLB).2.1
    have hF_2 : Fr (fun j k => j = 61 ∨ (71 ≤ j ∧ (fK S j = 2 ∨ 71 + fC S ≤ j))) S (setR S pl z (some jb)) := Fr.sR (Fr.rf : Fr (fun j k => j = 61 ∨ (71 ≤ j ∧ (fK S j = 2 ∨ 71 + fC S ≤ j))) S S) (by omega)
    refine lv_aload_n hx hb (fk_get fk_cJx4a65c_add_72be8_0 11 rfl) rfl (lv_at hl 0 rfl) ?_
    refine lv_iload_n hx hb (fk_get fk_cJx4a65c_add_72be8_0 12 rfl) rfl (lv_at hl 3 rfl) ?_
    refine lv_iconst (v := 1) hx hb (fk_get fk_cJx4a65c_add_72be8_0 13 rfl) (by decide) ?_
    refine lv_iadd hx hb (fk_get fk_cJx4a65c_add_72be8_0 14 rfl) ?_
    rw [show ((nI z) + 1) = (nI (z + 1)) from (nI_1 z)]
    refine va_put (D := G.1) (ci := 1) (v := .int ((nI (z + 1)))) (ty := .int) (C := RJx4a65c) (T := TJx4a65c) (N := 3) hx hb hT inJx4a65c tyJx4a65c tyJx4a65c_ok nmJx4a65c hown hK hP hD hS 61 (ix_at (lt71 (by omega)) (cX_lstB (show fR (setR S pl z (some jb)) 61 1 = some pl from (by rw [fR_setR, if_neg (by omega)]; exact ((show LB S pl nz z from hLB)).1)))) rfl 2 (by decide) (hT _ m2_53) (fun _ h9 => h9) rfl (by decide +kernel) rfl rfl (Nat.le_of_ble_eq_true rfl) (fk_get fk_cJx4a65c_add_72be8_0 15 rfl) (fun H locs hP hD hS => ?_)
    rw [pX_lstB (G := G) (ad := ad) (S := (setR S pl z (some jb))) (show fR (setR S pl z (some jb)) 61 1 = some pl from (by rw [fR_setR, if_neg (by omega)]; exact ((show LB S pl nz z from hLB)).1)) 2 (by omega) ((nI (z + 1)))] at hP hD
    have hF_3 : Fr (fun j k => j = 61 ∨ (71 ≤ j ∧ (fK S j = 2 ∨ 71 + fC S ≤ j))) S (setF (setR S pl z (some jb)) 61 2 ((nI (z + 1)))) := Fr.sF hF_2 (by omega)
    subst hQ
    have hpost : XI (setF (setR S pl z (some jb)) 61 2 ((nI (z + 1)))) ∧ Fr (fun j k => j = 61 ∨ (71 ≤ j ∧ (fK S j = 2 ∨ 71 + fC S ≤ j))) S (setF (setR S pl z (some jb)) 61 2 ((nI (z + 1)))) ∧ (∀ j, j < 71 + fC S → ad j = ad j) ∧ fF (setF (setR S pl z (some jb)) 61 2 ((nI (z + 1)))) 61 2 = nI (z + 1) ∧ (∀ i, i < z → el (setF (setR S pl z (some jb)) 61 2 ((nI (z + 1)))) i = el S i) ∧ el (setF (setR S pl z (some jb)) 61 2 ((nI (z + 1)))) z = some jb := by
      first
      | (obtain ⟨q1_, q2_, q3_⟩ := LB.appE hLB hlt hjb; exact ⟨LB.appX hX hLB hlt hjb, hF_3, (fun _ _ => rfl), q1_, q2_, q3_⟩)
      | (obtain ⟨q1_, q2_, q3_⟩ := hLo_7.appE hzo_7 hjb; exact ⟨LB.appX hX hLo_7 hzo_7 hjb, hF_3, (fun _ _ => rfl), q1_, fun i hi => (q2_ i hi).trans (heo_7 i hi), q3_⟩)
    refine W.widen (k := 1) (n := 64) (by omega) (by omega) ?_
    exact W.vret hx hb hr (fun t_ ht_ hW_ => ⟨⟨((setF (setR S pl z (some jb)) 61 2 ((nI (z + 1)))), ad), rfl, hpost, by rw [ht_]; exact hP, va_K.moved hW_.alike hK, hD⟩, hS.F ht_⟩) hS.2.2 (fk_get fk_cJx4a65c_add_72be8_0 16 rfl)
  have ez : nz = z := ad_eq (by omega) (by omega) c_1
  have hLz : LB S pl z z := by rw [ez] at hLB; exact hLB
  refine lv_aload_n hx hb (fk_get fk_cJx4a65c_add_72be8_0 4 rfl) rfl (lv_at hl 0 rfl) ?_
  have hFc := va_self hD hS hA
  refine va_callq (va_runV (As := []) (rest := []) ⟨hx, hb, hml, hown, hT⟩ (c_jgrowB l G ad S s.heap.size (pl) (z) (hLz) (by first | assumption | omega) (hX)) (tV 0 hT m4_157 m4_159 mp_16 m1_15 m4_160 rfl rfl (by decide +kernel) ⟨Nat.le_of_ble_eq_true rfl, Nat.le_of_ble_eq_true rfl⟩) ⟨PcE_blind, va_recv hK hP (ci := 1) (q0 := 61) rfl (ix_at (lt71 (by omega)) (cX_lstB (show fR S 61 1 = some pl from (hLB).1))), PcE_of hP hK hD hE hS (fun q h => hFc q h) _⟩ rfl rfl hl.1 rfl (lv_room (Nat.le_of_ble_eq_true rfl)) (fk_get fk_cJx4a65c_add_72be8_0 5 rfl) ⟨Nat.le_of_ble_eq_true rfl, Nat.le_of_ble_eq_true rfl⟩) hS (fun q _ h => hFc q h) hFc (fun r_4 u_ t_ H locs ht_ hvm_ hw_5 hB_ hz_ hk_ hS => ?_)
  obtain ⟨S_6, ad_7⟩ := u_
  dsimp only at hB_ hw_5
  obtain ⟨hP, -, hD1_⟩ := hB_
  rw [ht_] at hP
  have hD : va_D A (wX G ad_7 S_6) := hD1_.weaken (fun k q _ h => hFc q.1 h)
  obtain ⟨hX_8, hF_9_, hg_10_, hw_5⟩ := hw_5
  have hg_10 : ∀ j, j < 71 + fC S → ad_7 j = ad j := fun j hj => (hg_10_ j (Nat.lt_of_lt_of_le hj (Nat.add_le_add_left ((Fr.rf : Fr (fun j k => j = 61 ∨ (71 ≤ j ∧ (fK S j = 2 ∨ 71 + fC S ≤ j))) S S)).1 71))).trans ((fun _ _ => rfl) j hj)
  have hF_9 : Fr (fun j k => j = 61 ∨ (71 ≤ j ∧ (fK S j = 2 ∨ 71 + fC S ≤ j))) S S_6 := Fr.tr (Fr.rf : Fr (fun j k => j = 61 ∨ (71 ≤ j ∧ (fK S j = 2 ∨ 71 + fC S ≤ j))) S S) hF_9_ (fun j k hj h => by have hc_ := ((Fr.rf : Fr (fun j k => j = 61 ∨ (71 ≤ j ∧ (fK S j = 2 ∨ 71 + fC S ≤ j))) S S)).1; have hk_ := Fr.K ((Fr.rf : Fr (fun j k => j = 61 ∨ (71 ≤ j ∧ (fK S j = 2 ∨ 71 + fC S ≤ j))) S S)) hj; omega)
  have hl : lv_has ls 4 [(0, .ref (ad_7 61)), (1, .ref (G.2.2.2 jb)), (2, .ref (ad_7 pl)), (3, .int ((nI z)))] := by rw [hg_10_ 61 ((lt71 (by omega))), hg_10_ pl ((hLB).2.2.1)]; exact hl
  obtain ⟨po_7, no_7, rfl, hLo_7, hzo_7, heo_7⟩ := hw_5
  rw [show va_rf (some (ad_7 po_7)) = .ref (ad_7 po_7) from rfl]
  have hpk_ := pl_ok hF_9 hLo_7
  refine lv_astore_n (lv' := [(2, .ref (ad_7 po_7)), (0, .ref (ad_7 61)), (1, .ref (G.2.2.2 jb)), (3, .int ((nI z)))]) hx hb (fk_get fk_cJx4a65c_add_72be8_0 6 rfl) rfl hl (by decide) rfl (fun ls hl => ?_)
  refine lv_aload_n hx hb (fk_get fk_cJx4a65c_add_72be8_0 7 rfl) rfl (lv_at hl 0 rfl) ?_
  refine lv_iload_n hx hb (fk_get fk_cJx4a65c_add_72be8_0 8 rfl) rfl (lv_at hl 3 rfl) ?_
  refine lv_aload_n hx hb (fk_get fk_cJx4a65c_add_72be8_0 9 rfl) rfl (lv_at hl 2 rfl) ?_
  refine va_astqM hx hb hK hP hD hS po_7 6 (ix_at (hLo_7).2.2.1 (cX_obsn (show LB S_6 po_7 no_7 z from hLo_7))) rfl (box_any hE hS hK hjb) (by rw [show ((nI z) : Int32) = nI z from rfl]; exact vp_in_nI (by omega) (by have := (hLo_7).2.2.2.2.2.2.1; omega)) (fk_get fk_cJx4a65c_add_72be8_0 10 rfl) (fun H locs hP hD hS => ?_)
  rw [show ((nI z) : Int32).toNatClampNeg = z from by rw [show ((nI z) : Int32) = nI z from rfl]; exact nI_clamp (by omega)] at hP hD
  rw [pX_obsJ (G := G) (ad := ad_7) (S := S_6) (i := z) jb (show LB S_6 po_7 no_7 z from hLo_7).2.1 (show LB S_6 po_7 no_7 z from hLo_7).2.2.1 (show LB S_6 po_7 no_7 z from hLo_7).2.2.2.1 (show LB S_6 po_7 no_7 z from hLo_7).2.2.2.2.1] at hP hD
  have h71_ := (show LB S_6 po_7 no_7 z from hLo_7).2.1
  have hF_11 : Fr (fun j k => j = 61 ∨ (71 ≤ j ∧ (fK S j = 2 ∨ 71 + fC S ≤ j))) S (setR S_6 po_7 z (some jb)) := Fr.sR hF_9 (by omega)
  refine lv_aload_n hx hb (fk_get fk_cJx4a65c_add_72be8_0 11 rfl) rfl (lv_at hl 1 rfl) ?_
  refine lv_iload_n hx hb (fk_get fk_cJx4a65c_add_72be8_0 12 rfl) rfl (lv_at hl 3 rfl) ?_
  refine lv_iconst (v := 1) hx hb (fk_get fk_cJx4a65c_add_72be8_0 13 rfl) (by decide) ?_
  refine lv_iadd hx hb (fk_get fk_cJx4a65c_add_72be8_0 14 rfl) ?_
  rw [show ((nI z) + 1) = (nI (z + 1)) from (nI_1 z)]
  refine va_put (D := G.1) (ci := 1) (v := .int ((nI (z + 1)))) (ty := .int) (C := RJx4a65c) (T := TJx4a65c) (N := 3) hx hb hT inJx4a65c tyJx4a65c tyJx4a65c_ok nmJx4a65c hown hK hP hD hS 61 (ix_at (lt71 (by omega)) (cX_lstB (show fR (setR S_6 po_7 z (some jb)) 61 1 = some po_7 from (by rw [fR_setR, if_neg (by omega)]; exact ((show LB S_6 po_7 no_7 z from hLo_7)).1)))) rfl 2 (by decide) (hT _ m2_53) (fun _ h9 => h9) rfl (by decide +kernel) rfl rfl (Nat.le_of_ble_eq_true rfl) (fk_get fk_cJx4a65c_add_72be8_0 15 rfl) (fun H locs hP hD hS => ?_)
  rw [pX_lstB (G := G) (ad := ad_7) (S := (setR S_6 po_7 z (some jb))) (show fR (setR S_6 po_7 z (some jb)) 61 1 = some po_7 from (by rw [fR_setR, if_neg (by omega)]; exact ((show LB S_6 po_7 no_7 z from hLo_7)).1)) 2 (by omega) ((nI (z + 1)))] at hP hD
  have hF_12 : Fr (fun j k => j = 61 ∨ (71 ≤ j ∧ (fK S j = 2 ∨ 71 + fC S ≤ j))) S (setF (setR S_6 po_7 z (some jb)) 61 2 ((nI (z + 1)))) := Fr.sF hF_11 (by omega)
  subst hQ
  have hpost : XI (setF (setR S_6 po_7 z (some jb)) 61 2 ((nI (z + 1)))) ∧ Fr (fun j k => j = 61 ∨ (71 ≤ j ∧ (fK S j = 2 ∨ 71 + fC S ≤ j))) S (setF (setR S_6 po_7 z (some jb)) 61 2 ((nI (z + 1)))) ∧ (∀ j, j < 71 + fC S → ad_7 j = ad j) ∧ fF (setF (setR S_6 po_7 z (some jb)) 61 2 ((nI (z + 1)))) 61 2 = nI (z + 1) ∧ (∀ i, i < z → el (setF (setR S_6 po_7 z (some jb)) 61 2 ((nI (z + 1)))) i = el S i) ∧ el (setF (setR S_6 po_7 z (some jb)) 61 2 ((nI (z + 1)))) z = some jb := by
    first
    | (obtain ⟨q1_, q2_, q3_⟩ := LB.appE hLB hlt hjb; exact ⟨LB.appX hX_8 hLB hlt hjb, hF_12, hg_10, q1_, q2_, q3_⟩)
    | (obtain ⟨q1_, q2_, q3_⟩ := hLo_7.appE hzo_7 hjb; exact ⟨LB.appX hX_8 hLo_7 hzo_7 hjb, hF_12, hg_10, q1_, fun i hi => (q2_ i hi).trans (heo_7 i hi), q3_⟩)
  refine W.widen (k := 1) (n := 64) (by omega) (by omega) ?_
  exact W.vret hx hb hr (fun t_ ht_ hW_ => ⟨⟨((setF (setR S_6 po_7 z (some jb)) 61 2 ((nI (z + 1)))), ad_7), rfl, hpost, by rw [ht_]; exact hP, va_K.moved hW_.alike hK, hD⟩, hS.F ht_⟩) hS.2.2 (fk_get fk_cJx4a65c_add_72be8_0 16 rfl)
set_option maxHeartbeats 800000 in
set_option maxRecDepth 100000 in
theorem c_jaddA (l : Launch) (G : GG) (ad : Nat → Nat) (S : FS) (sz : Nat) (jb : Nat) (hLA : LA S) (hjb : jb < 256) (hX : XI S) : Met l yJx4a65c_add_9ea2d (Cond.code yJx4a65c_add_9ea2d cJx4a65c_add_9ea2d 2 (some .boolean) :: TBL) ({ frames := 12, cells := 1, slots := 64, locals := 400 } : Room) (PcE G (wX G ad S) sz [.ref (ad 61), .ref (G.2.2.2 jb)]) (va_Qi (fun (r : Int32) (u : FS × (Nat → Nat)) => XI u.1 ∧ Fr (fun j k => j = 61 ∨ (71 ≤ j ∧ (fK S j = 2 ∨ 71 + fC S ≤ j))) S u.1 ∧ (∀ j, j < 71 + fC S → u.2 j = ad j) ∧ fF u.1 61 2 = nI (0 + 1) ∧ (∀ i, i < 0 → el u.1 i = el S i) ∧ el u.1 0 = some jb) (fun u t => BW G (va_A (wX G ad S) sz) (wX G u.2 u.1) t) (va_A (wX G ad S) sz)) 1 64 (va_A (wX G ad S) sz) := by
  refine va_MetF (cc := cJx4a65c_add_9ea2d) (maxL := 2) (ret := (some .boolean)) (by decide +kernel) rfl ?_
  intro p e s m args below meth c₀ s₁ B hml hv
  obtain ⟨rfl, hsz, hP, hK, hD0, hE⟩ := hv
  have hx := B.exec
  have hb := B.bytes
  have hr := B.returns
  have hT : ∀ w ∈ TBL, w.before ([.ref (ad 61), .ref (G.2.2.2 jb)] : List Value).toArray s = true := fun w h => atoms_spec (ws := Cond.code yJx4a65c_add_9ea2d cJx4a65c_add_9ea2d 2 (some .boolean) :: TBL) B.pre w (List.mem_cons_of_mem _ h)
  have hown : s.vm.findClass "java/util/ArrayList" = some m.cls := findClass_of_methodNamed B.named
  have hlocks := B.notSynchronized
  subst hsz
  have hD := hD0.self (sz := s.heap.size)
  generalize hAe : va_A (wX G ad S) s.heap.size = A at hD hE ⊢
  have hA : ∀ q : Nat, s.heap.size ≤ q → A q := fun q h => by rw [← hAe]; exact Or.inr h
  have hS : va_S A s.heap s.heap [] := va_S.rf
  have hP : va_P G.1 vwCl (wX G ad S) s.heap := hP
  have hl := lv_entry ([.ref (ad 61), .ref (G.2.2.2 jb)]) (n := 2) (Nat.le_of_ble_eq_true rfl)
  rw [lg_entry_eq]
  generalize (lg_sl ([.ref (ad 61), .ref (G.2.2.2 jb)]) ++ List.replicate (2 - (lg_sl ([.ref (ad 61), .ref (G.2.2.2 jb)])).length) Slot.unset).toArray = ls at hl ⊢
  have hl : lv_has ls 2 [(0, .ref (ad 61)), (1, .ref (G.2.2.2 jb))] := hl
  refine W_abs (fun Q hQ => ?_)
  generalize ([.ref (ad 61), .ref (G.2.2.2 jb)] : List Value).toArray = args at hT hQ ⊢
  refine lv_aload_n hx hb (fk_get fk_cJx4a65c_add_9ea2d_0 0 rfl) rfl (lv_at hl 0 rfl) ?_
  refine lv_dup hx hb (fk_get fk_cJx4a65c_add_9ea2d_0 1 rfl) rfl ?_
  refine va_get (D := G.1) (ci := 1) (v := .int (fF S 61 0)) (C := RJx4a65c) (T := TJx4a65c) (N := 3) hx hb hT inJx4a65c hown hK hP 61 (ix_at (lt71 (by omega)) (cX_lstA (show fR S 61 1 = none from (hLA).1))) rfl 0 (by decide) (hT _ m2_55) (u_same (hT _ m2_56)) rfl (fk_get fk_cJx4a65c_add_9ea2d_0 2 rfl) ?_
  refine lv_iconst (v := 1) hx hb (fk_get fk_cJx4a65c_add_9ea2d_0 3 rfl) (by decide) ?_
  refine lv_iadd hx hb (fk_get fk_cJx4a65c_add_9ea2d_0 4 rfl) ?_
  refine va_put (D := G.1) (ci := 1) (v := .int (((fF S 61 0) + 1))) (ty := .int) (C := RJx4a65c) (T := TJx4a65c) (N := 3) hx hb hT inJx4a65c tyJx4a65c tyJx4a65c_ok nmJx4a65c hown hK hP hD hS 61 (ix_at (lt71 (by omega)) (cX_lstA (show fR S 61 1 = none from (hLA).1))) rfl 0 (by decide) (hT _ m2_55) (u_same (hT _ m2_56)) rfl (by decide +kernel) rfl rfl (Nat.le_of_ble_eq_true rfl) (fk_get fk_cJx4a65c_add_9ea2d_0 5 rfl) (fun H locs hP hD hS => ?_)
  rw [pX_lstA (G := G) (ad := ad) (S := S) (show fR S 61 1 = none from (hLA).1) 0 (by omega) (((fF S 61 0) + 1))] at hP hD
  have hX_1 : XI (setF S 61 0 (((fF S 61 0) + 1))) := XI.mod hX _
  have hLm_2 := LA.mod (hLA) (((fF S 61 0) + 1))
  have hF_3 : Fr (fun j k => j = 61 ∨ (71 ≤ j ∧ (fK S j = 2 ∨ 71 + fC S ≤ j))) S (setF S 61 0 (((fF S 61 0) + 1))) := Fr.sF (Fr.rf : Fr (fun j k => j = 61 ∨ (71 ≤ j ∧ (fK S j = 2 ∨ 71 + fC S ≤ j))) S S) (by omega)
  refine lv_aload_n hx hb (fk_get fk_cJx4a65c_add_9ea2d_0 6 rfl) rfl (lv_at hl 0 rfl) ?_
  refine lv_aload_n hx hb (fk_get fk_cJx4a65c_add_9ea2d_0 7 rfl) rfl (lv_at hl 1 rfl) ?_
  refine lv_aload_n hx hb (fk_get fk_cJx4a65c_add_9ea2d_0 8 rfl) rfl (lv_at hl 0 rfl) ?_
  refine va_get (D := G.1) (ci := 1) (v := .ref (G.2.2.1)) (C := RJx4a65c) (T := TJx4a65c) (N := 3) hx hb hT inJx4a65c hown hK hP 61 (ix_at (lt71 (by omega)) (cX_lstA (show fR (setF S 61 0 (((fF S 61 0) + 1))) 61 1 = none from (hLm_2).1))) rfl 1 (by decide) (hT _ m2_52) (fun _ h9 => h9) rfl (fk_get fk_cJx4a65c_add_9ea2d_0 9 rfl) ?_
  refine lv_aload_n hx hb (fk_get fk_cJx4a65c_add_9ea2d_0 10 rfl) rfl (lv_at hl 0 rfl) ?_
  refine va_get (D := G.1) (ci := 1) (v := .int (fF (setF S 61 0 (((fF S 61 0) + 1))) 61 2)) (C := RJx4a65c) (T := TJx4a65c) (N := 3) hx hb hT inJx4a65c hown hK hP 61 (ix_at (lt71 (by omega)) (cX_lstA (show fR (setF S 61 0 (((fF S 61 0) + 1))) 61 1 = none from (hLm_2).1))) rfl 2 (by decide) (hT _ m2_53) (fun _ h9 => h9) rfl (fk_get fk_cJx4a65c_add_9ea2d_0 11 rfl) ?_
  rw [show fF (setF S 61 0 (((fF S 61 0) + 1))) 61 2 = (fF S 61 2) from by simp [fF_setF, fF_setR, fF_setA, fF_setL]]
  rw [(show fF S 61 2 = nI 0 from (hLm_2).2)]
  have hFc := va_self hD hS hA
  refine va_callv (va_runV (As := [.ref (G.2.2.2 jb), .ref (G.2.2.1), .int ((nI 0))]) (rest := []) ⟨hx, hb, hml, hown, hT⟩ (c_jaddA1 l G ad (setF S 61 0 (((fF S 61 0) + 1))) H.size (jb) (hLm_2) (hjb) (hX_1)) (tV 3 hT m4_153 m4_155 mp_15 m1_15 m4_156 rfl rfl (by decide +kernel) ⟨Nat.le_of_ble_eq_true rfl, Nat.le_of_ble_eq_true rfl⟩) ⟨PcE_blind, va_recv hK hP (ci := 1) (q0 := 61) rfl (ix_at (lt71 (by omega)) (cX_lstA (show fR (setF S 61 0 (((fF S 61 0) + 1))) 61 1 = none from (hLm_2).1))), PcE_of hP hK hD hE hS (fun q h => hFc q h) _⟩ rfl rfl hl.1 rfl (lv_room (Nat.le_of_ble_eq_true rfl)) (fk_get fk_cJx4a65c_add_9ea2d_0 12 rfl) ⟨Nat.le_of_ble_eq_true rfl, Nat.le_of_ble_eq_true rfl⟩) hS (fun q _ h => hFc q h) hFc (fun u_ t_ H locs ht_ hvm_ hw_5 hB_ hz_ hk_ hS => ?_)
  obtain ⟨S_6, ad_7⟩ := u_
  dsimp only at hB_ hw_5
  obtain ⟨hP, -, hD1_⟩ := hB_
  rw [ht_] at hP
  have hD : va_D A (wX G ad_7 S_6) := hD1_.weaken (fun k q _ h => hFc q.1 h)
  obtain ⟨hX_8, hF_9_, hg_10_, hw_5⟩ := hw_5
  have hg_10 : ∀ j, j < 71 + fC S → ad_7 j = ad j := fun j hj => (hg_10_ j (Nat.lt_of_lt_of_le hj (Nat.add_le_add_left (hF_3).1 71))).trans ((fun _ _ => rfl) j hj)
  have hF_9 : Fr (fun j k => j = 61 ∨ (71 ≤ j ∧ (fK S j = 2 ∨ 71 + fC S ≤ j))) S S_6 := Fr.tr hF_3 hF_9_ (fun j k hj h => by have hc_ := (hF_3).1; have hk_ := Fr.K hF_3 hj; omega)
  have hl : lv_has ls 2 [(0, .ref (ad_7 61)), (1, .ref (G.2.2.2 jb))] := by rw [hg_10_ 61 ((lt71 (by omega)))]; exact hl
  refine lv_iconst (v := 1) hx hb (fk_get fk_cJx4a65c_add_9ea2d_0 13 rfl) (by decide) ?_
  subst hQ
  have hpost : XI S_6 ∧ Fr (fun j k => j = 61 ∨ (71 ≤ j ∧ (fK S j = 2 ∨ 71 + fC S ≤ j))) S S_6 ∧ (∀ j, j < 71 + fC S → ad_7 j = ad j) ∧ fF S_6 61 2 = nI (0 + 1) ∧ (∀ i, i < 0 → el S_6 i = el S i) ∧ el S_6 0 = some jb := by
    exact ⟨hX_8, hF_9, hg_10, hw_5⟩
  refine W.widen (k := 1) (n := 64) (by omega) (by omega) ?_
  exact W.zret (v := 1) hx hb hr rfl (fun t_ ht_ hW_ => ⟨⟨1, (S_6, ad_7), rfl, hpost, by rw [ht_]; exact hP, va_K.moved hW_.alike hK, hD⟩, hS.F ht_⟩) hS.2.2 (fk_get fk_cJx4a65c_add_9ea2d_0 14 rfl)
set_option maxHeartbeats 800000 in
set_option maxRecDepth 100000 in
theorem c_jaddB (l : Launch) (G : GG) (ad : Nat → Nat) (S : FS) (sz : Nat) (pl nz z jb : Nat) (hLB : LB S pl nz z) (hz40 : z ≤ 40) (hjb : jb < 256) (hX : XI S) : Met l yJx4a65c_add_9ea2d (Cond.code yJx4a65c_add_9ea2d cJx4a65c_add_9ea2d 2 (some .boolean) :: TBL) ({ frames := 12, cells := 1, slots := 64, locals := 400 } : Room) (PcE G (wX G ad S) sz [.ref (ad 61), .ref (G.2.2.2 jb)]) (va_Qi (fun (r : Int32) (u : FS × (Nat → Nat)) => XI u.1 ∧ Fr (fun j k => j = 61 ∨ (71 ≤ j ∧ (fK S j = 2 ∨ 71 + fC S ≤ j))) S u.1 ∧ (∀ j, j < 71 + fC S → u.2 j = ad j) ∧ fF u.1 61 2 = nI (z + 1) ∧ (∀ i, i < z → el u.1 i = el S i) ∧ el u.1 z = some jb) (fun u t => BW G (va_A (wX G ad S) sz) (wX G u.2 u.1) t) (va_A (wX G ad S) sz)) 1 64 (va_A (wX G ad S) sz) := by
  refine va_MetF (cc := cJx4a65c_add_9ea2d) (maxL := 2) (ret := (some .boolean)) (by decide +kernel) rfl ?_
  intro p e s m args below meth c₀ s₁ B hml hv
  obtain ⟨rfl, hsz, hP, hK, hD0, hE⟩ := hv
  have hx := B.exec
  have hb := B.bytes
  have hr := B.returns
  have hT : ∀ w ∈ TBL, w.before ([.ref (ad 61), .ref (G.2.2.2 jb)] : List Value).toArray s = true := fun w h => atoms_spec (ws := Cond.code yJx4a65c_add_9ea2d cJx4a65c_add_9ea2d 2 (some .boolean) :: TBL) B.pre w (List.mem_cons_of_mem _ h)
  have hown : s.vm.findClass "java/util/ArrayList" = some m.cls := findClass_of_methodNamed B.named
  have hlocks := B.notSynchronized
  subst hsz
  have hD := hD0.self (sz := s.heap.size)
  generalize hAe : va_A (wX G ad S) s.heap.size = A at hD hE ⊢
  have hA : ∀ q : Nat, s.heap.size ≤ q → A q := fun q h => by rw [← hAe]; exact Or.inr h
  have hS : va_S A s.heap s.heap [] := va_S.rf
  have hP : va_P G.1 vwCl (wX G ad S) s.heap := hP
  have hl := lv_entry ([.ref (ad 61), .ref (G.2.2.2 jb)]) (n := 2) (Nat.le_of_ble_eq_true rfl)
  rw [lg_entry_eq]
  generalize (lg_sl ([.ref (ad 61), .ref (G.2.2.2 jb)]) ++ List.replicate (2 - (lg_sl ([.ref (ad 61), .ref (G.2.2.2 jb)])).length) Slot.unset).toArray = ls at hl ⊢
  have hl : lv_has ls 2 [(0, .ref (ad 61)), (1, .ref (G.2.2.2 jb))] := hl
  refine W_abs (fun Q hQ => ?_)
  generalize ([.ref (ad 61), .ref (G.2.2.2 jb)] : List Value).toArray = args at hT hQ ⊢
  refine lv_aload_n hx hb (fk_get fk_cJx4a65c_add_9ea2d_0 0 rfl) rfl (lv_at hl 0 rfl) ?_
  refine lv_dup hx hb (fk_get fk_cJx4a65c_add_9ea2d_0 1 rfl) rfl ?_
  refine va_get (D := G.1) (ci := 1) (v := .int (fF S 61 0)) (C := RJx4a65c) (T := TJx4a65c) (N := 3) hx hb hT inJx4a65c hown hK hP 61 (ix_at (lt71 (by omega)) (cX_lstB (show fR S 61 1 = some pl from (hLB).1))) rfl 0 (by decide) (hT _ m2_55) (u_same (hT _ m2_56)) rfl (fk_get fk_cJx4a65c_add_9ea2d_0 2 rfl) ?_
  refine lv_iconst (v := 1) hx hb (fk_get fk_cJx4a65c_add_9ea2d_0 3 rfl) (by decide) ?_
  refine lv_iadd hx hb (fk_get fk_cJx4a65c_add_9ea2d_0 4 rfl) ?_
  refine va_put (D := G.1) (ci := 1) (v := .int (((fF S 61 0) + 1))) (ty := .int) (C := RJx4a65c) (T := TJx4a65c) (N := 3) hx hb hT inJx4a65c tyJx4a65c tyJx4a65c_ok nmJx4a65c hown hK hP hD hS 61 (ix_at (lt71 (by omega)) (cX_lstB (show fR S 61 1 = some pl from (hLB).1))) rfl 0 (by decide) (hT _ m2_55) (u_same (hT _ m2_56)) rfl (by decide +kernel) rfl rfl (Nat.le_of_ble_eq_true rfl) (fk_get fk_cJx4a65c_add_9ea2d_0 5 rfl) (fun H locs hP hD hS => ?_)
  rw [pX_lstB (G := G) (ad := ad) (S := S) (show fR S 61 1 = some pl from (hLB).1) 0 (by omega) (((fF S 61 0) + 1))] at hP hD
  have hX_1 : XI (setF S 61 0 (((fF S 61 0) + 1))) := XI.mod hX _
  have hLm_2 := LB.mod (hLB) (((fF S 61 0) + 1))
  have hF_3 : Fr (fun j k => j = 61 ∨ (71 ≤ j ∧ (fK S j = 2 ∨ 71 + fC S ≤ j))) S (setF S 61 0 (((fF S 61 0) + 1))) := Fr.sF (Fr.rf : Fr (fun j k => j = 61 ∨ (71 ≤ j ∧ (fK S j = 2 ∨ 71 + fC S ≤ j))) S S) (by omega)
  refine lv_aload_n hx hb (fk_get fk_cJx4a65c_add_9ea2d_0 6 rfl) rfl (lv_at hl 0 rfl) ?_
  refine lv_aload_n hx hb (fk_get fk_cJx4a65c_add_9ea2d_0 7 rfl) rfl (lv_at hl 1 rfl) ?_
  refine lv_aload_n hx hb (fk_get fk_cJx4a65c_add_9ea2d_0 8 rfl) rfl (lv_at hl 0 rfl) ?_
  refine va_get (D := G.1) (ci := 1) (v := .ref (ad pl)) (C := RJx4a65c) (T := TJx4a65c) (N := 3) hx hb hT inJx4a65c hown hK hP 61 (ix_at (lt71 (by omega)) (cX_lstB (show fR (setF S 61 0 (((fF S 61 0) + 1))) 61 1 = some pl from (hLm_2).1))) rfl 1 (by decide) (hT _ m2_52) (fun _ h9 => h9) rfl (fk_get fk_cJx4a65c_add_9ea2d_0 9 rfl) ?_
  refine lv_aload_n hx hb (fk_get fk_cJx4a65c_add_9ea2d_0 10 rfl) rfl (lv_at hl 0 rfl) ?_
  refine va_get (D := G.1) (ci := 1) (v := .int (fF (setF S 61 0 (((fF S 61 0) + 1))) 61 2)) (C := RJx4a65c) (T := TJx4a65c) (N := 3) hx hb hT inJx4a65c hown hK hP 61 (ix_at (lt71 (by omega)) (cX_lstB (show fR (setF S 61 0 (((fF S 61 0) + 1))) 61 1 = some pl from (hLm_2).1))) rfl 2 (by decide) (hT _ m2_53) (fun _ h9 => h9) rfl (fk_get fk_cJx4a65c_add_9ea2d_0 11 rfl) ?_
  rw [show fF (setF S 61 0 (((fF S 61 0) + 1))) 61 2 = (fF S 61 2) from by simp [fF_setF, fF_setR, fF_setA, fF_setL]]
  rw [(show fF S 61 2 = nI z from (hLm_2).2.2.2.2.2.2.2.1)]
  have hFc := va_self hD hS hA
  refine va_callv (va_runV (As := [.ref (G.2.2.2 jb), .ref (ad pl), .int ((nI z))]) (rest := []) ⟨hx, hb, hml, hown, hT⟩ (c_jaddB1 l G ad (setF S 61 0 (((fF S 61 0) + 1))) H.size (pl) (nz) (z) (jb) (hLm_2) (by first | assumption | omega) (hjb) (hX_1)) (tV 3 hT m4_153 m4_155 mp_15 m1_15 m4_156 rfl rfl (by decide +kernel) ⟨Nat.le_of_ble_eq_true rfl, Nat.le_of_ble_eq_true rfl⟩) ⟨PcE_blind, va_recv hK hP (ci := 1) (q0 := 61) rfl (ix_at (lt71 (by omega)) (cX_lstB (show fR (setF S 61 0 (((fF S 61 0) + 1))) 61 1 = some pl from (hLm_2).1))), PcE_of hP hK hD hE hS (fun q h => hFc q h) _⟩ rfl rfl hl.1 rfl (lv_room (Nat.le_of_ble_eq_true rfl)) (fk_get fk_cJx4a65c_add_9ea2d_0 12 rfl) ⟨Nat.le_of_ble_eq_true rfl, Nat.le_of_ble_eq_true rfl⟩) hS (fun q _ h => hFc q h) hFc (fun u_ t_ H locs ht_ hvm_ hw_5 hB_ hz_ hk_ hS => ?_)
  obtain ⟨S_6, ad_7⟩ := u_
  dsimp only at hB_ hw_5
  obtain ⟨hP, -, hD1_⟩ := hB_
  rw [ht_] at hP
  have hD : va_D A (wX G ad_7 S_6) := hD1_.weaken (fun k q _ h => hFc q.1 h)
  obtain ⟨hX_8, hF_9_, hg_10_, hw_5⟩ := hw_5
  have hg_10 : ∀ j, j < 71 + fC S → ad_7 j = ad j := fun j hj => (hg_10_ j (Nat.lt_of_lt_of_le hj (Nat.add_le_add_left (hF_3).1 71))).trans ((fun _ _ => rfl) j hj)
  have hF_9 : Fr (fun j k => j = 61 ∨ (71 ≤ j ∧ (fK S j = 2 ∨ 71 + fC S ≤ j))) S S_6 := Fr.tr hF_3 hF_9_ (fun j k hj h => by have hc_ := (hF_3).1; have hk_ := Fr.K hF_3 hj; omega)
  have hl : lv_has ls 2 [(0, .ref (ad_7 61)), (1, .ref (G.2.2.2 jb))] := by rw [hg_10_ 61 ((lt71 (by omega)))]; exact hl
  refine lv_iconst (v := 1) hx hb (fk_get fk_cJx4a65c_add_9ea2d_0 13 rfl) (by decide) ?_
  subst hQ
  have hpost : XI S_6 ∧ Fr (fun j k => j = 61 ∨ (71 ≤ j ∧ (fK S j = 2 ∨ 71 + fC S ≤ j))) S S_6 ∧ (∀ j, j < 71 + fC S → ad_7 j = ad j) ∧ fF S_6 61 2 = nI (z + 1) ∧ (∀ i, i < z → el S_6 i = el S i) ∧ el S_6 z = some jb := by
    exact ⟨hX_8, hF_9, hg_10, hw_5⟩
  refine W.widen (k := 1) (n := 64) (by omega) (by omega) ?_
  exact W.zret (v := 1) hx hb hr rfl (fun t_ ht_ hW_ => ⟨⟨1, (S_6, ad_7), rfl, hpost, by rw [ht_]; exact hP, va_K.moved hW_.alike hK, hD⟩, hS.F ht_⟩) hS.2.2 (fk_get fk_cJx4a65c_add_9ea2d_0 14 rfl)
theorem c_jadd (l : Launch) (G : GG) (ad : Nat → Nat) (S : FS) (sz : Nat) (z jb : Nat) (hzz : fF S 61 2 = nI z) (hz40 : z ≤ 40) (hjb : jb < 256) (hX : XI S) : Met l yJx4a65c_add_9ea2d (Cond.code yJx4a65c_add_9ea2d cJx4a65c_add_9ea2d 2 (some .boolean) :: TBL) ({ frames := 12, cells := 1, slots := 64, locals := 400 } : Room) (PcE G (wX G ad S) sz [.ref (ad 61), .ref (G.2.2.2 jb)]) (va_Qi (fun (r : Int32) (u : FS × (Nat → Nat)) => XI u.1 ∧ Fr (fun j k => j = 61 ∨ (71 ≤ j ∧ (fK S j = 2 ∨ 71 + fC S ≤ j))) S u.1 ∧ (∀ j, j < 71 + fC S → u.2 j = ad j) ∧ fF u.1 61 2 = nI (z + 1) ∧ (∀ i, i < z → el u.1 i = el S i) ∧ el u.1 z = some jb) (fun u t => BW G (va_A (wX G ad S) sz) (wX G u.2 u.1) t) (va_A (wX G ad S) sz)) 1 64 (va_A (wX G ad S) sz) := by
  rcases (XI.list hX).ab with hA | ⟨pl, nz, z', hB⟩
  · have e : z = 0 := ad_eq (by omega) (by omega) (hA.2.symm.trans hzz)
    subst e
    exact c_jaddA l G ad S sz jb hA hjb hX
  · have e : z = z' := ad_eq (by have := hB.2.2.2.2.2.2.2.2.1; have := hB.2.2.2.2.2.2.1; omega) (by omega) (hB.2.2.2.2.2.2.2.1.symm.trans hzz)
    subst e
    exact c_jaddB l G ad S sz pl nz z jb hB hz40 hjb hX
set_option maxHeartbeats 800000 in
set_option maxRecDepth 100000 in
theorem c_jclearA (l : Launch) (G : GG) (ad : Nat → Nat) (S : FS) (sz : Nat)  (hLA : LA S) (hX : XI S) : Met l yJx4a65c_clear_da8c8 (Cond.code yJx4a65c_clear_da8c8 cJx4a65c_clear_da8c8 4 none :: TBL) ({ frames := 2, cells := 0, slots := 0, locals := 64 } : Room) (PcW G (wX G ad S) sz [.ref (ad 61)]) (va_Qv (fun (S' : FS) => XI S' ∧ Fr (fun j k => j = 61 ∨ (71 ≤ j ∧ (fK S j = 2 ∨ 71 + fC S ≤ j))) S S' ∧ fF S' 61 2 = nI 0) (fun S' t => BW G (va_A (wX G ad S) sz) (wX G ad S') t) (va_A (wX G ad S) sz)) 0 0 (va_A (wX G ad S) sz) := by
  refine va_MetF (cc := cJx4a65c_clear_da8c8) (maxL := 4) (ret := none) (by decide +kernel) rfl ?_
  intro p e s m args below meth c₀ s₁ B hml hv
  obtain ⟨rfl, hsz, hP, hK, hD0⟩ := hv
  have hx := B.exec
  have hb := B.bytes
  have hr := B.returns
  have hT : ∀ w ∈ TBL, w.before ([.ref (ad 61)] : List Value).toArray s = true := fun w h => atoms_spec (ws := Cond.code yJx4a65c_clear_da8c8 cJx4a65c_clear_da8c8 4 none :: TBL) B.pre w (List.mem_cons_of_mem _ h)
  have hown : s.vm.findClass "java/util/ArrayList" = some m.cls := findClass_of_methodNamed B.named
  have hlocks := B.notSynchronized
  subst hsz
  have hD := hD0.self (sz := s.heap.size)
  generalize hAe : va_A (wX G ad S) s.heap.size = A at hD ⊢
  have hA : ∀ q : Nat, s.heap.size ≤ q → A q := fun q h => by rw [← hAe]; exact Or.inr h
  have hS : va_S A s.heap s.heap [] := va_S.rf
  have hP : va_P G.1 vwCl (wX G ad S) s.heap := hP
  have hl := lv_entry ([.ref (ad 61)]) (n := 4) (Nat.le_of_ble_eq_true rfl)
  rw [lg_entry_eq]
  generalize (lg_sl ([.ref (ad 61)]) ++ List.replicate (4 - (lg_sl ([.ref (ad 61)])).length) Slot.unset).toArray = ls at hl ⊢
  have hl : lv_has ls 4 [(0, .ref (ad 61))] := hl
  refine W_abs (fun Q hQ => ?_)
  generalize ([.ref (ad 61)] : List Value).toArray = args at hT hQ ⊢
  refine lv_aload_n hx hb (fk_get fk_cJx4a65c_clear_da8c8_0 0 rfl) rfl (lv_at hl 0 rfl) ?_
  refine lv_dup hx hb (fk_get fk_cJx4a65c_clear_da8c8_0 1 rfl) rfl ?_
  refine va_get (D := G.1) (ci := 1) (v := .int (fF S 61 0)) (C := RJx4a65c) (T := TJx4a65c) (N := 3) hx hb hT inJx4a65c hown hK hP 61 (ix_at (lt71 (by omega)) (cX_lstA (show fR S 61 1 = none from (hLA).1))) rfl 0 (by decide) (hT _ m2_55) (u_same (hT _ m2_56)) rfl (fk_get fk_cJx4a65c_clear_da8c8_0 2 rfl) ?_
  refine lv_iconst (v := 1) hx hb (fk_get fk_cJx4a65c_clear_da8c8_0 3 rfl) (by decide) ?_
  refine lv_iadd hx hb (fk_get fk_cJx4a65c_clear_da8c8_0 4 rfl) ?_
  refine va_put (D := G.1) (ci := 1) (v := .int (((fF S 61 0) + 1))) (ty := .int) (C := RJx4a65c) (T := TJx4a65c) (N := 3) hx hb hT inJx4a65c tyJx4a65c tyJx4a65c_ok nmJx4a65c hown hK hP hD hS 61 (ix_at (lt71 (by omega)) (cX_lstA (show fR S 61 1 = none from (hLA).1))) rfl 0 (by decide) (hT _ m2_55) (u_same (hT _ m2_56)) rfl (by decide +kernel) rfl rfl (Nat.le_of_ble_eq_true rfl) (fk_get fk_cJx4a65c_clear_da8c8_0 5 rfl) (fun H locs hP hD hS => ?_)
  rw [pX_lstA (G := G) (ad := ad) (S := S) (show fR S 61 1 = none from (hLA).1) 0 (by omega) (((fF S 61 0) + 1))] at hP hD
  have hX_1 : XI (setF S 61 0 (((fF S 61 0) + 1))) := XI.mod hX _
  have hLm_2 := LA.mod (hLA) (((fF S 61 0) + 1))
  have hF_3 : Fr (fun j k => j = 61 ∨ (71 ≤ j ∧ (fK S j = 2 ∨ 71 + fC S ≤ j))) S (setF S 61 0 (((fF S 61 0) + 1))) := Fr.sF (Fr.rf : Fr (fun j k => j = 61 ∨ (71 ≤ j ∧ (fK S j = 2 ∨ 71 + fC S ≤ j))) S S) (by omega)
  refine lv_aload_n hx hb (fk_get fk_cJx4a65c_clear_da8c8_0 6 rfl) rfl (lv_at hl 0 rfl) ?_
  refine va_get (D := G.1) (ci := 1) (v := .ref (G.2.2.1)) (C := RJx4a65c) (T := TJx4a65c) (N := 3) hx hb hT inJx4a65c hown hK hP 61 (ix_at (lt71 (by omega)) (cX_lstA (show fR (setF S 61 0 (((fF S 61 0) + 1))) 61 1 = none from (hLm_2).1))) rfl 1 (by decide) (hT _ m2_52) (fun _ h9 => h9) rfl (fk_get fk_cJx4a65c_clear_da8c8_0 7 rfl) ?_
  refine lv_astore_n (lv' := [(1, .ref (G.2.2.1)), (0, .ref (ad 61))]) hx hb (fk_get fk_cJx4a65c_clear_da8c8_0 8 rfl) rfl hl (by decide) rfl (fun ls hl => ?_)
  refine lv_aload_n hx hb (fk_get fk_cJx4a65c_clear_da8c8_0 9 rfl) rfl (lv_at hl 1 rfl) ?_
  refine va_get (D := G.1) (ci := 1) (v := .int (fF (setF S 61 0 (((fF S 61 0) + 1))) 61 2)) (C := RJx4a65c) (T := TJx4a65c) (N := 3) hx hb hT inJx4a65c hown hK hP 61 (ix_at (lt71 (by omega)) (cX_lstA (show fR (setF S 61 0 (((fF S 61 0) + 1))) 61 1 = none from (hLm_2).1))) rfl 2 (by decide) (hT _ m2_53) (fun _ h9 => h9) rfl (fk_get fk_cJx4a65c_clear_da8c8_0 10 rfl) ?_
  rw [show fF (setF S 61 0 (((fF S 61 0) + 1))) 61 2 = (fF S 61 2) from by simp [fF_setF, fF_setR, fF_setA, fF_setL]]
  rw [(show fF S 61 2 = nI 0 from (hLm_2).2)]
  refine lv_istore_n (lv' := [(2, .int ((nI 0))), (1, .ref (G.2.2.1)), (0, .ref (ad 61))]) hx hb (fk_get fk_cJx4a65c_clear_da8c8_0 11 rfl) rfl hl (by decide) rfl (fun ls hl => ?_)
  refine lv_aload_n hx hb (fk_get fk_cJx4a65c_clear_da8c8_0 12 rfl) rfl (lv_at hl 2 rfl) ?_
  refine lv_iconst (v := 0) hx hb (fk_get fk_cJx4a65c_clear_da8c8_0 13 rfl) (by decide) ?_
  refine lv_dup_x1 hx hb (fk_get fk_cJx4a65c_clear_da8c8_0 14 rfl) rfl rfl ?_
  refine va_put (D := G.1) (ci := 1) (v := .int (0)) (ty := .int) (C := RJx4a65c) (T := TJx4a65c) (N := 3) hx hb hT inJx4a65c tyJx4a65c tyJx4a65c_ok nmJx4a65c hown hK hP hD hS 61 (ix_at (lt71 (by omega)) (cX_lstA (show fR (setF S 61 0 (((fF S 61 0) + 1))) 61 1 = none from (hLm_2).1))) rfl 2 (by decide) (hT _ m2_53) (fun _ h9 => h9) rfl (by decide +kernel) rfl rfl (Nat.le_of_ble_eq_true rfl) (fk_get fk_cJx4a65c_clear_da8c8_0 15 rfl) (fun H locs hP hD hS => ?_)
  rw [pX_lstA (G := G) (ad := ad) (S := (setF S 61 0 (((fF S 61 0) + 1)))) (show fR (setF S 61 0 (((fF S 61 0) + 1))) 61 1 = none from (hLm_2).1) 2 (by omega) (0)] at hP hD
  have hLm_4 := LA.zero hLm_2
  have hX_5 : XI (setF (setF S 61 0 (((fF S 61 0) + 1))) 61 2 (0)) := XI.szero hX_1 (LA.li hLm_4)
  have hF_6 : Fr (fun j k => j = 61 ∨ (71 ≤ j ∧ (fK S j = 2 ∨ 71 + fC S ≤ j))) S (setF (setF S 61 0 (((fF S 61 0) + 1))) 61 2 (0)) := Fr.sF hF_3 (by omega)
  refine lv_istore_n (lv' := [(3, .int (0)), (2, .int ((nI 0))), (1, .ref (G.2.2.1)), (0, .ref (ad 61))]) hx hb (fk_get fk_cJx4a65c_clear_da8c8_0 16 rfl) rfl hl (by decide) rfl (fun ls hl => ?_)
  refine lv_iload_n hx hb (fk_get fk_cJx4a65c_clear_da8c8_0 17 rfl) rfl (lv_at hl 0 rfl) ?_
  refine lv_iload_n hx hb (fk_get fk_cJx4a65c_clear_da8c8_0 18 rfl) rfl (lv_at hl 1 rfl) ?_
  refine lv_icmp_ge (tgt := 42) hx hb (fk_get fk_cJx4a65c_clear_da8c8_0 19 rfl) (by decide) (fun _ => ?_) (fun c_7 => absurd ((show (0 : Int32) ≤ 0 by decide)) c_7)
  subst hQ
  have hpost : XI (setF (setF S 61 0 (((fF S 61 0) + 1))) 61 2 (0)) ∧ Fr (fun j k => j = 61 ∨ (71 ≤ j ∧ (fK S j = 2 ∨ 71 + fC S ≤ j))) S (setF (setF S 61 0 (((fF S 61 0) + 1))) 61 2 (0)) ∧ fF (setF (setF S 61 0 (((fF S 61 0) + 1))) 61 2 (0)) 61 2 = nI 0 := by
    exact ⟨hX_5, hF_6, hLm_4.2⟩
  exact W.vret hx hb hr (fun t_ ht_ hW_ => ⟨⟨(setF (setF S 61 0 (((fF S 61 0) + 1))) 61 2 (0)), rfl, hpost, by rw [ht_]; exact hP, va_K.moved hW_.alike hK, hD⟩, hS.F ht_⟩) hS.2.2 (fk_get fk_cJx4a65c_clear_da8c8_0 26 rfl)
set_option maxHeartbeats 800000 in
set_option maxRecDepth 100000 in
theorem c_jclearB (l : Launch) (G : GG) (ad : Nat → Nat) (S : FS) (sz : Nat) (pl nz z : Nat) (hLB : LB S pl nz z) (hX : XI S) : Met l yJx4a65c_clear_da8c8 (Cond.code yJx4a65c_clear_da8c8 cJx4a65c_clear_da8c8 4 none :: TBL) ({ frames := 2, cells := 0, slots := 0, locals := 64 } : Room) (PcW G (wX G ad S) sz [.ref (ad 61)]) (va_Qv (fun (S' : FS) => XI S' ∧ Fr (fun j k => j = 61 ∨ (71 ≤ j ∧ (fK S j = 2 ∨ 71 + fC S ≤ j))) S S' ∧ fF S' 61 2 = nI 0) (fun S' t => BW G (va_A (wX G ad S) sz) (wX G ad S') t) (va_A (wX G ad S) sz)) 0 0 (va_A (wX G ad S) sz) := by
  refine va_MetF (cc := cJx4a65c_clear_da8c8) (maxL := 4) (ret := none) (by decide +kernel) rfl ?_
  intro p e s m args below meth c₀ s₁ B hml hv
  obtain ⟨rfl, hsz, hP, hK, hD0⟩ := hv
  have hx := B.exec
  have hb := B.bytes
  have hr := B.returns
  have hT : ∀ w ∈ TBL, w.before ([.ref (ad 61)] : List Value).toArray s = true := fun w h => atoms_spec (ws := Cond.code yJx4a65c_clear_da8c8 cJx4a65c_clear_da8c8 4 none :: TBL) B.pre w (List.mem_cons_of_mem _ h)
  have hown : s.vm.findClass "java/util/ArrayList" = some m.cls := findClass_of_methodNamed B.named
  have hlocks := B.notSynchronized
  subst hsz
  have hD := hD0.self (sz := s.heap.size)
  generalize hAe : va_A (wX G ad S) s.heap.size = A at hD ⊢
  have hA : ∀ q : Nat, s.heap.size ≤ q → A q := fun q h => by rw [← hAe]; exact Or.inr h
  have hS : va_S A s.heap s.heap [] := va_S.rf
  have hP : va_P G.1 vwCl (wX G ad S) s.heap := hP
  have hl := lv_entry ([.ref (ad 61)]) (n := 4) (Nat.le_of_ble_eq_true rfl)
  rw [lg_entry_eq]
  generalize (lg_sl ([.ref (ad 61)]) ++ List.replicate (4 - (lg_sl ([.ref (ad 61)])).length) Slot.unset).toArray = ls at hl ⊢
  have hl : lv_has ls 4 [(0, .ref (ad 61))] := hl
  refine W_abs (fun Q hQ => ?_)
  generalize ([.ref (ad 61)] : List Value).toArray = args at hT hQ ⊢
  have hzn := hLB.2.2.2.2.2.2.2.2.1
  have hn64 := hLB.2.2.2.2.2.2.1
  have hq71 := hLB.2.1
  have hqk_ := hLB.2.2.2.1
  refine lv_aload_n hx hb (fk_get fk_cJx4a65c_clear_da8c8_0 0 rfl) rfl (lv_at hl 0 rfl) ?_
  refine lv_dup hx hb (fk_get fk_cJx4a65c_clear_da8c8_0 1 rfl) rfl ?_
  refine va_get (D := G.1) (ci := 1) (v := .int (fF S 61 0)) (C := RJx4a65c) (T := TJx4a65c) (N := 3) hx hb hT inJx4a65c hown hK hP 61 (ix_at (lt71 (by omega)) (cX_lstB (show fR S 61 1 = some pl from (hLB).1))) rfl 0 (by decide) (hT _ m2_55) (u_same (hT _ m2_56)) rfl (fk_get fk_cJx4a65c_clear_da8c8_0 2 rfl) ?_
  refine lv_iconst (v := 1) hx hb (fk_get fk_cJx4a65c_clear_da8c8_0 3 rfl) (by decide) ?_
  refine lv_iadd hx hb (fk_get fk_cJx4a65c_clear_da8c8_0 4 rfl) ?_
  refine va_put (D := G.1) (ci := 1) (v := .int (((fF S 61 0) + 1))) (ty := .int) (C := RJx4a65c) (T := TJx4a65c) (N := 3) hx hb hT inJx4a65c tyJx4a65c tyJx4a65c_ok nmJx4a65c hown hK hP hD hS 61 (ix_at (lt71 (by omega)) (cX_lstB (show fR S 61 1 = some pl from (hLB).1))) rfl 0 (by decide) (hT _ m2_55) (u_same (hT _ m2_56)) rfl (by decide +kernel) rfl rfl (Nat.le_of_ble_eq_true rfl) (fk_get fk_cJx4a65c_clear_da8c8_0 5 rfl) (fun H locs hP hD hS => ?_)
  rw [pX_lstB (G := G) (ad := ad) (S := S) (show fR S 61 1 = some pl from (hLB).1) 0 (by omega) (((fF S 61 0) + 1))] at hP hD
  have hX_1 : XI (setF S 61 0 (((fF S 61 0) + 1))) := XI.mod hX _
  have hLm_2 := LB.mod (hLB) (((fF S 61 0) + 1))
  have hF_3 : Fr (fun j k => j = 61 ∨ (71 ≤ j ∧ (fK S j = 2 ∨ 71 + fC S ≤ j))) S (setF S 61 0 (((fF S 61 0) + 1))) := Fr.sF (Fr.rf : Fr (fun j k => j = 61 ∨ (71 ≤ j ∧ (fK S j = 2 ∨ 71 + fC S ≤ j))) S S) (by omega)
  refine lv_aload_n hx hb (fk_get fk_cJx4a65c_clear_da8c8_0 6 rfl) rfl (lv_at hl 0 rfl) ?_
  refine va_get (D := G.1) (ci := 1) (v := .ref (ad pl)) (C := RJx4a65c) (T := TJx4a65c) (N := 3) hx hb hT inJx4a65c hown hK hP 61 (ix_at (lt71 (by omega)) (cX_lstB (show fR (setF S 61 0 (((fF S 61 0) + 1))) 61 1 = some pl from (hLm_2).1))) rfl 1 (by decide) (hT _ m2_52) (fun _ h9 => h9) rfl (fk_get fk_cJx4a65c_clear_da8c8_0 7 rfl) ?_
  refine lv_astore_n (lv' := [(1, .ref (ad pl)), (0, .ref (ad 61))]) hx hb (fk_get fk_cJx4a65c_clear_da8c8_0 8 rfl) rfl hl (by decide) rfl (fun ls hl => ?_)
  refine lv_aload_n hx hb (fk_get fk_cJx4a65c_clear_da8c8_0 9 rfl) rfl (lv_at hl 1 rfl) ?_
  refine va_get (D := G.1) (ci := 1) (v := .int (fF (setF S 61 0 (((fF S 61 0) + 1))) 61 2)) (C := RJx4a65c) (T := TJx4a65c) (N := 3) hx hb hT inJx4a65c hown hK hP 61 (ix_at (lt71 (by omega)) (cX_lstB (show fR (setF S 61 0 (((fF S 61 0) + 1))) 61 1 = some pl from (hLm_2).1))) rfl 2 (by decide) (hT _ m2_53) (fun _ h9 => h9) rfl (fk_get fk_cJx4a65c_clear_da8c8_0 10 rfl) ?_
  rw [show fF (setF S 61 0 (((fF S 61 0) + 1))) 61 2 = (fF S 61 2) from by simp [fF_setF, fF_setR, fF_setA, fF_setL]]
  rw [(show fF S 61 2 = nI z from (hLm_2).2.2.2.2.2.2.2.1)]
  refine lv_istore_n (lv' := [(2, .int ((nI z))), (1, .ref (ad pl)), (0, .ref (ad 61))]) hx hb (fk_get fk_cJx4a65c_clear_da8c8_0 11 rfl) rfl hl (by decide) rfl (fun ls hl => ?_)
  refine lv_aload_n hx hb (fk_get fk_cJx4a65c_clear_da8c8_0 12 rfl) rfl (lv_at hl 2 rfl) ?_
  refine lv_iconst (v := 0) hx hb (fk_get fk_cJx4a65c_clear_da8c8_0 13 rfl) (by decide) ?_
  refine lv_dup_x1 hx hb (fk_get fk_cJx4a65c_clear_da8c8_0 14 rfl) rfl rfl ?_
  refine va_put (D := G.1) (ci := 1) (v := .int (0)) (ty := .int) (C := RJx4a65c) (T := TJx4a65c) (N := 3) hx hb hT inJx4a65c tyJx4a65c tyJx4a65c_ok nmJx4a65c hown hK hP hD hS 61 (ix_at (lt71 (by omega)) (cX_lstB (show fR (setF S 61 0 (((fF S 61 0) + 1))) 61 1 = some pl from (hLm_2).1))) rfl 2 (by decide) (hT _ m2_53) (fun _ h9 => h9) rfl (by decide +kernel) rfl rfl (Nat.le_of_ble_eq_true rfl) (fk_get fk_cJx4a65c_clear_da8c8_0 15 rfl) (fun H locs hP hD hS => ?_)
  rw [pX_lstB (G := G) (ad := ad) (S := (setF S 61 0 (((fF S 61 0) + 1)))) (show fR (setF S 61 0 (((fF S 61 0) + 1))) 61 1 = some pl from (hLm_2).1) 2 (by omega) (0)] at hP hD
  have hLm_4 := LB.zero hLm_2
  have hX_5 : XI (setF (setF S 61 0 (((fF S 61 0) + 1))) 61 2 (0)) := XI.szero hX_1 (LB.li hLm_4)
  have hF_6 : Fr (fun j k => j = 61 ∨ (71 ≤ j ∧ (fK S j = 2 ∨ 71 + fC S ≤ j))) S (setF (setF S 61 0 (((fF S 61 0) + 1))) 61 2 (0)) := Fr.sF hF_3 (by omega)
  refine lv_istore_n (lv' := [(3, .int (0)), (2, .int ((nI z))), (1, .ref (ad pl)), (0, .ref (ad 61))]) hx hb (fk_get fk_cJx4a65c_clear_da8c8_0 16 rfl) rfl hl (by decide) rfl (fun ls hl => ?_)
  have lp_7 : ∀ (fu : Nat) (c : Nat) (SL27 : FS) (H_9 : Heap) (locs_10 : List Loc) (ls : Array Slot),  (XI SL27) → (Fr (fun j k => j = 61 ∨ (71 ≤ j ∧ (fK S j = 2 ∨ 71 + fC S ≤ j))) S SL27) → (c ≤ z) → (z < c + fu) → (LB SL27 pl nz 0) → va_P G.1 vwCl (wX G ad SL27) H_9 → va_D A (wX G ad SL27) → va_S A s.heap H_9 locs_10 → lv_has ls 4 [(3, .int ((nI c))), (2, .int ((nI z))), (1, .ref (ad pl)), (0, .ref (ad 61))] → W p l e ({ frames := 2, cells := 0, slots := 0, locals := 64 } : Room) s m args below meth c₀ H_9 locs_10 0 0 Q (F0 m 27 ls []) := by
    intro fu
    induction fu with
    | zero =>
      intro c SL27 H_9 locs_10 ls hXl27 hFl27 hk hf hL2 hP hD hS hl
      exact absurd hf (by omega)
    | succ fu ih =>
      intro c SL27 H_9 locs_10 ls hXl27 hFl27 hk hf hL2 hP hD hS hl
      refine lv_iload_n hx hb (fk_get fk_cJx4a65c_clear_da8c8_0 17 rfl) rfl (lv_at hl 0 rfl) ?_
      refine lv_iload_n hx hb (fk_get fk_cJx4a65c_clear_da8c8_0 18 rfl) rfl (lv_at hl 1 rfl) ?_
      refine lv_icmp_ge (tgt := 42) hx hb (fk_get fk_cJx4a65c_clear_da8c8_0 19 rfl) (by decide) (fun c_11 => ?_) (fun c_11 => ?_)
      · have q_c_11 : z ≤ c := ci_le (a := z) (b := c) (by omega) (by omega) c_11
        subst hQ
        have hpost : XI SL27 ∧ Fr (fun j k => j = 61 ∨ (71 ≤ j ∧ (fK S j = 2 ∨ 71 + fC S ≤ j))) S SL27 ∧ fF SL27 61 2 = nI 0 := by
          exact ⟨hXl27, hFl27, hL2.2.2.2.2.2.2.2.1⟩
        exact W.vret hx hb hr (fun t_ ht_ hW_ => ⟨⟨SL27, rfl, hpost, by rw [ht_]; exact hP, va_K.moved hW_.alike hK, hD⟩, hS.F ht_⟩) hS.2.2 (fk_get fk_cJx4a65c_clear_da8c8_0 26 rfl)
      have q_c_11 : c < z := ci_nle (a := z) (b := c) (by omega) (by omega) c_11
      refine lv_aload_n hx hb (fk_get fk_cJx4a65c_clear_da8c8_0 20 rfl) rfl (lv_at hl 2 rfl) ?_
      refine lv_iload_n hx hb (fk_get fk_cJx4a65c_clear_da8c8_0 21 rfl) rfl (lv_at hl 0 rfl) ?_
      refine lv_null hx hb (fk_get fk_cJx4a65c_clear_da8c8_0 22 rfl) ?_
      refine va_astqN hx hb hK hP hD hS pl 6 (ix_at (hL2).2.2.1 (cX_obsn (show LB SL27 pl nz 0 from hL2))) rfl (by rw [show ((nI c) : Int32) = nI c from rfl]; exact vp_in_nI (by omega) (by have := (hL2).2.2.2.2.2.2.1; omega)) (fk_get fk_cJx4a65c_clear_da8c8_0 23 rfl) (fun H locs hP hD hS => ?_)
      rw [show ((nI c) : Int32).toNatClampNeg = c from by rw [show ((nI c) : Int32) = nI c from rfl]; exact nI_clamp (by omega)] at hP hD
      rw [pX_obsN (G := G) (ad := ad) (S := SL27) (i := c) (show LB SL27 pl nz 0 from hL2).2.1 (show LB SL27 pl nz 0 from hL2).2.2.1 (show LB SL27 pl nz 0 from hL2).2.2.2.1 (show LB SL27 pl nz 0 from hL2).2.2.2.2.1] at hP hD
      have h71_ := (show LB SL27 pl nz 0 from hL2).2.1
      have hLm_12 := LB.nul (i := c) (v := none) hL2
      have hX_13 : XI (setR SL27 pl c (none)) := XI.nul hXl27 hL2
      have hF_14 : Fr (fun j k => j = 61 ∨ (71 ≤ j ∧ (fK S j = 2 ∨ 71 + fC S ≤ j))) S (setR SL27 pl c (none)) := Fr.sR hFl27 (by omega)
      refine lv_iinc (v := (nI (c + 1))) (lv' := [(3, .int ((nI (c + 1)))), (2, .int ((nI z))), (1, .ref (ad pl)), (0, .ref (ad 61))]) hx hb (fk_get fk_cJx4a65c_clear_da8c8_0 24 rfl) hl (k := 0) rfl ((nI_1 c)) (by decide) rfl (fun ls hl => ?_)
      refine lv_goto (tgt := 27) hx hb (fk_get fk_cJx4a65c_clear_da8c8_0 25 rfl) (by decide) ?_
      exact ih (c + 1) (setR SL27 pl c (none)) _ _ ls (hX_13) (hF_14) (by omega) (by omega) (hLm_12) hP hD hS (lv_sub hl [0, 1, 2, 3] rfl)
  exact lp_7 (z + 1) (0) (setF (setF S 61 0 (((fF S 61 0) + 1))) 61 2 (0)) _ _ ls (hX_5) (hF_6) (by omega) (by omega) (hLm_4) hP hD hS (lv_sub hl [0, 1, 2, 3] rfl)
theorem c_jclear (l : Launch) (G : GG) (ad : Nat → Nat) (S : FS) (sz : Nat) (hX : XI S) : Met l yJx4a65c_clear_da8c8 (Cond.code yJx4a65c_clear_da8c8 cJx4a65c_clear_da8c8 4 none :: TBL) ({ frames := 2, cells := 0, slots := 0, locals := 64 } : Room) (PcW G (wX G ad S) sz [.ref (ad 61)]) (va_Qv (fun (S' : FS) => XI S' ∧ Fr (fun j k => j = 61 ∨ (71 ≤ j ∧ (fK S j = 2 ∨ 71 + fC S ≤ j))) S S' ∧ fF S' 61 2 = nI 0) (fun S' t => BW G (va_A (wX G ad S) sz) (wX G ad S') t) (va_A (wX G ad S) sz)) 0 0 (va_A (wX G ad S) sz) := by
  rcases (XI.list hX).ab with hA | ⟨pl, nz, z', hB⟩
  · exact c_jclearA l G ad S sz hA hX
  · exact c_jclearB l G ad S sz pl nz z' hB hX
