set_option maxHeartbeats 4000000 in
set_option maxRecDepth 100000 in
theorem c_i_cust (l : Launch) (G : GG) (a : Nat) (n : Int32) (k : Nat) (sz : Nat) : Met l yX3_init (Cond.code yX3_init cX3_init 3 none :: TBL) ({ frames := 2, cells := 1, slots := 4, locals := 64 } : Room) (PcW G ([(a, .inr (5, [.int 0, .null, .null, .int 0, .int 0, .int 0, .int 0, .int 0, .int 0, .int 0]))]) sz [.ref a, .int n, .ref k]) (va_Qv (fun u : Nat → Nat => True) (fun u t => BW G (va_A ([(a, .inr (5, [.int 0, .null, .null, .int 0, .int 0, .int 0, .int 0, .int 0, .int 0, .int 0]))]) sz) ([(a, .inr (5, [.int n, .ref (u 0), .ref k, .int 0, .int 0, .int 0, .int 0, .int 0, .int 0, .int 0])), ((u 0), .inl (G.2.1 0, 4, .inl (fun _ => 0)))]) t) (va_A ([(a, .inr (5, [.int 0, .null, .null, .int 0, .int 0, .int 0, .int 0, .int 0, .int 0, .int 0]))]) sz)) 1 4 (va_A ([(a, .inr (5, [.int 0, .null, .null, .int 0, .int 0, .int 0, .int 0, .int 0, .int 0, .int 0]))]) sz) := by
  refine Met.ofW (cc := cX3_init) (maxL := 3) (ret := none) (by decide) rfl ?_
  intro p e s m args below meth c₀ s₁ B hml hv
  obtain ⟨rfl, hsz, hP, hK, hD0⟩ := hv
  have hx := B.exec
  have hb := B.bytes
  have hr := B.returns
  have hT : ∀ w ∈ TBL, w.before ([.ref a, .int n, .ref k] : List Value).toArray s = true := fun w h => atoms_spec (ws := Cond.code yX3_init cX3_init 3 none :: TBL) B.pre w (List.mem_cons_of_mem _ h)
  have hown : s.vm.findClass "LittleMore$Customer" = some m.cls := findClass_of_methodNamed B.named
  have hlocks := B.notSynchronized
  have hin : meth.name = "<init>" := (name_of_methodNamed B.named B.method).1
  subst hsz
  have hD := hD0.self (sz := s.heap.size)
  generalize hAe : va_A ([(a, .inr (5, [.int 0, .null, .null, .int 0, .int 0, .int 0, .int 0, .int 0, .int 0, .int 0]))]) s.heap.size = A at hD ⊢
  have hA : ∀ q : Nat, s.heap.size ≤ q → A q := fun q h => by rw [← hAe]; exact Or.inr h
  have hS : va_S A s.heap s.heap [] := va_S.rf
  have hP : va_P G.1 vwCl ([(a, .inr (5, [.int 0, .null, .null, .int 0, .int 0, .int 0, .int 0, .int 0, .int 0, .int 0]))]) s.heap := hP
  have hl := lv_entry ([.ref a, .int n, .ref k]) (n := 3) (Nat.le_of_ble_eq_true rfl)
  rw [lg_entry_eq]
  generalize (lg_sl ([.ref a, .int n, .ref k]) ++ List.replicate (3 - (lg_sl ([.ref a, .int n, .ref k])).length) Slot.unset).toArray = ls at hl ⊢
  have hl : lv_has ls 3 [(0, .ref a), (1, .int n), (2, .ref k)] := hl
  refine W_abs (fun Q hQ => ?_)
  generalize ([.ref a, .int n, .ref k] : List Value).toArray = args at hT hQ ⊢
  refine lv_aload_n hx hb (fk_get fk_cX3_init_0 0 rfl) rfl (lv_at hl 0 rfl) ?_
  refine W.objInit hx hb hown (hT (.methodLink "LittleMore$Customer" 3 objectInit) m1_134) (hT (.instanceMethod objectInit) m1_36) (hT _ m1_37) rfl (by rw [hml]; exact hl.1) rfl (fk_get fk_cX3_init_0 1 rfl) (Nat.le_of_ble_eq_true rfl) (Nat.le_of_ble_eq_true rfl) ?_
  refine W.eq (g2 := F0 m 4 ls []) rfl ?_
  refine lv_aload_n hx hb (fk_get fk_cX3_init_0 2 rfl) rfl (lv_at hl 0 rfl) ?_
  refine lv_iconst (v := 4) hx hb (fk_get fk_cX3_init_0 3 rfl) (by decide) ?_
  refine r_newa (atype := .int) (N' := 4) (a0 := (4, .inl (fun _ => 0))) (ty := .int) hx hb (hT _ m1_129) rfl hK hP hD hS hA 0 rfl (fun _ => by intro h; cases h) (fun _ => rfl) (by decide) (by decide) (by decide) (by show 0 + 1 ≤ 1; omega) (by show 0 + 4 ≤ 4; omega) (dk_get dk_cX3_init_0 0 rfl) (fun q1 H hP hD hS => ?_)
  have hP : va_P G.1 vwCl ([(a, .inr (5, [.int 0, .null, .null, .int 0, .int 0, .int 0, .int 0, .int 0, .int 0, .int 0])), (q1, .inl (G.2.1 0, 4, .inl (fun _ => 0)))]) H := hP
  have hD : va_D A ([(a, .inr (5, [.int 0, .null, .null, .int 0, .int 0, .int 0, .int 0, .int 0, .int 0, .int 0])), (q1, .inl (G.2.1 0, 4, .inl (fun _ => 0)))]) := hD
  refine va_putF (D := G.1) (ci := 5) (v := .ref q1) (ty := (.array .int)) (C := RX3) (T := TX3) (N := 10) hx hb hT inX3 tyX3 tyX3_ok nmX3 hown hK hP hD hS 0 rfl rfl 1 (by decide) (hT _ m1_140) (fun _ h9 => h9) rfl hin rfl (by decide +kernel) rfl rfl (Nat.le_of_ble_eq_true rfl) (fk_get fk_cX3_init_0 4 rfl) (fun H locs hP hD hS => ?_)
  have hP : va_P G.1 vwCl ([(a, .inr (5, [.int 0, .ref q1, .null, .int 0, .int 0, .int 0, .int 0, .int 0, .int 0, .int 0])), (q1, .inl (G.2.1 0, 4, .inl (fun _ => 0)))]) H := hP
  have hD : va_D A ([(a, .inr (5, [.int 0, .ref q1, .null, .int 0, .int 0, .int 0, .int 0, .int 0, .int 0, .int 0])), (q1, .inl (G.2.1 0, 4, .inl (fun _ => 0)))]) := hD
  refine lv_aload_n hx hb (fk_get fk_cX3_init_0 5 rfl) rfl (lv_at hl 0 rfl) ?_
  refine lv_iconst (v := 0) hx hb (fk_get fk_cX3_init_0 6 rfl) (by decide) ?_
  refine va_put (D := G.1) (ci := 5) (v := .int 0) (ty := .int) (C := RX3) (T := TX3) (N := 10) hx hb hT inX3 tyX3 tyX3_ok nmX3 hown hK hP hD hS 0 rfl rfl 3 (by decide) (hT _ m1_147) (fun _ h9 => h9) rfl (by decide +kernel) rfl rfl (Nat.le_of_ble_eq_true rfl) (fk_get fk_cX3_init_0 7 rfl) (fun H locs hP hD hS => ?_)
  have hP : va_P G.1 vwCl ([(a, .inr (5, [.int 0, .ref q1, .null, .int 0, .int 0, .int 0, .int 0, .int 0, .int 0, .int 0])), (q1, .inl (G.2.1 0, 4, .inl (fun _ => 0)))]) H := hP
  have hD : va_D A ([(a, .inr (5, [.int 0, .ref q1, .null, .int 0, .int 0, .int 0, .int 0, .int 0, .int 0, .int 0])), (q1, .inl (G.2.1 0, 4, .inl (fun _ => 0)))]) := hD
  refine lv_aload_n hx hb (fk_get fk_cX3_init_0 8 rfl) rfl (lv_at hl 0 rfl) ?_
  refine lv_iconst (v := 0) hx hb (fk_get fk_cX3_init_0 9 rfl) (by decide) ?_
  refine va_put (D := G.1) (ci := 5) (v := .int 0) (ty := .int) (C := RX3) (T := TX3) (N := 10) hx hb hT inX3 tyX3 tyX3_ok nmX3 hown hK hP hD hS 0 rfl rfl 4 (by decide) (hT _ m1_153) (fun _ h9 => h9) rfl (by decide +kernel) rfl rfl (Nat.le_of_ble_eq_true rfl) (fk_get fk_cX3_init_0 10 rfl) (fun H locs hP hD hS => ?_)
  have hP : va_P G.1 vwCl ([(a, .inr (5, [.int 0, .ref q1, .null, .int 0, .int 0, .int 0, .int 0, .int 0, .int 0, .int 0])), (q1, .inl (G.2.1 0, 4, .inl (fun _ => 0)))]) H := hP
  have hD : va_D A ([(a, .inr (5, [.int 0, .ref q1, .null, .int 0, .int 0, .int 0, .int 0, .int 0, .int 0, .int 0])), (q1, .inl (G.2.1 0, 4, .inl (fun _ => 0)))]) := hD
  refine lv_aload_n hx hb (fk_get fk_cX3_init_0 11 rfl) rfl (lv_at hl 0 rfl) ?_
  refine lv_iconst (v := 0) hx hb (fk_get fk_cX3_init_0 12 rfl) (by decide) ?_
  refine va_put (D := G.1) (ci := 5) (v := .int 0) (ty := .int) (C := RX3) (T := TX3) (N := 10) hx hb hT inX3 tyX3 tyX3_ok nmX3 hown hK hP hD hS 0 rfl rfl 5 (by decide) (hT _ m1_159) (fun _ h9 => h9) rfl (by decide +kernel) rfl rfl (Nat.le_of_ble_eq_true rfl) (fk_get fk_cX3_init_0 13 rfl) (fun H locs hP hD hS => ?_)
  have hP : va_P G.1 vwCl ([(a, .inr (5, [.int 0, .ref q1, .null, .int 0, .int 0, .int 0, .int 0, .int 0, .int 0, .int 0])), (q1, .inl (G.2.1 0, 4, .inl (fun _ => 0)))]) H := hP
  have hD : va_D A ([(a, .inr (5, [.int 0, .ref q1, .null, .int 0, .int 0, .int 0, .int 0, .int 0, .int 0, .int 0])), (q1, .inl (G.2.1 0, 4, .inl (fun _ => 0)))]) := hD
  refine lv_aload_n hx hb (fk_get fk_cX3_init_0 14 rfl) rfl (lv_at hl 0 rfl) ?_
  refine lv_iconst (v := 0) hx hb (fk_get fk_cX3_init_0 15 rfl) (by decide) ?_
  refine va_put (D := G.1) (ci := 5) (v := .int 0) (ty := .int) (C := RX3) (T := TX3) (N := 10) hx hb hT inX3 tyX3 tyX3_ok nmX3 hown hK hP hD hS 0 rfl rfl 6 (by decide) (hT _ m1_163) (fun _ h9 => h9) rfl (by decide +kernel) rfl rfl (Nat.le_of_ble_eq_true rfl) (fk_get fk_cX3_init_0 16 rfl) (fun H locs hP hD hS => ?_)
  have hP : va_P G.1 vwCl ([(a, .inr (5, [.int 0, .ref q1, .null, .int 0, .int 0, .int 0, .int 0, .int 0, .int 0, .int 0])), (q1, .inl (G.2.1 0, 4, .inl (fun _ => 0)))]) H := hP
  have hD : va_D A ([(a, .inr (5, [.int 0, .ref q1, .null, .int 0, .int 0, .int 0, .int 0, .int 0, .int 0, .int 0])), (q1, .inl (G.2.1 0, 4, .inl (fun _ => 0)))]) := hD
  refine lv_aload_n hx hb (fk_get fk_cX3_init_0 17 rfl) rfl (lv_at hl 0 rfl) ?_
  refine lv_iconst (v := 0) hx hb (fk_get fk_cX3_init_0 18 rfl) (by decide) ?_
  refine va_put (D := G.1) (ci := 5) (v := .int 0) (ty := .int) (C := RX3) (T := TX3) (N := 10) hx hb hT inX3 tyX3 tyX3_ok nmX3 hown hK hP hD hS 0 rfl rfl 7 (by decide) (hT _ m1_169) (fun _ h9 => h9) rfl (by decide +kernel) rfl rfl (Nat.le_of_ble_eq_true rfl) (fk_get fk_cX3_init_0 19 rfl) (fun H locs hP hD hS => ?_)
  have hP : va_P G.1 vwCl ([(a, .inr (5, [.int 0, .ref q1, .null, .int 0, .int 0, .int 0, .int 0, .int 0, .int 0, .int 0])), (q1, .inl (G.2.1 0, 4, .inl (fun _ => 0)))]) H := hP
  have hD : va_D A ([(a, .inr (5, [.int 0, .ref q1, .null, .int 0, .int 0, .int 0, .int 0, .int 0, .int 0, .int 0])), (q1, .inl (G.2.1 0, 4, .inl (fun _ => 0)))]) := hD
  refine lv_aload_n hx hb (fk_get fk_cX3_init_0 20 rfl) rfl (lv_at hl 0 rfl) ?_
  refine lv_iconst (v := 0) hx hb (fk_get fk_cX3_init_0 21 rfl) (by decide) ?_
  refine va_put (D := G.1) (ci := 5) (v := .int 0) (ty := .int) (C := RX3) (T := TX3) (N := 10) hx hb hT inX3 tyX3 tyX3_ok nmX3 hown hK hP hD hS 0 rfl rfl 8 (by decide) (hT _ m1_173) (fun _ h9 => h9) rfl (by decide +kernel) rfl rfl (Nat.le_of_ble_eq_true rfl) (fk_get fk_cX3_init_0 22 rfl) (fun H locs hP hD hS => ?_)
  have hP : va_P G.1 vwCl ([(a, .inr (5, [.int 0, .ref q1, .null, .int 0, .int 0, .int 0, .int 0, .int 0, .int 0, .int 0])), (q1, .inl (G.2.1 0, 4, .inl (fun _ => 0)))]) H := hP
  have hD : va_D A ([(a, .inr (5, [.int 0, .ref q1, .null, .int 0, .int 0, .int 0, .int 0, .int 0, .int 0, .int 0])), (q1, .inl (G.2.1 0, 4, .inl (fun _ => 0)))]) := hD
  refine lv_aload_n hx hb (fk_get fk_cX3_init_0 23 rfl) rfl (lv_at hl 0 rfl) ?_
  refine lv_iconst (v := 0) hx hb (fk_get fk_cX3_init_0 24 rfl) (by decide) ?_
  refine va_put (D := G.1) (ci := 5) (v := .int 0) (ty := .boolean) (C := RX3) (T := TX3) (N := 10) hx hb hT inX3 tyX3 tyX3_ok nmX3 hown hK hP hD hS 0 rfl rfl 9 (by decide) (hT _ m1_178) (fun _ h9 => h9) rfl (by decide +kernel) rfl rfl (Nat.le_of_ble_eq_true rfl) (fk_get fk_cX3_init_0 25 rfl) (fun H locs hP hD hS => ?_)
  have hP : va_P G.1 vwCl ([(a, .inr (5, [.int 0, .ref q1, .null, .int 0, .int 0, .int 0, .int 0, .int 0, .int 0, .int 0])), (q1, .inl (G.2.1 0, 4, .inl (fun _ => 0)))]) H := hP
  have hD : va_D A ([(a, .inr (5, [.int 0, .ref q1, .null, .int 0, .int 0, .int 0, .int 0, .int 0, .int 0, .int 0])), (q1, .inl (G.2.1 0, 4, .inl (fun _ => 0)))]) := hD
  refine lv_aload_n hx hb (fk_get fk_cX3_init_0 26 rfl) rfl (lv_at hl 0 rfl) ?_
  refine lv_iload_n hx hb (fk_get fk_cX3_init_0 27 rfl) rfl (lv_at hl 1 rfl) ?_
  refine va_putF (D := G.1) (ci := 5) (v := .int n) (ty := .int) (C := RX3) (T := TX3) (N := 10) hx hb hT inX3 tyX3 tyX3_ok nmX3 hown hK hP hD hS 0 rfl rfl 0 (by decide) (hT _ m1_135) (fun _ h9 => h9) rfl hin rfl (by decide +kernel) rfl rfl (Nat.le_of_ble_eq_true rfl) (fk_get fk_cX3_init_0 28 rfl) (fun H locs hP hD hS => ?_)
  have hP : va_P G.1 vwCl ([(a, .inr (5, [.int n, .ref q1, .null, .int 0, .int 0, .int 0, .int 0, .int 0, .int 0, .int 0])), (q1, .inl (G.2.1 0, 4, .inl (fun _ => 0)))]) H := hP
  have hD : va_D A ([(a, .inr (5, [.int n, .ref q1, .null, .int 0, .int 0, .int 0, .int 0, .int 0, .int 0, .int 0])), (q1, .inl (G.2.1 0, 4, .inl (fun _ => 0)))]) := hD
  refine lv_aload_n hx hb (fk_get fk_cX3_init_0 29 rfl) rfl (lv_at hl 0 rfl) ?_
  refine lv_aload_n hx hb (fk_get fk_cX3_init_0 30 rfl) rfl (lv_at hl 2 rfl) ?_
  refine va_put (D := G.1) (ci := 5) (v := .ref k) (ty := (.object "LittleMore$Kind")) (C := RX3) (T := TX3) (N := 10) hx hb hT inX3 tyX3 tyX3_ok nmX3 hown hK hP hD hS 0 rfl rfl 2 (by decide) (hT _ m1_143) (fun _ h9 => h9) rfl (by decide +kernel) rfl rfl (Nat.le_of_ble_eq_true rfl) (fk_get fk_cX3_init_0 31 rfl) (fun H locs hP hD hS => ?_)
  have hP : va_P G.1 vwCl ([(a, .inr (5, [.int n, .ref q1, .ref k, .int 0, .int 0, .int 0, .int 0, .int 0, .int 0, .int 0])), (q1, .inl (G.2.1 0, 4, .inl (fun _ => 0)))]) H := hP
  have hD : va_D A ([(a, .inr (5, [.int n, .ref q1, .ref k, .int 0, .int 0, .int 0, .int 0, .int 0, .int 0, .int 0])), (q1, .inl (G.2.1 0, 4, .inl (fun _ => 0)))]) := hD
  refine W.widen (k := 1) (n := 4) (by omega) (by omega) ?_
  subst hQ
  exact W.vret hx hb hr (fun t_ ht_ hW_ => ⟨⟨(fun _ => q1), rfl, trivial, by rw [ht_]; exact hP, va_K.moved hW_.alike hK, hD⟩, hS.F ht_⟩) hS.2.2 (fk_get fk_cX3_init_1 0 rfl)
set_option maxHeartbeats 4000000 in
set_option maxRecDepth 100000 in
theorem c_i_ctr (l : Launch) (G : GG) (a : Nat) (sz : Nat) : Met l yX1_init (Cond.code yX1_init cX1_init 1 none :: TBL) ({ frames := 2, cells := 2, slots := 0, locals := 64 } : Room) (PcW G ([(a, .inr (3, [.int 0, .int 0, .null, .null]))]) sz [.ref a]) (va_Qv (fun u : Nat → Nat => True) (fun u t => BW G (va_A ([(a, .inr (3, [.int 0, .int 0, .null, .null]))]) sz) ([(a, .inr (3, [.int 5, .int 1, .ref (u 0), .ref (u 1)])), ((u 0), .inl (G.2.1 0, 0, .inl (fun _ => 0))), ((u 1), .inl (G.2.1 0, 0, .inl (fun _ => 0)))]) t) (va_A ([(a, .inr (3, [.int 0, .int 0, .null, .null]))]) sz)) 2 0 (va_A ([(a, .inr (3, [.int 0, .int 0, .null, .null]))]) sz) := by
  refine Met.ofW (cc := cX1_init) (maxL := 1) (ret := none) (by decide) rfl ?_
  intro p e s m args below meth c₀ s₁ B hml hv
  obtain ⟨rfl, hsz, hP, hK, hD0⟩ := hv
  have hx := B.exec
  have hb := B.bytes
  have hr := B.returns
  have hT : ∀ w ∈ TBL, w.before ([.ref a] : List Value).toArray s = true := fun w h => atoms_spec (ws := Cond.code yX1_init cX1_init 1 none :: TBL) B.pre w (List.mem_cons_of_mem _ h)
  have hown : s.vm.findClass "LittleMore$Counter" = some m.cls := findClass_of_methodNamed B.named
  have hlocks := B.notSynchronized
  have hin : meth.name = "<init>" := (name_of_methodNamed B.named B.method).1
  subst hsz
  have hD := hD0.self (sz := s.heap.size)
  generalize hAe : va_A ([(a, .inr (3, [.int 0, .int 0, .null, .null]))]) s.heap.size = A at hD ⊢
  have hA : ∀ q : Nat, s.heap.size ≤ q → A q := fun q h => by rw [← hAe]; exact Or.inr h
  have hS : va_S A s.heap s.heap [] := va_S.rf
  have hP : va_P G.1 vwCl ([(a, .inr (3, [.int 0, .int 0, .null, .null]))]) s.heap := hP
  have hl := lv_entry ([.ref a]) (n := 1) (Nat.le_of_ble_eq_true rfl)
  rw [lg_entry_eq]
  generalize (lg_sl ([.ref a]) ++ List.replicate (1 - (lg_sl ([.ref a])).length) Slot.unset).toArray = ls at hl ⊢
  have hl : lv_has ls 1 [(0, .ref a)] := hl
  refine W_abs (fun Q hQ => ?_)
  generalize ([.ref a] : List Value).toArray = args at hT hQ ⊢
  refine lv_aload_n hx hb (fk_get fk_cX1_init_0 0 rfl) rfl (lv_at hl 0 rfl) ?_
  refine W.objInit hx hb hown (hT (.methodLink "LittleMore$Counter" 3 objectInit) m1_112) (hT (.instanceMethod objectInit) m1_36) (hT _ m1_37) rfl (by rw [hml]; exact hl.1) rfl (fk_get fk_cX1_init_0 1 rfl) (Nat.le_of_ble_eq_true rfl) (Nat.le_of_ble_eq_true rfl) ?_
  refine W.eq (g2 := F0 m 4 ls []) rfl ?_
  refine lv_aload_n hx hb (fk_get fk_cX1_init_0 2 rfl) rfl (lv_at hl 0 rfl) ?_
  refine lv_iconst (v := 5) hx hb (fk_get fk_cX1_init_0 3 rfl) (by decide) ?_
  refine va_putF (D := G.1) (ci := 3) (v := .int 5) (ty := .int) (C := RX1) (T := TX1) (N := 4) hx hb hT inX1 tyX1 tyX1_ok nmX1 hown hK hP hD hS 0 rfl rfl 0 (by decide) (hT _ m1_113) (fun _ h9 => h9) rfl hin rfl (by decide +kernel) rfl rfl (Nat.le_of_ble_eq_true rfl) (fk_get fk_cX1_init_0 4 rfl) (fun H locs hP hD hS => ?_)
  have hP : va_P G.1 vwCl ([(a, .inr (3, [.int 5, .int 0, .null, .null]))]) H := hP
  have hD : va_D A ([(a, .inr (3, [.int 5, .int 0, .null, .null]))]) := hD
  refine lv_aload_n hx hb (fk_get fk_cX1_init_0 5 rfl) rfl (lv_at hl 0 rfl) ?_
  refine lv_iconst (v := 1) hx hb (fk_get fk_cX1_init_0 6 rfl) (by decide) ?_
  refine va_putF (D := G.1) (ci := 3) (v := .int 1) (ty := .int) (C := RX1) (T := TX1) (N := 4) hx hb hT inX1 tyX1 tyX1_ok nmX1 hown hK hP hD hS 0 rfl rfl 1 (by decide) (hT _ m1_115) (fun _ h9 => h9) rfl hin rfl (by decide +kernel) rfl rfl (Nat.le_of_ble_eq_true rfl) (fk_get fk_cX1_init_0 7 rfl) (fun H locs hP hD hS => ?_)
  have hP : va_P G.1 vwCl ([(a, .inr (3, [.int 5, .int 1, .null, .null]))]) H := hP
  have hD : va_D A ([(a, .inr (3, [.int 5, .int 1, .null, .null]))]) := hD
  refine lv_aload_n hx hb (fk_get fk_cX1_init_0 8 rfl) rfl (lv_at hl 0 rfl) ?_
  refine lv_iconst (v := 0) hx hb (fk_get fk_cX1_init_0 9 rfl) (by decide) ?_
  refine r_newa (atype := .int) (N' := 0) (a0 := (0, .inl (fun _ => 0))) (ty := .int) hx hb (hT _ m1_129) rfl hK hP hD hS hA 0 rfl (fun _ => by intro h; cases h) (fun _ => rfl) (by decide) (by decide) (by decide) (by show 0 + 1 ≤ 2; omega) (by show 0 + 0 ≤ 0; omega) (dk_get dk_cX1_init_0 0 rfl) (fun q1 H hP hD hS => ?_)
  have hP : va_P G.1 vwCl ([(a, .inr (3, [.int 5, .int 1, .null, .null])), (q1, .inl (G.2.1 0, 0, .inl (fun _ => 0)))]) H := hP
  have hD : va_D A ([(a, .inr (3, [.int 5, .int 1, .null, .null])), (q1, .inl (G.2.1 0, 0, .inl (fun _ => 0)))]) := hD
  refine va_putF (D := G.1) (ci := 3) (v := .ref q1) (ty := (.array .int)) (C := RX1) (T := TX1) (N := 4) hx hb hT inX1 tyX1 tyX1_ok nmX1 hown hK hP hD hS 0 rfl rfl 2 (by decide) (hT _ m1_118) (fun _ h9 => h9) rfl hin rfl (by decide +kernel) rfl rfl (Nat.le_of_ble_eq_true rfl) (fk_get fk_cX1_init_0 10 rfl) (fun H locs hP hD hS => ?_)
  have hP : va_P G.1 vwCl ([(a, .inr (3, [.int 5, .int 1, .ref q1, .null])), (q1, .inl (G.2.1 0, 0, .inl (fun _ => 0)))]) H := hP
  have hD : va_D A ([(a, .inr (3, [.int 5, .int 1, .ref q1, .null])), (q1, .inl (G.2.1 0, 0, .inl (fun _ => 0)))]) := hD
  refine lv_aload_n hx hb (fk_get fk_cX1_init_0 11 rfl) rfl (lv_at hl 0 rfl) ?_
  refine lv_iconst (v := 0) hx hb (fk_get fk_cX1_init_0 12 rfl) (by decide) ?_
  refine r_newa (atype := .int) (N' := 0) (a0 := (0, .inl (fun _ => 0))) (ty := .int) hx hb (hT _ m1_129) rfl hK hP hD hS hA 0 rfl (fun _ => by intro h; cases h) (fun _ => rfl) (by decide) (by decide) (by decide) (by show (0 + 1) + 1 ≤ 2; omega) (by show (0 + 0) + 0 ≤ 0; omega) (dk_get dk_cX1_init_0 1 rfl) (fun q2 H hP hD hS => ?_)
  have hP : va_P G.1 vwCl ([(a, .inr (3, [.int 5, .int 1, .ref q1, .null])), (q1, .inl (G.2.1 0, 0, .inl (fun _ => 0))), (q2, .inl (G.2.1 0, 0, .inl (fun _ => 0)))]) H := hP
  have hD : va_D A ([(a, .inr (3, [.int 5, .int 1, .ref q1, .null])), (q1, .inl (G.2.1 0, 0, .inl (fun _ => 0))), (q2, .inl (G.2.1 0, 0, .inl (fun _ => 0)))]) := hD
  refine va_putF (D := G.1) (ci := 3) (v := .ref q2) (ty := (.array .int)) (C := RX1) (T := TX1) (N := 4) hx hb hT inX1 tyX1 tyX1_ok nmX1 hown hK hP hD hS 0 rfl rfl 3 (by decide) (hT _ m1_119) (fun _ h9 => h9) rfl hin rfl (by decide +kernel) rfl rfl (Nat.le_of_ble_eq_true rfl) (fk_get fk_cX1_init_0 13 rfl) (fun H locs hP hD hS => ?_)
  have hP : va_P G.1 vwCl ([(a, .inr (3, [.int 5, .int 1, .ref q1, .ref q2])), (q1, .inl (G.2.1 0, 0, .inl (fun _ => 0))), (q2, .inl (G.2.1 0, 0, .inl (fun _ => 0)))]) H := hP
  have hD : va_D A ([(a, .inr (3, [.int 5, .int 1, .ref q1, .ref q2])), (q1, .inl (G.2.1 0, 0, .inl (fun _ => 0))), (q2, .inl (G.2.1 0, 0, .inl (fun _ => 0)))]) := hD
  refine W.widen (k := 2) (n := 0) (by omega) (by omega) ?_
  subst hQ
  exact W.vret hx hb hr (fun t_ ht_ hW_ => ⟨⟨(fun i => match i with | 0 => q1 | _ => q2), rfl, trivial, by rw [ht_]; exact hP, va_K.moved hW_.alike hK, hD⟩, hS.F ht_⟩) hS.2.2 (fk_get fk_cX1_init_0 14 rfl)
set_option maxHeartbeats 4000000 in
set_option maxRecDepth 100000 in
theorem c_i_text (l : Launch) (G : GG) (a : Nat) (sz : Nat) : Met l yX9_init (Cond.code yX9_init cX9_init 1 none :: TBL) ({ frames := 2, cells := 3, slots := 300, locals := 64 } : Room) (PcW G ([(a, .inr (11, [.null, .int 0, .int 0, .int 0, .int 0, .null, .null, .int 0, .int 0]))]) sz [.ref a]) (va_Qv (fun u : Nat → Nat => True) (fun u t => BW G (va_A ([(a, .inr (11, [.null, .int 0, .int 0, .int 0, .int 0, .null, .null, .int 0, .int 0]))]) sz) ([(a, .inr (11, [.ref (u 0), .int 0, .int 0, .int 5, .int 1, .ref (u 1), .ref (u 2), .int 0, .int 0])), ((u 0), .inl (G.2.1 2, 100, .inl (fun _ => 0))), ((u 1), .inl (G.2.1 0, 100, .inl (fun _ => 0))), ((u 2), .inl (G.2.1 0, 100, .inl (fun _ => 0)))]) t) (va_A ([(a, .inr (11, [.null, .int 0, .int 0, .int 0, .int 0, .null, .null, .int 0, .int 0]))]) sz)) 3 300 (va_A ([(a, .inr (11, [.null, .int 0, .int 0, .int 0, .int 0, .null, .null, .int 0, .int 0]))]) sz) := by
  refine Met.ofW (cc := cX9_init) (maxL := 1) (ret := none) (by decide) rfl ?_
  intro p e s m args below meth c₀ s₁ B hml hv
  obtain ⟨rfl, hsz, hP, hK, hD0⟩ := hv
  have hx := B.exec
  have hb := B.bytes
  have hr := B.returns
  have hT : ∀ w ∈ TBL, w.before ([.ref a] : List Value).toArray s = true := fun w h => atoms_spec (ws := Cond.code yX9_init cX9_init 1 none :: TBL) B.pre w (List.mem_cons_of_mem _ h)
  have hown : s.vm.findClass "LittleMore$Text" = some m.cls := findClass_of_methodNamed B.named
  have hlocks := B.notSynchronized
  have hin : meth.name = "<init>" := (name_of_methodNamed B.named B.method).1
  subst hsz
  have hD := hD0.self (sz := s.heap.size)
  generalize hAe : va_A ([(a, .inr (11, [.null, .int 0, .int 0, .int 0, .int 0, .null, .null, .int 0, .int 0]))]) s.heap.size = A at hD ⊢
  have hA : ∀ q : Nat, s.heap.size ≤ q → A q := fun q h => by rw [← hAe]; exact Or.inr h
  have hS : va_S A s.heap s.heap [] := va_S.rf
  have hP : va_P G.1 vwCl ([(a, .inr (11, [.null, .int 0, .int 0, .int 0, .int 0, .null, .null, .int 0, .int 0]))]) s.heap := hP
  have hl := lv_entry ([.ref a]) (n := 1) (Nat.le_of_ble_eq_true rfl)
  rw [lg_entry_eq]
  generalize (lg_sl ([.ref a]) ++ List.replicate (1 - (lg_sl ([.ref a])).length) Slot.unset).toArray = ls at hl ⊢
  have hl : lv_has ls 1 [(0, .ref a)] := hl
  refine W_abs (fun Q hQ => ?_)
  generalize ([.ref a] : List Value).toArray = args at hT hQ ⊢
  refine lv_aload_n hx hb (fk_get fk_cX9_init_0 0 rfl) rfl (lv_at hl 0 rfl) ?_
  refine W.objInit hx hb hown (hT (.methodLink "LittleMore$Text" 3 objectInit) m2_0) (hT (.instanceMethod objectInit) m1_36) (hT _ m1_37) rfl (by rw [hml]; exact hl.1) rfl (fk_get fk_cX9_init_0 1 rfl) (Nat.le_of_ble_eq_true rfl) (Nat.le_of_ble_eq_true rfl) ?_
  refine W.eq (g2 := F0 m 4 ls []) rfl ?_
  refine lv_aload_n hx hb (fk_get fk_cX9_init_0 2 rfl) rfl (lv_at hl 0 rfl) ?_
  refine lv_bipush (v := 100) hx hb (fk_get fk_cX9_init_0 3 rfl) (by decide) ?_
  refine r_newa (atype := .byte) (N' := 100) (a0 := (100, .inl (fun _ => 0))) (ty := .byte) hx hb (hT _ m2_37) rfl hK hP hD hS hA 2 rfl (fun _ => by intro h; cases h) (fun _ => rfl) (by decide) (by decide) (by decide) (by show 0 + 1 ≤ 3; omega) (by show 0 + 100 ≤ 300; omega) (dk_get dk_cX9_init_0 0 rfl) (fun q1 H hP hD hS => ?_)
  have hP : va_P G.1 vwCl ([(a, .inr (11, [.null, .int 0, .int 0, .int 0, .int 0, .null, .null, .int 0, .int 0])), (q1, .inl (G.2.1 2, 100, .inl (fun _ => 0)))]) H := hP
  have hD : va_D A ([(a, .inr (11, [.null, .int 0, .int 0, .int 0, .int 0, .null, .null, .int 0, .int 0])), (q1, .inl (G.2.1 2, 100, .inl (fun _ => 0)))]) := hD
  refine va_putF (D := G.1) (ci := 11) (v := .ref q1) (ty := (.array .byte)) (C := RX9) (T := TX9) (N := 9) hx hb hT inX9 tyX9 tyX9_ok nmX9 hown hK hP hD hS 0 rfl rfl 0 (by decide) (hT _ m2_1) (fun _ h9 => h9) rfl hin rfl (by decide +kernel) rfl rfl (Nat.le_of_ble_eq_true rfl) (fk_get fk_cX9_init_0 4 rfl) (fun H locs hP hD hS => ?_)
  have hP : va_P G.1 vwCl ([(a, .inr (11, [.ref q1, .int 0, .int 0, .int 0, .int 0, .null, .null, .int 0, .int 0])), (q1, .inl (G.2.1 2, 100, .inl (fun _ => 0)))]) H := hP
  have hD : va_D A ([(a, .inr (11, [.ref q1, .int 0, .int 0, .int 0, .int 0, .null, .null, .int 0, .int 0])), (q1, .inl (G.2.1 2, 100, .inl (fun _ => 0)))]) := hD
  refine lv_aload_n hx hb (fk_get fk_cX9_init_0 5 rfl) rfl (lv_at hl 0 rfl) ?_
  refine lv_iconst (v := 0) hx hb (fk_get fk_cX9_init_0 6 rfl) (by decide) ?_
  refine va_put (D := G.1) (ci := 11) (v := .int 0) (ty := .int) (C := RX9) (T := TX9) (N := 9) hx hb hT inX9 tyX9 tyX9_ok nmX9 hown hK hP hD hS 0 rfl rfl 1 (by decide) (hT _ m2_3) (fun _ h9 => h9) rfl (by decide +kernel) rfl rfl (Nat.le_of_ble_eq_true rfl) (fk_get fk_cX9_init_0 7 rfl) (fun H locs hP hD hS => ?_)
  have hP : va_P G.1 vwCl ([(a, .inr (11, [.ref q1, .int 0, .int 0, .int 0, .int 0, .null, .null, .int 0, .int 0])), (q1, .inl (G.2.1 2, 100, .inl (fun _ => 0)))]) H := hP
  have hD : va_D A ([(a, .inr (11, [.ref q1, .int 0, .int 0, .int 0, .int 0, .null, .null, .int 0, .int 0])), (q1, .inl (G.2.1 2, 100, .inl (fun _ => 0)))]) := hD
  refine lv_aload_n hx hb (fk_get fk_cX9_init_0 8 rfl) rfl (lv_at hl 0 rfl) ?_
  refine lv_iconst (v := 0) hx hb (fk_get fk_cX9_init_0 9 rfl) (by decide) ?_
  refine va_put (D := G.1) (ci := 11) (v := .int 0) (ty := .int) (C := RX9) (T := TX9) (N := 9) hx hb hT inX9 tyX9 tyX9_ok nmX9 hown hK hP hD hS 0 rfl rfl 2 (by decide) (hT _ m2_5) (fun _ h9 => h9) rfl (by decide +kernel) rfl rfl (Nat.le_of_ble_eq_true rfl) (fk_get fk_cX9_init_0 10 rfl) (fun H locs hP hD hS => ?_)
  have hP : va_P G.1 vwCl ([(a, .inr (11, [.ref q1, .int 0, .int 0, .int 0, .int 0, .null, .null, .int 0, .int 0])), (q1, .inl (G.2.1 2, 100, .inl (fun _ => 0)))]) H := hP
  have hD : va_D A ([(a, .inr (11, [.ref q1, .int 0, .int 0, .int 0, .int 0, .null, .null, .int 0, .int 0])), (q1, .inl (G.2.1 2, 100, .inl (fun _ => 0)))]) := hD
  refine lv_aload_n hx hb (fk_get fk_cX9_init_0 11 rfl) rfl (lv_at hl 0 rfl) ?_
  refine lv_iconst (v := 5) hx hb (fk_get fk_cX9_init_0 12 rfl) (by decide) ?_
  refine va_put (D := G.1) (ci := 11) (v := .int 5) (ty := .int) (C := RX9) (T := TX9) (N := 9) hx hb hT inX9 tyX9 tyX9_ok nmX9 hown hK hP hD hS 0 rfl rfl 3 (by decide) (hT _ m2_7) (fun _ h9 => h9) rfl (by decide +kernel) rfl rfl (Nat.le_of_ble_eq_true rfl) (fk_get fk_cX9_init_0 13 rfl) (fun H locs hP hD hS => ?_)
  have hP : va_P G.1 vwCl ([(a, .inr (11, [.ref q1, .int 0, .int 0, .int 5, .int 0, .null, .null, .int 0, .int 0])), (q1, .inl (G.2.1 2, 100, .inl (fun _ => 0)))]) H := hP
  have hD : va_D A ([(a, .inr (11, [.ref q1, .int 0, .int 0, .int 5, .int 0, .null, .null, .int 0, .int 0])), (q1, .inl (G.2.1 2, 100, .inl (fun _ => 0)))]) := hD
  refine lv_aload_n hx hb (fk_get fk_cX9_init_0 14 rfl) rfl (lv_at hl 0 rfl) ?_
  refine lv_iconst (v := 1) hx hb (fk_get fk_cX9_init_0 15 rfl) (by decide) ?_
  refine va_put (D := G.1) (ci := 11) (v := .int 1) (ty := .int) (C := RX9) (T := TX9) (N := 9) hx hb hT inX9 tyX9 tyX9_ok nmX9 hown hK hP hD hS 0 rfl rfl 4 (by decide) (hT _ m2_9) (fun _ h9 => h9) rfl (by decide +kernel) rfl rfl (Nat.le_of_ble_eq_true rfl) (fk_get fk_cX9_init_0 16 rfl) (fun H locs hP hD hS => ?_)
  have hP : va_P G.1 vwCl ([(a, .inr (11, [.ref q1, .int 0, .int 0, .int 5, .int 1, .null, .null, .int 0, .int 0])), (q1, .inl (G.2.1 2, 100, .inl (fun _ => 0)))]) H := hP
  have hD : va_D A ([(a, .inr (11, [.ref q1, .int 0, .int 0, .int 5, .int 1, .null, .null, .int 0, .int 0])), (q1, .inl (G.2.1 2, 100, .inl (fun _ => 0)))]) := hD
  refine lv_aload_n hx hb (fk_get fk_cX9_init_0 17 rfl) rfl (lv_at hl 0 rfl) ?_
  refine lv_bipush (v := 100) hx hb (fk_get fk_cX9_init_0 18 rfl) (by decide) ?_
  refine r_newa (atype := .int) (N' := 100) (a0 := (100, .inl (fun _ => 0))) (ty := .int) hx hb (hT _ m1_129) rfl hK hP hD hS hA 0 rfl (fun _ => by intro h; cases h) (fun _ => rfl) (by decide) (by decide) (by decide) (by show (0 + 1) + 1 ≤ 3; omega) (by show (0 + 100) + 100 ≤ 300; omega) (dk_get dk_cX9_init_0 1 rfl) (fun q2 H hP hD hS => ?_)
  have hP : va_P G.1 vwCl ([(a, .inr (11, [.ref q1, .int 0, .int 0, .int 5, .int 1, .null, .null, .int 0, .int 0])), (q1, .inl (G.2.1 2, 100, .inl (fun _ => 0))), (q2, .inl (G.2.1 0, 100, .inl (fun _ => 0)))]) H := hP
  have hD : va_D A ([(a, .inr (11, [.ref q1, .int 0, .int 0, .int 5, .int 1, .null, .null, .int 0, .int 0])), (q1, .inl (G.2.1 2, 100, .inl (fun _ => 0))), (q2, .inl (G.2.1 0, 100, .inl (fun _ => 0)))]) := hD
  refine va_putF (D := G.1) (ci := 11) (v := .ref q2) (ty := (.array .int)) (C := RX9) (T := TX9) (N := 9) hx hb hT inX9 tyX9 tyX9_ok nmX9 hown hK hP hD hS 0 rfl rfl 5 (by decide) (hT _ m2_11) (fun _ h9 => h9) rfl hin rfl (by decide +kernel) rfl rfl (Nat.le_of_ble_eq_true rfl) (fk_get fk_cX9_init_0 19 rfl) (fun H locs hP hD hS => ?_)
  have hP : va_P G.1 vwCl ([(a, .inr (11, [.ref q1, .int 0, .int 0, .int 5, .int 1, .ref q2, .null, .int 0, .int 0])), (q1, .inl (G.2.1 2, 100, .inl (fun _ => 0))), (q2, .inl (G.2.1 0, 100, .inl (fun _ => 0)))]) H := hP
  have hD : va_D A ([(a, .inr (11, [.ref q1, .int 0, .int 0, .int 5, .int 1, .ref q2, .null, .int 0, .int 0])), (q1, .inl (G.2.1 2, 100, .inl (fun _ => 0))), (q2, .inl (G.2.1 0, 100, .inl (fun _ => 0)))]) := hD
  refine lv_aload_n hx hb (fk_get fk_cX9_init_0 20 rfl) rfl (lv_at hl 0 rfl) ?_
  refine lv_bipush (v := 100) hx hb (fk_get fk_cX9_init_0 21 rfl) (by decide) ?_
  refine r_newa (atype := .int) (N' := 100) (a0 := (100, .inl (fun _ => 0))) (ty := .int) hx hb (hT _ m1_129) rfl hK hP hD hS hA 0 rfl (fun _ => by intro h; cases h) (fun _ => rfl) (by decide) (by decide) (by decide) (by show ((0 + 1) + 1) + 1 ≤ 3; omega) (by show ((0 + 100) + 100) + 100 ≤ 300; omega) (dk_get dk_cX9_init_0 2 rfl) (fun q3 H hP hD hS => ?_)
  have hP : va_P G.1 vwCl ([(a, .inr (11, [.ref q1, .int 0, .int 0, .int 5, .int 1, .ref q2, .null, .int 0, .int 0])), (q1, .inl (G.2.1 2, 100, .inl (fun _ => 0))), (q2, .inl (G.2.1 0, 100, .inl (fun _ => 0))), (q3, .inl (G.2.1 0, 100, .inl (fun _ => 0)))]) H := hP
  have hD : va_D A ([(a, .inr (11, [.ref q1, .int 0, .int 0, .int 5, .int 1, .ref q2, .null, .int 0, .int 0])), (q1, .inl (G.2.1 2, 100, .inl (fun _ => 0))), (q2, .inl (G.2.1 0, 100, .inl (fun _ => 0))), (q3, .inl (G.2.1 0, 100, .inl (fun _ => 0)))]) := hD
  refine va_putF (D := G.1) (ci := 11) (v := .ref q3) (ty := (.array .int)) (C := RX9) (T := TX9) (N := 9) hx hb hT inX9 tyX9 tyX9_ok nmX9 hown hK hP hD hS 0 rfl rfl 6 (by decide) (hT _ m2_13) (fun _ h9 => h9) rfl hin rfl (by decide +kernel) rfl rfl (Nat.le_of_ble_eq_true rfl) (fk_get fk_cX9_init_0 22 rfl) (fun H locs hP hD hS => ?_)
  have hP : va_P G.1 vwCl ([(a, .inr (11, [.ref q1, .int 0, .int 0, .int 5, .int 1, .ref q2, .ref q3, .int 0, .int 0])), (q1, .inl (G.2.1 2, 100, .inl (fun _ => 0))), (q2, .inl (G.2.1 0, 100, .inl (fun _ => 0))), (q3, .inl (G.2.1 0, 100, .inl (fun _ => 0)))]) H := hP
  have hD : va_D A ([(a, .inr (11, [.ref q1, .int 0, .int 0, .int 5, .int 1, .ref q2, .ref q3, .int 0, .int 0])), (q1, .inl (G.2.1 2, 100, .inl (fun _ => 0))), (q2, .inl (G.2.1 0, 100, .inl (fun _ => 0))), (q3, .inl (G.2.1 0, 100, .inl (fun _ => 0)))]) := hD
  refine lv_aload_n hx hb (fk_get fk_cX9_init_0 23 rfl) rfl (lv_at hl 0 rfl) ?_
  refine lv_iconst (v := 0) hx hb (fk_get fk_cX9_init_0 24 rfl) (by decide) ?_
  refine va_put (D := G.1) (ci := 11) (v := .int 0) (ty := .int) (C := RX9) (T := TX9) (N := 9) hx hb hT inX9 tyX9 tyX9_ok nmX9 hown hK hP hD hS 0 rfl rfl 7 (by decide) (hT _ m2_15) (fun _ h9 => h9) rfl (by decide +kernel) rfl rfl (Nat.le_of_ble_eq_true rfl) (fk_get fk_cX9_init_0 25 rfl) (fun H locs hP hD hS => ?_)
  have hP : va_P G.1 vwCl ([(a, .inr (11, [.ref q1, .int 0, .int 0, .int 5, .int 1, .ref q2, .ref q3, .int 0, .int 0])), (q1, .inl (G.2.1 2, 100, .inl (fun _ => 0))), (q2, .inl (G.2.1 0, 100, .inl (fun _ => 0))), (q3, .inl (G.2.1 0, 100, .inl (fun _ => 0)))]) H := hP
  have hD : va_D A ([(a, .inr (11, [.ref q1, .int 0, .int 0, .int 5, .int 1, .ref q2, .ref q3, .int 0, .int 0])), (q1, .inl (G.2.1 2, 100, .inl (fun _ => 0))), (q2, .inl (G.2.1 0, 100, .inl (fun _ => 0))), (q3, .inl (G.2.1 0, 100, .inl (fun _ => 0)))]) := hD
  refine lv_aload_n hx hb (fk_get fk_cX9_init_0 26 rfl) rfl (lv_at hl 0 rfl) ?_
  refine lv_iconst (v := 0) hx hb (fk_get fk_cX9_init_0 27 rfl) (by decide) ?_
  refine va_put (D := G.1) (ci := 11) (v := .int 0) (ty := .int) (C := RX9) (T := TX9) (N := 9) hx hb hT inX9 tyX9 tyX9_ok nmX9 hown hK hP hD hS 0 rfl rfl 8 (by decide) (hT _ m2_17) (fun _ h9 => h9) rfl (by decide +kernel) rfl rfl (Nat.le_of_ble_eq_true rfl) (fk_get fk_cX9_init_0 28 rfl) (fun H locs hP hD hS => ?_)
  have hP : va_P G.1 vwCl ([(a, .inr (11, [.ref q1, .int 0, .int 0, .int 5, .int 1, .ref q2, .ref q3, .int 0, .int 0])), (q1, .inl (G.2.1 2, 100, .inl (fun _ => 0))), (q2, .inl (G.2.1 0, 100, .inl (fun _ => 0))), (q3, .inl (G.2.1 0, 100, .inl (fun _ => 0)))]) H := hP
  have hD : va_D A ([(a, .inr (11, [.ref q1, .int 0, .int 0, .int 5, .int 1, .ref q2, .ref q3, .int 0, .int 0])), (q1, .inl (G.2.1 2, 100, .inl (fun _ => 0))), (q2, .inl (G.2.1 0, 100, .inl (fun _ => 0))), (q3, .inl (G.2.1 0, 100, .inl (fun _ => 0)))]) := hD
  refine W.widen (k := 3) (n := 300) (by omega) (by omega) ?_
  subst hQ
  exact W.vret hx hb hr (fun t_ ht_ hW_ => ⟨⟨(fun i => match i with | 0 => q1 | 1 => q2 | _ => q3), rfl, trivial, by rw [ht_]; exact hP, va_K.moved hW_.alike hK, hD⟩, hS.F ht_⟩) hS.2.2 (fk_get fk_cX9_init_0 29 rfl)
set_option maxHeartbeats 4000000 in
set_option maxRecDepth 100000 in
theorem c_i_acoll (l : Launch) (G : GG) (a : Nat) (sz : Nat) : Met l yJxa1e45_init_da8c8 (Cond.code yJxa1e45_init_da8c8 cJxa1e45_init_da8c8 1 none :: TBL) ({ frames := 2, cells := 0, slots := 0, locals := 64 } : Room) (PcW G ([(a, .inr (1, [.int 0, .null, .int 0]))]) sz [.ref a]) (va_Qv (fun u : Unit => True) (fun u t => BW G (va_A ([(a, .inr (1, [.int 0, .null, .int 0]))]) sz) ([(a, .inr (1, [.int 0, .null, .int 0]))]) t) (va_A ([(a, .inr (1, [.int 0, .null, .int 0]))]) sz)) 0 0 (va_A ([(a, .inr (1, [.int 0, .null, .int 0]))]) sz) := by
  refine va_MetF (cc := cJxa1e45_init_da8c8) (maxL := 1) (ret := none) (by decide +kernel) rfl ?_
  intro p e s m args below meth c₀ s₁ B hml hv
  obtain ⟨rfl, hsz, hP, hK, hD0⟩ := hv
  have hx := B.exec
  have hb := B.bytes
  have hr := B.returns
  have hT : ∀ w ∈ TBL, w.before ([.ref a] : List Value).toArray s = true := fun w h => atoms_spec (ws := Cond.code yJxa1e45_init_da8c8 cJxa1e45_init_da8c8 1 none :: TBL) B.pre w (List.mem_cons_of_mem _ h)
  have hown : s.vm.findClass "java/util/AbstractCollection" = some m.cls := findClass_of_methodNamed B.named
  have hlocks := B.notSynchronized
  have hin : meth.name = "<init>" := (name_of_methodNamed B.named B.method).1
  subst hsz
  have hD := hD0.self (sz := s.heap.size)
  generalize hAe : va_A ([(a, .inr (1, [.int 0, .null, .int 0]))]) s.heap.size = A at hD ⊢
  have hA : ∀ q : Nat, s.heap.size ≤ q → A q := fun q h => by rw [← hAe]; exact Or.inr h
  have hS : va_S A s.heap s.heap [] := va_S.rf
  have hP : va_P G.1 vwCl ([(a, .inr (1, [.int 0, .null, .int 0]))]) s.heap := hP
  have hl := lv_entry ([.ref a]) (n := 1) (Nat.le_of_ble_eq_true rfl)
  rw [lg_entry_eq]
  generalize (lg_sl ([.ref a]) ++ List.replicate (1 - (lg_sl ([.ref a])).length) Slot.unset).toArray = ls at hl ⊢
  have hl : lv_has ls 1 [(0, .ref a)] := hl
  refine W_abs (fun Q hQ => ?_)
  generalize ([.ref a] : List Value).toArray = args at hT hQ ⊢
  refine lv_aload_n hx hb (fk_get fk_cJxa1e45_init_da8c8_0 0 rfl) rfl (lv_at hl 0 rfl) ?_
  refine W.objInit hx hb hown (hT (.methodLink "java/util/AbstractCollection" 1 objectInit) m2_49) (hT (.instanceMethod objectInit) m1_36) (hT _ m1_37) rfl (by rw [hml]; exact hl.1) rfl (fk_get fk_cJxa1e45_init_da8c8_0 1 rfl) (Nat.le_of_ble_eq_true rfl) (Nat.le_of_ble_eq_true rfl) ?_
  refine W.eq (g2 := F0 m 4 ls []) rfl ?_
  refine W.widen (k := 0) (n := 0) (by omega) (by omega) ?_
  subst hQ
  exact W.vret hx hb hr (fun t_ ht_ hW_ => ⟨⟨(), rfl, trivial, by rw [ht_]; exact hP, va_K.moved hW_.alike hK, hD⟩, hS.F ht_⟩) hS.2.2 (fk_get fk_cJxa1e45_init_da8c8_0 2 rfl)
set_option maxHeartbeats 4000000 in
set_option maxRecDepth 100000 in
theorem c_i_alist (l : Launch) (G : GG) (a : Nat) (sz : Nat) : Met l yJxc12de_init_da8c8 (Cond.code yJxc12de_init_da8c8 cJxc12de_init_da8c8 1 none :: TBL) ({ frames := 3, cells := 0, slots := 0, locals := 88 } : Room) (PcW G ([(a, .inr (1, [.int 0, .null, .int 0]))]) sz [.ref a]) (va_Qv (fun u : Unit => True) (fun u t => BW G (va_A ([(a, .inr (1, [.int 0, .null, .int 0]))]) sz) ([(a, .inr (1, [.int 0, .null, .int 0]))]) t) (va_A ([(a, .inr (1, [.int 0, .null, .int 0]))]) sz)) 0 0 (va_A ([(a, .inr (1, [.int 0, .null, .int 0]))]) sz) := by
  refine va_MetF (cc := cJxc12de_init_da8c8) (maxL := 1) (ret := none) (by decide +kernel) rfl ?_
  intro p e s m args below meth c₀ s₁ B hml hv
  obtain ⟨rfl, hsz, hP, hK, hD0⟩ := hv
  have hx := B.exec
  have hb := B.bytes
  have hr := B.returns
  have hT : ∀ w ∈ TBL, w.before ([.ref a] : List Value).toArray s = true := fun w h => atoms_spec (ws := Cond.code yJxc12de_init_da8c8 cJxc12de_init_da8c8 1 none :: TBL) B.pre w (List.mem_cons_of_mem _ h)
  have hown : s.vm.findClass "java/util/AbstractList" = some m.cls := findClass_of_methodNamed B.named
  have hlocks := B.notSynchronized
  have hin : meth.name = "<init>" := (name_of_methodNamed B.named B.method).1
  subst hsz
  have hD := hD0.self (sz := s.heap.size)
  generalize hAe : va_A ([(a, .inr (1, [.int 0, .null, .int 0]))]) s.heap.size = A at hD ⊢
  have hA : ∀ q : Nat, s.heap.size ≤ q → A q := fun q h => by rw [← hAe]; exact Or.inr h
  have hS : va_S A s.heap s.heap [] := va_S.rf
  have hP : va_P G.1 vwCl ([(a, .inr (1, [.int 0, .null, .int 0]))]) s.heap := hP
  have hl := lv_entry ([.ref a]) (n := 1) (Nat.le_of_ble_eq_true rfl)
  rw [lg_entry_eq]
  generalize (lg_sl ([.ref a]) ++ List.replicate (1 - (lg_sl ([.ref a])).length) Slot.unset).toArray = ls at hl ⊢
  have hl : lv_has ls 1 [(0, .ref a)] := hl
  refine W_abs (fun Q hQ => ?_)
  generalize ([.ref a] : List Value).toArray = args at hT hQ ⊢
  refine lv_aload_n hx hb (fk_get fk_cJxc12de_init_da8c8_0 0 rfl) rfl (lv_at hl 0 rfl) ?_
  have hPc := hP.sub (ws' := [(a, .inr (1, [.int 0, .null, .int 0]))]) [0] rfl
  have hDc := hD.sub (ws' := [(a, .inr (1, [.int 0, .null, .int 0]))]) [0] rfl rfl
  have hfr := va_free (wc := [(a, .inr (1, [.int 0, .null, .int 0]))]) hD hS hA [0] rfl
  refine va_callv (va_runI (As := []) (rest := []) ⟨hx, hb, hml, hown, hT⟩ (c_i_acoll l G a  s.heap.size) (tI 0 hT m2_46 m2_47 m1_13 m2_48 rfl rfl rfl (by decide +kernel) ⟨Nat.le_of_ble_eq_true rfl, Nat.le_of_ble_eq_true rfl⟩) ⟨PcW_blind, PcW_of hPc hK hDc _⟩ rfl rfl hl.1 rfl (lv_room (Nat.le_of_ble_eq_true rfl)) (fk_get fk_cJxc12de_init_da8c8_0 1 rfl) ⟨(by show 0 + 0 ≤ 0; omega), (by show 0 + 0 ≤ 0; omega)⟩) hS (fun q _ h => hfr q h) hfr (fun u1 t_ H locs ht_ hvm_ hw_ hB_ hz_ hk_ hS => ?_)
  obtain ⟨hP1_, -, hD1_⟩ := hB_
  rw [ht_] at hP1_
  obtain ⟨hP, hD⟩ := va_join (wr := []) (w1 := [(a, .inr (1, [.int 0, .null, .int 0]))]) hP hD [0] [] rfl rfl rfl (by decide) hk_ hfr hP1_ hD1_
  have hP : va_P G.1 vwCl ([(a, .inr (1, [.int 0, .null, .int 0]))]) H := hP
  have hD : va_D A ([(a, .inr (1, [.int 0, .null, .int 0]))]) := hD
  refine lv_aload_n hx hb (fk_get fk_cJxc12de_init_da8c8_0 2 rfl) rfl (lv_at hl 0 rfl) ?_
  refine lv_iconst (v := 0) hx hb (fk_get fk_cJxc12de_init_da8c8_0 3 rfl) (by decide) ?_
  refine va_put (D := G.1) (ci := 1) (v := .int 0) (ty := .int) (C := RJx4a65c) (T := TJx4a65c) (N := 3) hx hb hT inJx4a65c tyJx4a65c tyJx4a65c_ok nmJx4a65c hown hK hP hD hS 0 rfl rfl 0 (by decide) (hT _ m2_54) (fun _ h9 => h9) rfl (by decide +kernel) rfl rfl (Nat.le_of_ble_eq_true rfl) (fk_get fk_cJxc12de_init_da8c8_0 4 rfl) (fun H locs hP hD hS => ?_)
  have hP : va_P G.1 vwCl ([(a, .inr (1, [.int 0, .null, .int 0]))]) H := hP
  have hD : va_D A ([(a, .inr (1, [.int 0, .null, .int 0]))]) := hD
  refine W.widen (k := 0) (n := 0) (by omega) (by omega) ?_
  subst hQ
  exact W.vret hx hb hr (fun t_ ht_ hW_ => ⟨⟨(), rfl, trivial, by rw [ht_]; exact hP, va_K.moved hW_.alike hK, hD⟩, hS.F ht_⟩) hS.2.2 (fk_get fk_cJxc12de_init_da8c8_0 5 rfl)
set_option maxHeartbeats 4000000 in
set_option maxRecDepth 100000 in
theorem c_i_list (l : Launch) (G : GG) (a : Nat) (sz : Nat) : Met l yJx4a65c_init_da8c8 (Cond.code yJx4a65c_init_da8c8 cJx4a65c_init_da8c8 1 none :: TBL) ({ frames := 4, cells := 0, slots := 0, locals := 112 } : Room) (PcE G ([(a, .inr (1, [.int 0, .null, .int 0]))]) sz [.ref a]) (va_Qv (fun u : Unit => True) (fun u t => BW G (va_A ([(a, .inr (1, [.int 0, .null, .int 0]))]) sz) ([(a, .inr (1, [.int 0, .ref G.2.2.1, .int 0]))]) t) (va_A ([(a, .inr (1, [.int 0, .null, .int 0]))]) sz)) 0 0 (va_A ([(a, .inr (1, [.int 0, .null, .int 0]))]) sz) := by
  refine va_MetF (cc := cJx4a65c_init_da8c8) (maxL := 1) (ret := none) (by decide +kernel) rfl ?_
  intro p e s m args below meth c₀ s₁ B hml hv
  obtain ⟨rfl, hsz, hP, hK, hD0, hE⟩ := hv
  have hx := B.exec
  have hb := B.bytes
  have hr := B.returns
  have hT : ∀ w ∈ TBL, w.before ([.ref a] : List Value).toArray s = true := fun w h => atoms_spec (ws := Cond.code yJx4a65c_init_da8c8 cJx4a65c_init_da8c8 1 none :: TBL) B.pre w (List.mem_cons_of_mem _ h)
  have hown : s.vm.findClass "java/util/ArrayList" = some m.cls := findClass_of_methodNamed B.named
  have hlocks := B.notSynchronized
  have hin : meth.name = "<init>" := (name_of_methodNamed B.named B.method).1
  subst hsz
  have hD := hD0.self (sz := s.heap.size)
  generalize hAe : va_A ([(a, .inr (1, [.int 0, .null, .int 0]))]) s.heap.size = A at hD hE ⊢
  have hA : ∀ q : Nat, s.heap.size ≤ q → A q := fun q h => by rw [← hAe]; exact Or.inr h
  have hS : va_S A s.heap s.heap [] := va_S.rf
  have hP : va_P G.1 vwCl ([(a, .inr (1, [.int 0, .null, .int 0]))]) s.heap := hP
  have hl := lv_entry ([.ref a]) (n := 1) (Nat.le_of_ble_eq_true rfl)
  rw [lg_entry_eq]
  generalize (lg_sl ([.ref a]) ++ List.replicate (1 - (lg_sl ([.ref a])).length) Slot.unset).toArray = ls at hl ⊢
  have hl : lv_has ls 1 [(0, .ref a)] := hl
  refine W_abs (fun Q hQ => ?_)
  generalize ([.ref a] : List Value).toArray = args at hT hQ ⊢
  refine lv_aload_n hx hb (fk_get fk_cJx4a65c_init_da8c8_0 0 rfl) rfl (lv_at hl 0 rfl) ?_
  have hPc := hP.sub (ws' := [(a, .inr (1, [.int 0, .null, .int 0]))]) [0] rfl
  have hDc := hD.sub (ws' := [(a, .inr (1, [.int 0, .null, .int 0]))]) [0] rfl rfl
  have hfr := va_free (wc := [(a, .inr (1, [.int 0, .null, .int 0]))]) hD hS hA [0] rfl
  refine va_callv (va_runI (As := []) (rest := []) ⟨hx, hb, hml, hown, hT⟩ (c_i_alist l G a  s.heap.size) (tI 0 hT m2_43 m2_44 m1_14 m2_45 rfl rfl rfl (by decide +kernel) ⟨Nat.le_of_ble_eq_true rfl, Nat.le_of_ble_eq_true rfl⟩) ⟨PcW_blind, PcW_of hPc hK hDc _⟩ rfl rfl hl.1 rfl (lv_room (Nat.le_of_ble_eq_true rfl)) (fk_get fk_cJx4a65c_init_da8c8_0 1 rfl) ⟨(by show 0 + 0 ≤ 0; omega), (by show 0 + 0 ≤ 0; omega)⟩) hS (fun q _ h => hfr q h) hfr (fun u1 t_ H locs ht_ hvm_ hw_ hB_ hz_ hk_ hS => ?_)
  obtain ⟨hP1_, -, hD1_⟩ := hB_
  rw [ht_] at hP1_
  obtain ⟨hP, hD⟩ := va_join (wr := []) (w1 := [(a, .inr (1, [.int 0, .null, .int 0]))]) hP hD [0] [] rfl rfl rfl (by decide) hk_ hfr hP1_ hD1_
  have hP : va_P G.1 vwCl ([(a, .inr (1, [.int 0, .null, .int 0]))]) H := hP
  have hD : va_D A ([(a, .inr (1, [.int 0, .null, .int 0]))]) := hD
  refine lv_aload_n hx hb (fk_get fk_cJx4a65c_init_da8c8_0 2 rfl) rfl (lv_at hl 0 rfl) ?_
  refine va_gets (v := .ref G.2.2.1) hx hb hE.1.1 hS hown (hT _ m2_50) (fun _ h9 => h9) (fk_get fk_cJx4a65c_init_da8c8_0 3 rfl) ?_
  refine va_put (D := G.1) (ci := 1) (v := .ref G.2.2.1) (ty := (.array (.object "java/lang/Object"))) (C := RJx4a65c) (T := TJx4a65c) (N := 3) hx hb hT inJx4a65c tyJx4a65c tyJx4a65c_ok nmJx4a65c hown hK hP hD hS 0 rfl rfl 1 (by decide) (hT _ m2_52) (fun _ h9 => h9) rfl (by decide +kernel) rfl rfl (Nat.le_of_ble_eq_true rfl) (fk_get fk_cJx4a65c_init_da8c8_0 4 rfl) (fun H locs hP hD hS => ?_)
  have hP : va_P G.1 vwCl ([(a, .inr (1, [.int 0, .ref G.2.2.1, .int 0]))]) H := hP
  have hD : va_D A ([(a, .inr (1, [.int 0, .ref G.2.2.1, .int 0]))]) := hD
  refine W.widen (k := 0) (n := 0) (by omega) (by omega) ?_
  subst hQ
  exact W.vret hx hb hr (fun t_ ht_ hW_ => ⟨⟨(), rfl, trivial, by rw [ht_]; exact hP, va_K.moved hW_.alike hK, hD⟩, hS.F ht_⟩) hS.2.2 (fk_get fk_cJx4a65c_init_da8c8_0 5 rfl)
