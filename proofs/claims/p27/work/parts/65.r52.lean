/-- what the class's constructors want beyond that -/
def AOS (U : State) : Prop := va_AO "LittleMore$Kind" U ∧ va_AO "LittleMore$Customer" U ∧ va_AOA .long U ∧ (∀ q, 0 < q → q < 7 → va_Nw (.castable (kn q) "LittleMore$Kind") U) ∧ va_Nw (.methodLinkNest "LittleMore" 55 ⟨"LittleMore$Text", "<init>", "()V"⟩ "LittleMore") U
theorem AOS.warm {s U : State} (hW : s.WarmedH U.vm) (h : AOS s) : AOS U := ⟨h.1.moved hW.alike, h.2.1.moved hW.alike, h.2.2.1.moved hW.alike, fun q a b => (h.2.2.2.1 q a b).warmC hW, h.2.2.2.2.warmM hW⟩
theorem AOS.same {s U : State} (hv : s.vm = U.vm) (h : AOS s) : AOS U := ⟨h.1.moved (by rw [hv]; exact Vm.Alike.refl _), h.2.1.moved (by rw [hv]; exact Vm.Alike.refl _), h.2.2.1.moved (by rw [hv]; exact Vm.Alike.refl _), fun q a b => (h.2.2.2.1 q a b).same rfl hv, h.2.2.2.2.same rfl hv⟩
/-- a method's start where it makes what the constructors make -/
def PcC (G : GG) (w : va_W) (sz : Nat) (as : List Value) : Array Value → State → Prop := va_Pc as (fun U => U.heap.size = sz ∧ va_P G.1 vwCl w U.heap ∧ va_K G.1 vwCl (TYS G) U ∧ va_D (fun _ => True) w ∧ EN G (va_A w sz) U U.heap ∧ AOS U)
theorem EN.blind {G : GG} {A : Nat → Prop} {U V : State} (hv : U.vm = V.vm) (hh : U.heap = V.heap) (h : EN G A U U.heap) : EN G A V V.heap := by
  obtain ⟨⟨h1, h2⟩, h3, h4, ⟨h5, h6, h7, h8⟩, ⟨h9, h10⟩, h11⟩ := h
  have hw : U.vm.Alike V.vm := hv ▸ Vm.Alike.refl U.vm
  rw [hh] at h1 h2 h3 h4 h5 h6 h7 h8 h9
  exact ⟨⟨h1.moved hw, h2.moved hw⟩, h3.moved hw, h4.moved hw, ⟨h5.moved hw, h6.moved hw, h7.moved hw, h8.moved hw⟩, ⟨h9.moved hw, fun i hi => (h10 i hi).same hv.symm⟩, h11.same hv⟩
theorem PcC_blind {G : GG} {w : va_W} {sz : Nat} {as : List Value} : FrameBlind (PcC G w sz as) := fun a U g mk q => by
  obtain ⟨q0, q1, q2, q3, q4, q5, q6⟩ := q
  exact ⟨q0, q1, q2, va_K.moved (Vm.Alike.refl U.vm) q3, q4, EN.blind (U := U) (V := U.calling g mk a) rfl rfl q5, q6.same rfl⟩
theorem PcC_of {G : GG} {w : va_W} {A A0 : Nat → Prop} {H : Heap} {s : State} {locs : List Loc} (hP : va_P G.1 vwCl w H) (hK : va_K G.1 vwCl (TYS G) s) (hD : va_D A0 w) (hE : EN G A s s.heap) (hO : AOS s) (hS : va_S A s.heap H locs) (hA : ∀ q, va_A w H.size q → A q) (as : List Value) : ∀ U : State, U.heap = H → s.WarmedH U.vm → PcC G w H.size as as.toArray U := fun U hU hW => ⟨rfl, by rw [hU], by rw [hU]; exact hP, va_K.moved hW.alike hK, hD.weaken (fun _ _ _ _ => trivial), hE.call hS hA hU hW, hO.warm hW⟩
set_option maxHeartbeats 4000000 in
set_option maxRecDepth 100000 in
theorem c_i5_Kind (l : Launch) (G : GG) (a : Nat) (n : Int32) (sz : Nat) : Met l yX5_init (Cond.code yX5_init cX5_init 2 none :: TBL) ({ frames := 2, cells := 0, slots := 0, locals := 64 } : Room) (PcW G ([(a, .inr (7, [.int 0]))]) sz [.ref a, .int n]) (va_Qv (fun u : Unit => True) (fun u t => BW G (va_A ([(a, .inr (7, [.int 0]))]) sz) ([(a, .inr (7, [.int n]))]) t) (va_A ([(a, .inr (7, [.int 0]))]) sz)) 0 0 (va_A ([(a, .inr (7, [.int 0]))]) sz) := by
  refine Met.ofW (cc := cX5_init) (maxL := 2) (ret := none) (by decide) rfl ?_
  intro p e s m args below meth c₀ s₁ B hml hv
  obtain ⟨rfl, hsz, hP, hK, hD0⟩ := hv
  have hx := B.exec
  have hb := B.bytes
  have hr := B.returns
  have hT : ∀ w ∈ TBL, w.before ([.ref a, .int n] : List Value).toArray s = true := fun w h => atoms_spec (ws := Cond.code yX5_init cX5_init 2 none :: TBL) B.pre w (List.mem_cons_of_mem _ h)
  have hown : s.vm.findClass "LittleMore$Kind" = some m.cls := findClass_of_methodNamed B.named
  have hlocks := B.notSynchronized
  have hin : meth.name = "<init>" := (name_of_methodNamed B.named B.method).1
  subst hsz
  have hD := hD0.self (sz := s.heap.size)
  generalize hAe : va_A ([(a, .inr (7, [.int 0]))]) s.heap.size = A at hD ⊢
  have hA : ∀ q : Nat, s.heap.size ≤ q → A q := fun q h => by rw [← hAe]; exact Or.inr h
  have hS : va_S A s.heap s.heap [] := va_S.rf
  have hP : va_P G.1 vwCl ([(a, .inr (7, [.int 0]))]) s.heap := hP
  have hl := lv_entry ([.ref a, .int n]) (n := 2) (Nat.le_of_ble_eq_true rfl)
  rw [lg_entry_eq]
  generalize (lg_sl ([.ref a, .int n]) ++ List.replicate (2 - (lg_sl ([.ref a, .int n])).length) Slot.unset).toArray = ls at hl ⊢
  have hl : lv_has ls 2 [(0, .ref a), (1, .int n)] := hl
  refine W_abs (fun Q hQ => ?_)
  generalize ([.ref a, .int n] : List Value).toArray = args at hT hQ ⊢
  refine lv_aload_n hx hb (fk_get fk_cX5_init_0 0 rfl) rfl (lv_at hl 0 rfl) ?_
  refine W.objInit hx hb hown (hT (.methodLink "LittleMore$Kind" 1 objectInit) m1_44) (hT (.instanceMethod objectInit) m1_36) (hT _ m1_37) rfl (by rw [hml]; exact hl.1) rfl (fk_get fk_cX5_init_0 1 rfl) (Nat.le_of_ble_eq_true rfl) (Nat.le_of_ble_eq_true rfl) ?_
  refine W.eq (g2 := F0 m 4 ls []) rfl ?_
  refine lv_aload_n hx hb (fk_get fk_cX5_init_0 2 rfl) rfl (lv_at hl 0 rfl) ?_
  refine lv_iload_n hx hb (fk_get fk_cX5_init_0 3 rfl) rfl (lv_at hl 1 rfl) ?_
  refine va_putF (D := G.1) (ci := 7) (v := .int n) (ty := .int) (C := RX5) (T := TX5) (N := 1) hx hb hT inX5 tyX5 tyX5_ok nmX5 hown hK hP hD hS 0 rfl rfl 0 (by decide) (hT _ m1_45) (fun _ h9 => h9) rfl hin rfl (by decide +kernel) rfl rfl (Nat.le_of_ble_eq_true rfl) (fk_get fk_cX5_init_0 4 rfl) (fun H locs hP hD hS => ?_)
  have hP : va_P G.1 vwCl ([(a, .inr (7, [.int n]))]) H := hP
  have hD : va_D A ([(a, .inr (7, [.int n]))]) := hD
  refine W.widen (k := 0) (n := 0) (by omega) (by omega) ?_
  subst hQ
  exact W.vret hx hb hr (fun t_ ht_ hW_ => ⟨⟨(), rfl, trivial, by rw [ht_]; exact hP, va_K.moved hW_.alike hK, hD⟩, hS.F ht_⟩) hS.2.2 (fk_get fk_cX5_init_0 5 rfl)
set_option maxHeartbeats 4000000 in
set_option maxRecDepth 100000 in
theorem c_i5_Strict (l : Launch) (G : GG) (a : Nat) (n : Int32) (sz : Nat) : Met l yX5_init (Cond.code yX5_init cX5_init 2 none :: TBL) ({ frames := 2, cells := 0, slots := 0, locals := 64 } : Room) (PcW G ([(a, .inr (10, [.int 0]))]) sz [.ref a, .int n]) (va_Qv (fun u : Unit => True) (fun u t => BW G (va_A ([(a, .inr (10, [.int 0]))]) sz) ([(a, .inr (10, [.int n]))]) t) (va_A ([(a, .inr (10, [.int 0]))]) sz)) 0 0 (va_A ([(a, .inr (10, [.int 0]))]) sz) := by
  refine Met.ofW (cc := cX5_init) (maxL := 2) (ret := none) (by decide) rfl ?_
  intro p e s m args below meth c₀ s₁ B hml hv
  obtain ⟨rfl, hsz, hP, hK, hD0⟩ := hv
  have hx := B.exec
  have hb := B.bytes
  have hr := B.returns
  have hT : ∀ w ∈ TBL, w.before ([.ref a, .int n] : List Value).toArray s = true := fun w h => atoms_spec (ws := Cond.code yX5_init cX5_init 2 none :: TBL) B.pre w (List.mem_cons_of_mem _ h)
  have hown : s.vm.findClass "LittleMore$Kind" = some m.cls := findClass_of_methodNamed B.named
  have hlocks := B.notSynchronized
  have hin : meth.name = "<init>" := (name_of_methodNamed B.named B.method).1
  subst hsz
  have hD := hD0.self (sz := s.heap.size)
  generalize hAe : va_A ([(a, .inr (10, [.int 0]))]) s.heap.size = A at hD ⊢
  have hA : ∀ q : Nat, s.heap.size ≤ q → A q := fun q h => by rw [← hAe]; exact Or.inr h
  have hS : va_S A s.heap s.heap [] := va_S.rf
  have hP : va_P G.1 vwCl ([(a, .inr (10, [.int 0]))]) s.heap := hP
  have hl := lv_entry ([.ref a, .int n]) (n := 2) (Nat.le_of_ble_eq_true rfl)
  rw [lg_entry_eq]
  generalize (lg_sl ([.ref a, .int n]) ++ List.replicate (2 - (lg_sl ([.ref a, .int n])).length) Slot.unset).toArray = ls at hl ⊢
  have hl : lv_has ls 2 [(0, .ref a), (1, .int n)] := hl
  refine W_abs (fun Q hQ => ?_)
  generalize ([.ref a, .int n] : List Value).toArray = args at hT hQ ⊢
  refine lv_aload_n hx hb (fk_get fk_cX5_init_0 0 rfl) rfl (lv_at hl 0 rfl) ?_
  refine W.objInit hx hb hown (hT (.methodLink "LittleMore$Kind" 1 objectInit) m1_44) (hT (.instanceMethod objectInit) m1_36) (hT _ m1_37) rfl (by rw [hml]; exact hl.1) rfl (fk_get fk_cX5_init_0 1 rfl) (Nat.le_of_ble_eq_true rfl) (Nat.le_of_ble_eq_true rfl) ?_
  refine W.eq (g2 := F0 m 4 ls []) rfl ?_
  refine lv_aload_n hx hb (fk_get fk_cX5_init_0 2 rfl) rfl (lv_at hl 0 rfl) ?_
  refine lv_iload_n hx hb (fk_get fk_cX5_init_0 3 rfl) rfl (lv_at hl 1 rfl) ?_
  refine va_putF (D := G.1) (ci := 10) (v := .int n) (ty := .int) (C := RX8) (T := TX8) (N := 1) hx hb hT inX8 tyX8 tyX8_ok nmX8 hown hK hP hD hS 0 rfl rfl 0 (by decide) (hT _ m1_45) (fun _ h9 => h9) rfl hin rfl (by decide +kernel) rfl rfl (Nat.le_of_ble_eq_true rfl) (fk_get fk_cX5_init_0 4 rfl) (fun H locs hP hD hS => ?_)
  have hP : va_P G.1 vwCl ([(a, .inr (10, [.int n]))]) H := hP
  have hD : va_D A ([(a, .inr (10, [.int n]))]) := hD
  refine W.widen (k := 0) (n := 0) (by omega) (by omega) ?_
  subst hQ
  exact W.vret hx hb hr (fun t_ ht_ hW_ => ⟨⟨(), rfl, trivial, by rw [ht_]; exact hP, va_K.moved hW_.alike hK, hD⟩, hS.F ht_⟩) hS.2.2 (fk_get fk_cX5_init_0 5 rfl)
set_option maxHeartbeats 4000000 in
set_option maxRecDepth 100000 in
theorem c_i5_Gentle (l : Launch) (G : GG) (a : Nat) (n : Int32) (sz : Nat) : Met l yX5_init (Cond.code yX5_init cX5_init 2 none :: TBL) ({ frames := 2, cells := 0, slots := 0, locals := 64 } : Room) (PcW G ([(a, .inr (6, [.int 0]))]) sz [.ref a, .int n]) (va_Qv (fun u : Unit => True) (fun u t => BW G (va_A ([(a, .inr (6, [.int 0]))]) sz) ([(a, .inr (6, [.int n]))]) t) (va_A ([(a, .inr (6, [.int 0]))]) sz)) 0 0 (va_A ([(a, .inr (6, [.int 0]))]) sz) := by
  refine Met.ofW (cc := cX5_init) (maxL := 2) (ret := none) (by decide) rfl ?_
  intro p e s m args below meth c₀ s₁ B hml hv
  obtain ⟨rfl, hsz, hP, hK, hD0⟩ := hv
  have hx := B.exec
  have hb := B.bytes
  have hr := B.returns
  have hT : ∀ w ∈ TBL, w.before ([.ref a, .int n] : List Value).toArray s = true := fun w h => atoms_spec (ws := Cond.code yX5_init cX5_init 2 none :: TBL) B.pre w (List.mem_cons_of_mem _ h)
  have hown : s.vm.findClass "LittleMore$Kind" = some m.cls := findClass_of_methodNamed B.named
  have hlocks := B.notSynchronized
  have hin : meth.name = "<init>" := (name_of_methodNamed B.named B.method).1
  subst hsz
  have hD := hD0.self (sz := s.heap.size)
  generalize hAe : va_A ([(a, .inr (6, [.int 0]))]) s.heap.size = A at hD ⊢
  have hA : ∀ q : Nat, s.heap.size ≤ q → A q := fun q h => by rw [← hAe]; exact Or.inr h
  have hS : va_S A s.heap s.heap [] := va_S.rf
  have hP : va_P G.1 vwCl ([(a, .inr (6, [.int 0]))]) s.heap := hP
  have hl := lv_entry ([.ref a, .int n]) (n := 2) (Nat.le_of_ble_eq_true rfl)
  rw [lg_entry_eq]
  generalize (lg_sl ([.ref a, .int n]) ++ List.replicate (2 - (lg_sl ([.ref a, .int n])).length) Slot.unset).toArray = ls at hl ⊢
  have hl : lv_has ls 2 [(0, .ref a), (1, .int n)] := hl
  refine W_abs (fun Q hQ => ?_)
  generalize ([.ref a, .int n] : List Value).toArray = args at hT hQ ⊢
  refine lv_aload_n hx hb (fk_get fk_cX5_init_0 0 rfl) rfl (lv_at hl 0 rfl) ?_
  refine W.objInit hx hb hown (hT (.methodLink "LittleMore$Kind" 1 objectInit) m1_44) (hT (.instanceMethod objectInit) m1_36) (hT _ m1_37) rfl (by rw [hml]; exact hl.1) rfl (fk_get fk_cX5_init_0 1 rfl) (Nat.le_of_ble_eq_true rfl) (Nat.le_of_ble_eq_true rfl) ?_
  refine W.eq (g2 := F0 m 4 ls []) rfl ?_
  refine lv_aload_n hx hb (fk_get fk_cX5_init_0 2 rfl) rfl (lv_at hl 0 rfl) ?_
  refine lv_iload_n hx hb (fk_get fk_cX5_init_0 3 rfl) rfl (lv_at hl 1 rfl) ?_
  refine va_putF (D := G.1) (ci := 6) (v := .int n) (ty := .int) (C := RX4) (T := TX4) (N := 1) hx hb hT inX4 tyX4 tyX4_ok nmX4 hown hK hP hD hS 0 rfl rfl 0 (by decide) (hT _ m1_45) (fun _ h9 => h9) rfl hin rfl (by decide +kernel) rfl rfl (Nat.le_of_ble_eq_true rfl) (fk_get fk_cX5_init_0 4 rfl) (fun H locs hP hD hS => ?_)
  have hP : va_P G.1 vwCl ([(a, .inr (6, [.int n]))]) H := hP
  have hD : va_D A ([(a, .inr (6, [.int n]))]) := hD
  refine W.widen (k := 0) (n := 0) (by omega) (by omega) ?_
  subst hQ
  exact W.vret hx hb hr (fun t_ ht_ hW_ => ⟨⟨(), rfl, trivial, by rw [ht_]; exact hP, va_K.moved hW_.alike hK, hD⟩, hS.F ht_⟩) hS.2.2 (fk_get fk_cX5_init_0 5 rfl)
set_option maxHeartbeats 4000000 in
set_option maxRecDepth 100000 in
theorem c_i5_Child (l : Launch) (G : GG) (a : Nat) (n : Int32) (sz : Nat) : Met l yX5_init (Cond.code yX5_init cX5_init 2 none :: TBL) ({ frames := 2, cells := 0, slots := 0, locals := 64 } : Room) (PcW G ([(a, .inr (2, [.int 0]))]) sz [.ref a, .int n]) (va_Qv (fun u : Unit => True) (fun u t => BW G (va_A ([(a, .inr (2, [.int 0]))]) sz) ([(a, .inr (2, [.int n]))]) t) (va_A ([(a, .inr (2, [.int 0]))]) sz)) 0 0 (va_A ([(a, .inr (2, [.int 0]))]) sz) := by
  refine Met.ofW (cc := cX5_init) (maxL := 2) (ret := none) (by decide) rfl ?_
  intro p e s m args below meth c₀ s₁ B hml hv
  obtain ⟨rfl, hsz, hP, hK, hD0⟩ := hv
  have hx := B.exec
  have hb := B.bytes
  have hr := B.returns
  have hT : ∀ w ∈ TBL, w.before ([.ref a, .int n] : List Value).toArray s = true := fun w h => atoms_spec (ws := Cond.code yX5_init cX5_init 2 none :: TBL) B.pre w (List.mem_cons_of_mem _ h)
  have hown : s.vm.findClass "LittleMore$Kind" = some m.cls := findClass_of_methodNamed B.named
  have hlocks := B.notSynchronized
  have hin : meth.name = "<init>" := (name_of_methodNamed B.named B.method).1
  subst hsz
  have hD := hD0.self (sz := s.heap.size)
  generalize hAe : va_A ([(a, .inr (2, [.int 0]))]) s.heap.size = A at hD ⊢
  have hA : ∀ q : Nat, s.heap.size ≤ q → A q := fun q h => by rw [← hAe]; exact Or.inr h
  have hS : va_S A s.heap s.heap [] := va_S.rf
  have hP : va_P G.1 vwCl ([(a, .inr (2, [.int 0]))]) s.heap := hP
  have hl := lv_entry ([.ref a, .int n]) (n := 2) (Nat.le_of_ble_eq_true rfl)
  rw [lg_entry_eq]
  generalize (lg_sl ([.ref a, .int n]) ++ List.replicate (2 - (lg_sl ([.ref a, .int n])).length) Slot.unset).toArray = ls at hl ⊢
  have hl : lv_has ls 2 [(0, .ref a), (1, .int n)] := hl
  refine W_abs (fun Q hQ => ?_)
  generalize ([.ref a, .int n] : List Value).toArray = args at hT hQ ⊢
  refine lv_aload_n hx hb (fk_get fk_cX5_init_0 0 rfl) rfl (lv_at hl 0 rfl) ?_
  refine W.objInit hx hb hown (hT (.methodLink "LittleMore$Kind" 1 objectInit) m1_44) (hT (.instanceMethod objectInit) m1_36) (hT _ m1_37) rfl (by rw [hml]; exact hl.1) rfl (fk_get fk_cX5_init_0 1 rfl) (Nat.le_of_ble_eq_true rfl) (Nat.le_of_ble_eq_true rfl) ?_
  refine W.eq (g2 := F0 m 4 ls []) rfl ?_
  refine lv_aload_n hx hb (fk_get fk_cX5_init_0 2 rfl) rfl (lv_at hl 0 rfl) ?_
  refine lv_iload_n hx hb (fk_get fk_cX5_init_0 3 rfl) rfl (lv_at hl 1 rfl) ?_
  refine va_putF (D := G.1) (ci := 2) (v := .int n) (ty := .int) (C := RX0) (T := TX0) (N := 1) hx hb hT inX0 tyX0 tyX0_ok nmX0 hown hK hP hD hS 0 rfl rfl 0 (by decide) (hT _ m1_45) (fun _ h9 => h9) rfl hin rfl (by decide +kernel) rfl rfl (Nat.le_of_ble_eq_true rfl) (fk_get fk_cX5_init_0 4 rfl) (fun H locs hP hD hS => ?_)
  have hP : va_P G.1 vwCl ([(a, .inr (2, [.int n]))]) H := hP
  have hD : va_D A ([(a, .inr (2, [.int n]))]) := hD
  refine W.widen (k := 0) (n := 0) (by omega) (by omega) ?_
  subst hQ
  exact W.vret hx hb hr (fun t_ ht_ hW_ => ⟨⟨(), rfl, trivial, by rw [ht_]; exact hP, va_K.moved hW_.alike hK, hD⟩, hS.F ht_⟩) hS.2.2 (fk_get fk_cX5_init_0 5 rfl)
set_option maxHeartbeats 4000000 in
set_option maxRecDepth 100000 in
theorem c_i5_Counting (l : Launch) (G : GG) (a : Nat) (n : Int32) (sz : Nat) : Met l yX5_init (Cond.code yX5_init cX5_init 2 none :: TBL) ({ frames := 2, cells := 0, slots := 0, locals := 64 } : Room) (PcW G ([(a, .inr (4, [.int 0]))]) sz [.ref a, .int n]) (va_Qv (fun u : Unit => True) (fun u t => BW G (va_A ([(a, .inr (4, [.int 0]))]) sz) ([(a, .inr (4, [.int n]))]) t) (va_A ([(a, .inr (4, [.int 0]))]) sz)) 0 0 (va_A ([(a, .inr (4, [.int 0]))]) sz) := by
  refine Met.ofW (cc := cX5_init) (maxL := 2) (ret := none) (by decide) rfl ?_
  intro p e s m args below meth c₀ s₁ B hml hv
  obtain ⟨rfl, hsz, hP, hK, hD0⟩ := hv
  have hx := B.exec
  have hb := B.bytes
  have hr := B.returns
  have hT : ∀ w ∈ TBL, w.before ([.ref a, .int n] : List Value).toArray s = true := fun w h => atoms_spec (ws := Cond.code yX5_init cX5_init 2 none :: TBL) B.pre w (List.mem_cons_of_mem _ h)
  have hown : s.vm.findClass "LittleMore$Kind" = some m.cls := findClass_of_methodNamed B.named
  have hlocks := B.notSynchronized
  have hin : meth.name = "<init>" := (name_of_methodNamed B.named B.method).1
  subst hsz
  have hD := hD0.self (sz := s.heap.size)
  generalize hAe : va_A ([(a, .inr (4, [.int 0]))]) s.heap.size = A at hD ⊢
  have hA : ∀ q : Nat, s.heap.size ≤ q → A q := fun q h => by rw [← hAe]; exact Or.inr h
  have hS : va_S A s.heap s.heap [] := va_S.rf
  have hP : va_P G.1 vwCl ([(a, .inr (4, [.int 0]))]) s.heap := hP
  have hl := lv_entry ([.ref a, .int n]) (n := 2) (Nat.le_of_ble_eq_true rfl)
  rw [lg_entry_eq]
  generalize (lg_sl ([.ref a, .int n]) ++ List.replicate (2 - (lg_sl ([.ref a, .int n])).length) Slot.unset).toArray = ls at hl ⊢
  have hl : lv_has ls 2 [(0, .ref a), (1, .int n)] := hl
  refine W_abs (fun Q hQ => ?_)
  generalize ([.ref a, .int n] : List Value).toArray = args at hT hQ ⊢
  refine lv_aload_n hx hb (fk_get fk_cX5_init_0 0 rfl) rfl (lv_at hl 0 rfl) ?_
  refine W.objInit hx hb hown (hT (.methodLink "LittleMore$Kind" 1 objectInit) m1_44) (hT (.instanceMethod objectInit) m1_36) (hT _ m1_37) rfl (by rw [hml]; exact hl.1) rfl (fk_get fk_cX5_init_0 1 rfl) (Nat.le_of_ble_eq_true rfl) (Nat.le_of_ble_eq_true rfl) ?_
  refine W.eq (g2 := F0 m 4 ls []) rfl ?_
  refine lv_aload_n hx hb (fk_get fk_cX5_init_0 2 rfl) rfl (lv_at hl 0 rfl) ?_
  refine lv_iload_n hx hb (fk_get fk_cX5_init_0 3 rfl) rfl (lv_at hl 1 rfl) ?_
  refine va_putF (D := G.1) (ci := 4) (v := .int n) (ty := .int) (C := RX2) (T := TX2) (N := 1) hx hb hT inX2 tyX2 tyX2_ok nmX2 hown hK hP hD hS 0 rfl rfl 0 (by decide) (hT _ m1_45) (fun _ h9 => h9) rfl hin rfl (by decide +kernel) rfl rfl (Nat.le_of_ble_eq_true rfl) (fk_get fk_cX5_init_0 4 rfl) (fun H locs hP hD hS => ?_)
  have hP : va_P G.1 vwCl ([(a, .inr (4, [.int n]))]) H := hP
  have hD : va_D A ([(a, .inr (4, [.int n]))]) := hD
  refine W.widen (k := 0) (n := 0) (by omega) (by omega) ?_
  subst hQ
  exact W.vret hx hb hr (fun t_ ht_ hW_ => ⟨⟨(), rfl, trivial, by rw [ht_]; exact hP, va_K.moved hW_.alike hK, hD⟩, hS.F ht_⟩) hS.2.2 (fk_get fk_cX5_init_0 5 rfl)
set_option maxHeartbeats 4000000 in
set_option maxRecDepth 100000 in
theorem c_i5_Leaving (l : Launch) (G : GG) (a : Nat) (n : Int32) (sz : Nat) : Met l yX5_init (Cond.code yX5_init cX5_init 2 none :: TBL) ({ frames := 2, cells := 0, slots := 0, locals := 64 } : Room) (PcW G ([(a, .inr (8, [.int 0]))]) sz [.ref a, .int n]) (va_Qv (fun u : Unit => True) (fun u t => BW G (va_A ([(a, .inr (8, [.int 0]))]) sz) ([(a, .inr (8, [.int n]))]) t) (va_A ([(a, .inr (8, [.int 0]))]) sz)) 0 0 (va_A ([(a, .inr (8, [.int 0]))]) sz) := by
  refine Met.ofW (cc := cX5_init) (maxL := 2) (ret := none) (by decide) rfl ?_
  intro p e s m args below meth c₀ s₁ B hml hv
  obtain ⟨rfl, hsz, hP, hK, hD0⟩ := hv
  have hx := B.exec
  have hb := B.bytes
  have hr := B.returns
  have hT : ∀ w ∈ TBL, w.before ([.ref a, .int n] : List Value).toArray s = true := fun w h => atoms_spec (ws := Cond.code yX5_init cX5_init 2 none :: TBL) B.pre w (List.mem_cons_of_mem _ h)
  have hown : s.vm.findClass "LittleMore$Kind" = some m.cls := findClass_of_methodNamed B.named
  have hlocks := B.notSynchronized
  have hin : meth.name = "<init>" := (name_of_methodNamed B.named B.method).1
  subst hsz
  have hD := hD0.self (sz := s.heap.size)
  generalize hAe : va_A ([(a, .inr (8, [.int 0]))]) s.heap.size = A at hD ⊢
  have hA : ∀ q : Nat, s.heap.size ≤ q → A q := fun q h => by rw [← hAe]; exact Or.inr h
  have hS : va_S A s.heap s.heap [] := va_S.rf
  have hP : va_P G.1 vwCl ([(a, .inr (8, [.int 0]))]) s.heap := hP
  have hl := lv_entry ([.ref a, .int n]) (n := 2) (Nat.le_of_ble_eq_true rfl)
  rw [lg_entry_eq]
  generalize (lg_sl ([.ref a, .int n]) ++ List.replicate (2 - (lg_sl ([.ref a, .int n])).length) Slot.unset).toArray = ls at hl ⊢
  have hl : lv_has ls 2 [(0, .ref a), (1, .int n)] := hl
  refine W_abs (fun Q hQ => ?_)
  generalize ([.ref a, .int n] : List Value).toArray = args at hT hQ ⊢
  refine lv_aload_n hx hb (fk_get fk_cX5_init_0 0 rfl) rfl (lv_at hl 0 rfl) ?_
  refine W.objInit hx hb hown (hT (.methodLink "LittleMore$Kind" 1 objectInit) m1_44) (hT (.instanceMethod objectInit) m1_36) (hT _ m1_37) rfl (by rw [hml]; exact hl.1) rfl (fk_get fk_cX5_init_0 1 rfl) (Nat.le_of_ble_eq_true rfl) (Nat.le_of_ble_eq_true rfl) ?_
  refine W.eq (g2 := F0 m 4 ls []) rfl ?_
  refine lv_aload_n hx hb (fk_get fk_cX5_init_0 2 rfl) rfl (lv_at hl 0 rfl) ?_
  refine lv_iload_n hx hb (fk_get fk_cX5_init_0 3 rfl) rfl (lv_at hl 1 rfl) ?_
  refine va_putF (D := G.1) (ci := 8) (v := .int n) (ty := .int) (C := RX6) (T := TX6) (N := 1) hx hb hT inX6 tyX6 tyX6_ok nmX6 hown hK hP hD hS 0 rfl rfl 0 (by decide) (hT _ m1_45) (fun _ h9 => h9) rfl hin rfl (by decide +kernel) rfl rfl (Nat.le_of_ble_eq_true rfl) (fk_get fk_cX5_init_0 4 rfl) (fun H locs hP hD hS => ?_)
  have hP : va_P G.1 vwCl ([(a, .inr (8, [.int n]))]) H := hP
  have hD : va_D A ([(a, .inr (8, [.int n]))]) := hD
  refine W.widen (k := 0) (n := 0) (by omega) (by omega) ?_
  subst hQ
  exact W.vret hx hb hr (fun t_ ht_ hW_ => ⟨⟨(), rfl, trivial, by rw [ht_]; exact hP, va_K.moved hW_.alike hK, hD⟩, hS.F ht_⟩) hS.2.2 (fk_get fk_cX5_init_0 5 rfl)
set_option maxHeartbeats 4000000 in
set_option maxRecDepth 100000 in
theorem c_i5_Told (l : Launch) (G : GG) (a : Nat) (n : Int32) (sz : Nat) : Met l yX5_init (Cond.code yX5_init cX5_init 2 none :: TBL) ({ frames := 2, cells := 0, slots := 0, locals := 64 } : Room) (PcW G ([(a, .inr (12, [.int 0]))]) sz [.ref a, .int n]) (va_Qv (fun u : Unit => True) (fun u t => BW G (va_A ([(a, .inr (12, [.int 0]))]) sz) ([(a, .inr (12, [.int n]))]) t) (va_A ([(a, .inr (12, [.int 0]))]) sz)) 0 0 (va_A ([(a, .inr (12, [.int 0]))]) sz) := by
  refine Met.ofW (cc := cX5_init) (maxL := 2) (ret := none) (by decide) rfl ?_
  intro p e s m args below meth c₀ s₁ B hml hv
  obtain ⟨rfl, hsz, hP, hK, hD0⟩ := hv
  have hx := B.exec
  have hb := B.bytes
  have hr := B.returns
  have hT : ∀ w ∈ TBL, w.before ([.ref a, .int n] : List Value).toArray s = true := fun w h => atoms_spec (ws := Cond.code yX5_init cX5_init 2 none :: TBL) B.pre w (List.mem_cons_of_mem _ h)
  have hown : s.vm.findClass "LittleMore$Kind" = some m.cls := findClass_of_methodNamed B.named
  have hlocks := B.notSynchronized
  have hin : meth.name = "<init>" := (name_of_methodNamed B.named B.method).1
  subst hsz
  have hD := hD0.self (sz := s.heap.size)
  generalize hAe : va_A ([(a, .inr (12, [.int 0]))]) s.heap.size = A at hD ⊢
  have hA : ∀ q : Nat, s.heap.size ≤ q → A q := fun q h => by rw [← hAe]; exact Or.inr h
  have hS : va_S A s.heap s.heap [] := va_S.rf
  have hP : va_P G.1 vwCl ([(a, .inr (12, [.int 0]))]) s.heap := hP
  have hl := lv_entry ([.ref a, .int n]) (n := 2) (Nat.le_of_ble_eq_true rfl)
  rw [lg_entry_eq]
  generalize (lg_sl ([.ref a, .int n]) ++ List.replicate (2 - (lg_sl ([.ref a, .int n])).length) Slot.unset).toArray = ls at hl ⊢
  have hl : lv_has ls 2 [(0, .ref a), (1, .int n)] := hl
  refine W_abs (fun Q hQ => ?_)
  generalize ([.ref a, .int n] : List Value).toArray = args at hT hQ ⊢
  refine lv_aload_n hx hb (fk_get fk_cX5_init_0 0 rfl) rfl (lv_at hl 0 rfl) ?_
  refine W.objInit hx hb hown (hT (.methodLink "LittleMore$Kind" 1 objectInit) m1_44) (hT (.instanceMethod objectInit) m1_36) (hT _ m1_37) rfl (by rw [hml]; exact hl.1) rfl (fk_get fk_cX5_init_0 1 rfl) (Nat.le_of_ble_eq_true rfl) (Nat.le_of_ble_eq_true rfl) ?_
  refine W.eq (g2 := F0 m 4 ls []) rfl ?_
  refine lv_aload_n hx hb (fk_get fk_cX5_init_0 2 rfl) rfl (lv_at hl 0 rfl) ?_
  refine lv_iload_n hx hb (fk_get fk_cX5_init_0 3 rfl) rfl (lv_at hl 1 rfl) ?_
  refine va_putF (D := G.1) (ci := 12) (v := .int n) (ty := .int) (C := RX10) (T := TX10) (N := 1) hx hb hT inX10 tyX10 tyX10_ok nmX10 hown hK hP hD hS 0 rfl rfl 0 (by decide) (hT _ m1_45) (fun _ h9 => h9) rfl hin rfl (by decide +kernel) rfl rfl (Nat.le_of_ble_eq_true rfl) (fk_get fk_cX5_init_0 4 rfl) (fun H locs hP hD hS => ?_)
  have hP : va_P G.1 vwCl ([(a, .inr (12, [.int n]))]) H := hP
  have hD : va_D A ([(a, .inr (12, [.int n]))]) := hD
  refine W.widen (k := 0) (n := 0) (by omega) (by omega) ?_
  subst hQ
  exact W.vret hx hb hr (fun t_ ht_ hW_ => ⟨⟨(), rfl, trivial, by rw [ht_]; exact hP, va_K.moved hW_.alike hK, hD⟩, hS.F ht_⟩) hS.2.2 (fk_get fk_cX5_init_0 5 rfl)
set_option maxHeartbeats 4000000 in
set_option maxRecDepth 100000 in
theorem c_i8_Strict (l : Launch) (G : GG) (a : Nat) (n : Int32) (sz : Nat) : Met l yX8_init (Cond.code yX8_init cX8_init 2 none :: TBL) ({ frames := 3, cells := 0, slots := 0, locals := 89 } : Room) (PcW G ([(a, .inr (10, [.int 0]))]) sz [.ref a, .int n]) (va_Qv (fun u : Unit => True) (fun u t => BW G (va_A ([(a, .inr (10, [.int 0]))]) sz) ([(a, .inr (10, [.int n]))]) t) (va_A ([(a, .inr (10, [.int 0]))]) sz)) 0 0 (va_A ([(a, .inr (10, [.int 0]))]) sz) := by
  refine Met.ofW (cc := cX8_init) (maxL := 2) (ret := none) (by decide) rfl ?_
  intro p e s m args below meth c₀ s₁ B hml hv
  obtain ⟨rfl, hsz, hP, hK, hD0⟩ := hv
  have hx := B.exec
  have hb := B.bytes
  have hr := B.returns
  have hT : ∀ w ∈ TBL, w.before ([.ref a, .int n] : List Value).toArray s = true := fun w h => atoms_spec (ws := Cond.code yX8_init cX8_init 2 none :: TBL) B.pre w (List.mem_cons_of_mem _ h)
  have hown : s.vm.findClass "LittleMore$Strict" = some m.cls := findClass_of_methodNamed B.named
  have hlocks := B.notSynchronized
  have hin : meth.name = "<init>" := (name_of_methodNamed B.named B.method).1
  subst hsz
  have hD := hD0.self (sz := s.heap.size)
  generalize hAe : va_A ([(a, .inr (10, [.int 0]))]) s.heap.size = A at hD ⊢
  have hA : ∀ q : Nat, s.heap.size ≤ q → A q := fun q h => by rw [← hAe]; exact Or.inr h
  have hS : va_S A s.heap s.heap [] := va_S.rf
  have hP : va_P G.1 vwCl ([(a, .inr (10, [.int 0]))]) s.heap := hP
  have hl := lv_entry ([.ref a, .int n]) (n := 2) (Nat.le_of_ble_eq_true rfl)
  rw [lg_entry_eq]
  generalize (lg_sl ([.ref a, .int n]) ++ List.replicate (2 - (lg_sl ([.ref a, .int n])).length) Slot.unset).toArray = ls at hl ⊢
  have hl : lv_has ls 2 [(0, .ref a), (1, .int n)] := hl
  refine W_abs (fun Q hQ => ?_)
  generalize ([.ref a, .int n] : List Value).toArray = args at hT hQ ⊢
  refine lv_aload_n hx hb (fk_get fk_cX8_init_0 0 rfl) rfl (lv_at hl 0 rfl) ?_
  refine lv_iload_n hx hb (fk_get fk_cX8_init_0 1 rfl) rfl (lv_at hl 1 rfl) ?_
  have hPc := hP.sub (ws' := [(a, .inr (10, [.int 0]))]) [0] rfl
  have hDc := hD.sub (ws' := [(a, .inr (10, [.int 0]))]) [0] rfl rfl
  have hfr := va_free (wc := [(a, .inr (10, [.int 0]))]) hD hS hA [0] rfl
  refine va_callv (va_runI (As := [.int n]) (rest := []) ⟨hx, hb, hml, hown, hT⟩ (c_i5_Strict l G a (n) s.heap.size) (tI 1 hT m1_56 m1_42 m1_2 m1_43 rfl rfl rfl (by decide +kernel) ⟨Nat.le_of_ble_eq_true rfl, Nat.le_of_ble_eq_true rfl⟩) ⟨PcW_blind, PcW_of hPc hK hDc _⟩ rfl rfl hl.1 rfl (lv_room (Nat.le_of_ble_eq_true rfl)) (fk_get fk_cX8_init_0 2 rfl) ⟨(by show 0 + 0 ≤ 0; omega), (by show 0 + 0 ≤ 0; omega)⟩) hS (fun q _ h => hfr q h) hfr (fun u1 t_ H locs ht_ hvm_ hw_ hB_ hz_ hk_ hS => ?_)
  obtain ⟨hP1_, -, hD1_⟩ := hB_
  rw [ht_] at hP1_
  obtain ⟨hP, hD⟩ := va_join (wr := []) (w1 := [(a, .inr (10, [.int (n)]))]) hP hD [0] [] rfl rfl rfl (by decide) hk_ hfr hP1_ hD1_
  have hP : va_P G.1 vwCl ([(a, .inr (10, [.int (n)]))]) H := hP
  have hD : va_D A ([(a, .inr (10, [.int (n)]))]) := hD
  refine W.widen (k := 0) (n := 0) (by omega) (by omega) ?_
  subst hQ
  exact W.vret hx hb hr (fun t_ ht_ hW_ => ⟨⟨(), rfl, trivial, by rw [ht_]; exact hP, va_K.moved hW_.alike hK, hD⟩, hS.F ht_⟩) hS.2.2 (fk_get fk_cX8_init_0 3 rfl)
set_option maxHeartbeats 4000000 in
set_option maxRecDepth 100000 in
theorem c_i8_Counting (l : Launch) (G : GG) (a : Nat) (n : Int32) (sz : Nat) : Met l yX8_init (Cond.code yX8_init cX8_init 2 none :: TBL) ({ frames := 3, cells := 0, slots := 0, locals := 89 } : Room) (PcW G ([(a, .inr (4, [.int 0]))]) sz [.ref a, .int n]) (va_Qv (fun u : Unit => True) (fun u t => BW G (va_A ([(a, .inr (4, [.int 0]))]) sz) ([(a, .inr (4, [.int n]))]) t) (va_A ([(a, .inr (4, [.int 0]))]) sz)) 0 0 (va_A ([(a, .inr (4, [.int 0]))]) sz) := by
  refine Met.ofW (cc := cX8_init) (maxL := 2) (ret := none) (by decide) rfl ?_
  intro p e s m args below meth c₀ s₁ B hml hv
  obtain ⟨rfl, hsz, hP, hK, hD0⟩ := hv
  have hx := B.exec
  have hb := B.bytes
  have hr := B.returns
  have hT : ∀ w ∈ TBL, w.before ([.ref a, .int n] : List Value).toArray s = true := fun w h => atoms_spec (ws := Cond.code yX8_init cX8_init 2 none :: TBL) B.pre w (List.mem_cons_of_mem _ h)
  have hown : s.vm.findClass "LittleMore$Strict" = some m.cls := findClass_of_methodNamed B.named
  have hlocks := B.notSynchronized
  have hin : meth.name = "<init>" := (name_of_methodNamed B.named B.method).1
  subst hsz
  have hD := hD0.self (sz := s.heap.size)
  generalize hAe : va_A ([(a, .inr (4, [.int 0]))]) s.heap.size = A at hD ⊢
  have hA : ∀ q : Nat, s.heap.size ≤ q → A q := fun q h => by rw [← hAe]; exact Or.inr h
  have hS : va_S A s.heap s.heap [] := va_S.rf
  have hP : va_P G.1 vwCl ([(a, .inr (4, [.int 0]))]) s.heap := hP
  have hl := lv_entry ([.ref a, .int n]) (n := 2) (Nat.le_of_ble_eq_true rfl)
  rw [lg_entry_eq]
  generalize (lg_sl ([.ref a, .int n]) ++ List.replicate (2 - (lg_sl ([.ref a, .int n])).length) Slot.unset).toArray = ls at hl ⊢
  have hl : lv_has ls 2 [(0, .ref a), (1, .int n)] := hl
  refine W_abs (fun Q hQ => ?_)
  generalize ([.ref a, .int n] : List Value).toArray = args at hT hQ ⊢
  refine lv_aload_n hx hb (fk_get fk_cX8_init_0 0 rfl) rfl (lv_at hl 0 rfl) ?_
  refine lv_iload_n hx hb (fk_get fk_cX8_init_0 1 rfl) rfl (lv_at hl 1 rfl) ?_
  have hPc := hP.sub (ws' := [(a, .inr (4, [.int 0]))]) [0] rfl
  have hDc := hD.sub (ws' := [(a, .inr (4, [.int 0]))]) [0] rfl rfl
  have hfr := va_free (wc := [(a, .inr (4, [.int 0]))]) hD hS hA [0] rfl
  refine va_callv (va_runI (As := [.int n]) (rest := []) ⟨hx, hb, hml, hown, hT⟩ (c_i5_Counting l G a (n) s.heap.size) (tI 1 hT m1_56 m1_42 m1_2 m1_43 rfl rfl rfl (by decide +kernel) ⟨Nat.le_of_ble_eq_true rfl, Nat.le_of_ble_eq_true rfl⟩) ⟨PcW_blind, PcW_of hPc hK hDc _⟩ rfl rfl hl.1 rfl (lv_room (Nat.le_of_ble_eq_true rfl)) (fk_get fk_cX8_init_0 2 rfl) ⟨(by show 0 + 0 ≤ 0; omega), (by show 0 + 0 ≤ 0; omega)⟩) hS (fun q _ h => hfr q h) hfr (fun u1 t_ H locs ht_ hvm_ hw_ hB_ hz_ hk_ hS => ?_)
  obtain ⟨hP1_, -, hD1_⟩ := hB_
  rw [ht_] at hP1_
  obtain ⟨hP, hD⟩ := va_join (wr := []) (w1 := [(a, .inr (4, [.int (n)]))]) hP hD [0] [] rfl rfl rfl (by decide) hk_ hfr hP1_ hD1_
  have hP : va_P G.1 vwCl ([(a, .inr (4, [.int (n)]))]) H := hP
  have hD : va_D A ([(a, .inr (4, [.int (n)]))]) := hD
  refine W.widen (k := 0) (n := 0) (by omega) (by omega) ?_
  subst hQ
  exact W.vret hx hb hr (fun t_ ht_ hW_ => ⟨⟨(), rfl, trivial, by rw [ht_]; exact hP, va_K.moved hW_.alike hK, hD⟩, hS.F ht_⟩) hS.2.2 (fk_get fk_cX8_init_0 3 rfl)
set_option maxHeartbeats 4000000 in
set_option maxRecDepth 100000 in
theorem c_i4_Gentle (l : Launch) (G : GG) (a : Nat) (n : Int32) (sz : Nat) : Met l yX4_init (Cond.code yX4_init cX4_init 2 none :: TBL) ({ frames := 3, cells := 0, slots := 0, locals := 89 } : Room) (PcW G ([(a, .inr (6, [.int 0]))]) sz [.ref a, .int n]) (va_Qv (fun u : Unit => True) (fun u t => BW G (va_A ([(a, .inr (6, [.int 0]))]) sz) ([(a, .inr (6, [.int n]))]) t) (va_A ([(a, .inr (6, [.int 0]))]) sz)) 0 0 (va_A ([(a, .inr (6, [.int 0]))]) sz) := by
  refine Met.ofW (cc := cX4_init) (maxL := 2) (ret := none) (by decide) rfl ?_
  intro p e s m args below meth c₀ s₁ B hml hv
  obtain ⟨rfl, hsz, hP, hK, hD0⟩ := hv
  have hx := B.exec
  have hb := B.bytes
  have hr := B.returns
  have hT : ∀ w ∈ TBL, w.before ([.ref a, .int n] : List Value).toArray s = true := fun w h => atoms_spec (ws := Cond.code yX4_init cX4_init 2 none :: TBL) B.pre w (List.mem_cons_of_mem _ h)
  have hown : s.vm.findClass "LittleMore$Gentle" = some m.cls := findClass_of_methodNamed B.named
  have hlocks := B.notSynchronized
  have hin : meth.name = "<init>" := (name_of_methodNamed B.named B.method).1
  subst hsz
  have hD := hD0.self (sz := s.heap.size)
  generalize hAe : va_A ([(a, .inr (6, [.int 0]))]) s.heap.size = A at hD ⊢
  have hA : ∀ q : Nat, s.heap.size ≤ q → A q := fun q h => by rw [← hAe]; exact Or.inr h
  have hS : va_S A s.heap s.heap [] := va_S.rf
  have hP : va_P G.1 vwCl ([(a, .inr (6, [.int 0]))]) s.heap := hP
  have hl := lv_entry ([.ref a, .int n]) (n := 2) (Nat.le_of_ble_eq_true rfl)
  rw [lg_entry_eq]
  generalize (lg_sl ([.ref a, .int n]) ++ List.replicate (2 - (lg_sl ([.ref a, .int n])).length) Slot.unset).toArray = ls at hl ⊢
  have hl : lv_has ls 2 [(0, .ref a), (1, .int n)] := hl
  refine W_abs (fun Q hQ => ?_)
  generalize ([.ref a, .int n] : List Value).toArray = args at hT hQ ⊢
  refine lv_aload_n hx hb (fk_get fk_cX4_init_0 0 rfl) rfl (lv_at hl 0 rfl) ?_
  refine lv_iload_n hx hb (fk_get fk_cX4_init_0 1 rfl) rfl (lv_at hl 1 rfl) ?_
  have hPc := hP.sub (ws' := [(a, .inr (6, [.int 0]))]) [0] rfl
  have hDc := hD.sub (ws' := [(a, .inr (6, [.int 0]))]) [0] rfl rfl
  have hfr := va_free (wc := [(a, .inr (6, [.int 0]))]) hD hS hA [0] rfl
  refine va_callv (va_runI (As := [.int n]) (rest := []) ⟨hx, hb, hml, hown, hT⟩ (c_i5_Gentle l G a (n) s.heap.size) (tI 1 hT m1_64 m1_42 m1_2 m1_43 rfl rfl rfl (by decide +kernel) ⟨Nat.le_of_ble_eq_true rfl, Nat.le_of_ble_eq_true rfl⟩) ⟨PcW_blind, PcW_of hPc hK hDc _⟩ rfl rfl hl.1 rfl (lv_room (Nat.le_of_ble_eq_true rfl)) (fk_get fk_cX4_init_0 2 rfl) ⟨(by show 0 + 0 ≤ 0; omega), (by show 0 + 0 ≤ 0; omega)⟩) hS (fun q _ h => hfr q h) hfr (fun u1 t_ H locs ht_ hvm_ hw_ hB_ hz_ hk_ hS => ?_)
  obtain ⟨hP1_, -, hD1_⟩ := hB_
  rw [ht_] at hP1_
  obtain ⟨hP, hD⟩ := va_join (wr := []) (w1 := [(a, .inr (6, [.int (n)]))]) hP hD [0] [] rfl rfl rfl (by decide) hk_ hfr hP1_ hD1_
  have hP : va_P G.1 vwCl ([(a, .inr (6, [.int (n)]))]) H := hP
  have hD : va_D A ([(a, .inr (6, [.int (n)]))]) := hD
  refine W.widen (k := 0) (n := 0) (by omega) (by omega) ?_
  subst hQ
  exact W.vret hx hb hr (fun t_ ht_ hW_ => ⟨⟨(), rfl, trivial, by rw [ht_]; exact hP, va_K.moved hW_.alike hK, hD⟩, hS.F ht_⟩) hS.2.2 (fk_get fk_cX4_init_0 3 rfl)
set_option maxHeartbeats 4000000 in
set_option maxRecDepth 100000 in
theorem c_i4_Leaving (l : Launch) (G : GG) (a : Nat) (n : Int32) (sz : Nat) : Met l yX4_init (Cond.code yX4_init cX4_init 2 none :: TBL) ({ frames := 3, cells := 0, slots := 0, locals := 89 } : Room) (PcW G ([(a, .inr (8, [.int 0]))]) sz [.ref a, .int n]) (va_Qv (fun u : Unit => True) (fun u t => BW G (va_A ([(a, .inr (8, [.int 0]))]) sz) ([(a, .inr (8, [.int n]))]) t) (va_A ([(a, .inr (8, [.int 0]))]) sz)) 0 0 (va_A ([(a, .inr (8, [.int 0]))]) sz) := by
  refine Met.ofW (cc := cX4_init) (maxL := 2) (ret := none) (by decide) rfl ?_
  intro p e s m args below meth c₀ s₁ B hml hv
  obtain ⟨rfl, hsz, hP, hK, hD0⟩ := hv
  have hx := B.exec
  have hb := B.bytes
  have hr := B.returns
  have hT : ∀ w ∈ TBL, w.before ([.ref a, .int n] : List Value).toArray s = true := fun w h => atoms_spec (ws := Cond.code yX4_init cX4_init 2 none :: TBL) B.pre w (List.mem_cons_of_mem _ h)
  have hown : s.vm.findClass "LittleMore$Gentle" = some m.cls := findClass_of_methodNamed B.named
  have hlocks := B.notSynchronized
  have hin : meth.name = "<init>" := (name_of_methodNamed B.named B.method).1
  subst hsz
  have hD := hD0.self (sz := s.heap.size)
  generalize hAe : va_A ([(a, .inr (8, [.int 0]))]) s.heap.size = A at hD ⊢
  have hA : ∀ q : Nat, s.heap.size ≤ q → A q := fun q h => by rw [← hAe]; exact Or.inr h
  have hS : va_S A s.heap s.heap [] := va_S.rf
  have hP : va_P G.1 vwCl ([(a, .inr (8, [.int 0]))]) s.heap := hP
  have hl := lv_entry ([.ref a, .int n]) (n := 2) (Nat.le_of_ble_eq_true rfl)
  rw [lg_entry_eq]
  generalize (lg_sl ([.ref a, .int n]) ++ List.replicate (2 - (lg_sl ([.ref a, .int n])).length) Slot.unset).toArray = ls at hl ⊢
  have hl : lv_has ls 2 [(0, .ref a), (1, .int n)] := hl
  refine W_abs (fun Q hQ => ?_)
  generalize ([.ref a, .int n] : List Value).toArray = args at hT hQ ⊢
  refine lv_aload_n hx hb (fk_get fk_cX4_init_0 0 rfl) rfl (lv_at hl 0 rfl) ?_
  refine lv_iload_n hx hb (fk_get fk_cX4_init_0 1 rfl) rfl (lv_at hl 1 rfl) ?_
  have hPc := hP.sub (ws' := [(a, .inr (8, [.int 0]))]) [0] rfl
  have hDc := hD.sub (ws' := [(a, .inr (8, [.int 0]))]) [0] rfl rfl
  have hfr := va_free (wc := [(a, .inr (8, [.int 0]))]) hD hS hA [0] rfl
  refine va_callv (va_runI (As := [.int n]) (rest := []) ⟨hx, hb, hml, hown, hT⟩ (c_i5_Leaving l G a (n) s.heap.size) (tI 1 hT m1_64 m1_42 m1_2 m1_43 rfl rfl rfl (by decide +kernel) ⟨Nat.le_of_ble_eq_true rfl, Nat.le_of_ble_eq_true rfl⟩) ⟨PcW_blind, PcW_of hPc hK hDc _⟩ rfl rfl hl.1 rfl (lv_room (Nat.le_of_ble_eq_true rfl)) (fk_get fk_cX4_init_0 2 rfl) ⟨(by show 0 + 0 ≤ 0; omega), (by show 0 + 0 ≤ 0; omega)⟩) hS (fun q _ h => hfr q h) hfr (fun u1 t_ H locs ht_ hvm_ hw_ hB_ hz_ hk_ hS => ?_)
  obtain ⟨hP1_, -, hD1_⟩ := hB_
  rw [ht_] at hP1_
  obtain ⟨hP, hD⟩ := va_join (wr := []) (w1 := [(a, .inr (8, [.int (n)]))]) hP hD [0] [] rfl rfl rfl (by decide) hk_ hfr hP1_ hD1_
  have hP : va_P G.1 vwCl ([(a, .inr (8, [.int (n)]))]) H := hP
  have hD : va_D A ([(a, .inr (8, [.int (n)]))]) := hD
  refine W.widen (k := 0) (n := 0) (by omega) (by omega) ?_
  subst hQ
  exact W.vret hx hb hr (fun t_ ht_ hW_ => ⟨⟨(), rfl, trivial, by rw [ht_]; exact hP, va_K.moved hW_.alike hK, hD⟩, hS.F ht_⟩) hS.2.2 (fk_get fk_cX4_init_0 3 rfl)
set_option maxHeartbeats 4000000 in
set_option maxRecDepth 100000 in
theorem c_i0_Child (l : Launch) (G : GG) (a : Nat) (n : Int32) (sz : Nat) : Met l yX0_init (Cond.code yX0_init cX0_init 2 none :: TBL) ({ frames := 3, cells := 0, slots := 0, locals := 89 } : Room) (PcW G ([(a, .inr (2, [.int 0]))]) sz [.ref a, .int n]) (va_Qv (fun u : Unit => True) (fun u t => BW G (va_A ([(a, .inr (2, [.int 0]))]) sz) ([(a, .inr (2, [.int n]))]) t) (va_A ([(a, .inr (2, [.int 0]))]) sz)) 0 0 (va_A ([(a, .inr (2, [.int 0]))]) sz) := by
  refine Met.ofW (cc := cX0_init) (maxL := 2) (ret := none) (by decide) rfl ?_
  intro p e s m args below meth c₀ s₁ B hml hv
  obtain ⟨rfl, hsz, hP, hK, hD0⟩ := hv
  have hx := B.exec
  have hb := B.bytes
  have hr := B.returns
  have hT : ∀ w ∈ TBL, w.before ([.ref a, .int n] : List Value).toArray s = true := fun w h => atoms_spec (ws := Cond.code yX0_init cX0_init 2 none :: TBL) B.pre w (List.mem_cons_of_mem _ h)
  have hown : s.vm.findClass "LittleMore$Child" = some m.cls := findClass_of_methodNamed B.named
  have hlocks := B.notSynchronized
  have hin : meth.name = "<init>" := (name_of_methodNamed B.named B.method).1
  subst hsz
  have hD := hD0.self (sz := s.heap.size)
  generalize hAe : va_A ([(a, .inr (2, [.int 0]))]) s.heap.size = A at hD ⊢
  have hA : ∀ q : Nat, s.heap.size ≤ q → A q := fun q h => by rw [← hAe]; exact Or.inr h
  have hS : va_S A s.heap s.heap [] := va_S.rf
  have hP : va_P G.1 vwCl ([(a, .inr (2, [.int 0]))]) s.heap := hP
  have hl := lv_entry ([.ref a, .int n]) (n := 2) (Nat.le_of_ble_eq_true rfl)
  rw [lg_entry_eq]
  generalize (lg_sl ([.ref a, .int n]) ++ List.replicate (2 - (lg_sl ([.ref a, .int n])).length) Slot.unset).toArray = ls at hl ⊢
  have hl : lv_has ls 2 [(0, .ref a), (1, .int n)] := hl
  refine W_abs (fun Q hQ => ?_)
  generalize ([.ref a, .int n] : List Value).toArray = args at hT hQ ⊢
  refine lv_aload_n hx hb (fk_get fk_cX0_init_0 0 rfl) rfl (lv_at hl 0 rfl) ?_
  refine lv_iload_n hx hb (fk_get fk_cX0_init_0 1 rfl) rfl (lv_at hl 1 rfl) ?_
  have hPc := hP.sub (ws' := [(a, .inr (2, [.int 0]))]) [0] rfl
  have hDc := hD.sub (ws' := [(a, .inr (2, [.int 0]))]) [0] rfl rfl
  have hfr := va_free (wc := [(a, .inr (2, [.int 0]))]) hD hS hA [0] rfl
  refine va_callv (va_runI (As := [.int n]) (rest := []) ⟨hx, hb, hml, hown, hT⟩ (c_i5_Child l G a (n) s.heap.size) (tI 1 hT m1_72 m1_42 m1_2 m1_43 rfl rfl rfl (by decide +kernel) ⟨Nat.le_of_ble_eq_true rfl, Nat.le_of_ble_eq_true rfl⟩) ⟨PcW_blind, PcW_of hPc hK hDc _⟩ rfl rfl hl.1 rfl (lv_room (Nat.le_of_ble_eq_true rfl)) (fk_get fk_cX0_init_0 2 rfl) ⟨(by show 0 + 0 ≤ 0; omega), (by show 0 + 0 ≤ 0; omega)⟩) hS (fun q _ h => hfr q h) hfr (fun u1 t_ H locs ht_ hvm_ hw_ hB_ hz_ hk_ hS => ?_)
  obtain ⟨hP1_, -, hD1_⟩ := hB_
  rw [ht_] at hP1_
  obtain ⟨hP, hD⟩ := va_join (wr := []) (w1 := [(a, .inr (2, [.int (n)]))]) hP hD [0] [] rfl rfl rfl (by decide) hk_ hfr hP1_ hD1_
  have hP : va_P G.1 vwCl ([(a, .inr (2, [.int (n)]))]) H := hP
  have hD : va_D A ([(a, .inr (2, [.int (n)]))]) := hD
  refine W.widen (k := 0) (n := 0) (by omega) (by omega) ?_
  subst hQ
  exact W.vret hx hb hr (fun t_ ht_ hW_ => ⟨⟨(), rfl, trivial, by rw [ht_]; exact hP, va_K.moved hW_.alike hK, hD⟩, hS.F ht_⟩) hS.2.2 (fk_get fk_cX0_init_0 3 rfl)
set_option maxHeartbeats 4000000 in
set_option maxRecDepth 100000 in
theorem c_i0_Told (l : Launch) (G : GG) (a : Nat) (n : Int32) (sz : Nat) : Met l yX0_init (Cond.code yX0_init cX0_init 2 none :: TBL) ({ frames := 3, cells := 0, slots := 0, locals := 89 } : Room) (PcW G ([(a, .inr (12, [.int 0]))]) sz [.ref a, .int n]) (va_Qv (fun u : Unit => True) (fun u t => BW G (va_A ([(a, .inr (12, [.int 0]))]) sz) ([(a, .inr (12, [.int n]))]) t) (va_A ([(a, .inr (12, [.int 0]))]) sz)) 0 0 (va_A ([(a, .inr (12, [.int 0]))]) sz) := by
  refine Met.ofW (cc := cX0_init) (maxL := 2) (ret := none) (by decide) rfl ?_
  intro p e s m args below meth c₀ s₁ B hml hv
  obtain ⟨rfl, hsz, hP, hK, hD0⟩ := hv
  have hx := B.exec
  have hb := B.bytes
  have hr := B.returns
  have hT : ∀ w ∈ TBL, w.before ([.ref a, .int n] : List Value).toArray s = true := fun w h => atoms_spec (ws := Cond.code yX0_init cX0_init 2 none :: TBL) B.pre w (List.mem_cons_of_mem _ h)
  have hown : s.vm.findClass "LittleMore$Child" = some m.cls := findClass_of_methodNamed B.named
  have hlocks := B.notSynchronized
  have hin : meth.name = "<init>" := (name_of_methodNamed B.named B.method).1
  subst hsz
  have hD := hD0.self (sz := s.heap.size)
  generalize hAe : va_A ([(a, .inr (12, [.int 0]))]) s.heap.size = A at hD ⊢
  have hA : ∀ q : Nat, s.heap.size ≤ q → A q := fun q h => by rw [← hAe]; exact Or.inr h
  have hS : va_S A s.heap s.heap [] := va_S.rf
  have hP : va_P G.1 vwCl ([(a, .inr (12, [.int 0]))]) s.heap := hP
  have hl := lv_entry ([.ref a, .int n]) (n := 2) (Nat.le_of_ble_eq_true rfl)
  rw [lg_entry_eq]
  generalize (lg_sl ([.ref a, .int n]) ++ List.replicate (2 - (lg_sl ([.ref a, .int n])).length) Slot.unset).toArray = ls at hl ⊢
  have hl : lv_has ls 2 [(0, .ref a), (1, .int n)] := hl
  refine W_abs (fun Q hQ => ?_)
  generalize ([.ref a, .int n] : List Value).toArray = args at hT hQ ⊢
  refine lv_aload_n hx hb (fk_get fk_cX0_init_0 0 rfl) rfl (lv_at hl 0 rfl) ?_
  refine lv_iload_n hx hb (fk_get fk_cX0_init_0 1 rfl) rfl (lv_at hl 1 rfl) ?_
  have hPc := hP.sub (ws' := [(a, .inr (12, [.int 0]))]) [0] rfl
  have hDc := hD.sub (ws' := [(a, .inr (12, [.int 0]))]) [0] rfl rfl
  have hfr := va_free (wc := [(a, .inr (12, [.int 0]))]) hD hS hA [0] rfl
  refine va_callv (va_runI (As := [.int n]) (rest := []) ⟨hx, hb, hml, hown, hT⟩ (c_i5_Told l G a (n) s.heap.size) (tI 1 hT m1_72 m1_42 m1_2 m1_43 rfl rfl rfl (by decide +kernel) ⟨Nat.le_of_ble_eq_true rfl, Nat.le_of_ble_eq_true rfl⟩) ⟨PcW_blind, PcW_of hPc hK hDc _⟩ rfl rfl hl.1 rfl (lv_room (Nat.le_of_ble_eq_true rfl)) (fk_get fk_cX0_init_0 2 rfl) ⟨(by show 0 + 0 ≤ 0; omega), (by show 0 + 0 ≤ 0; omega)⟩) hS (fun q _ h => hfr q h) hfr (fun u1 t_ H locs ht_ hvm_ hw_ hB_ hz_ hk_ hS => ?_)
  obtain ⟨hP1_, -, hD1_⟩ := hB_
  rw [ht_] at hP1_
  obtain ⟨hP, hD⟩ := va_join (wr := []) (w1 := [(a, .inr (12, [.int (n)]))]) hP hD [0] [] rfl rfl rfl (by decide) hk_ hfr hP1_ hD1_
  have hP : va_P G.1 vwCl ([(a, .inr (12, [.int (n)]))]) H := hP
  have hD : va_D A ([(a, .inr (12, [.int (n)]))]) := hD
  refine W.widen (k := 0) (n := 0) (by omega) (by omega) ?_
  subst hQ
  exact W.vret hx hb hr (fun t_ ht_ hW_ => ⟨⟨(), rfl, trivial, by rw [ht_]; exact hP, va_K.moved hW_.alike hK, hD⟩, hS.F ht_⟩) hS.2.2 (fk_get fk_cX0_init_0 3 rfl)
set_option maxHeartbeats 4000000 in
set_option maxRecDepth 100000 in
theorem c_i2_Counting (l : Launch) (G : GG) (a : Nat) (n : Int32) (sz : Nat) : Met l yX2_init (Cond.code yX2_init cX2_init 2 none :: TBL) ({ frames := 4, cells := 0, slots := 0, locals := 114 } : Room) (PcW G ([(a, .inr (4, [.int 0]))]) sz [.ref a, .int n]) (va_Qv (fun u : Unit => True) (fun u t => BW G (va_A ([(a, .inr (4, [.int 0]))]) sz) ([(a, .inr (4, [.int n]))]) t) (va_A ([(a, .inr (4, [.int 0]))]) sz)) 0 0 (va_A ([(a, .inr (4, [.int 0]))]) sz) := by
  refine Met.ofW (cc := cX2_init) (maxL := 2) (ret := none) (by decide) rfl ?_
  intro p e s m args below meth c₀ s₁ B hml hv
  obtain ⟨rfl, hsz, hP, hK, hD0⟩ := hv
  have hx := B.exec
  have hb := B.bytes
  have hr := B.returns
  have hT : ∀ w ∈ TBL, w.before ([.ref a, .int n] : List Value).toArray s = true := fun w h => atoms_spec (ws := Cond.code yX2_init cX2_init 2 none :: TBL) B.pre w (List.mem_cons_of_mem _ h)
  have hown : s.vm.findClass "LittleMore$Counting" = some m.cls := findClass_of_methodNamed B.named
  have hlocks := B.notSynchronized
  have hin : meth.name = "<init>" := (name_of_methodNamed B.named B.method).1
  subst hsz
  have hD := hD0.self (sz := s.heap.size)
  generalize hAe : va_A ([(a, .inr (4, [.int 0]))]) s.heap.size = A at hD ⊢
  have hA : ∀ q : Nat, s.heap.size ≤ q → A q := fun q h => by rw [← hAe]; exact Or.inr h
  have hS : va_S A s.heap s.heap [] := va_S.rf
  have hP : va_P G.1 vwCl ([(a, .inr (4, [.int 0]))]) s.heap := hP
  have hl := lv_entry ([.ref a, .int n]) (n := 2) (Nat.le_of_ble_eq_true rfl)
  rw [lg_entry_eq]
  generalize (lg_sl ([.ref a, .int n]) ++ List.replicate (2 - (lg_sl ([.ref a, .int n])).length) Slot.unset).toArray = ls at hl ⊢
  have hl : lv_has ls 2 [(0, .ref a), (1, .int n)] := hl
  refine W_abs (fun Q hQ => ?_)
  generalize ([.ref a, .int n] : List Value).toArray = args at hT hQ ⊢
  refine lv_aload_n hx hb (fk_get fk_cX2_init_0 0 rfl) rfl (lv_at hl 0 rfl) ?_
  refine lv_iload_n hx hb (fk_get fk_cX2_init_0 1 rfl) rfl (lv_at hl 1 rfl) ?_
  have hPc := hP.sub (ws' := [(a, .inr (4, [.int 0]))]) [0] rfl
  have hDc := hD.sub (ws' := [(a, .inr (4, [.int 0]))]) [0] rfl rfl
  have hfr := va_free (wc := [(a, .inr (4, [.int 0]))]) hD hS hA [0] rfl
  refine va_callv (va_runI (As := [.int n]) (rest := []) ⟨hx, hb, hml, hown, hT⟩ (c_i8_Counting l G a (n) s.heap.size) (tI 1 hT m1_80 m1_54 m1_3 m1_55 rfl rfl rfl (by decide +kernel) ⟨Nat.le_of_ble_eq_true rfl, Nat.le_of_ble_eq_true rfl⟩) ⟨PcW_blind, PcW_of hPc hK hDc _⟩ rfl rfl hl.1 rfl (lv_room (Nat.le_of_ble_eq_true rfl)) (fk_get fk_cX2_init_0 2 rfl) ⟨(by show 0 + 0 ≤ 0; omega), (by show 0 + 0 ≤ 0; omega)⟩) hS (fun q _ h => hfr q h) hfr (fun u1 t_ H locs ht_ hvm_ hw_ hB_ hz_ hk_ hS => ?_)
  obtain ⟨hP1_, -, hD1_⟩ := hB_
  rw [ht_] at hP1_
  obtain ⟨hP, hD⟩ := va_join (wr := []) (w1 := [(a, .inr (4, [.int (n)]))]) hP hD [0] [] rfl rfl rfl (by decide) hk_ hfr hP1_ hD1_
  have hP : va_P G.1 vwCl ([(a, .inr (4, [.int (n)]))]) H := hP
  have hD : va_D A ([(a, .inr (4, [.int (n)]))]) := hD
  refine W.widen (k := 0) (n := 0) (by omega) (by omega) ?_
  subst hQ
  exact W.vret hx hb hr (fun t_ ht_ hW_ => ⟨⟨(), rfl, trivial, by rw [ht_]; exact hP, va_K.moved hW_.alike hK, hD⟩, hS.F ht_⟩) hS.2.2 (fk_get fk_cX2_init_0 3 rfl)
set_option maxHeartbeats 4000000 in
set_option maxRecDepth 100000 in
theorem c_i6_Leaving (l : Launch) (G : GG) (a : Nat) (n : Int32) (sz : Nat) : Met l yX6_init (Cond.code yX6_init cX6_init 2 none :: TBL) ({ frames := 4, cells := 0, slots := 0, locals := 114 } : Room) (PcW G ([(a, .inr (8, [.int 0]))]) sz [.ref a, .int n]) (va_Qv (fun u : Unit => True) (fun u t => BW G (va_A ([(a, .inr (8, [.int 0]))]) sz) ([(a, .inr (8, [.int n]))]) t) (va_A ([(a, .inr (8, [.int 0]))]) sz)) 0 0 (va_A ([(a, .inr (8, [.int 0]))]) sz) := by
  refine Met.ofW (cc := cX6_init) (maxL := 2) (ret := none) (by decide) rfl ?_
  intro p e s m args below meth c₀ s₁ B hml hv
  obtain ⟨rfl, hsz, hP, hK, hD0⟩ := hv
  have hx := B.exec
  have hb := B.bytes
  have hr := B.returns
  have hT : ∀ w ∈ TBL, w.before ([.ref a, .int n] : List Value).toArray s = true := fun w h => atoms_spec (ws := Cond.code yX6_init cX6_init 2 none :: TBL) B.pre w (List.mem_cons_of_mem _ h)
  have hown : s.vm.findClass "LittleMore$Leaving" = some m.cls := findClass_of_methodNamed B.named
  have hlocks := B.notSynchronized
  have hin : meth.name = "<init>" := (name_of_methodNamed B.named B.method).1
  subst hsz
  have hD := hD0.self (sz := s.heap.size)
  generalize hAe : va_A ([(a, .inr (8, [.int 0]))]) s.heap.size = A at hD ⊢
  have hA : ∀ q : Nat, s.heap.size ≤ q → A q := fun q h => by rw [← hAe]; exact Or.inr h
  have hS : va_S A s.heap s.heap [] := va_S.rf
  have hP : va_P G.1 vwCl ([(a, .inr (8, [.int 0]))]) s.heap := hP
  have hl := lv_entry ([.ref a, .int n]) (n := 2) (Nat.le_of_ble_eq_true rfl)
  rw [lg_entry_eq]
  generalize (lg_sl ([.ref a, .int n]) ++ List.replicate (2 - (lg_sl ([.ref a, .int n])).length) Slot.unset).toArray = ls at hl ⊢
  have hl : lv_has ls 2 [(0, .ref a), (1, .int n)] := hl
  refine W_abs (fun Q hQ => ?_)
  generalize ([.ref a, .int n] : List Value).toArray = args at hT hQ ⊢
  refine lv_aload_n hx hb (fk_get fk_cX6_init_0 0 rfl) rfl (lv_at hl 0 rfl) ?_
  refine lv_iload_n hx hb (fk_get fk_cX6_init_0 1 rfl) rfl (lv_at hl 1 rfl) ?_
  have hPc := hP.sub (ws' := [(a, .inr (8, [.int 0]))]) [0] rfl
  have hDc := hD.sub (ws' := [(a, .inr (8, [.int 0]))]) [0] rfl rfl
  have hfr := va_free (wc := [(a, .inr (8, [.int 0]))]) hD hS hA [0] rfl
  refine va_callv (va_runI (As := [.int n]) (rest := []) ⟨hx, hb, hml, hown, hT⟩ (c_i4_Leaving l G a (n) s.heap.size) (tI 1 hT m1_88 m1_62 m1_4 m1_63 rfl rfl rfl (by decide +kernel) ⟨Nat.le_of_ble_eq_true rfl, Nat.le_of_ble_eq_true rfl⟩) ⟨PcW_blind, PcW_of hPc hK hDc _⟩ rfl rfl hl.1 rfl (lv_room (Nat.le_of_ble_eq_true rfl)) (fk_get fk_cX6_init_0 2 rfl) ⟨(by show 0 + 0 ≤ 0; omega), (by show 0 + 0 ≤ 0; omega)⟩) hS (fun q _ h => hfr q h) hfr (fun u1 t_ H locs ht_ hvm_ hw_ hB_ hz_ hk_ hS => ?_)
  obtain ⟨hP1_, -, hD1_⟩ := hB_
  rw [ht_] at hP1_
  obtain ⟨hP, hD⟩ := va_join (wr := []) (w1 := [(a, .inr (8, [.int (n)]))]) hP hD [0] [] rfl rfl rfl (by decide) hk_ hfr hP1_ hD1_
  have hP : va_P G.1 vwCl ([(a, .inr (8, [.int (n)]))]) H := hP
  have hD : va_D A ([(a, .inr (8, [.int (n)]))]) := hD
  refine W.widen (k := 0) (n := 0) (by omega) (by omega) ?_
  subst hQ
  exact W.vret hx hb hr (fun t_ ht_ hW_ => ⟨⟨(), rfl, trivial, by rw [ht_]; exact hP, va_K.moved hW_.alike hK, hD⟩, hS.F ht_⟩) hS.2.2 (fk_get fk_cX6_init_0 3 rfl)
set_option maxHeartbeats 4000000 in
set_option maxRecDepth 100000 in
theorem c_i10_Told (l : Launch) (G : GG) (a : Nat) (n : Int32) (sz : Nat) : Met l yX10_init (Cond.code yX10_init cX10_init 2 none :: TBL) ({ frames := 4, cells := 0, slots := 0, locals := 114 } : Room) (PcW G ([(a, .inr (12, [.int 0]))]) sz [.ref a, .int n]) (va_Qv (fun u : Unit => True) (fun u t => BW G (va_A ([(a, .inr (12, [.int 0]))]) sz) ([(a, .inr (12, [.int n]))]) t) (va_A ([(a, .inr (12, [.int 0]))]) sz)) 0 0 (va_A ([(a, .inr (12, [.int 0]))]) sz) := by
  refine Met.ofW (cc := cX10_init) (maxL := 2) (ret := none) (by decide) rfl ?_
  intro p e s m args below meth c₀ s₁ B hml hv
  obtain ⟨rfl, hsz, hP, hK, hD0⟩ := hv
  have hx := B.exec
  have hb := B.bytes
  have hr := B.returns
  have hT : ∀ w ∈ TBL, w.before ([.ref a, .int n] : List Value).toArray s = true := fun w h => atoms_spec (ws := Cond.code yX10_init cX10_init 2 none :: TBL) B.pre w (List.mem_cons_of_mem _ h)
  have hown : s.vm.findClass "LittleMore$Told" = some m.cls := findClass_of_methodNamed B.named
  have hlocks := B.notSynchronized
  have hin : meth.name = "<init>" := (name_of_methodNamed B.named B.method).1
  subst hsz
  have hD := hD0.self (sz := s.heap.size)
  generalize hAe : va_A ([(a, .inr (12, [.int 0]))]) s.heap.size = A at hD ⊢
  have hA : ∀ q : Nat, s.heap.size ≤ q → A q := fun q h => by rw [← hAe]; exact Or.inr h
  have hS : va_S A s.heap s.heap [] := va_S.rf
  have hP : va_P G.1 vwCl ([(a, .inr (12, [.int 0]))]) s.heap := hP
  have hl := lv_entry ([.ref a, .int n]) (n := 2) (Nat.le_of_ble_eq_true rfl)
  rw [lg_entry_eq]
  generalize (lg_sl ([.ref a, .int n]) ++ List.replicate (2 - (lg_sl ([.ref a, .int n])).length) Slot.unset).toArray = ls at hl ⊢
  have hl : lv_has ls 2 [(0, .ref a), (1, .int n)] := hl
  refine W_abs (fun Q hQ => ?_)
  generalize ([.ref a, .int n] : List Value).toArray = args at hT hQ ⊢
  refine lv_aload_n hx hb (fk_get fk_cX10_init_0 0 rfl) rfl (lv_at hl 0 rfl) ?_
  refine lv_iload_n hx hb (fk_get fk_cX10_init_0 1 rfl) rfl (lv_at hl 1 rfl) ?_
  have hPc := hP.sub (ws' := [(a, .inr (12, [.int 0]))]) [0] rfl
  have hDc := hD.sub (ws' := [(a, .inr (12, [.int 0]))]) [0] rfl rfl
  have hfr := va_free (wc := [(a, .inr (12, [.int 0]))]) hD hS hA [0] rfl
  refine va_callv (va_runI (As := [.int n]) (rest := []) ⟨hx, hb, hml, hown, hT⟩ (c_i0_Told l G a (n) s.heap.size) (tI 1 hT m1_96 m1_70 m1_5 m1_71 rfl rfl rfl (by decide +kernel) ⟨Nat.le_of_ble_eq_true rfl, Nat.le_of_ble_eq_true rfl⟩) ⟨PcW_blind, PcW_of hPc hK hDc _⟩ rfl rfl hl.1 rfl (lv_room (Nat.le_of_ble_eq_true rfl)) (fk_get fk_cX10_init_0 2 rfl) ⟨(by show 0 + 0 ≤ 0; omega), (by show 0 + 0 ≤ 0; omega)⟩) hS (fun q _ h => hfr q h) hfr (fun u1 t_ H locs ht_ hvm_ hw_ hB_ hz_ hk_ hS => ?_)
  obtain ⟨hP1_, -, hD1_⟩ := hB_
  rw [ht_] at hP1_
  obtain ⟨hP, hD⟩ := va_join (wr := []) (w1 := [(a, .inr (12, [.int (n)]))]) hP hD [0] [] rfl rfl rfl (by decide) hk_ hfr hP1_ hD1_
  have hP : va_P G.1 vwCl ([(a, .inr (12, [.int (n)]))]) H := hP
  have hD : va_D A ([(a, .inr (12, [.int (n)]))]) := hD
  refine W.widen (k := 0) (n := 0) (by omega) (by omega) ?_
  subst hQ
  exact W.vret hx hb hr (fun t_ ht_ hW_ => ⟨⟨(), rfl, trivial, by rw [ht_]; exact hP, va_K.moved hW_.alike hK, hD⟩, hS.F ht_⟩) hS.2.2 (fk_get fk_cX10_init_0 3 rfl)
