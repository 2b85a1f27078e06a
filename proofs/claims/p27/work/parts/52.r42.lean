set_option maxHeartbeats 800000 in
set_option maxRecDepth 100000 in
theorem c_jchk (l : Launch) (G : GG) (ad : Nat → Nat) (S : FS) (sz : Nat) (x y : Int32) (h0 : ¬ x < 0) (h1 : x < y) (hX : XI S) : Met l yJ0_checkIndex_df160 (Cond.code yJ0_checkIndex_df160 cJ0_checkIndex_df160 2 none :: TBL) ({ frames := 3, cells := 0, slots := 0, locals := 90 } : Room) (PcE G (wX G ad S) sz [.int (x), .int (y)]) (va_Sv (fun _ => True)) 0 0 (fun _ => False) := by
  refine va_MetF (cc := cJ0_checkIndex_df160) (maxL := 2) (ret := none) (by decide +kernel) rfl ?_
  intro p e s m args below meth c₀ s₁ B hml hv
  obtain ⟨rfl, hsz, hP, hK, hD0, hE⟩ := hv
  have hx := B.exec
  have hb := B.bytes
  have hr := B.returns
  have hT : ∀ w ∈ TBL, w.before ([.int (x), .int (y)] : List Value).toArray s = true := fun w h => atoms_spec (ws := Cond.code yJ0_checkIndex_df160 cJ0_checkIndex_df160 2 none :: TBL) B.pre w (List.mem_cons_of_mem _ h)
  have hown : s.vm.findClass "java/lang/String" = some m.cls := findClass_of_methodNamed B.named
  have hlocks := B.notSynchronized
  have hD := hD0
  subst hsz
  have hFc : ∀ q, va_A (wX G ad S) s.heap.size q → va_A (wX G ad S) s.heap.size q := fun _ h => h
  have hS : va_S (va_A (wX G ad S) s.heap.size) s.heap s.heap [] := va_S.rf
  have hP : va_P G.1 vwCl (wX G ad S) s.heap := hP
  have hl := lv_entry ([.int (x), .int (y)]) (n := 2) (Nat.le_of_ble_eq_true rfl)
  rw [lg_entry_eq]
  generalize (lg_sl ([.int (x), .int (y)]) ++ List.replicate (2 - (lg_sl ([.int (x), .int (y)])).length) Slot.unset).toArray = ls at hl ⊢
  have hl : lv_has ls 2 [(0, .int (x)), (1, .int (y))] := hl
  refine W_abs (fun Q hQ => ?_)
  generalize ([.int (x), .int (y)] : List Value).toArray = args at hT hQ ⊢
  refine lv_iload_n hx hb (fk_get fk_cJ0_checkIndex_df160_0 0 rfl) rfl (lv_at hl 0 rfl) ?_
  refine lv_iload_n hx hb (fk_get fk_cJ0_checkIndex_df160_0 1 rfl) rfl (lv_at hl 1 rfl) ?_
  rcases hE.2.2.1 with hz_2 | ⟨tz_2, hz_2⟩
  · refine va_gets (v := .null) hx hb hz_2 hS hown (hT _ m3_24) (fun _ h9 => h9) (fk_get fk_cJ0_checkIndex_df160_0 2 rfl) ?_
    refine vp_callSi (W.runS (As := [.int (x), .int (y), .null]) (rest := []) ⟨hx, hb, hml, hown, hT⟩ (c_jchkN l (x) (y) (by first | assumption | omega) (by first | assumption | omega)) (tS 3 hT m3_26 m3_27 m1_21 m3_28 rfl rfl (by decide +kernel) ⟨Nat.le_of_ble_eq_true rfl, Nat.le_of_ble_eq_true rfl⟩) ⟨PcN_blind, PcN_of _ _ _⟩ rfl rfl hl.1 rfl (lv_room (Nat.le_of_ble_eq_true rfl)) (fk_get fk_cJ0_checkIndex_df160_0 3 rfl) ⟨Nat.zero_le _, Nat.zero_le _⟩) (fun r_1 hw_2 => ?_)
    try dsimp only at hw_2
    refine lv_pop hx hb (fk_get fk_cJ0_checkIndex_df160_0 4 rfl) rfl ?_
    subst hQ
    exact W.vret hx hb hr (fun t_ ht_ hW_ => ⟨rfl, trivial, ht_⟩) (fun q h => by cases h) (fk_get fk_cJ0_checkIndex_df160_0 5 rfl)
  refine va_gets (v := .ref tz_2) hx hb hz_2 hS hown (hT _ m3_24) (fun _ h9 => h9) (fk_get fk_cJ0_checkIndex_df160_0 2 rfl) ?_
  refine vp_callSi (W.runS (As := [.int (x), .int (y), .ref (tz_2)]) (rest := []) ⟨hx, hb, hml, hown, hT⟩ (c_jchkR l (x) (y) (tz_2) (by first | assumption | omega) (by first | assumption | omega)) (tS 3 hT m3_26 m3_27 m1_21 m3_28 rfl rfl (by decide +kernel) ⟨Nat.le_of_ble_eq_true rfl, Nat.le_of_ble_eq_true rfl⟩) ⟨PcN_blind, PcN_of _ _ _⟩ rfl rfl hl.1 rfl (lv_room (Nat.le_of_ble_eq_true rfl)) (fk_get fk_cJ0_checkIndex_df160_0 3 rfl) ⟨Nat.zero_le _, Nat.zero_le _⟩) (fun r_3 hw_4 => ?_)
  try dsimp only at hw_4
  refine lv_pop hx hb (fk_get fk_cJ0_checkIndex_df160_0 4 rfl) rfl ?_
  subst hQ
  exact W.vret hx hb hr (fun t_ ht_ hW_ => ⟨rfl, trivial, ht_⟩) (fun q h => by cases h) (fk_get fk_cJ0_checkIndex_df160_0 5 rfl)
