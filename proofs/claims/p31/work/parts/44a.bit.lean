set_option maxHeartbeats 800000 in
set_option maxRecDepth 100000 in
theorem c_jbitCount (l : Launch) (v : Int32) : Met l yJ6_bitCount_0f7a4 (Cond.code yJ6_bitCount_0f7a4 cJ6_bitCount_0f7a4 1 (some .int) :: TBL) ({ frames := 2, cells := 0, slots := 0, locals := 64 } : Room) (PcN [.int (v)]) (vp_Si (fun (r : Int32) => True)) 0 0 (fun _ => False) := by
  refine va_MetF (cc := cJ6_bitCount_0f7a4) (maxL := 1) (ret := (some .int)) (by decide +kernel) rfl ?_
  intro p e s m args below meth c₀ s₁ B hml hv
  obtain ⟨rfl, -⟩ := hv
  have hx := B.exec
  have hb := B.bytes
  have hr := B.returns
  have hT : ∀ w ∈ TBL, w.before ([.int (v)] : List Value).toArray s = true := fun w h => atoms_spec (ws := Cond.code yJ6_bitCount_0f7a4 cJ6_bitCount_0f7a4 1 (some .int) :: TBL) B.pre w (List.mem_cons_of_mem _ h)
  have hown : s.vm.findClass "java/lang/Integer" = some m.cls := findClass_of_methodNamed B.named
  have hlocks := B.notSynchronized
  have hl := lv_entry ([.int (v)]) (n := 1) (Nat.le_of_ble_eq_true rfl)
  rw [lg_entry_eq]
  generalize (lg_sl ([.int (v)]) ++ List.replicate (1 - (lg_sl ([.int (v)])).length) Slot.unset).toArray = ls at hl ⊢
  have hl : lv_has ls 1 [(0, .int (v))] := hl
  refine W_abs (fun Q hQ => ?_)
  generalize ([.int (v)] : List Value).toArray = args at hT hQ ⊢
  refine lv_iload_n hx hb (fk_get fk_cJ6_bitCount_0f7a4_0 0 rfl) rfl (lv_at hl 0 rfl) ?_
  refine lv_iload_n hx hb (fk_get fk_cJ6_bitCount_0f7a4_0 1 rfl) rfl (lv_at hl 0 rfl) ?_
  refine lv_iconst (v := 1) hx hb (fk_get fk_cJ6_bitCount_0f7a4_0 2 rfl) (by decide) ?_
  refine lv_iushr (v := ((v : Int32).toUInt32 >>> ((1 : Int32).toUInt32 &&& Int32.toUInt32 31)).toInt32) hx hb (fk_get fk_cJ6_bitCount_0f7a4_0 3 rfl) rfl ?_
  generalize ((v : Int32).toUInt32 >>> ((1 : Int32).toUInt32 &&& Int32.toUInt32 31)).toInt32 = u_1
  refine lv_ldcw (v := 1431655765) hx hb hown (hT _ m4_73) (fk_get fk_cJ6_bitCount_0f7a4_0 4 rfl) ?_
  refine lv_iand hx hb (fk_get fk_cJ6_bitCount_0f7a4_0 5 rfl) ?_
  generalize (u_1 &&& 1431655765) = u_2
  refine lv_isub hx hb (fk_get fk_cJ6_bitCount_0f7a4_0 6 rfl) ?_
  generalize (v - u_2) = u_3
  refine lv_istore_n (lv' := [(0, .int (u_3))]) hx hb (fk_get fk_cJ6_bitCount_0f7a4_0 7 rfl) rfl hl (by decide) rfl (fun ls hl => ?_)
  refine lv_iload_n hx hb (fk_get fk_cJ6_bitCount_0f7a4_0 8 rfl) rfl (lv_at hl 0 rfl) ?_
  refine lv_ldcw (v := 858993459) hx hb hown (hT _ m4_74) (fk_get fk_cJ6_bitCount_0f7a4_0 9 rfl) ?_
  refine lv_iand hx hb (fk_get fk_cJ6_bitCount_0f7a4_0 10 rfl) ?_
  generalize (u_3 &&& 858993459) = u_4
  refine lv_iload_n hx hb (fk_get fk_cJ6_bitCount_0f7a4_0 11 rfl) rfl (lv_at hl 0 rfl) ?_
  refine lv_iconst (v := 2) hx hb (fk_get fk_cJ6_bitCount_0f7a4_0 12 rfl) (by decide) ?_
  refine lv_iushr (v := ((u_3 : Int32).toUInt32 >>> ((2 : Int32).toUInt32 &&& Int32.toUInt32 31)).toInt32) hx hb (fk_get fk_cJ6_bitCount_0f7a4_0 13 rfl) rfl ?_
  generalize ((u_3 : Int32).toUInt32 >>> ((2 : Int32).toUInt32 &&& Int32.toUInt32 31)).toInt32 = u_5
  refine lv_ldcw (v := 858993459) hx hb hown (hT _ m4_74) (fk_get fk_cJ6_bitCount_0f7a4_0 14 rfl) ?_
  refine lv_iand hx hb (fk_get fk_cJ6_bitCount_0f7a4_0 15 rfl) ?_
  generalize (u_5 &&& 858993459) = u_6
  refine lv_iadd hx hb (fk_get fk_cJ6_bitCount_0f7a4_0 16 rfl) ?_
  generalize (u_4 + u_6) = u_7
  refine lv_istore_n (lv' := [(0, .int (u_7))]) hx hb (fk_get fk_cJ6_bitCount_0f7a4_0 17 rfl) rfl hl (by decide) rfl (fun ls hl => ?_)
  refine lv_iload_n hx hb (fk_get fk_cJ6_bitCount_0f7a4_0 18 rfl) rfl (lv_at hl 0 rfl) ?_
  refine lv_iload_n hx hb (fk_get fk_cJ6_bitCount_0f7a4_0 19 rfl) rfl (lv_at hl 0 rfl) ?_
  refine lv_iconst (v := 4) hx hb (fk_get fk_cJ6_bitCount_0f7a4_0 20 rfl) (by decide) ?_
  refine lv_iushr (v := ((u_7 : Int32).toUInt32 >>> ((4 : Int32).toUInt32 &&& Int32.toUInt32 31)).toInt32) hx hb (fk_get fk_cJ6_bitCount_0f7a4_0 21 rfl) rfl ?_
  generalize ((u_7 : Int32).toUInt32 >>> ((4 : Int32).toUInt32 &&& Int32.toUInt32 31)).toInt32 = u_8
  refine lv_iadd hx hb (fk_get fk_cJ6_bitCount_0f7a4_0 22 rfl) ?_
  generalize (u_7 + u_8) = u_9
  refine lv_ldcw (v := 252645135) hx hb hown (hT _ m4_75) (fk_get fk_cJ6_bitCount_0f7a4_0 23 rfl) ?_
  refine lv_iand hx hb (fk_get fk_cJ6_bitCount_0f7a4_0 24 rfl) ?_
  generalize (u_9 &&& 252645135) = u_10
  refine lv_istore_n (lv' := [(0, .int (u_10))]) hx hb (fk_get fk_cJ6_bitCount_0f7a4_0 25 rfl) rfl hl (by decide) rfl (fun ls hl => ?_)
  refine lv_iload_n hx hb (fk_get fk_cJ6_bitCount_0f7a4_0 26 rfl) rfl (lv_at hl 0 rfl) ?_
  refine lv_iload_n hx hb (fk_get fk_cJ6_bitCount_0f7a4_0 27 rfl) rfl (lv_at hl 0 rfl) ?_
  refine lv_bipush (v := 8) hx hb (fk_get fk_cJ6_bitCount_0f7a4_0 28 rfl) (by decide) ?_
  refine lv_iushr (v := ((u_10 : Int32).toUInt32 >>> ((8 : Int32).toUInt32 &&& Int32.toUInt32 31)).toInt32) hx hb (fk_get fk_cJ6_bitCount_0f7a4_0 29 rfl) rfl ?_
  generalize ((u_10 : Int32).toUInt32 >>> ((8 : Int32).toUInt32 &&& Int32.toUInt32 31)).toInt32 = u_11
  refine lv_iadd hx hb (fk_get fk_cJ6_bitCount_0f7a4_0 30 rfl) ?_
  generalize (u_10 + u_11) = u_12
  refine lv_istore_n (lv' := [(0, .int (u_12))]) hx hb (fk_get fk_cJ6_bitCount_0f7a4_0 31 rfl) rfl hl (by decide) rfl (fun ls hl => ?_)
  refine lv_iload_n hx hb (fk_get fk_cJ6_bitCount_0f7a4_1 0 rfl) rfl (lv_at hl 0 rfl) ?_
  refine lv_iload_n hx hb (fk_get fk_cJ6_bitCount_0f7a4_1 1 rfl) rfl (lv_at hl 0 rfl) ?_
  refine lv_bipush (v := 16) hx hb (fk_get fk_cJ6_bitCount_0f7a4_1 2 rfl) (by decide) ?_
  refine lv_iushr (v := ((u_12 : Int32).toUInt32 >>> ((16 : Int32).toUInt32 &&& Int32.toUInt32 31)).toInt32) hx hb (fk_get fk_cJ6_bitCount_0f7a4_1 3 rfl) rfl ?_
  generalize ((u_12 : Int32).toUInt32 >>> ((16 : Int32).toUInt32 &&& Int32.toUInt32 31)).toInt32 = u_13
  refine lv_iadd hx hb (fk_get fk_cJ6_bitCount_0f7a4_1 4 rfl) ?_
  generalize (u_12 + u_13) = u_14
  refine lv_istore_n (lv' := [(0, .int (u_14))]) hx hb (fk_get fk_cJ6_bitCount_0f7a4_1 5 rfl) rfl hl (by decide) rfl (fun ls hl => ?_)
  refine lv_iload_n hx hb (fk_get fk_cJ6_bitCount_0f7a4_1 6 rfl) rfl (lv_at hl 0 rfl) ?_
  refine lv_bipush (v := 63) hx hb (fk_get fk_cJ6_bitCount_0f7a4_1 7 rfl) (by decide) ?_
  refine lv_iand hx hb (fk_get fk_cJ6_bitCount_0f7a4_1 8 rfl) ?_
  generalize (u_14 &&& 63) = u_15
  subst hQ
  have hpost : True := by
    trivial
  exact W.iret (v := u_15) hx hb hr (fun t_ ht_ hW_ => ⟨u_15, rfl, hpost, ht_⟩) (fun q h => by cases h) (fk_get fk_cJ6_bitCount_0f7a4_1 9 rfl)
