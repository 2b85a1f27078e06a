def nrx (v : Int64) (sort : Int32) : Int64 := if sort = 0 then v.toInt32.toInt8.toInt32.toInt64 else if sort = 1 then v.toInt32.toInt16.toInt32.toInt64 else if sort = 2 then v.toInt32.toInt64 else if sort = 4 then (if v = 0 then 0 else 1) else v
set_option maxHeartbeats 800000 in
set_option maxRecDepth 100000 in
theorem c_xisOutside (l : Launch) (v lo hi : Int32) : Met l yX11_isOutside (Cond.code yX11_isOutside cX11_isOutside 3 (some .boolean) :: TBL) ({ frames := 2, cells := 0, slots := 0, locals := 64 } : Room) (PcN [.int (v), .int (lo), .int (hi)]) (vp_Si (fun (r : Int32) => r = if v < lo ∨ hi < v then 1 else 0)) 0 0 (fun _ => False) := by
  refine Met.ofW (cc := cX11_isOutside) (maxL := 3) (ret := (some .boolean)) (by decide) rfl ?_
  intro p e s m args below meth c₀ s₁ B hml hv
  obtain ⟨rfl, -⟩ := hv
  have hx := B.exec
  have hb := B.bytes
  have hr := B.returns
  have hT : ∀ w ∈ TBL, w.before ([.int (v), .int (lo), .int (hi)] : List Value).toArray s = true := fun w h => atoms_spec (ws := Cond.code yX11_isOutside cX11_isOutside 3 (some .boolean) :: TBL) B.pre w (List.mem_cons_of_mem _ h)
  have hown : s.vm.findClass "LittleMore" = some m.cls := findClass_of_methodNamed B.named
  have hlocks := B.notSynchronized
  have hl := lv_entry ([.int (v), .int (lo), .int (hi)]) (n := 3) (Nat.le_of_ble_eq_true rfl)
  rw [lg_entry_eq]
  generalize (lg_sl ([.int (v), .int (lo), .int (hi)]) ++ List.replicate (3 - (lg_sl ([.int (v), .int (lo), .int (hi)])).length) Slot.unset).toArray = ls at hl ⊢
  have hl : lv_has ls 3 [(0, .int (v)), (1, .int (lo)), (2, .int (hi))] := hl
  refine W_abs (fun Q hQ => ?_)
  generalize ([.int (v), .int (lo), .int (hi)] : List Value).toArray = args at hT hQ ⊢
  refine lv_iload_n hx hb (fk_get fk_cX11_isOutside_0 0 rfl) rfl (lv_at hl 0 rfl) ?_
  refine lv_iload_n hx hb (fk_get fk_cX11_isOutside_0 1 rfl) rfl (lv_at hl 1 rfl) ?_
  refine lv_icmp_lt (tgt := 10) hx hb (fk_get fk_cX11_isOutside_0 2 rfl) (by decide) (fun c_1 => ?_) (fun c_1 => ?_)
  · refine lv_iconst (v := 1) hx hb (fk_get fk_cX11_isOutside_0 6 rfl) (by decide) ?_
    refine lv_goto (tgt := 15) hx hb (fk_get fk_cX11_isOutside_0 7 rfl) (by decide) ?_
    subst hQ
    have hpost : (1 : Int32) = if v < lo ∨ hi < v then 1 else 0 := by
      first | exact is1_t (Or.inl (by assumption)) | exact is1_t (Or.inr (Int32.not_le.mp (by assumption))) | exact is1_f (fun q => q.elim (fun z => absurd z (by assumption)) (fun z => absurd (show v ≤ hi by assumption) (Int32.not_le.mpr z)))
    exact W.zret (v := 1) hx hb hr rfl (fun t_ ht_ hW_ => ⟨1, rfl, hpost, ht_⟩) (fun q h => by cases h) (fk_get fk_cX11_isOutside_0 9 rfl)
  refine lv_iload_n hx hb (fk_get fk_cX11_isOutside_0 3 rfl) rfl (lv_at hl 0 rfl) ?_
  refine lv_iload_n hx hb (fk_get fk_cX11_isOutside_0 4 rfl) rfl (lv_at hl 2 rfl) ?_
  refine lv_icmp_le (tgt := 14) hx hb (fk_get fk_cX11_isOutside_0 5 rfl) (by decide) (fun c_2 => ?_) (fun c_2 => ?_)
  · refine lv_iconst (v := 0) hx hb (fk_get fk_cX11_isOutside_0 8 rfl) (by decide) ?_
    subst hQ
    have hpost : (0 : Int32) = if v < lo ∨ hi < v then 1 else 0 := by
      first | exact is1_t (Or.inl (by assumption)) | exact is1_t (Or.inr (Int32.not_le.mp (by assumption))) | exact is1_f (fun q => q.elim (fun z => absurd z (by assumption)) (fun z => absurd (show v ≤ hi by assumption) (Int32.not_le.mpr z)))
    exact W.zret (v := 0) hx hb hr rfl (fun t_ ht_ hW_ => ⟨0, rfl, hpost, ht_⟩) (fun q h => by cases h) (fk_get fk_cX11_isOutside_0 9 rfl)
  refine lv_iconst (v := 1) hx hb (fk_get fk_cX11_isOutside_0 6 rfl) (by decide) ?_
  refine lv_goto (tgt := 15) hx hb (fk_get fk_cX11_isOutside_0 7 rfl) (by decide) ?_
  subst hQ
  have hpost : (1 : Int32) = if v < lo ∨ hi < v then 1 else 0 := by
    first | exact is1_t (Or.inl (by assumption)) | exact is1_t (Or.inr (Int32.not_le.mp (by assumption))) | exact is1_f (fun q => q.elim (fun z => absurd z (by assumption)) (fun z => absurd (show v ≤ hi by assumption) (Int32.not_le.mpr z)))
  exact W.zret (v := 1) hx hb hr rfl (fun t_ ht_ hW_ => ⟨1, rfl, hpost, ht_⟩) (fun q h => by cases h) (fk_get fk_cX11_isOutside_0 9 rfl)
set_option maxHeartbeats 800000 in
set_option maxRecDepth 100000 in
theorem c_xisNoTape (l : Launch) (t : Int32) : Met l yX11_isNoTape (Cond.code yX11_isNoTape cX11_isNoTape 1 (some .boolean) :: TBL) ({ frames := 2, cells := 0, slots := 0, locals := 64 } : Room) (PcN [.int (t)]) (vp_Si (fun (r : Int32) => r = if t < 0 ∨ 6 ≤ t then 1 else 0)) 0 0 (fun _ => False) := by
  refine Met.ofW (cc := cX11_isNoTape) (maxL := 1) (ret := (some .boolean)) (by decide) rfl ?_
  intro p e s m args below meth c₀ s₁ B hml hv
  obtain ⟨rfl, -⟩ := hv
  have hx := B.exec
  have hb := B.bytes
  have hr := B.returns
  have hT : ∀ w ∈ TBL, w.before ([.int (t)] : List Value).toArray s = true := fun w h => atoms_spec (ws := Cond.code yX11_isNoTape cX11_isNoTape 1 (some .boolean) :: TBL) B.pre w (List.mem_cons_of_mem _ h)
  have hown : s.vm.findClass "LittleMore" = some m.cls := findClass_of_methodNamed B.named
  have hlocks := B.notSynchronized
  have hl := lv_entry ([.int (t)]) (n := 1) (Nat.le_of_ble_eq_true rfl)
  rw [lg_entry_eq]
  generalize (lg_sl ([.int (t)]) ++ List.replicate (1 - (lg_sl ([.int (t)])).length) Slot.unset).toArray = ls at hl ⊢
  have hl : lv_has ls 1 [(0, .int (t))] := hl
  refine W_abs (fun Q hQ => ?_)
  generalize ([.int (t)] : List Value).toArray = args at hT hQ ⊢
  refine lv_iload_n hx hb (fk_get fk_cX11_isNoTape_0 0 rfl) rfl (lv_at hl 0 rfl) ?_
  refine lv_if_lt (tgt := 10) hx hb (fk_get fk_cX11_isNoTape_0 1 rfl) (by decide) (fun c_1 => ?_) (fun c_1 => ?_)
  · refine lv_iconst (v := 1) hx hb (fk_get fk_cX11_isNoTape_0 5 rfl) (by decide) ?_
    refine lv_goto (tgt := 15) hx hb (fk_get fk_cX11_isNoTape_0 6 rfl) (by decide) ?_
    subst hQ
    have hpost : (1 : Int32) = if t < 0 ∨ 6 ≤ t then 1 else 0 := by
      first | exact is1_t (Or.inl (by assumption)) | exact is1_t (Or.inr (Int32.not_lt.mp (by assumption))) | exact is1_f (fun q => q.elim (fun z => absurd z (by assumption)) (fun z => absurd (show t < 6 by assumption) (Int32.not_lt.mpr z)))
    exact W.zret (v := 1) hx hb hr rfl (fun t_ ht_ hW_ => ⟨1, rfl, hpost, ht_⟩) (fun q h => by cases h) (fk_get fk_cX11_isNoTape_0 8 rfl)
  refine lv_iload_n hx hb (fk_get fk_cX11_isNoTape_0 2 rfl) rfl (lv_at hl 0 rfl) ?_
  refine lv_bipush (v := 6) hx hb (fk_get fk_cX11_isNoTape_0 3 rfl) (by decide) ?_
  refine lv_icmp_lt (tgt := 14) hx hb (fk_get fk_cX11_isNoTape_0 4 rfl) (by decide) (fun c_2 => ?_) (fun c_2 => ?_)
  · refine lv_iconst (v := 0) hx hb (fk_get fk_cX11_isNoTape_0 7 rfl) (by decide) ?_
    subst hQ
    have hpost : (0 : Int32) = if t < 0 ∨ 6 ≤ t then 1 else 0 := by
      first | exact is1_t (Or.inl (by assumption)) | exact is1_t (Or.inr (Int32.not_lt.mp (by assumption))) | exact is1_f (fun q => q.elim (fun z => absurd z (by assumption)) (fun z => absurd (show t < 6 by assumption) (Int32.not_lt.mpr z)))
    exact W.zret (v := 0) hx hb hr rfl (fun t_ ht_ hW_ => ⟨0, rfl, hpost, ht_⟩) (fun q h => by cases h) (fk_get fk_cX11_isNoTape_0 8 rfl)
  refine lv_iconst (v := 1) hx hb (fk_get fk_cX11_isNoTape_0 5 rfl) (by decide) ?_
  refine lv_goto (tgt := 15) hx hb (fk_get fk_cX11_isNoTape_0 6 rfl) (by decide) ?_
  subst hQ
  have hpost : (1 : Int32) = if t < 0 ∨ 6 ≤ t then 1 else 0 := by
    first | exact is1_t (Or.inl (by assumption)) | exact is1_t (Or.inr (Int32.not_lt.mp (by assumption))) | exact is1_f (fun q => q.elim (fun z => absurd z (by assumption)) (fun z => absurd (show t < 6 by assumption) (Int32.not_lt.mpr z)))
  exact W.zret (v := 1) hx hb hr rfl (fun t_ ht_ hW_ => ⟨1, rfl, hpost, ht_⟩) (fun q h => by cases h) (fk_get fk_cX11_isNoTape_0 8 rfl)
set_option maxHeartbeats 800000 in
set_option maxRecDepth 100000 in
theorem c_xisDigit (l : Launch) (c : Int32) : Met l yX9_isDigit (Cond.code yX9_isDigit cX9_isDigit 1 (some .boolean) :: TBL) ({ frames := 2, cells := 0, slots := 0, locals := 64 } : Room) (PcN [.int (c)]) (vp_Si (fun (r : Int32) => r = if 48 ≤ c ∧ c ≤ 57 then 1 else 0)) 0 0 (fun _ => False) := by
  refine Met.ofW (cc := cX9_isDigit) (maxL := 1) (ret := (some .boolean)) (by decide) rfl ?_
  intro p e s m args below meth c₀ s₁ B hml hv
  obtain ⟨rfl, -⟩ := hv
  have hx := B.exec
  have hb := B.bytes
  have hr := B.returns
  have hT : ∀ w ∈ TBL, w.before ([.int (c)] : List Value).toArray s = true := fun w h => atoms_spec (ws := Cond.code yX9_isDigit cX9_isDigit 1 (some .boolean) :: TBL) B.pre w (List.mem_cons_of_mem _ h)
  have hown : s.vm.findClass "LittleMore$Text" = some m.cls := findClass_of_methodNamed B.named
  have hlocks := B.notSynchronized
  have hl := lv_entry ([.int (c)]) (n := 1) (Nat.le_of_ble_eq_true rfl)
  rw [lg_entry_eq]
  generalize (lg_sl ([.int (c)]) ++ List.replicate (1 - (lg_sl ([.int (c)])).length) Slot.unset).toArray = ls at hl ⊢
  have hl : lv_has ls 1 [(0, .int (c))] := hl
  refine W_abs (fun Q hQ => ?_)
  generalize ([.int (c)] : List Value).toArray = args at hT hQ ⊢
  refine lv_iload_n hx hb (fk_get fk_cX9_isDigit_0 0 rfl) rfl (lv_at hl 0 rfl) ?_
  refine lv_bipush (v := 48) hx hb (fk_get fk_cX9_isDigit_0 1 rfl) (by decide) ?_
  refine lv_icmp_lt (tgt := 16) hx hb (fk_get fk_cX9_isDigit_0 2 rfl) (by decide) (fun c_1 => ?_) (fun c_1 => ?_)
  · refine lv_iconst (v := 0) hx hb (fk_get fk_cX9_isDigit_0 8 rfl) (by decide) ?_
    subst hQ
    have hpost : (0 : Int32) = if 48 ≤ c ∧ c ≤ 57 then 1 else 0 := by
      first | exact is1_t ⟨Int32.not_lt.mp (by assumption), Int32.not_lt.mp (by assumption)⟩ | exact is1_f (fun q => absurd (show c < 48 by assumption) (Int32.not_lt.mpr q.1)) | exact is1_f (fun q => absurd (show 57 < c by assumption) (Int32.not_lt.mpr q.2))
    exact W.zret (v := 0) hx hb hr rfl (fun t_ ht_ hW_ => ⟨0, rfl, hpost, ht_⟩) (fun q h => by cases h) (fk_get fk_cX9_isDigit_0 9 rfl)
  refine lv_iload_n hx hb (fk_get fk_cX9_isDigit_0 3 rfl) rfl (lv_at hl 0 rfl) ?_
  refine lv_bipush (v := 57) hx hb (fk_get fk_cX9_isDigit_0 4 rfl) (by decide) ?_
  refine lv_icmp_gt (tgt := 16) hx hb (fk_get fk_cX9_isDigit_0 5 rfl) (by decide) (fun c_2 => ?_) (fun c_2 => ?_)
  · refine lv_iconst (v := 0) hx hb (fk_get fk_cX9_isDigit_0 8 rfl) (by decide) ?_
    subst hQ
    have hpost : (0 : Int32) = if 48 ≤ c ∧ c ≤ 57 then 1 else 0 := by
      first | exact is1_t ⟨Int32.not_lt.mp (by assumption), Int32.not_lt.mp (by assumption)⟩ | exact is1_f (fun q => absurd (show c < 48 by assumption) (Int32.not_lt.mpr q.1)) | exact is1_f (fun q => absurd (show 57 < c by assumption) (Int32.not_lt.mpr q.2))
    exact W.zret (v := 0) hx hb hr rfl (fun t_ ht_ hW_ => ⟨0, rfl, hpost, ht_⟩) (fun q h => by cases h) (fk_get fk_cX9_isDigit_0 9 rfl)
  refine lv_iconst (v := 1) hx hb (fk_get fk_cX9_isDigit_0 6 rfl) (by decide) ?_
  refine lv_goto (tgt := 17) hx hb (fk_get fk_cX9_isDigit_0 7 rfl) (by decide) ?_
  subst hQ
  have hpost : (1 : Int32) = if 48 ≤ c ∧ c ≤ 57 then 1 else 0 := by
    first | exact is1_t ⟨Int32.not_lt.mp (by assumption), Int32.not_lt.mp (by assumption)⟩ | exact is1_f (fun q => absurd (show c < 48 by assumption) (Int32.not_lt.mpr q.1)) | exact is1_f (fun q => absurd (show 57 < c by assumption) (Int32.not_lt.mpr q.2))
  exact W.zret (v := 1) hx hb hr rfl (fun t_ ht_ hW_ => ⟨1, rfl, hpost, ht_⟩) (fun q h => by cases h) (fk_get fk_cX9_isDigit_0 9 rfl)
set_option maxHeartbeats 800000 in
set_option maxRecDepth 100000 in
theorem c_xasItem (l : Launch) (sort : Int32) (v : Int64) : Met l yX11_asItem (Cond.code yX11_asItem cX11_asItem 3 (some .long) :: TBL) ({ frames := 2, cells := 0, slots := 0, locals := 64 } : Room) (PcN [.int (sort), .long (v)]) (vp_Sl (fun (r : Int64) => r = nrx v sort)) 0 0 (fun _ => False) := by
  refine Met.ofW (cc := cX11_asItem) (maxL := 3) (ret := (some .long)) (by decide) rfl ?_
  intro p e s m args below meth c₀ s₁ B hml hv
  obtain ⟨rfl, -⟩ := hv
  have hx := B.exec
  have hb := B.bytes
  have hr := B.returns
  have hT : ∀ w ∈ TBL, w.before ([.int (sort), .long (v)] : List Value).toArray s = true := fun w h => atoms_spec (ws := Cond.code yX11_asItem cX11_asItem 3 (some .long) :: TBL) B.pre w (List.mem_cons_of_mem _ h)
  have hown : s.vm.findClass "LittleMore" = some m.cls := findClass_of_methodNamed B.named
  have hlocks := B.notSynchronized
  have hl := lv_entry ([.int (sort), .long (v)]) (n := 3) (Nat.le_of_ble_eq_true rfl)
  rw [lg_entry_eq]
  generalize (lg_sl ([.int (sort), .long (v)]) ++ List.replicate (3 - (lg_sl ([.int (sort), .long (v)])).length) Slot.unset).toArray = ls at hl ⊢
  have hl : lv_has ls 3 [(0, .int (sort)), (1, .long (v))] := hl
  refine W_abs (fun Q hQ => ?_)
  generalize ([.int (sort), .long (v)] : List Value).toArray = args at hT hQ ⊢
  refine lv_iload_n hx hb (fk_get fk_cX11_asItem_0 0 rfl) rfl (lv_at hl 0 rfl) ?_
  by_cases c_1 : sort = (0 : Int32)
  · refine lv_tableIn (off := 35) (tgt := 36) hx hb (dk_get dk_cX11_asItem_0 0 rfl) (by rw [c_1]; decide) (by rw [c_1]; decide) (by rw [c_1]; rfl) (by decide) ?_
    refine lv_lload_n hx hb (fk_get fk_cX11_asItem_0 1 rfl) rfl (lv_at hl 1 rfl) ?_
    refine lv_l2i hx hb (fk_get fk_cX11_asItem_0 2 rfl) rfl ?_
    refine lv_i2b hx hb (fk_get fk_cX11_asItem_0 3 rfl) rfl ?_
    refine lv_i2l hx hb (fk_get fk_cX11_asItem_0 4 rfl) rfl ?_
    subst hQ
    have hpost : ((((v).toInt32).toInt8.toInt32).toInt64 : Int64) = nrx v sort := by
      unfold nrx
      (repeat (first | rw [if_pos (by assumption)] | rw [if_neg (by assumption)]))
      try first | rfl | (rw [if_neg (by rw [show sort = 3 by assumption]; decide)])
    exact W.lret (v := (((v).toInt32).toInt8.toInt32).toInt64) hx hb hr (fun t_ ht_ hW_ => ⟨(((v).toInt32).toInt8.toInt32).toInt64, rfl, hpost, ht_⟩) (fun q h => by cases h) (fk_get fk_cX11_asItem_0 5 rfl)
  by_cases c_2 : sort = (1 : Int32)
  · refine lv_tableIn (off := 40) (tgt := 41) hx hb (dk_get dk_cX11_asItem_0 0 rfl) (by rw [c_2]; decide) (by rw [c_2]; decide) (by rw [c_2]; rfl) (by decide) ?_
    refine lv_lload_n hx hb (fk_get fk_cX11_asItem_0 6 rfl) rfl (lv_at hl 1 rfl) ?_
    refine lv_l2i hx hb (fk_get fk_cX11_asItem_0 7 rfl) rfl ?_
    refine lv_i2s hx hb (fk_get fk_cX11_asItem_0 8 rfl) rfl ?_
    refine lv_i2l hx hb (fk_get fk_cX11_asItem_0 9 rfl) rfl ?_
    subst hQ
    have hpost : ((((v).toInt32).toInt16.toInt32).toInt64 : Int64) = nrx v sort := by
      unfold nrx
      (repeat (first | rw [if_pos (by assumption)] | rw [if_neg (by assumption)]))
      try first | rfl | (rw [if_neg (by rw [show sort = 3 by assumption]; decide)])
    exact W.lret (v := (((v).toInt32).toInt16.toInt32).toInt64) hx hb hr (fun t_ ht_ hW_ => ⟨(((v).toInt32).toInt16.toInt32).toInt64, rfl, hpost, ht_⟩) (fun q h => by cases h) (fk_get fk_cX11_asItem_0 10 rfl)
  by_cases c_3 : sort = (2 : Int32)
  · refine lv_tableIn (off := 45) (tgt := 46) hx hb (dk_get dk_cX11_asItem_0 0 rfl) (by rw [c_3]; decide) (by rw [c_3]; decide) (by rw [c_3]; rfl) (by decide) ?_
    refine lv_lload_n hx hb (fk_get fk_cX11_asItem_0 11 rfl) rfl (lv_at hl 1 rfl) ?_
    refine lv_l2i hx hb (fk_get fk_cX11_asItem_0 12 rfl) rfl ?_
    refine lv_i2l hx hb (fk_get fk_cX11_asItem_0 13 rfl) rfl ?_
    subst hQ
    have hpost : (((v).toInt32).toInt64 : Int64) = nrx v sort := by
      unfold nrx
      (repeat (first | rw [if_pos (by assumption)] | rw [if_neg (by assumption)]))
      try first | rfl | (rw [if_neg (by rw [show sort = 3 by assumption]; decide)])
    exact W.lret (v := ((v).toInt32).toInt64) hx hb hr (fun t_ ht_ hW_ => ⟨((v).toInt32).toInt64, rfl, hpost, ht_⟩) (fun q h => by cases h) (fk_get fk_cX11_asItem_0 14 rfl)
  by_cases c_4 : sort = (3 : Int32)
  · refine lv_tableIn (off := 61) (tgt := 62) hx hb (dk_get dk_cX11_asItem_0 0 rfl) (by rw [c_4]; decide) (by rw [c_4]; decide) (by rw [c_4]; rfl) (by decide) ?_
    refine lv_lload_n hx hb (fk_get fk_cX11_asItem_0 23 rfl) rfl (lv_at hl 1 rfl) ?_
    subst hQ
    have hpost : (v : Int64) = nrx v sort := by
      unfold nrx
      (repeat (first | rw [if_pos (by assumption)] | rw [if_neg (by assumption)]))
      try first | rfl | (rw [if_neg (by rw [show sort = 3 by assumption]; decide)])
    exact W.lret (v := v) hx hb hr (fun t_ ht_ hW_ => ⟨v, rfl, hpost, ht_⟩) (fun q h => by cases h) (fk_get fk_cX11_asItem_0 24 rfl)
  by_cases c_5 : sort = (4 : Int32)
  · refine lv_tableIn (off := 49) (tgt := 50) hx hb (dk_get dk_cX11_asItem_0 0 rfl) (by rw [c_5]; decide) (by rw [c_5]; decide) (by rw [c_5]; rfl) (by decide) ?_
    refine lv_lload_n hx hb (fk_get fk_cX11_asItem_0 15 rfl) rfl (lv_at hl 1 rfl) ?_
    refine lv_lconst (v := 0) hx hb (fk_get fk_cX11_asItem_0 16 rfl) (by decide) ?_
    refine W.lcmp hx hb (fk_get fk_cX11_asItem_0 17 rfl) ?_
    refine lv_if_eq (tgt := 60) hx hb (fk_get fk_cX11_asItem_0 18 rfl) (by decide) (fun c_6 => ?_) (fun c_6 => ?_)
    · have e_ := lc_eq c_6
      refine lv_lconst (v := 0) hx hb (fk_get fk_cX11_asItem_0 21 rfl) (by decide) ?_
      subst hQ
      have hpost : (0 : Int64) = nrx v sort := by
        unfold nrx
        (repeat (first | rw [if_pos (by assumption)] | rw [if_neg (by assumption)]))
        try first | rfl | (rw [if_neg (by rw [show sort = 3 by assumption]; decide)])
      exact W.lret (v := 0) hx hb hr (fun t_ ht_ hW_ => ⟨0, rfl, hpost, ht_⟩) (fun q h => by cases h) (fk_get fk_cX11_asItem_0 22 rfl)
    have e_ := lc_ne c_6
    refine lv_lconst (v := 1) hx hb (fk_get fk_cX11_asItem_0 19 rfl) (by decide) ?_
    refine lv_goto (tgt := 61) hx hb (fk_get fk_cX11_asItem_0 20 rfl) (by decide) ?_
    subst hQ
    have hpost : (1 : Int64) = nrx v sort := by
      unfold nrx
      (repeat (first | rw [if_pos (by assumption)] | rw [if_neg (by assumption)]))
      try first | rfl | (rw [if_neg (by rw [show sort = 3 by assumption]; decide)])
    exact W.lret (v := 1) hx hb hr (fun t_ ht_ hW_ => ⟨1, rfl, hpost, ht_⟩) (fun q h => by cases h) (fk_get fk_cX11_asItem_0 22 rfl)
  have o_7 : (sort).toInt < 0 ∨ 4 < (sort).toInt := by
    have qc_1 : ¬ (sort).toInt = 0 := lv_neT c_1 (by decide)
    have qc_2 : ¬ (sort).toInt = 1 := lv_neT c_2 (by decide)
    have qc_3 : ¬ (sort).toInt = 2 := lv_neT c_3 (by decide)
    have qc_4 : ¬ (sort).toInt = 3 := lv_neT c_4 (by decide)
    have qc_5 : ¬ (sort).toInt = 4 := lv_neT c_5 (by decide)
    omega
  refine lv_tableOut (tgt := 62) hx hb (dk_get dk_cX11_asItem_0 0 rfl) o_7 (by decide) ?_
  refine lv_lload_n hx hb (fk_get fk_cX11_asItem_0 23 rfl) rfl (lv_at hl 1 rfl) ?_
  subst hQ
  have hpost : (v : Int64) = nrx v sort := by
    unfold nrx
    (repeat (first | rw [if_pos (by assumption)] | rw [if_neg (by assumption)]))
    try first | rfl | (rw [if_neg (by rw [show sort = 3 by assumption]; decide)])
  exact W.lret (v := v) hx hb hr (fun t_ ht_ hW_ => ⟨v, rfl, hpost, ht_⟩) (fun q h => by cases h) (fk_get fk_cX11_asItem_0 24 rfl)
