set_option maxHeartbeats 800000 in
set_option maxRecDepth 100000 in
theorem c_jmax (l : Launch) (a_ b_ : Int32) : Met l yJ9_max_7cf53 (Cond.code yJ9_max_7cf53 cJ9_max_7cf53 2 (some .int) :: TBL) ({ frames := 2, cells := 0, slots := 0, locals := 64 } : Room) (PcN [.int (a_), .int (b_)]) (vp_Si (fun (r : Int32) => r = if a_ < b_ then b_ else a_)) 0 0 (fun _ => False) := by
  refine va_MetF (cc := cJ9_max_7cf53) (maxL := 2) (ret := (some .int)) (by decide +kernel) rfl ?_
  intro p e s m args below meth c₀ s₁ B hml hv
  obtain ⟨rfl, -⟩ := hv
  have hx := B.exec
  have hb := B.bytes
  have hr := B.returns
  have hT : ∀ w ∈ TBL, w.before ([.int (a_), .int (b_)] : List Value).toArray s = true := fun w h => atoms_spec (ws := Cond.code yJ9_max_7cf53 cJ9_max_7cf53 2 (some .int) :: TBL) B.pre w (List.mem_cons_of_mem _ h)
  have hown : s.vm.findClass "java/lang/Math" = some m.cls := findClass_of_methodNamed B.named
  have hlocks := B.notSynchronized
  have hl := lv_entry ([.int (a_), .int (b_)]) (n := 2) (Nat.le_of_ble_eq_true rfl)
  rw [lg_entry_eq]
  generalize (lg_sl ([.int (a_), .int (b_)]) ++ List.replicate (2 - (lg_sl ([.int (a_), .int (b_)])).length) Slot.unset).toArray = ls at hl ⊢
  have hl : lv_has ls 2 [(0, .int (a_)), (1, .int (b_))] := hl
  refine W_abs (fun Q hQ => ?_)
  generalize ([.int (a_), .int (b_)] : List Value).toArray = args at hT hQ ⊢
  refine lv_iload_n hx hb (fk_get fk_cJ9_max_7cf53_0 0 rfl) rfl (lv_at hl 0 rfl) ?_
  refine lv_iload_n hx hb (fk_get fk_cJ9_max_7cf53_0 1 rfl) rfl (lv_at hl 1 rfl) ?_
  refine lv_icmp_lt (tgt := 9) hx hb (fk_get fk_cJ9_max_7cf53_0 2 rfl) (by decide) (fun c_1 => ?_) (fun c_1 => ?_)
  · refine lv_iload_n hx hb (fk_get fk_cJ9_max_7cf53_0 5 rfl) rfl (lv_at hl 1 rfl) ?_
    subst hQ
    have hpost : (b_ : Int32) = if a_ < b_ then b_ else a_ := by
      first | (rw [if_pos (Int32.not_le.mp (by assumption))]; done) | (rw [if_neg (Int32.not_lt.mpr (by assumption))]; done) | (rw [if_pos (by assumption)]; done) | (rw [if_neg (by assumption)]; done)
    exact W.iret (v := b_) hx hb hr (fun t_ ht_ hW_ => ⟨b_, rfl, hpost, ht_⟩) (fun q h => by cases h) (fk_get fk_cJ9_max_7cf53_0 6 rfl)
  refine lv_iload_n hx hb (fk_get fk_cJ9_max_7cf53_0 3 rfl) rfl (lv_at hl 0 rfl) ?_
  refine lv_goto (tgt := 10) hx hb (fk_get fk_cJ9_max_7cf53_0 4 rfl) (by decide) ?_
  subst hQ
  have hpost : (a_ : Int32) = if a_ < b_ then b_ else a_ := by
    first | (rw [if_pos (Int32.not_le.mp (by assumption))]; done) | (rw [if_neg (Int32.not_lt.mpr (by assumption))]; done) | (rw [if_pos (by assumption)]; done) | (rw [if_neg (by assumption)]; done)
  exact W.iret (v := a_) hx hb hr (fun t_ ht_ hW_ => ⟨a_, rfl, hpost, ht_⟩) (fun q h => by cases h) (fk_get fk_cJ9_max_7cf53_0 6 rfl)
set_option maxHeartbeats 800000 in
set_option maxRecDepth 100000 in
theorem c_jmin (l : Launch) (a_ b_ : Int32) : Met l yJ9_min_7cf53 (Cond.code yJ9_min_7cf53 cJ9_min_7cf53 2 (some .int) :: TBL) ({ frames := 2, cells := 0, slots := 0, locals := 64 } : Room) (PcN [.int (a_), .int (b_)]) (vp_Si (fun (r : Int32) => r = if b_ < a_ then b_ else a_)) 0 0 (fun _ => False) := by
  refine va_MetF (cc := cJ9_min_7cf53) (maxL := 2) (ret := (some .int)) (by decide +kernel) rfl ?_
  intro p e s m args below meth c₀ s₁ B hml hv
  obtain ⟨rfl, -⟩ := hv
  have hx := B.exec
  have hb := B.bytes
  have hr := B.returns
  have hT : ∀ w ∈ TBL, w.before ([.int (a_), .int (b_)] : List Value).toArray s = true := fun w h => atoms_spec (ws := Cond.code yJ9_min_7cf53 cJ9_min_7cf53 2 (some .int) :: TBL) B.pre w (List.mem_cons_of_mem _ h)
  have hown : s.vm.findClass "java/lang/Math" = some m.cls := findClass_of_methodNamed B.named
  have hlocks := B.notSynchronized
  have hl := lv_entry ([.int (a_), .int (b_)]) (n := 2) (Nat.le_of_ble_eq_true rfl)
  rw [lg_entry_eq]
  generalize (lg_sl ([.int (a_), .int (b_)]) ++ List.replicate (2 - (lg_sl ([.int (a_), .int (b_)])).length) Slot.unset).toArray = ls at hl ⊢
  have hl : lv_has ls 2 [(0, .int (a_)), (1, .int (b_))] := hl
  refine W_abs (fun Q hQ => ?_)
  generalize ([.int (a_), .int (b_)] : List Value).toArray = args at hT hQ ⊢
  refine lv_iload_n hx hb (fk_get fk_cJ9_min_7cf53_0 0 rfl) rfl (lv_at hl 0 rfl) ?_
  refine lv_iload_n hx hb (fk_get fk_cJ9_min_7cf53_0 1 rfl) rfl (lv_at hl 1 rfl) ?_
  refine lv_icmp_gt (tgt := 9) hx hb (fk_get fk_cJ9_min_7cf53_0 2 rfl) (by decide) (fun c_1 => ?_) (fun c_1 => ?_)
  · refine lv_iload_n hx hb (fk_get fk_cJ9_min_7cf53_0 5 rfl) rfl (lv_at hl 1 rfl) ?_
    subst hQ
    have hpost : (b_ : Int32) = if b_ < a_ then b_ else a_ := by
      first | (rw [if_pos (Int32.not_le.mp (by assumption))]; done) | (rw [if_neg (Int32.not_lt.mpr (by assumption))]; done) | (rw [if_pos (by assumption)]; done) | (rw [if_neg (by assumption)]; done)
    exact W.iret (v := b_) hx hb hr (fun t_ ht_ hW_ => ⟨b_, rfl, hpost, ht_⟩) (fun q h => by cases h) (fk_get fk_cJ9_min_7cf53_0 6 rfl)
  refine lv_iload_n hx hb (fk_get fk_cJ9_min_7cf53_0 3 rfl) rfl (lv_at hl 0 rfl) ?_
  refine lv_goto (tgt := 10) hx hb (fk_get fk_cJ9_min_7cf53_0 4 rfl) (by decide) ?_
  subst hQ
  have hpost : (a_ : Int32) = if b_ < a_ then b_ else a_ := by
    first | (rw [if_pos (Int32.not_le.mp (by assumption))]; done) | (rw [if_neg (Int32.not_lt.mpr (by assumption))]; done) | (rw [if_pos (by assumption)]; done) | (rw [if_neg (by assumption)]; done)
  exact W.iret (v := a_) hx hb hr (fun t_ ht_ hW_ => ⟨a_, rfl, hpost, ht_⟩) (fun q h => by cases h) (fk_get fk_cJ9_min_7cf53_0 6 rfl)
set_option maxHeartbeats 800000 in
set_option maxRecDepth 100000 in
theorem c_jabs (l : Launch) (v : Int32) : Met l yJ9_abs_0f7a4 (Cond.code yJ9_abs_0f7a4 cJ9_abs_0f7a4 1 (some .int) :: TBL) ({ frames := 2, cells := 0, slots := 0, locals := 64 } : Room) (PcN [.int (v)]) (vp_Si (fun (r : Int32) => r = if v < 0 then -v else v)) 0 0 (fun _ => False) := by
  refine va_MetF (cc := cJ9_abs_0f7a4) (maxL := 1) (ret := (some .int)) (by decide +kernel) rfl ?_
  intro p e s m args below meth c₀ s₁ B hml hv
  obtain ⟨rfl, -⟩ := hv
  have hx := B.exec
  have hb := B.bytes
  have hr := B.returns
  have hT : ∀ w ∈ TBL, w.before ([.int (v)] : List Value).toArray s = true := fun w h => atoms_spec (ws := Cond.code yJ9_abs_0f7a4 cJ9_abs_0f7a4 1 (some .int) :: TBL) B.pre w (List.mem_cons_of_mem _ h)
  have hown : s.vm.findClass "java/lang/Math" = some m.cls := findClass_of_methodNamed B.named
  have hlocks := B.notSynchronized
  have hl := lv_entry ([.int (v)]) (n := 1) (Nat.le_of_ble_eq_true rfl)
  rw [lg_entry_eq]
  generalize (lg_sl ([.int (v)]) ++ List.replicate (1 - (lg_sl ([.int (v)])).length) Slot.unset).toArray = ls at hl ⊢
  have hl : lv_has ls 1 [(0, .int (v))] := hl
  refine W_abs (fun Q hQ => ?_)
  generalize ([.int (v)] : List Value).toArray = args at hT hQ ⊢
  refine lv_iload_n hx hb (fk_get fk_cJ9_abs_0f7a4_0 0 rfl) rfl (lv_at hl 0 rfl) ?_
  refine lv_if_ge (tgt := 9) hx hb (fk_get fk_cJ9_abs_0f7a4_0 1 rfl) (by decide) (fun c_1 => ?_) (fun c_1 => ?_)
  · refine lv_iload_n hx hb (fk_get fk_cJ9_abs_0f7a4_0 5 rfl) rfl (lv_at hl 0 rfl) ?_
    subst hQ
    have hpost : (v : Int32) = if v < 0 then -v else v := by
      first | (rw [if_pos (Int32.not_le.mp (by assumption))]; done) | (rw [if_neg (Int32.not_lt.mpr (by assumption))]; done) | (rw [if_pos (by assumption)]; done) | (rw [if_neg (by assumption)]; done)
    exact W.iret (v := v) hx hb hr (fun t_ ht_ hW_ => ⟨v, rfl, hpost, ht_⟩) (fun q h => by cases h) (fk_get fk_cJ9_abs_0f7a4_0 6 rfl)
  refine lv_iload_n hx hb (fk_get fk_cJ9_abs_0f7a4_0 2 rfl) rfl (lv_at hl 0 rfl) ?_
  refine lv_ineg hx hb (fk_get fk_cJ9_abs_0f7a4_0 3 rfl) ?_
  refine lv_goto (tgt := 10) hx hb (fk_get fk_cJ9_abs_0f7a4_0 4 rfl) (by decide) ?_
  subst hQ
  have hpost : ((-v) : Int32) = if v < 0 then -v else v := by
    first | (rw [if_pos (Int32.not_le.mp (by assumption))]; done) | (rw [if_neg (Int32.not_lt.mpr (by assumption))]; done) | (rw [if_pos (by assumption)]; done) | (rw [if_neg (by assumption)]; done)
  exact W.iret (v := (-v)) hx hb hr (fun t_ ht_ hW_ => ⟨(-v), rfl, hpost, ht_⟩) (fun q h => by cases h) (fk_get fk_cJ9_abs_0f7a4_0 6 rfl)
set_option maxHeartbeats 800000 in
set_option maxRecDepth 100000 in
theorem c_jcanEncode (l : Launch) (c : Int32) : Met l yJ1_canEncode_9a6ad (Cond.code yJ1_canEncode_9a6ad cJ1_canEncode_9a6ad 1 (some .boolean) :: TBL) ({ frames := 2, cells := 0, slots := 0, locals := 64 } : Room) (PcN [.int (c)]) (vp_Si (fun (r : Int32) => r = if 0 ≤ c ∧ c ≤ 255 then 1 else 0)) 0 0 (fun _ => False) := by
  refine va_MetF (cc := cJ1_canEncode_9a6ad) (maxL := 1) (ret := (some .boolean)) (by decide +kernel) rfl ?_
  intro p e s m args below meth c₀ s₁ B hml hv
  obtain ⟨rfl, -⟩ := hv
  have hx := B.exec
  have hb := B.bytes
  have hr := B.returns
  have hT : ∀ w ∈ TBL, w.before ([.int (c)] : List Value).toArray s = true := fun w h => atoms_spec (ws := Cond.code yJ1_canEncode_9a6ad cJ1_canEncode_9a6ad 1 (some .boolean) :: TBL) B.pre w (List.mem_cons_of_mem _ h)
  have hown : s.vm.findClass "java/lang/StringLatin1" = some m.cls := findClass_of_methodNamed B.named
  have hlocks := B.notSynchronized
  have hl := lv_entry ([.int (c)]) (n := 1) (Nat.le_of_ble_eq_true rfl)
  rw [lg_entry_eq]
  generalize (lg_sl ([.int (c)]) ++ List.replicate (1 - (lg_sl ([.int (c)])).length) Slot.unset).toArray = ls at hl ⊢
  have hl : lv_has ls 1 [(0, .int (c))] := hl
  refine W_abs (fun Q hQ => ?_)
  generalize ([.int (c)] : List Value).toArray = args at hT hQ ⊢
  refine lv_iload_n hx hb (fk_get fk_cJ1_canEncode_9a6ad_0 0 rfl) rfl (lv_at hl 0 rfl) ?_
  refine lv_if_lt (tgt := 15) hx hb (fk_get fk_cJ1_canEncode_9a6ad_0 1 rfl) (by decide) (fun c_1 => ?_) (fun c_1 => ?_)
  · refine lv_iconst (v := 0) hx hb (fk_get fk_cJ1_canEncode_9a6ad_0 7 rfl) (by decide) ?_
    subst hQ
    have hpost : (0 : Int32) = if 0 ≤ c ∧ c ≤ 255 then 1 else 0 := by
      first | exact is1_t ⟨Int32.not_lt.mp (by assumption), Int32.not_lt.mp (by assumption)⟩ | exact is1_f (fun q => absurd (show c < 0 by assumption) (Int32.not_lt.mpr q.1)) | exact is1_f (fun q => absurd (show 255 < c by assumption) (Int32.not_lt.mpr q.2))
    exact W.zret (v := 0) hx hb hr rfl (fun t_ ht_ hW_ => ⟨0, rfl, hpost, ht_⟩) (fun q h => by cases h) (fk_get fk_cJ1_canEncode_9a6ad_0 8 rfl)
  refine lv_iload_n hx hb (fk_get fk_cJ1_canEncode_9a6ad_0 2 rfl) rfl (lv_at hl 0 rfl) ?_
  refine lv_sipush (v := 255) hx hb (fk_get fk_cJ1_canEncode_9a6ad_0 3 rfl) (by decide) ?_
  refine lv_icmp_gt (tgt := 15) hx hb (fk_get fk_cJ1_canEncode_9a6ad_0 4 rfl) (by decide) (fun c_2 => ?_) (fun c_2 => ?_)
  · refine lv_iconst (v := 0) hx hb (fk_get fk_cJ1_canEncode_9a6ad_0 7 rfl) (by decide) ?_
    subst hQ
    have hpost : (0 : Int32) = if 0 ≤ c ∧ c ≤ 255 then 1 else 0 := by
      first | exact is1_t ⟨Int32.not_lt.mp (by assumption), Int32.not_lt.mp (by assumption)⟩ | exact is1_f (fun q => absurd (show c < 0 by assumption) (Int32.not_lt.mpr q.1)) | exact is1_f (fun q => absurd (show 255 < c by assumption) (Int32.not_lt.mpr q.2))
    exact W.zret (v := 0) hx hb hr rfl (fun t_ ht_ hW_ => ⟨0, rfl, hpost, ht_⟩) (fun q h => by cases h) (fk_get fk_cJ1_canEncode_9a6ad_0 8 rfl)
  refine lv_iconst (v := 1) hx hb (fk_get fk_cJ1_canEncode_9a6ad_0 5 rfl) (by decide) ?_
  refine lv_goto (tgt := 16) hx hb (fk_get fk_cJ1_canEncode_9a6ad_0 6 rfl) (by decide) ?_
  subst hQ
  have hpost : (1 : Int32) = if 0 ≤ c ∧ c ≤ 255 then 1 else 0 := by
    first | exact is1_t ⟨Int32.not_lt.mp (by assumption), Int32.not_lt.mp (by assumption)⟩ | exact is1_f (fun q => absurd (show c < 0 by assumption) (Int32.not_lt.mpr q.1)) | exact is1_f (fun q => absurd (show 255 < c by assumption) (Int32.not_lt.mpr q.2))
  exact W.zret (v := 1) hx hb hr rfl (fun t_ ht_ hW_ => ⟨1, rfl, hpost, ht_⟩) (fun q h => by cases h) (fk_get fk_cJ1_canEncode_9a6ad_0 8 rfl)
