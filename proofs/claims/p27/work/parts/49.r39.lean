theorem out_6 {t : Int32} (h : ¬ (t < 0 ∨ 6 ≤ t)) : ∃ w, w < 6 ∧ t = nI w := by
  obtain ⟨j, hj, rfl⟩ := nI_of (x := t) (fun q => h (Or.inl q))
  exact ⟨j, Nat.lt_of_not_le (fun q => h (Or.inr ((nI_leI (a := 6) (b := j) (by omega) hj).mpr q))), rfl⟩
theorem XI.lput {S : FS} {t : Nat} {v : Int32} (h : XI S) (hv : ∃ L, v = nI L ∧ L ≤ 60) : XI (setA S 63 (upd (fA S 63) t v)) := h.len _ (fun k hk => by
  by_cases e : k = t
  · subst e
    rw [pk_us]
    exact hv
  · rw [pk_un e]
    exact h.lens hk)
theorem len60 {x : Int32} (h0 : ¬ x < 0) (h1 : ¬ 60 < x) : ∃ L, x = nI L ∧ L ≤ 60 := by
  obtain ⟨j, hj, rfl⟩ := nI_of (x := x) h0
  exact ⟨j, rfl, ci_nlt (a := 60) (b := j) (by omega) hj h1⟩
theorem sh_le {i n : Int32} {L : Nat} (hL : L ≤ 60) (h0 : ¬ n < 0) (h : ¬ (i < 0 ∨ nI L - n < i)) : ¬ i < 0 ∧ i.toNatClampNeg + n.toNatClampNeg ≤ L := by
  obtain ⟨a, ha, rfl⟩ := nI_of (x := n) h0
  obtain ⟨b, hb, rfl⟩ := nI_of (x := i) (fun q => h (Or.inl q))
  refine ⟨fun q => h (Or.inl q), ?_⟩
  rw [nI_clamp ha, nI_clamp hb]
  have h2 := Int32.le_iff_toInt_le.mp (Int32.not_lt.mp (fun q => h (Or.inr q)))
  rw [nI_toInt hb, Int32.toInt_sub, nI_toInt ha, nI_toInt (by omega), Int.bmod_eq_of_le (by omega) (by omega)] at h2
  omega
theorem jg_le {i : Int32} {L c : Nat} (hL : L ≤ 60) (hc : c ≤ 6) (h0 : ¬ i < 0) (h : i < nI L - nI c) : ∃ b, i = nI b ∧ b + c < 60 := by
  obtain ⟨b, hb, rfl⟩ := nI_of (x := i) h0
  refine ⟨b, rfl, ?_⟩
  have h2 := Int32.lt_iff_toInt_lt.mp h
  rw [nI_toInt hb, Int32.toInt_sub, nI_toInt (by omega), nI_toInt (by omega), Int.bmod_eq_of_le (by omega) (by omega)] at h2
  omega
theorem fl_stepL {S : FS} {ia c : Nat} {v : Int64} (h : ∀ k, k < c → fL S ia k = v) : ∀ k, k < c + 1 → fL (setL S ia (vp_updL (fL S ia) c v)) ia k = v := by
  intro k hk
  rw [fL_setL, if_pos rfl]
  unfold vp_updL
  by_cases e : k = c
  · rw [if_pos e]
  · rw [if_neg e]
    exact h k (by omega)
set_option maxHeartbeats 800000 in
set_option maxRecDepth 100000 in
theorem c_jfillL (l : Launch) (G : GG) (ad : Nat → Nat) (S : FS) (sz : Nat) (ta : Nat) (v : Int64) (hta : ta < 6) (hX : XI S) : Met l yJ7_fill_d0a16 (Cond.code yJ7_fill_d0a16 cJ7_fill_d0a16 5 none :: TBL) ({ frames := 2, cells := 0, slots := 0, locals := 64 } : Room) (PcW G (wX G ad S) sz [.ref (ad (65 + ta)), .long (v)]) (va_Qv (fun (S' : FS) => XI S' ∧ Fr (fun j k => j = 65 + ta ∧ k = 98) S S' ∧ ∀ k, k < 60 → fL S' (65 + ta) k = v) (fun S' t => BW G (va_A (wX G ad S) sz) (wX G ad S') t) (va_A (wX G ad S) sz)) 0 0 (va_A (wX G ad S) sz) := by
  refine va_MetF (cc := cJ7_fill_d0a16) (maxL := 5) (ret := none) (by decide +kernel) rfl ?_
  intro p e s m args below meth c₀ s₁ B hml hv
  obtain ⟨rfl, hsz, hP, hK, hD0⟩ := hv
  have hx := B.exec
  have hb := B.bytes
  have hr := B.returns
  have hT : ∀ w ∈ TBL, w.before ([.ref (ad (65 + ta)), .long (v)] : List Value).toArray s = true := fun w h => atoms_spec (ws := Cond.code yJ7_fill_d0a16 cJ7_fill_d0a16 5 none :: TBL) B.pre w (List.mem_cons_of_mem _ h)
  have hown : s.vm.findClass "java/util/Arrays" = some m.cls := findClass_of_methodNamed B.named
  have hlocks := B.notSynchronized
  subst hsz
  have hD := hD0.self (sz := s.heap.size)
  generalize hAe : va_A (wX G ad S) s.heap.size = A at hD ⊢
  have hA : ∀ q : Nat, s.heap.size ≤ q → A q := fun q h => by rw [← hAe]; exact Or.inr h
  have hS : va_S A s.heap s.heap [] := va_S.rf
  have hP : va_P G.1 vwCl (wX G ad S) s.heap := hP
  have hl := lv_entry ([.ref (ad (65 + ta)), .long (v)]) (n := 5) (Nat.le_of_ble_eq_true rfl)
  rw [lg_entry_eq]
  generalize (lg_sl ([.ref (ad (65 + ta)), .long (v)]) ++ List.replicate (5 - (lg_sl ([.ref (ad (65 + ta)), .long (v)])).length) Slot.unset).toArray = ls at hl ⊢
  have hl : lv_has ls 5 [(0, .ref (ad (65 + ta))), (1, .long (v))] := hl
  refine W_abs (fun Q hQ => ?_)
  generalize ([.ref (ad (65 + ta)), .long (v)] : List Value).toArray = args at hT hQ ⊢
  refine lv_iconst (v := 0) hx hb (fk_get fk_cJ7_fill_d0a16_0 0 rfl) (by decide) ?_
  refine lv_istore_n (lv' := [(3, .int (0)), (0, .ref (ad (65 + ta))), (1, .long (v))]) hx hb (fk_get fk_cJ7_fill_d0a16_0 1 rfl) rfl hl (by decide) rfl (fun ls hl => ?_)
  refine lv_aload_n hx hb (fk_get fk_cJ7_fill_d0a16_0 2 rfl) rfl (lv_at hl 1 rfl) ?_
  refine va_alen hx hb hK hP (65 + ta) 1 (ix_at (lt71 (by omega)) (cX_lng hta)) rfl (v := 60) rfl (fk_get fk_cJ7_fill_d0a16_0 3 rfl) ?_
  refine lv_istore (lv' := [(4, .int (60)), (3, .int (0)), (0, .ref (ad (65 + ta))), (1, .long (v))]) hx hb (fk_get fk_cJ7_fill_d0a16_0 4 rfl) hl (by decide) rfl (fun ls hl => ?_)
  have lp_1 : ∀ (fu : Nat) (c : Nat) (SL6 : FS) (H_3 : Heap) (locs_4 : List Loc) (ls : Array Slot),  (XI SL6) → (Fr (fun j k => j = 65 + ta ∧ k = 98) S SL6) → (c ≤ 60) → (60 < c + fu) → (∀ k, k < c → fL SL6 (65 + ta) k = v) → va_P G.1 vwCl (wX G ad SL6) H_3 → va_D A (wX G ad SL6) → va_S A s.heap H_3 locs_4 → lv_has ls 5 [(4, .int (60)), (3, .int ((nI c))), (0, .ref (ad (65 + ta))), (1, .long (v))] → W p l e ({ frames := 2, cells := 0, slots := 0, locals := 64 } : Room) s m args below meth c₀ H_3 locs_4 0 0 Q (F0 m 6 ls []) := by
    intro fu
    induction fu with
    | zero =>
      intro c SL6 H_3 locs_4 ls hXl6 hFl6 hc hf hv_ hP hD hS hl
      exact absurd hf (by omega)
    | succ fu ih =>
      intro c SL6 H_3 locs_4 ls hXl6 hFl6 hc hf hv_ hP hD hS hl
      refine lv_iload_n hx hb (fk_get fk_cJ7_fill_d0a16_0 5 rfl) rfl (lv_at hl 1 rfl) ?_
      refine lv_iload hx hb (fk_get fk_cJ7_fill_d0a16_0 6 rfl) (lv_at hl 0 rfl) ?_
      refine lv_icmp_ge (tgt := 22) hx hb (fk_get fk_cJ7_fill_d0a16_0 7 rfl) (by decide) (fun c_5 => ?_) (fun c_5 => ?_)
      · have q_c_5 : 60 ≤ c := ci_le (a := 60) (b := c) (by omega) (by omega) c_5
        subst hQ
        have hpost : XI SL6 ∧ Fr (fun j k => j = 65 + ta ∧ k = 98) S SL6 ∧ ∀ k, k < 60 → fL SL6 (65 + ta) k = v := by
          exact ⟨hXl6, hFl6, fun k hk => hv_ k (by omega)⟩
        exact W.vret hx hb hr (fun t_ ht_ hW_ => ⟨⟨SL6, rfl, hpost, by rw [ht_]; exact hP, va_K.moved hW_.alike hK, hD⟩, hS.F ht_⟩) hS.2.2 (fk_get fk_cJ7_fill_d0a16_0 14 rfl)
      have q_c_5 : c < 60 := ci_nle (a := 60) (b := c) (by omega) (by omega) c_5
      refine lv_aload_n hx hb (fk_get fk_cJ7_fill_d0a16_0 8 rfl) rfl (lv_at hl 2 rfl) ?_
      refine lv_iload_n hx hb (fk_get fk_cJ7_fill_d0a16_0 9 rfl) rfl (lv_at hl 1 rfl) ?_
      refine lv_lload_n hx hb (fk_get fk_cJ7_fill_d0a16_0 10 rfl) rfl (lv_at hl 3 rfl) ?_
      refine r_last hx hb hK hP hD hS (65 + ta) 1 (ix_at (lt71 (by omega)) (cX_lng hta)) rfl (j := c) (rfl) (by omega) (by decide) (fk_get fk_cJ7_fill_d0a16_0 11 rfl) (fun H locs hP hD hS => ?_)
      rw [pX_lng (G := G) (ad := ad) (S := SL6) hta (vp_updL (fL SL6 (65 + ta)) c (v))] at hP hD
      have hX_6 : XI (setL SL6 (65 + ta) (vp_updL (fL SL6 (65 + ta)) c (v))) := XI.sL hXl6 _
      have hF_7 : Fr (fun j k => j = 65 + ta ∧ k = 98) S (setL SL6 (65 + ta) (vp_updL (fL SL6 (65 + ta)) c (v))) := Fr.sL hFl6 (by omega)
      refine lv_iinc (v := (nI (c + 1))) (lv' := [(3, .int ((nI (c + 1)))), (4, .int (60)), (0, .ref (ad (65 + ta))), (1, .long (v))]) hx hb (fk_get fk_cJ7_fill_d0a16_0 12 rfl) hl (k := 1) rfl ((nI_1 c)) (by decide) rfl (fun ls hl => ?_)
      refine lv_goto (tgt := 6) hx hb (fk_get fk_cJ7_fill_d0a16_0 13 rfl) (by decide) ?_
      exact ih (c + 1) (setL SL6 (65 + ta) (vp_updL (fL SL6 (65 + ta)) c (v))) _ _ ls (hX_6) (hF_7) (by omega) (by omega) (fl_stepL hv_) hP hD hS (lv_sub hl [1, 0, 2, 3] rfl)
  exact lp_1 (61) (0) (S) _ _ ls (hX) ((Fr.rf : Fr (fun j k => j = 65 + ta ∧ k = 98) S S)) (by omega) (by omega) (fun k hk => absurd hk (by omega)) hP hD hS (lv_sub hl [0, 1, 2, 3] rfl)
theorem ci_eq {a b : Nat} (ha : a < 7) (hb : b < 7) (h : nI a = nI b) : a = b := by
  have := congrArg Int32.toNatClampNeg h
  rwa [nI_clamp (by omega), nI_clamp (by omega)] at this
theorem ik_0 {w_ : Int32} {k : Nat} (hk : k < 7) (ek : w_ = nI k) (h : w_ = 0) : k = 0 := ci_eq (b := 0) hk (by decide) (ek.symm.trans h)
theorem ik_1 {w_ : Int32} {k : Nat} (hk : k < 7) (ek : w_ = nI k) (h : w_ = 1) : k = 1 := ci_eq (b := 1) hk (by decide) (ek.symm.trans h)
theorem ik_2 {w_ : Int32} {k : Nat} (hk : k < 7) (ek : w_ = nI k) (h : w_ = 2) : k = 2 := ci_eq (b := 2) hk (by decide) (ek.symm.trans h)
theorem ik_3 {w_ : Int32} {k : Nat} (hk : k < 7) (ek : w_ = nI k) (h : w_ = 3) : k = 3 := ci_eq (b := 3) hk (by decide) (ek.symm.trans h)
theorem ik_4 {w_ : Int32} {k : Nat} (hk : k < 7) (ek : w_ = nI k) (h : w_ = 4) : k = 4 := ci_eq (b := 4) hk (by decide) (ek.symm.trans h)
theorem ik_5 {w_ : Int32} {k : Nat} (hk : k < 7) (ek : w_ = nI k) (h : w_ = 5) : k = 5 := ci_eq (b := 5) hk (by decide) (ek.symm.trans h)
set_option maxHeartbeats 800000 in
set_option maxRecDepth 100000 in
theorem c_x11_isOfKind (l : Launch) (G : GG) (ad : Nat → Nat) (S : FS) (sz : Nat) (q : Nat) (w_ : Int32) (hq : q < 7) (hX : XI S) : Met l yX11_isOfKind (Cond.code yX11_isOfKind cX11_isOfKind 2 (some .boolean) :: TBL) ({ frames := 2, cells := 0, slots := 0, locals := 64 } : Room) (PcE G (wX G ad S) sz [.ref (ad (2 + q)), .int (w_)]) (vp_Si (fun (r : Int32) => (r = 0 ∨ r = 1) ∧ ∀ k, k < 7 → w_ = nI k → r = if isK q k = true then 1 else 0)) 0 0 (fun _ => False) := by
  refine Met.ofW (cc := cX11_isOfKind) (maxL := 2) (ret := (some .boolean)) (by decide) rfl ?_
  intro p e s m args below meth c₀ s₁ B hml hv
  obtain ⟨rfl, hsz, hP, hK, hD0, hE⟩ := hv
  have hx := B.exec
  have hb := B.bytes
  have hr := B.returns
  have hT : ∀ w ∈ TBL, w.before ([.ref (ad (2 + q)), .int (w_)] : List Value).toArray s = true := fun w h => atoms_spec (ws := Cond.code yX11_isOfKind cX11_isOfKind 2 (some .boolean) :: TBL) B.pre w (List.mem_cons_of_mem _ h)
  have hown : s.vm.findClass "LittleMore" = some m.cls := findClass_of_methodNamed B.named
  have hlocks := B.notSynchronized
  have hD := hD0
  subst hsz
  have hFc : ∀ q, va_A (wX G ad S) s.heap.size q → va_A (wX G ad S) s.heap.size q := fun _ h => h
  have hS : va_S (va_A (wX G ad S) s.heap.size) s.heap s.heap [] := va_S.rf
  have hP : va_P G.1 vwCl (wX G ad S) s.heap := hP
  have hl := lv_entry ([.ref (ad (2 + q)), .int (w_)]) (n := 2) (Nat.le_of_ble_eq_true rfl)
  rw [lg_entry_eq]
  generalize (lg_sl ([.ref (ad (2 + q)), .int (w_)]) ++ List.replicate (2 - (lg_sl ([.ref (ad (2 + q)), .int (w_)])).length) Slot.unset).toArray = ls at hl ⊢
  have hl : lv_has ls 2 [(0, .ref (ad (2 + q))), (1, .int (w_))] := hl
  refine W_abs (fun Q hQ => ?_)
  generalize ([.ref (ad (2 + q)), .int (w_)] : List Value).toArray = args at hT hQ ⊢
  refine lv_iload_n hx hb (fk_get fk_cX11_isOfKind_0 0 rfl) rfl (lv_at hl 1 rfl) ?_
  by_cases c_1 : w_ = (0 : Int32)
  · refine lv_tableIn (off := 39) (tgt := 40) hx hb (dk_get dk_cX11_isOfKind_0 0 rfl) (by rw [c_1]; decide) (by rw [c_1]; decide) (by rw [c_1]; rfl) (by decide) ?_
    refine lv_iconst (v := 1) hx hb (fk_get fk_cX11_isOfKind_0 1 rfl) (by decide) ?_
    subst hQ
    have hpost : ((1 : Int32) = 0 ∨ (1 : Int32) = 1) ∧ ∀ k, k < 7 → w_ = nI k → (1 : Int32) = if isK q k = true then 1 else 0 := by
      refine ⟨Or.inr rfl, fun k hk ek => ?_⟩
      have e_ : k = 0 := ik_0 hk ek (by assumption)
      subst e_
      simp [isK]
    exact W.zret (v := 1) hx hb hr rfl (fun t_ ht_ hW_ => ⟨1, rfl, hpost, ht_⟩) (fun q h => by cases h) (fk_get fk_cX11_isOfKind_0 2 rfl)
  by_cases c_2 : w_ = (1 : Int32)
  · refine lv_tableIn (off := 41) (tgt := 42) hx hb (dk_get dk_cX11_isOfKind_0 0 rfl) (by rw [c_2]; decide) (by rw [c_2]; decide) (by rw [c_2]; rfl) (by decide) ?_
    refine lv_aload_n hx hb (fk_get fk_cX11_isOfKind_0 3 rfl) rfl (lv_at hl 0 rfl) ?_
    have kk_43 : W p l e ({ frames := 2, cells := 0, slots := 0, locals := 64 } : Room) s m args below meth c₀ s.heap [] 0 0 Q (F0 m 46 ls [.int ((if isK q 1 = true then 1 else 0))]) := by
      subst hQ
      have hpost : (((if isK q 1 = true then 1 else 0) : Int32) = 0 ∨ ((if isK q 1 = true then 1 else 0) : Int32) = 1) ∧ ∀ k, k < 7 → w_ = nI k → ((if isK q 1 = true then 1 else 0) : Int32) = if isK q k = true then 1 else 0 := by
        refine ⟨if1_01 rfl, fun k hk ek => ?_⟩
        have e_ : k = 1 := ik_1 hk ek (by assumption)
        subst e_
        rfl
      exact W.zret (v := (if isK q 1 = true then 1 else 0)) hx hb hr (nar_b (if1_01 (rfl : (if isK q 1 = true then (1 : Int32) else 0) = (if isK q 1 = true then 1 else 0)))) (fun t_ ht_ hW_ => ⟨(if isK q 1 = true then 1 else 0), rfl, hpost, ht_⟩) (fun q h => by cases h) (fk_get fk_cX11_isOfKind_0 5 rfl)
    rcases kq7 hq with rfl | rfl | rfl | rfl | rfl | rfl | rfl
    · exact va_instNo (C := "LittleMore$Kind") hx hb hown (hT _ m1_51) (hE.2.2.2.2.2.2.1 0 1 (by omega) (by omega) (by omega) rfl) (va_recv hK hP (ci := 7) (q0 := 2 + 0) rfl (ix_at (lt71 (by omega)) (cX_knd (by omega)))) (fk_get fk_cX11_isOfKind_0 4 rfl) kk_43
    · exact va_instE hx hb hown (hT _ m1_51) (va_recv hK hP (ci := 10) (q0 := 2 + 1) rfl (ix_at (lt71 (by omega)) (cX_knd (by omega)))) (fk_get fk_cX11_isOfKind_0 4 rfl) kk_43
    · exact va_instNo (C := "LittleMore$Gentle") hx hb hown (hT _ m1_51) (hE.2.2.2.2.2.2.1 2 1 (by omega) (by omega) (by omega) rfl) (va_recv hK hP (ci := 6) (q0 := 2 + 2) rfl (ix_at (lt71 (by omega)) (cX_knd (by omega)))) (fk_get fk_cX11_isOfKind_0 4 rfl) kk_43
    · exact va_instNo (C := "LittleMore$Child") hx hb hown (hT _ m1_51) (hE.2.2.2.2.2.2.1 3 1 (by omega) (by omega) (by omega) rfl) (va_recv hK hP (ci := 2) (q0 := 2 + 3) rfl (ix_at (lt71 (by omega)) (cX_knd (by omega)))) (fk_get fk_cX11_isOfKind_0 4 rfl) kk_43
    · exact va_instY (C := "LittleMore$Counting") hx hb hown (hT _ m1_51) (hE.2.2.2.2.2.1 4 1 (by omega) (by omega) (by omega) (by omega) rfl) (va_recv hK hP (ci := 4) (q0 := 2 + 4) rfl (ix_at (lt71 (by omega)) (cX_knd (by omega)))) (fk_get fk_cX11_isOfKind_0 4 rfl) kk_43
    · exact va_instNo (C := "LittleMore$Leaving") hx hb hown (hT _ m1_51) (hE.2.2.2.2.2.2.1 5 1 (by omega) (by omega) (by omega) rfl) (va_recv hK hP (ci := 8) (q0 := 2 + 5) rfl (ix_at (lt71 (by omega)) (cX_knd (by omega)))) (fk_get fk_cX11_isOfKind_0 4 rfl) kk_43
    · exact va_instNo (C := "LittleMore$Told") hx hb hown (hT _ m1_51) (hE.2.2.2.2.2.2.1 6 1 (by omega) (by omega) (by omega) rfl) (va_recv hK hP (ci := 12) (q0 := 2 + 6) rfl (ix_at (lt71 (by omega)) (cX_knd (by omega)))) (fk_get fk_cX11_isOfKind_0 4 rfl) kk_43
  by_cases c_3 : w_ = (2 : Int32)
  · refine lv_tableIn (off := 46) (tgt := 47) hx hb (dk_get dk_cX11_isOfKind_0 0 rfl) (by rw [c_3]; decide) (by rw [c_3]; decide) (by rw [c_3]; rfl) (by decide) ?_
    refine lv_aload_n hx hb (fk_get fk_cX11_isOfKind_0 6 rfl) rfl (lv_at hl 0 rfl) ?_
    have kk_48 : W p l e ({ frames := 2, cells := 0, slots := 0, locals := 64 } : Room) s m args below meth c₀ s.heap [] 0 0 Q (F0 m 51 ls [.int ((if isK q 2 = true then 1 else 0))]) := by
      subst hQ
      have hpost : (((if isK q 2 = true then 1 else 0) : Int32) = 0 ∨ ((if isK q 2 = true then 1 else 0) : Int32) = 1) ∧ ∀ k, k < 7 → w_ = nI k → ((if isK q 2 = true then 1 else 0) : Int32) = if isK q k = true then 1 else 0 := by
        refine ⟨if1_01 rfl, fun k hk ek => ?_⟩
        have e_ : k = 2 := ik_2 hk ek (by assumption)
        subst e_
        rfl
      exact W.zret (v := (if isK q 2 = true then 1 else 0)) hx hb hr (nar_b (if1_01 (rfl : (if isK q 2 = true then (1 : Int32) else 0) = (if isK q 2 = true then 1 else 0)))) (fun t_ ht_ hW_ => ⟨(if isK q 2 = true then 1 else 0), rfl, hpost, ht_⟩) (fun q h => by cases h) (fk_get fk_cX11_isOfKind_0 8 rfl)
    rcases kq7 hq with rfl | rfl | rfl | rfl | rfl | rfl | rfl
    · exact va_instNo (C := "LittleMore$Kind") hx hb hown (hT _ m1_59) (hE.2.2.2.2.2.2.1 0 2 (by omega) (by omega) (by omega) rfl) (va_recv hK hP (ci := 7) (q0 := 2 + 0) rfl (ix_at (lt71 (by omega)) (cX_knd (by omega)))) (fk_get fk_cX11_isOfKind_0 7 rfl) kk_48
    · exact va_instNo (C := "LittleMore$Strict") hx hb hown (hT _ m1_59) (hE.2.2.2.2.2.2.1 1 2 (by omega) (by omega) (by omega) rfl) (va_recv hK hP (ci := 10) (q0 := 2 + 1) rfl (ix_at (lt71 (by omega)) (cX_knd (by omega)))) (fk_get fk_cX11_isOfKind_0 7 rfl) kk_48
    · exact va_instE hx hb hown (hT _ m1_59) (va_recv hK hP (ci := 6) (q0 := 2 + 2) rfl (ix_at (lt71 (by omega)) (cX_knd (by omega)))) (fk_get fk_cX11_isOfKind_0 7 rfl) kk_48
    · exact va_instNo (C := "LittleMore$Child") hx hb hown (hT _ m1_59) (hE.2.2.2.2.2.2.1 3 2 (by omega) (by omega) (by omega) rfl) (va_recv hK hP (ci := 2) (q0 := 2 + 3) rfl (ix_at (lt71 (by omega)) (cX_knd (by omega)))) (fk_get fk_cX11_isOfKind_0 7 rfl) kk_48
    · exact va_instNo (C := "LittleMore$Counting") hx hb hown (hT _ m1_59) (hE.2.2.2.2.2.2.1 4 2 (by omega) (by omega) (by omega) rfl) (va_recv hK hP (ci := 4) (q0 := 2 + 4) rfl (ix_at (lt71 (by omega)) (cX_knd (by omega)))) (fk_get fk_cX11_isOfKind_0 7 rfl) kk_48
    · exact va_instY (C := "LittleMore$Leaving") hx hb hown (hT _ m1_59) (hE.2.2.2.2.2.1 5 2 (by omega) (by omega) (by omega) (by omega) rfl) (va_recv hK hP (ci := 8) (q0 := 2 + 5) rfl (ix_at (lt71 (by omega)) (cX_knd (by omega)))) (fk_get fk_cX11_isOfKind_0 7 rfl) kk_48
    · exact va_instNo (C := "LittleMore$Told") hx hb hown (hT _ m1_59) (hE.2.2.2.2.2.2.1 6 2 (by omega) (by omega) (by omega) rfl) (va_recv hK hP (ci := 12) (q0 := 2 + 6) rfl (ix_at (lt71 (by omega)) (cX_knd (by omega)))) (fk_get fk_cX11_isOfKind_0 7 rfl) kk_48
  by_cases c_4 : w_ = (3 : Int32)
  · refine lv_tableIn (off := 51) (tgt := 52) hx hb (dk_get dk_cX11_isOfKind_0 0 rfl) (by rw [c_4]; decide) (by rw [c_4]; decide) (by rw [c_4]; rfl) (by decide) ?_
    refine lv_aload_n hx hb (fk_get fk_cX11_isOfKind_0 9 rfl) rfl (lv_at hl 0 rfl) ?_
    have kk_53 : W p l e ({ frames := 2, cells := 0, slots := 0, locals := 64 } : Room) s m args below meth c₀ s.heap [] 0 0 Q (F0 m 56 ls [.int ((if isK q 3 = true then 1 else 0))]) := by
      subst hQ
      have hpost : (((if isK q 3 = true then 1 else 0) : Int32) = 0 ∨ ((if isK q 3 = true then 1 else 0) : Int32) = 1) ∧ ∀ k, k < 7 → w_ = nI k → ((if isK q 3 = true then 1 else 0) : Int32) = if isK q k = true then 1 else 0 := by
        refine ⟨if1_01 rfl, fun k hk ek => ?_⟩
        have e_ : k = 3 := ik_3 hk ek (by assumption)
        subst e_
        rfl
      exact W.zret (v := (if isK q 3 = true then 1 else 0)) hx hb hr (nar_b (if1_01 (rfl : (if isK q 3 = true then (1 : Int32) else 0) = (if isK q 3 = true then 1 else 0)))) (fun t_ ht_ hW_ => ⟨(if isK q 3 = true then 1 else 0), rfl, hpost, ht_⟩) (fun q h => by cases h) (fk_get fk_cX11_isOfKind_0 11 rfl)
    rcases kq7 hq with rfl | rfl | rfl | rfl | rfl | rfl | rfl
    · exact va_instNo (C := "LittleMore$Kind") hx hb hown (hT _ m1_67) (hE.2.2.2.2.2.2.1 0 3 (by omega) (by omega) (by omega) rfl) (va_recv hK hP (ci := 7) (q0 := 2 + 0) rfl (ix_at (lt71 (by omega)) (cX_knd (by omega)))) (fk_get fk_cX11_isOfKind_0 10 rfl) kk_53
    · exact va_instNo (C := "LittleMore$Strict") hx hb hown (hT _ m1_67) (hE.2.2.2.2.2.2.1 1 3 (by omega) (by omega) (by omega) rfl) (va_recv hK hP (ci := 10) (q0 := 2 + 1) rfl (ix_at (lt71 (by omega)) (cX_knd (by omega)))) (fk_get fk_cX11_isOfKind_0 10 rfl) kk_53
    · exact va_instNo (C := "LittleMore$Gentle") hx hb hown (hT _ m1_67) (hE.2.2.2.2.2.2.1 2 3 (by omega) (by omega) (by omega) rfl) (va_recv hK hP (ci := 6) (q0 := 2 + 2) rfl (ix_at (lt71 (by omega)) (cX_knd (by omega)))) (fk_get fk_cX11_isOfKind_0 10 rfl) kk_53
    · exact va_instE hx hb hown (hT _ m1_67) (va_recv hK hP (ci := 2) (q0 := 2 + 3) rfl (ix_at (lt71 (by omega)) (cX_knd (by omega)))) (fk_get fk_cX11_isOfKind_0 10 rfl) kk_53
    · exact va_instNo (C := "LittleMore$Counting") hx hb hown (hT _ m1_67) (hE.2.2.2.2.2.2.1 4 3 (by omega) (by omega) (by omega) rfl) (va_recv hK hP (ci := 4) (q0 := 2 + 4) rfl (ix_at (lt71 (by omega)) (cX_knd (by omega)))) (fk_get fk_cX11_isOfKind_0 10 rfl) kk_53
    · exact va_instNo (C := "LittleMore$Leaving") hx hb hown (hT _ m1_67) (hE.2.2.2.2.2.2.1 5 3 (by omega) (by omega) (by omega) rfl) (va_recv hK hP (ci := 8) (q0 := 2 + 5) rfl (ix_at (lt71 (by omega)) (cX_knd (by omega)))) (fk_get fk_cX11_isOfKind_0 10 rfl) kk_53
    · exact va_instY (C := "LittleMore$Told") hx hb hown (hT _ m1_67) (hE.2.2.2.2.2.1 6 3 (by omega) (by omega) (by omega) (by omega) rfl) (va_recv hK hP (ci := 12) (q0 := 2 + 6) rfl (ix_at (lt71 (by omega)) (cX_knd (by omega)))) (fk_get fk_cX11_isOfKind_0 10 rfl) kk_53
  by_cases c_5 : w_ = (4 : Int32)
  · refine lv_tableIn (off := 56) (tgt := 57) hx hb (dk_get dk_cX11_isOfKind_0 0 rfl) (by rw [c_5]; decide) (by rw [c_5]; decide) (by rw [c_5]; rfl) (by decide) ?_
    refine lv_aload_n hx hb (fk_get fk_cX11_isOfKind_0 12 rfl) rfl (lv_at hl 0 rfl) ?_
    have kk_58 : W p l e ({ frames := 2, cells := 0, slots := 0, locals := 64 } : Room) s m args below meth c₀ s.heap [] 0 0 Q (F0 m 61 ls [.int ((if isK q 4 = true then 1 else 0))]) := by
      subst hQ
      have hpost : (((if isK q 4 = true then 1 else 0) : Int32) = 0 ∨ ((if isK q 4 = true then 1 else 0) : Int32) = 1) ∧ ∀ k, k < 7 → w_ = nI k → ((if isK q 4 = true then 1 else 0) : Int32) = if isK q k = true then 1 else 0 := by
        refine ⟨if1_01 rfl, fun k hk ek => ?_⟩
        have e_ : k = 4 := ik_4 hk ek (by assumption)
        subst e_
        rfl
      exact W.zret (v := (if isK q 4 = true then 1 else 0)) hx hb hr (nar_b (if1_01 (rfl : (if isK q 4 = true then (1 : Int32) else 0) = (if isK q 4 = true then 1 else 0)))) (fun t_ ht_ hW_ => ⟨(if isK q 4 = true then 1 else 0), rfl, hpost, ht_⟩) (fun q h => by cases h) (fk_get fk_cX11_isOfKind_0 14 rfl)
    rcases kq7 hq with rfl | rfl | rfl | rfl | rfl | rfl | rfl
    · exact va_instNo (C := "LittleMore$Kind") hx hb hown (hT _ m1_75) (hE.2.2.2.2.2.2.1 0 4 (by omega) (by omega) (by omega) rfl) (va_recv hK hP (ci := 7) (q0 := 2 + 0) rfl (ix_at (lt71 (by omega)) (cX_knd (by omega)))) (fk_get fk_cX11_isOfKind_0 13 rfl) kk_58
    · exact va_instNo (C := "LittleMore$Strict") hx hb hown (hT _ m1_75) (hE.2.2.2.2.2.2.1 1 4 (by omega) (by omega) (by omega) rfl) (va_recv hK hP (ci := 10) (q0 := 2 + 1) rfl (ix_at (lt71 (by omega)) (cX_knd (by omega)))) (fk_get fk_cX11_isOfKind_0 13 rfl) kk_58
    · exact va_instNo (C := "LittleMore$Gentle") hx hb hown (hT _ m1_75) (hE.2.2.2.2.2.2.1 2 4 (by omega) (by omega) (by omega) rfl) (va_recv hK hP (ci := 6) (q0 := 2 + 2) rfl (ix_at (lt71 (by omega)) (cX_knd (by omega)))) (fk_get fk_cX11_isOfKind_0 13 rfl) kk_58
    · exact va_instNo (C := "LittleMore$Child") hx hb hown (hT _ m1_75) (hE.2.2.2.2.2.2.1 3 4 (by omega) (by omega) (by omega) rfl) (va_recv hK hP (ci := 2) (q0 := 2 + 3) rfl (ix_at (lt71 (by omega)) (cX_knd (by omega)))) (fk_get fk_cX11_isOfKind_0 13 rfl) kk_58
    · exact va_instE hx hb hown (hT _ m1_75) (va_recv hK hP (ci := 4) (q0 := 2 + 4) rfl (ix_at (lt71 (by omega)) (cX_knd (by omega)))) (fk_get fk_cX11_isOfKind_0 13 rfl) kk_58
    · exact va_instNo (C := "LittleMore$Leaving") hx hb hown (hT _ m1_75) (hE.2.2.2.2.2.2.1 5 4 (by omega) (by omega) (by omega) rfl) (va_recv hK hP (ci := 8) (q0 := 2 + 5) rfl (ix_at (lt71 (by omega)) (cX_knd (by omega)))) (fk_get fk_cX11_isOfKind_0 13 rfl) kk_58
    · exact va_instNo (C := "LittleMore$Told") hx hb hown (hT _ m1_75) (hE.2.2.2.2.2.2.1 6 4 (by omega) (by omega) (by omega) rfl) (va_recv hK hP (ci := 12) (q0 := 2 + 6) rfl (ix_at (lt71 (by omega)) (cX_knd (by omega)))) (fk_get fk_cX11_isOfKind_0 13 rfl) kk_58
  by_cases c_6 : w_ = (5 : Int32)
  · refine lv_tableIn (off := 61) (tgt := 62) hx hb (dk_get dk_cX11_isOfKind_0 0 rfl) (by rw [c_6]; decide) (by rw [c_6]; decide) (by rw [c_6]; rfl) (by decide) ?_
    refine lv_aload_n hx hb (fk_get fk_cX11_isOfKind_0 15 rfl) rfl (lv_at hl 0 rfl) ?_
    have kk_63 : W p l e ({ frames := 2, cells := 0, slots := 0, locals := 64 } : Room) s m args below meth c₀ s.heap [] 0 0 Q (F0 m 66 ls [.int ((if isK q 5 = true then 1 else 0))]) := by
      subst hQ
      have hpost : (((if isK q 5 = true then 1 else 0) : Int32) = 0 ∨ ((if isK q 5 = true then 1 else 0) : Int32) = 1) ∧ ∀ k, k < 7 → w_ = nI k → ((if isK q 5 = true then 1 else 0) : Int32) = if isK q k = true then 1 else 0 := by
        refine ⟨if1_01 rfl, fun k hk ek => ?_⟩
        have e_ : k = 5 := ik_5 hk ek (by assumption)
        subst e_
        rfl
      exact W.zret (v := (if isK q 5 = true then 1 else 0)) hx hb hr (nar_b (if1_01 (rfl : (if isK q 5 = true then (1 : Int32) else 0) = (if isK q 5 = true then 1 else 0)))) (fun t_ ht_ hW_ => ⟨(if isK q 5 = true then 1 else 0), rfl, hpost, ht_⟩) (fun q h => by cases h) (fk_get fk_cX11_isOfKind_0 17 rfl)
    rcases kq7 hq with rfl | rfl | rfl | rfl | rfl | rfl | rfl
    · exact va_instNo (C := "LittleMore$Kind") hx hb hown (hT _ m1_83) (hE.2.2.2.2.2.2.1 0 5 (by omega) (by omega) (by omega) rfl) (va_recv hK hP (ci := 7) (q0 := 2 + 0) rfl (ix_at (lt71 (by omega)) (cX_knd (by omega)))) (fk_get fk_cX11_isOfKind_0 16 rfl) kk_63
    · exact va_instNo (C := "LittleMore$Strict") hx hb hown (hT _ m1_83) (hE.2.2.2.2.2.2.1 1 5 (by omega) (by omega) (by omega) rfl) (va_recv hK hP (ci := 10) (q0 := 2 + 1) rfl (ix_at (lt71 (by omega)) (cX_knd (by omega)))) (fk_get fk_cX11_isOfKind_0 16 rfl) kk_63
    · exact va_instNo (C := "LittleMore$Gentle") hx hb hown (hT _ m1_83) (hE.2.2.2.2.2.2.1 2 5 (by omega) (by omega) (by omega) rfl) (va_recv hK hP (ci := 6) (q0 := 2 + 2) rfl (ix_at (lt71 (by omega)) (cX_knd (by omega)))) (fk_get fk_cX11_isOfKind_0 16 rfl) kk_63
    · exact va_instNo (C := "LittleMore$Child") hx hb hown (hT _ m1_83) (hE.2.2.2.2.2.2.1 3 5 (by omega) (by omega) (by omega) rfl) (va_recv hK hP (ci := 2) (q0 := 2 + 3) rfl (ix_at (lt71 (by omega)) (cX_knd (by omega)))) (fk_get fk_cX11_isOfKind_0 16 rfl) kk_63
    · exact va_instNo (C := "LittleMore$Counting") hx hb hown (hT _ m1_83) (hE.2.2.2.2.2.2.1 4 5 (by omega) (by omega) (by omega) rfl) (va_recv hK hP (ci := 4) (q0 := 2 + 4) rfl (ix_at (lt71 (by omega)) (cX_knd (by omega)))) (fk_get fk_cX11_isOfKind_0 16 rfl) kk_63
    · exact va_instE hx hb hown (hT _ m1_83) (va_recv hK hP (ci := 8) (q0 := 2 + 5) rfl (ix_at (lt71 (by omega)) (cX_knd (by omega)))) (fk_get fk_cX11_isOfKind_0 16 rfl) kk_63
    · exact va_instNo (C := "LittleMore$Told") hx hb hown (hT _ m1_83) (hE.2.2.2.2.2.2.1 6 5 (by omega) (by omega) (by omega) rfl) (va_recv hK hP (ci := 12) (q0 := 2 + 6) rfl (ix_at (lt71 (by omega)) (cX_knd (by omega)))) (fk_get fk_cX11_isOfKind_0 16 rfl) kk_63
  have o_7 : (w_).toInt < 0 ∨ 5 < (w_).toInt := by
    have qc_1 : ¬ (w_).toInt = 0 := lv_neT c_1 (by decide)
    have qc_2 : ¬ (w_).toInt = 1 := lv_neT c_2 (by decide)
    have qc_3 : ¬ (w_).toInt = 2 := lv_neT c_3 (by decide)
    have qc_4 : ¬ (w_).toInt = 3 := lv_neT c_4 (by decide)
    have qc_5 : ¬ (w_).toInt = 4 := lv_neT c_5 (by decide)
    have qc_6 : ¬ (w_).toInt = 5 := lv_neT c_6 (by decide)
    omega
  refine lv_tableOut (tgt := 67) hx hb (dk_get dk_cX11_isOfKind_0 0 rfl) o_7 (by decide) ?_
  refine lv_aload_n hx hb (fk_get fk_cX11_isOfKind_0 18 rfl) rfl (lv_at hl 0 rfl) ?_
  have kk_68 : W p l e ({ frames := 2, cells := 0, slots := 0, locals := 64 } : Room) s m args below meth c₀ s.heap [] 0 0 Q (F0 m 71 ls [.int ((if isK q 6 = true then 1 else 0))]) := by
    subst hQ
    have hpost : (((if isK q 6 = true then 1 else 0) : Int32) = 0 ∨ ((if isK q 6 = true then 1 else 0) : Int32) = 1) ∧ ∀ k, k < 7 → w_ = nI k → ((if isK q 6 = true then 1 else 0) : Int32) = if isK q k = true then 1 else 0 := by
      refine ⟨if1_01 rfl, fun k hk ek => ?_⟩
      have e_ : k = 6 := by
        rcases kq7 hk with rfl | rfl | rfl | rfl | rfl | rfl | rfl
        · exact absurd ek (by assumption)
        · exact absurd ek (by assumption)
        · exact absurd ek (by assumption)
        · exact absurd ek (by assumption)
        · exact absurd ek (by assumption)
        · exact absurd ek (by assumption)
        · rfl
      subst e_
      rfl
    exact W.zret (v := (if isK q 6 = true then 1 else 0)) hx hb hr (nar_b (if1_01 (rfl : (if isK q 6 = true then (1 : Int32) else 0) = (if isK q 6 = true then 1 else 0)))) (fun t_ ht_ hW_ => ⟨(if isK q 6 = true then 1 else 0), rfl, hpost, ht_⟩) (fun q h => by cases h) (fk_get fk_cX11_isOfKind_0 20 rfl)
  rcases kq7 hq with rfl | rfl | rfl | rfl | rfl | rfl | rfl
  · exact va_instNo (C := "LittleMore$Kind") hx hb hown (hT _ m1_91) (hE.2.2.2.2.2.2.1 0 6 (by omega) (by omega) (by omega) rfl) (va_recv hK hP (ci := 7) (q0 := 2 + 0) rfl (ix_at (lt71 (by omega)) (cX_knd (by omega)))) (fk_get fk_cX11_isOfKind_0 19 rfl) kk_68
  · exact va_instNo (C := "LittleMore$Strict") hx hb hown (hT _ m1_91) (hE.2.2.2.2.2.2.1 1 6 (by omega) (by omega) (by omega) rfl) (va_recv hK hP (ci := 10) (q0 := 2 + 1) rfl (ix_at (lt71 (by omega)) (cX_knd (by omega)))) (fk_get fk_cX11_isOfKind_0 19 rfl) kk_68
  · exact va_instNo (C := "LittleMore$Gentle") hx hb hown (hT _ m1_91) (hE.2.2.2.2.2.2.1 2 6 (by omega) (by omega) (by omega) rfl) (va_recv hK hP (ci := 6) (q0 := 2 + 2) rfl (ix_at (lt71 (by omega)) (cX_knd (by omega)))) (fk_get fk_cX11_isOfKind_0 19 rfl) kk_68
  · exact va_instNo (C := "LittleMore$Child") hx hb hown (hT _ m1_91) (hE.2.2.2.2.2.2.1 3 6 (by omega) (by omega) (by omega) rfl) (va_recv hK hP (ci := 2) (q0 := 2 + 3) rfl (ix_at (lt71 (by omega)) (cX_knd (by omega)))) (fk_get fk_cX11_isOfKind_0 19 rfl) kk_68
  · exact va_instNo (C := "LittleMore$Counting") hx hb hown (hT _ m1_91) (hE.2.2.2.2.2.2.1 4 6 (by omega) (by omega) (by omega) rfl) (va_recv hK hP (ci := 4) (q0 := 2 + 4) rfl (ix_at (lt71 (by omega)) (cX_knd (by omega)))) (fk_get fk_cX11_isOfKind_0 19 rfl) kk_68
  · exact va_instNo (C := "LittleMore$Leaving") hx hb hown (hT _ m1_91) (hE.2.2.2.2.2.2.1 5 6 (by omega) (by omega) (by omega) rfl) (va_recv hK hP (ci := 8) (q0 := 2 + 5) rfl (ix_at (lt71 (by omega)) (cX_knd (by omega)))) (fk_get fk_cX11_isOfKind_0 19 rfl) kk_68
  · exact va_instE hx hb hown (hT _ m1_91) (va_recv hK hP (ci := 12) (q0 := 2 + 6) rfl (ix_at (lt71 (by omega)) (cX_knd (by omega)))) (fk_get fk_cX11_isOfKind_0 19 rfl) kk_68
