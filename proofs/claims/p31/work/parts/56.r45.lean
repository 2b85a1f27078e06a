theorem pX_din {G : GG} {ad : Nat → Nat} {S : FS} {a L : Nat} (h : DIN S a L) (f : Nat → Int32) : (wX G ad S).set a (ad a, .inl (G.2.1 0, L, .inl f)) = wX G ad (setA S a f) := wX_setA h.2.1 (by
  have h' : DIN (setA S a f) a L := h
  rw [cX_din h', fA_setA, if_pos rfl])
/-- what is written into a place that wasn't there changes nothing old -/
theorem frnew {P : Nat → Nat → Prop} {S0 S : FS} {a : Nat} {f : Nat → Int32} (h : Fr P S0 S) (ha : 71 + fC S0 ≤ a) : Fr P S0 (setA S a f) :=
  ⟨h.1, fun j hj => ⟨(h.2 j hj).1, fun n => by rw [fA_setA, if_neg (by omega)]; exact h.A hj n, (h.2 j hj).2.2⟩⟩
theorem Fr.tr {P P' : Nat → Nat → Prop} {S0 S S1 : FS} (h : Fr P S0 S) (g : Fr P' S S1) (hp : ∀ j k, j < 71 + fC S0 → P' j k → P j k) : Fr P S0 S1 :=
  ⟨Nat.le_trans h.1 g.1, fun j hj => by
    have hj' : j < 71 + fC S := Nat.lt_of_lt_of_le hj (Nat.add_le_add_left h.1 71)
    exact ⟨fun k n => ⟨(g.F hj' (fun z => n (hp j k hj z))).trans (h.F hj n), (g.R hj' (fun z => n (hp j k hj z))).trans (h.R hj n)⟩, fun n => (g.A hj' (fun z => n (hp j 99 hj z))).trans (h.A hj n), fun n => (g.L hj' (fun z => n (hp j 98 hj z))).trans (h.L hj n), (g.N hj').trans (h.N hj), (g.K hj').trans (h.K hj)⟩⟩
theorem fit_arr {cA : ClassId} {n i : Nat} {f : Nat → Int32} {v : Value} (h : (vp_cell cA (n, .inl f)).slots[i]? = some v) : fits .int v = true := by
  have h' : (arrV cA n (fun j => .int (f j))).slots[i]? = some v := h
  by_cases hi : i < n
  · rw [arrV_read _ _ hi] at h'
    cases h'
    rfl
  · rw [Array.getElem?_eq_none (by rw [arrV_size]; omega)] at h'
    cases h'
theorem cz100 {cz : Nat} (h : cz < 2 ^ 31) (e : nI cz = 100) : cz = 100 := by
  have := congrArg Int32.toNatClampNeg e
  rwa [nI_clamp h] at this
theorem mn100 {cz : Nat} {r : Int32} (h : r = if nI cz < 100 then nI cz else 100) (hc : cz ≤ 100) : r = nI cz := by
  by_cases q : nI cz < 100
  · rw [if_pos q] at h
    exact h
  · rw [if_neg q] at h
    have := ci_nlt (a := cz) (b := 100) (by omega) (by omega) q
    rw [h, show cz = 100 by omega]
    rfl
set_option maxHeartbeats 800000 in
set_option maxRecDepth 100000 in
theorem c_jcopyI (l : Launch) (G : GG) (ad : Nat → Nat) (S : FS) (sz : Nat) (ia cz : Nat) (hia : isA ia 0 100) (hib : ia < 71) (hc100 : cz ≤ 100) (hX : XI S) : Met l yJ7_copyOf_59c91 (Cond.code yJ7_copyOf_59c91 cJ7_copyOf_59c91 3 (some (.array .int)) :: TBL) ({ frames := 3, cells := 1, slots := 100, locals := 89 } : Room) (PcE G (wX G ad S) sz [.ref (ad ia), .int ((nI cz))]) (va_Qq (fun (r : Option Nat) (u : FS × (Nat → Nat)) => XI u.1 ∧ Fr (fun j k => j = 0 ∧ j = 1) S u.1 ∧ (∀ j, j < 71 + fC S → u.2 j = ad j) ∧ ∃ p, r = some (u.2 p) ∧ 71 + fC S ≤ p ∧ DIN u.1 p cz) (fun u t => BW G (va_A (wX G ad S) sz) (wX G u.2 u.1) t) (va_A (wX G ad S) sz)) 1 100 (va_A (wX G ad S) sz) := by
  refine va_MetF (cc := cJ7_copyOf_59c91) (maxL := 3) (ret := (some (.array .int))) (by decide +kernel) rfl ?_
  intro p e s m args below meth c₀ s₁ B hml hv
  obtain ⟨rfl, hsz, hP, hK, hD0, hE⟩ := hv
  have hx := B.exec
  have hb := B.bytes
  have hr := B.returns
  have hT : ∀ w ∈ TBL, w.before ([.ref (ad ia), .int ((nI cz))] : List Value).toArray s = true := fun w h => atoms_spec (ws := Cond.code yJ7_copyOf_59c91 cJ7_copyOf_59c91 3 (some (.array .int)) :: TBL) B.pre w (List.mem_cons_of_mem _ h)
  have hown : s.vm.findClass "java/util/Arrays" = some m.cls := findClass_of_methodNamed B.named
  have hlocks := B.notSynchronized
  subst hsz
  have hD := hD0.self (sz := s.heap.size)
  generalize hAe : va_A (wX G ad S) s.heap.size = A at hD hE ⊢
  have hA : ∀ q : Nat, s.heap.size ≤ q → A q := fun q h => by rw [← hAe]; exact Or.inr h
  have hS : va_S A s.heap s.heap [] := va_S.rf
  have hP : va_P G.1 vwCl (wX G ad S) s.heap := hP
  have hl := lv_entry ([.ref (ad ia), .int ((nI cz))]) (n := 3) (Nat.le_of_ble_eq_true rfl)
  rw [lg_entry_eq]
  generalize (lg_sl ([.ref (ad ia), .int ((nI cz))]) ++ List.replicate (3 - (lg_sl ([.ref (ad ia), .int ((nI cz))])).length) Slot.unset).toArray = ls at hl ⊢
  have hl : lv_has ls 3 [(0, .ref (ad ia)), (1, .int ((nI cz)))] := hl
  refine W_abs (fun Q hQ => ?_)
  generalize ([.ref (ad ia), .int ((nI cz))] : List Value).toArray = args at hT hQ ⊢
  refine lv_iload_n hx hb (fk_get fk_cJ7_copyOf_59c91_0 0 rfl) rfl (lv_at hl 1 rfl) ?_
  refine lv_aload_n hx hb (fk_get fk_cJ7_copyOf_59c91_0 1 rfl) rfl (lv_at hl 0 rfl) ?_
  refine va_alen hx hb hK hP ia 0 (ix_at (lt71 (by omega)) (cX_arr hia)) rfl (v := 100) rfl (fk_get fk_cJ7_copyOf_59c91_0 2 rfl) ?_
  refine lv_icmp_ne (tgt := 14) hx hb (fk_get fk_cJ7_copyOf_59c91_0 3 rfl) (by decide) (fun c_1 => ?_) (fun c_1 => ?_)
  · refine lv_iload_n hx hb (fk_get fk_cJ7_copyOf_59c91_0 8 rfl) rfl (lv_at hl 1 rfl) ?_
    refine r_newa (atype := .int) (N' := cz) (a0 := (cz, .inl (fun _ => 0))) (ty := .int) hx hb (hT _ m1_129) rfl hK hP hD hS hA 0 rfl (fun _ => by intro h; cases h) (fun _ => rfl) (nI_pos (by omega)) (nI_clamp (by omega)) (by show cz * 4 ≤ 536870912; omega) (Nat.le_of_ble_eq_true rfl) (Nat.le_trans (Nat.add_le_add_left (show cz ≤ 100 by omega) _) (Nat.le_of_ble_eq_true rfl)) (dk_get dk_cJ7_copyOf_59c91_0 0 rfl) (fun q_ H hP hD hS => ?_)
    obtain ⟨ad_3, hg_2_, hq_, hPn_, hDn_⟩ := xb 1 cz (fun _ => 0) (fun _ => 0) (fun _ => none) hX (fun _ => rfl) hP hD
    subst hq_
    have hP := hPn_
    have hD := hDn_
    clear hPn_ hDn_
    obtain ⟨S_4, hS_4⟩ : ∃ T, T = gNew S 1 cz (fun _ => 0) (fun _ => 0) (fun _ => none) := ⟨_, rfl⟩
    rw [← hS_4] at hP hD
    have hX_5 : XI S_4 := by rw [hS_4]; exact XI.gnew hX (by intro h; omega)
    have hF_6_ : Fr (fun j _ => j = 0 ∧ j = 1) S S_4 := by rw [hS_4]; exact gNew_fr
    have hF_6 : Fr (fun j k => j = 0 ∧ j = 1) S S_4 := Fr.trans (Fr.rf : Fr (fun j k => j = 0 ∧ j = 1) S S) (Fr.mono hF_6_ (fun j k h => by omega))
    have hg_2 : ∀ j, j < 71 + fC S → ad_3 j = ad j := fun j hj => (hg_2_ j (Nat.lt_of_lt_of_le hj (Nat.add_le_add_left ((Fr.rf : Fr (fun j k => j = 0 ∧ j = 1) S S)).1 71))).trans ((fun _ _ => rfl) j hj)
    obtain ⟨p_7, hp_7⟩ : ∃ p, p = 71 + fC S := ⟨_, rfl⟩
    rw [← hp_7]
    have kp_7 : fK S_4 p_7 = 1 := by rw [hS_4, hp_7]; exact gNew_K _ _ _ _ _ _
    have np_7 : fN S_4 p_7 = cz := by rw [hS_4, hp_7]; exact gNew_N _ _ _ _ _ _
    have rp_7 : fR S_4 p_7 = (fun _ => none) := by rw [hS_4, hp_7]; exact gNew_R _ _ _ _ _ _
    have cp_7 : fC S_4 = fC S + 1 := by rw [hS_4]; rfl
    have lp_7 : p_7 < 71 + fC S_4 := by omega
    have ep_7 : 71 + fC S ≤ p_7 := by have hc_ := ((Fr.rf : Fr (fun j k => j = 0 ∧ j = 1) S S)).1; omega
    have hl : lv_has ls 3 [(0, .ref (ad_3 ia)), (1, .int ((nI cz)))] := by rw [hg_2_ ia ((lt71 (by omega)))]; exact hl
    refine lv_astore_n (lv' := [(2, .ref (ad_3 p_7)), (0, .ref (ad_3 ia)), (1, .int ((nI cz)))]) hx hb (fk_get fk_cJ7_copyOf_59c91_0 9 rfl) rfl hl (by decide) rfl (fun ls hl => ?_)
    refine lv_aload_n hx hb (fk_get fk_cJ7_copyOf_59c91_0 10 rfl) rfl (lv_at hl 1 rfl) ?_
    refine lv_iconst (v := 0) hx hb (fk_get fk_cJ7_copyOf_59c91_0 11 rfl) (by decide) ?_
    refine lv_aload_n hx hb (fk_get fk_cJ7_copyOf_59c91_0 12 rfl) rfl (lv_at hl 0 rfl) ?_
    refine lv_iconst (v := 0) hx hb (fk_get fk_cJ7_copyOf_59c91_0 13 rfl) (by decide) ?_
    refine lv_aload_n hx hb (fk_get fk_cJ7_copyOf_59c91_0 14 rfl) rfl (lv_at hl 1 rfl) ?_
    refine va_alen hx hb hK hP ia 0 (ix_at (lt71 (by omega)) (cX_arr hia)) rfl (v := 100) rfl (fk_get fk_cJ7_copyOf_59c91_0 15 rfl) ?_
    refine lv_iload_n hx hb (fk_get fk_cJ7_copyOf_59c91_0 16 rfl) rfl (lv_at hl 2 rfl) ?_
    refine vp_callSi (W.runS (As := [.int (100), .int ((nI cz))]) (rest := [.int (0), .ref (ad_3 p_7), .int (0), .ref (ad_3 ia)]) ⟨hx, hb, hml, hown, hT⟩ (c_jmin l (100) ((nI cz)) ) (tS 2 hT m3_149 m3_94 m1_18 m3_95 rfl rfl (by decide +kernel) ⟨Nat.le_of_ble_eq_true rfl, Nat.le_of_ble_eq_true rfl⟩) ⟨PcN_blind, PcN_of _ _ _⟩ rfl rfl hl.1 rfl (lv_room (Nat.le_of_ble_eq_true rfl)) (fk_get fk_cJ7_copyOf_59c91_0 17 rfl) ⟨(by show (0 + 1) + 0 ≤ 1; omega), (by show (0 + cz) + 0 ≤ 100; omega)⟩) (fun r_8 hw_9 => ?_)
    try dsimp only at hw_9
    have e_ := mn100 hw_9 hc100
    subst e_
    refine va_copyi hx hb (by rw [hml]; exact hl.1.symm) hown (hT _ m3_150) (hT _ m3_152) (hT _ m3_151) (hT _ m1_24) hK hP hD hS ia p_7 0 0 (ix_at (lt71 (by omega)) (cX_arr hia)) (ix_at ((show DIN S_4 p_7 cz from ⟨by omega, lp_7, kp_7, np_7⟩)).2.1 (cX_din (show DIN S_4 p_7 cz from ⟨by omega, lp_7, kp_7, np_7⟩))) rfl rfl rfl (by decide) (by decide) (nI_pos (by omega)) (by rw [nI_clamp (by omega)]; show 0 + cz ≤ 100; omega) (by rw [nI_clamp (by omega)]; show 0 + cz ≤ cz; omega) (fun _ _ => rfl) (Nat.le_of_ble_eq_true rfl) (Nat.le_of_ble_eq_true rfl) (fk_get fk_cJ7_copyOf_59c91_0 18 rfl) (fun H locs hP hD hS => ?_)
    rw [pX_din (G := G) (ad := ad_3) (S := S_4) (show DIN S_4 p_7 cz from ⟨by omega, lp_7, kp_7, np_7⟩) (va_cpy (fA S_4 ia) (fA S_4 p_7) (0 : Int32).toNatClampNeg (0 : Int32).toNatClampNeg ((nI cz) : Int32).toNatClampNeg)] at hP hD
    have hX_10 : XI (setA S_4 p_7 (va_cpy (fA S_4 ia) (fA S_4 p_7) (0 : Int32).toNatClampNeg (0 : Int32).toNatClampNeg ((nI cz) : Int32).toNatClampNeg)) := XI.sA hX_5 _ (by omega)
    have hF_11 : Fr (fun j k => j = 0 ∧ j = 1) S (setA S_4 p_7 (va_cpy (fA S_4 ia) (fA S_4 p_7) (0 : Int32).toNatClampNeg (0 : Int32).toNatClampNeg ((nI cz) : Int32).toNatClampNeg)) := frnew hF_6 (by omega)
    refine lv_aload_n hx hb (fk_get fk_cJ7_copyOf_59c91_0 19 rfl) rfl (lv_at hl 0 rfl) ?_
    subst hQ
    have hpost : XI (setA S_4 p_7 (va_cpy (fA S_4 ia) (fA S_4 p_7) (0 : Int32).toNatClampNeg (0 : Int32).toNatClampNeg ((nI cz) : Int32).toNatClampNeg)) ∧ Fr (fun j k => j = 0 ∧ j = 1) S (setA S_4 p_7 (va_cpy (fA S_4 ia) (fA S_4 p_7) (0 : Int32).toNatClampNeg (0 : Int32).toNatClampNeg ((nI cz) : Int32).toNatClampNeg)) ∧ (∀ j, j < 71 + fC S → ad_3 j = ad j) ∧ ∃ p, ((some (ad_3 p_7)) : Option Nat) = some (ad_3 p) ∧ 71 + fC S ≤ p ∧ DIN (setA S_4 p_7 (va_cpy (fA S_4 ia) (fA S_4 p_7) (0 : Int32).toNatClampNeg (0 : Int32).toNatClampNeg ((nI cz) : Int32).toNatClampNeg)) p cz := by
      exact ⟨hX_10, hF_11, hg_2, ⟨p_7, rfl, by omega, ⟨by omega, lp_7, kp_7, (np_7).trans (by omega)⟩⟩⟩
    refine W.widen (k := 1) (n := 100) (by omega) (by omega) ?_
    exact W.aret hx hb hr (Or.inr ⟨_, rfl⟩) (Or.inr ⟨_, rfl⟩) (fun t_ ht_ hW_ => ⟨⟨(some (ad_3 p_7)), ((setA S_4 p_7 (va_cpy (fA S_4 ia) (fA S_4 p_7) (0 : Int32).toNatClampNeg (0 : Int32).toNatClampNeg ((nI cz) : Int32).toNatClampNeg)), ad_3), rfl, hpost, by rw [ht_]; exact hP, va_K.moved hW_.alike hK, hD⟩, hS.F ht_⟩) hS.2.2 (fk_get fk_cJ7_copyOf_59c91_0 20 rfl)
  have e100 : cz = 100 := by first | exact cz100 (by omega) c_1 | exact cz100 (by omega) (Decidable.not_not.mp c_1)
  refine lv_aload_n hx hb (fk_get fk_cJ7_copyOf_59c91_0 4 rfl) rfl (lv_at hl 0 rfl) ?_
  refine va_clone (ad := "[I") hx hb (by rw [hml]; exact hl.1.symm) hown (hT _ m3_142) (hT _ m3_143) (hT _ m3_144) (hT _ m3_145) (hT _ m3_146) hE.2.2.2.2.2.2.2.2.1 hK hP hD hS hA ia 0 (ix_at (lt71 (by omega)) (cX_arr hia)) rfl (hK.2 0 _ rfl).2 (fun i v h => fit_arr h) (Nat.le_of_ble_eq_true rfl) (Nat.le_of_ble_eq_true rfl) (Nat.le_of_ble_eq_true rfl) (Nat.le_of_ble_eq_true rfl) (fk_get fk_cJ7_copyOf_59c91_0 5 rfl) (fun q_ H _ hP hD hS => ?_)
  obtain ⟨ad_13, hg_12_, hq_, hPn_, hDn_⟩ := xb 1 100 (fun _ => 0) (fA S ia) (fun _ => none) hX (fun _ => rfl) hP hD
  subst hq_
  have hP := hPn_
  have hD := hDn_
  clear hPn_ hDn_
  obtain ⟨S_14, hS_14⟩ : ∃ T, T = gNew S 1 100 (fun _ => 0) (fA S ia) (fun _ => none) := ⟨_, rfl⟩
  rw [← hS_14] at hP hD
  have hX_15 : XI S_14 := by rw [hS_14]; exact XI.gnew hX (by intro h; omega)
  have hF_16_ : Fr (fun j _ => j = 0 ∧ j = 1) S S_14 := by rw [hS_14]; exact gNew_fr
  have hF_16 : Fr (fun j k => j = 0 ∧ j = 1) S S_14 := Fr.trans (Fr.rf : Fr (fun j k => j = 0 ∧ j = 1) S S) (Fr.mono hF_16_ (fun j k h => by omega))
  have hg_12 : ∀ j, j < 71 + fC S → ad_13 j = ad j := fun j hj => (hg_12_ j (Nat.lt_of_lt_of_le hj (Nat.add_le_add_left ((Fr.rf : Fr (fun j k => j = 0 ∧ j = 1) S S)).1 71))).trans ((fun _ _ => rfl) j hj)
  obtain ⟨p_17, hp_17⟩ : ∃ p, p = 71 + fC S := ⟨_, rfl⟩
  rw [← hp_17]
  have kp_17 : fK S_14 p_17 = 1 := by rw [hS_14, hp_17]; exact gNew_K _ _ _ _ _ _
  have np_17 : fN S_14 p_17 = 100 := by rw [hS_14, hp_17]; exact gNew_N _ _ _ _ _ _
  have rp_17 : fR S_14 p_17 = (fun _ => none) := by rw [hS_14, hp_17]; exact gNew_R _ _ _ _ _ _
  have cp_17 : fC S_14 = fC S + 1 := by rw [hS_14]; rfl
  have lp_17 : p_17 < 71 + fC S_14 := by omega
  have ep_17 : 71 + fC S ≤ p_17 := by have hc_ := ((Fr.rf : Fr (fun j k => j = 0 ∧ j = 1) S S)).1; omega
  have hl : lv_has ls 3 [(0, .ref (ad_13 ia)), (1, .int ((nI cz)))] := by rw [hg_12_ ia ((lt71 (by omega)))]; exact hl
  refine va_castA hx hb hown (hT _ m3_148) hP p_17 (ix_at ((show DIN S_14 p_17 100 from ⟨by omega, lp_17, kp_17, np_17⟩)).2.1 (cX_din (show DIN S_14 p_17 100 from ⟨by omega, lp_17, kp_17, np_17⟩))) (hK.2 0 _ rfl).2 (fk_get fk_cJ7_copyOf_59c91_0 6 rfl) ?_
  subst hQ
  have hpost : XI S_14 ∧ Fr (fun j k => j = 0 ∧ j = 1) S S_14 ∧ (∀ j, j < 71 + fC S → ad_13 j = ad j) ∧ ∃ p, ((some (ad_13 p_17)) : Option Nat) = some (ad_13 p) ∧ 71 + fC S ≤ p ∧ DIN S_14 p cz := by
    exact ⟨hX_15, hF_16, hg_12, ⟨p_17, rfl, by omega, ⟨by omega, lp_17, kp_17, (np_17).trans (by omega)⟩⟩⟩
  refine W.widen (k := 1) (n := 100) (by omega) (by omega) ?_
  exact W.aret hx hb hr (Or.inr ⟨_, rfl⟩) (Or.inr ⟨_, rfl⟩) (fun t_ ht_ hW_ => ⟨⟨(some (ad_13 p_17)), (S_14, ad_13), rfl, hpost, by rw [ht_]; exact hP, va_K.moved hW_.alike hK, hD⟩, hS.F ht_⟩) hS.2.2 (fk_get fk_cJ7_copyOf_59c91_0 7 rfl)
theorem pX_ctrF {G : GG} {ad : Nat → Nat} {S : FS} {pz : Nat} (h71 : 71 ≤ pz) (hlt : pz < 71 + fC S) (hk : fK S pz = 0) (k : Nat) (hk2 : k < 2) (x : Int32) : (wX G ad S).set pz (ad pz, .inr (3, List.set [.int (fF S pz 0), .int (fF S pz 1), va_rf ((fR S pz 2).map ad), va_rf ((fR S pz 3).map ad)] k (.int x))) = wX G ad (setF S pz k x) :=
  wX_setF hlt (by
    have hk' : fK (setF S pz k x) pz = 0 := hk
    rw [cX_ctr h71 hk']
    rcases (show k = 0 ∨ k = 1 by omega) with rfl | rfl <;> simp [fF_setF, fR_setF])
theorem pX_ctrR {G : GG} {ad : Nat → Nat} {S : FS} {pz : Nat} (h71 : 71 ≤ pz) (hlt : pz < 71 + fC S) (hk : fK S pz = 0) (k : Nat) (hk2 : k = 2 ∨ k = 3) (x : Nat) : (wX G ad S).set pz (ad pz, .inr (3, List.set [.int (fF S pz 0), .int (fF S pz 1), va_rf ((fR S pz 2).map ad), va_rf ((fR S pz 3).map ad)] k (.ref (ad x)))) = wX G ad (setR S pz k (some x)) :=
  wX_setR hlt (by
    have hk' : fK (setR S pz k (some x)) pz = 0 := hk
    rw [cX_ctr h71 hk']
    rcases hk2 with rfl | rfl <;> simp [fF_setR, fR_setR, va_rf])
theorem XI.dF {S : FS} (h : XI S) {pz k : Nat} (v : Int32) (h71 : 71 ≤ pz) : XI (setF S pz k v) := by
  obtain ⟨h1, h2, h3, h4, h5, h6, h7, h8, h9, h10⟩ := h
  have f : Fr (fun j m => j = pz ∧ m = k) S (setF S pz k v) := Fr.sF Fr.rf ⟨rfl, rfl⟩
  refine ⟨h1.fr f (by omega), h2.fr f (by omega), h3.fr f (by omega), h4, h5.fr f (by omega) (by omega), h6.fr f (by omega), h7.fr f (by omega), h8.fr f (by omega) (by omega), h9.fr f (by omega), ?_⟩
  obtain ⟨z, e1, e2⟩ := h10
  exact ⟨z, (f.F (lt71 (by omega)) (by omega)).trans e1, e2⟩
theorem COK.at {P : Nat → Nat → Prop} {S S' : FS} {p : Nat} (h : COK S p) (f : Fr P S S') (n : ∀ k, ¬ P p k) : COK S' p := by
  obtain ⟨h1, h2, h3, a, b, L, ha, hb, hL, da, db⟩ := h
  exact ⟨h1, Nat.lt_of_lt_of_le h2 (Nat.add_le_add_left f.1 71), (f.K h2).trans h3, a, b, L, (f.R h2 (n 2)).trans ha, (f.R h2 (n 3)).trans hb, hL, da.fr f, db.fr f⟩
theorem XI.dR {S : FS} (h : XI S) {pz k : Nat} (a : Nat) (h71 : 71 ≤ pz) (hk : fK S pz = 0) (hn : ∀ s, s < 3 → fR S (9 + s) 7 ≠ some pz) (ha : a < 71 + fC S) : XI (setR S pz k (some a)) := by
  obtain ⟨h1, h2, h3, h4, h5, h6, h7, h8, h9, h10⟩ := h
  have f : Fr (fun j m => j = pz ∧ m = k) S (setR S pz k (some a)) := Fr.sR Fr.rf ⟨rfl, rfl⟩
  refine ⟨h1.fr f (by omega), h2.fr f (by omega), h3.fr f (by omega), ⟨fun s hs => ?_, fun p m b p1 p2 p3 p4 => ?_⟩, h5.fr f (by omega) (by omega), h6.fr f (by omega), h7.fr f (by omega), h8.fr f (by omega) (by omega), h9.fr f (by omega), ?_⟩
  · obtain ⟨p, e1, e2⟩ := h4.1 s hs
    have hp : p ≠ pz := fun q => hn s hs (q ▸ e1)
    exact ⟨p, (f.R (lt71 (by omega)) (by omega)).trans e1, e2.at f (by omega)⟩
  · rw [fR_setR] at p4
    by_cases q : p = pz ∧ m = k
    · rw [if_pos q] at p4
      cases p4
      exact ha
    · rw [if_neg q] at p4
      exact h4.2 p m b p1 p2 p3 p4
  · obtain ⟨z, e1, e2⟩ := h10
    refine ⟨z, e1, ?_⟩
    rcases e2 with ⟨e2, e3⟩ | ⟨p, e2, e3, e4, e5, e6, e7, e8, e9⟩
    · exact Or.inl ⟨(f.R (lt71 (by omega)) (by omega)).trans e2, e3⟩
    · have hp : p ≠ pz := fun q => by rw [q, hk] at e5; omega
      refine Or.inr ⟨p, (f.R (lt71 (by omega)) (by omega)).trans e2, e3, e4, e5, e6, e7, e8, fun i hi => ?_⟩
      obtain ⟨j, hj, e10⟩ := e9 i hi
      exact ⟨j, hj, (f.R e4 (by omega)).trans e10⟩
/-- no shop has this counter -/
def noSh (S : FS) (pz : Nat) : Prop := ∀ s, s < 3 → fR S (9 + s) 7 ≠ some pz
theorem noSh.fr {P : Nat → Nat → Prop} {S S' : FS} {pz : Nat} (h : noSh S pz) (f : Fr P S S') (n : ∀ s, s < 3 → ¬ P (9 + s) 7) : noSh S' pz := fun s hs => by
  rw [f.R (lt71 (by omega)) (n s hs)]
  exact h s hs
theorem noSh.new {S : FS} (h : XI S) : noSh S (71 + fC S) := fun s hs e => by
  obtain ⟨p, e1, e2⟩ := h.ctr hs
  rw [e1] at e
  cases e
  exact absurd e2.2.1 (Nat.lt_irrefl _)
set_option maxHeartbeats 800000 in
set_option maxRecDepth 100000 in
theorem c_x1_init_ (l : Launch) (G : GG) (ad : Nat → Nat) (S : FS) (sz : Nat) (pz : Nat) (h71 : 71 ≤ pz) (hlt : pz < 71 + fC S) (hk : fK S pz = 0) (hns : noSh S pz) (hX : XI S) : Met l yX1_init_ (Cond.code yX1_init_ cX1_init_ 2 none :: TBL) ({ frames := 4, cells := 2, slots := 200, locals := 115 } : Room) (PcE G (wX G ad S) sz [.ref (ad pz), .ref (ad 57)]) (va_Qv (fun (u : FS × (Nat → Nat)) => XI u.1 ∧ Fr (fun j k => j = pz) S u.1 ∧ (∀ j, j < 71 + fC S → u.2 j = ad j) ∧ COK u.1 pz) (fun u t => BW G (va_A (wX G ad S) sz) (wX G u.2 u.1) t) (va_A (wX G ad S) sz)) 2 200 (va_A (wX G ad S) sz) := by
  refine Met.ofW (cc := cX1_init_) (maxL := 2) (ret := none) (by decide) rfl ?_
  intro p e s m args below meth c₀ s₁ B hml hv
  obtain ⟨rfl, hsz, hP, hK, hD0, hE⟩ := hv
  have hx := B.exec
  have hb := B.bytes
  have hr := B.returns
  have hT : ∀ w ∈ TBL, w.before ([.ref (ad pz), .ref (ad 57)] : List Value).toArray s = true := fun w h => atoms_spec (ws := Cond.code yX1_init_ cX1_init_ 2 none :: TBL) B.pre w (List.mem_cons_of_mem _ h)
  have hown : s.vm.findClass "LittleMore$Counter" = some m.cls := findClass_of_methodNamed B.named
  have hlocks := B.notSynchronized
  subst hsz
  have hD := hD0.self (sz := s.heap.size)
  generalize hAe : va_A (wX G ad S) s.heap.size = A at hD hE ⊢
  have hA : ∀ q : Nat, s.heap.size ≤ q → A q := fun q h => by rw [← hAe]; exact Or.inr h
  have hS : va_S A s.heap s.heap [] := va_S.rf
  have hP : va_P G.1 vwCl (wX G ad S) s.heap := hP
  have hl := lv_entry ([.ref (ad pz), .ref (ad 57)]) (n := 2) (Nat.le_of_ble_eq_true rfl)
  rw [lg_entry_eq]
  generalize (lg_sl ([.ref (ad pz), .ref (ad 57)]) ++ List.replicate (2 - (lg_sl ([.ref (ad pz), .ref (ad 57)])).length) Slot.unset).toArray = ls at hl ⊢
  have hl : lv_has ls 2 [(0, .ref (ad pz)), (1, .ref (ad 57))] := hl
  refine W_abs (fun Q hQ => ?_)
  generalize ([.ref (ad pz), .ref (ad 57)] : List Value).toArray = args at hT hQ ⊢
  have hin : meth.name = "<init>" := (name_of_methodNamed B.named B.method).1
  obtain ⟨n1, en1, bn1⟩ := XI.ccnt hX
  refine lv_aload_n hx hb (fk_get fk_cX1_init__0 0 rfl) rfl (lv_at hl 0 rfl) ?_
  refine W.objInit hx hb hown (hT (.methodLink "LittleMore$Counter" 3 objectInit) m1_112) (hT (.instanceMethod objectInit) m1_36) (hT _ m1_37) rfl (by rw [hml]; exact hl.1) rfl (fk_get fk_cX1_init__0 1 rfl) (Nat.le_of_ble_eq_true rfl) (Nat.le_of_ble_eq_true rfl) ?_
  refine W.eq (g2 := F0 m 4 ls []) rfl ?_
  refine lv_aload_n hx hb (fk_get fk_cX1_init__0 2 rfl) rfl (lv_at hl 0 rfl) ?_
  refine lv_aload_n hx hb (fk_get fk_cX1_init__0 3 rfl) rfl (lv_at hl 1 rfl) ?_
  refine va_get (D := G.1) (ci := 11) (v := .int (fF S 57 3)) (C := RX9) (T := TX9) (N := 9) hx hb hT inX9 hown hK hP 57 (ix_at (lt71 (by omega)) (cX_text G ad S)) rfl 3 (by decide) (hT _ m2_8) (fun _ h9 => h9) rfl (fk_get fk_cX1_init__0 4 rfl) ?_
  refine va_putF (D := G.1) (ci := 3) (v := .int ((fF S 57 3))) (ty := .int) (C := RX1) (T := TX1) (N := 4) hx hb hT inX1 tyX1 tyX1_ok nmX1 hown hK hP hD hS pz (ix_at (Nat.lt_of_lt_of_le hlt (Nat.add_le_add_left ((Fr.rf : Fr (fun j k => j = pz) S S)).1 71)) (cX_ctr h71 ((((Fr.rf : Fr (fun j k => j = pz) S S)).K hlt).trans hk))) rfl 0 (by decide) (hT _ m1_113) (fun _ h9 => h9) rfl hin rfl (by decide +kernel) rfl rfl (Nat.le_of_ble_eq_true rfl) (fk_get fk_cX1_init__0 5 rfl) (fun H locs hP hD hS => ?_)
  rw [pX_ctrF (G := G) (ad := ad) (S := S) h71 (Nat.lt_of_lt_of_le hlt (Nat.add_le_add_left ((Fr.rf : Fr (fun j k => j = pz) S S)).1 71)) ((((Fr.rf : Fr (fun j k => j = pz) S S)).K hlt).trans hk) 0 (by decide) ((fF S 57 3))] at hP hD
  have hX_1 : XI (setF S pz 0 ((fF S 57 3))) := XI.dF hX _ h71
  have hF_2 : Fr (fun j k => j = pz) S (setF S pz 0 ((fF S 57 3))) := Fr.sF (Fr.rf : Fr (fun j k => j = pz) S S) (by omega)
  refine lv_aload_n hx hb (fk_get fk_cX1_init__0 6 rfl) rfl (lv_at hl 0 rfl) ?_
  refine lv_aload_n hx hb (fk_get fk_cX1_init__0 7 rfl) rfl (lv_at hl 1 rfl) ?_
  refine va_get (D := G.1) (ci := 11) (v := .int (fF (setF S pz 0 ((fF S 57 3))) 57 4)) (C := RX9) (T := TX9) (N := 9) hx hb hT inX9 hown hK hP 57 (ix_at (lt71 (by omega)) (cX_text G ad (setF S pz 0 ((fF S 57 3))))) rfl 4 (by decide) (hT _ m2_10) (fun _ h9 => h9) rfl (fk_get fk_cX1_init__0 8 rfl) ?_
  rw [show fF (setF S pz 0 ((fF S 57 3))) 57 4 = (fF S 57 4) from by simp [fF_setF, fF_setR, fF_setA, fF_setL]]
  refine va_putF (D := G.1) (ci := 3) (v := .int ((fF S 57 4))) (ty := .int) (C := RX1) (T := TX1) (N := 4) hx hb hT inX1 tyX1 tyX1_ok nmX1 hown hK hP hD hS pz (ix_at (Nat.lt_of_lt_of_le hlt (Nat.add_le_add_left (hF_2).1 71)) (cX_ctr h71 (((hF_2).K hlt).trans hk))) rfl 1 (by decide) (hT _ m1_115) (fun _ h9 => h9) rfl hin rfl (by decide +kernel) rfl rfl (Nat.le_of_ble_eq_true rfl) (fk_get fk_cX1_init__0 9 rfl) (fun H locs hP hD hS => ?_)
  rw [pX_ctrF (G := G) (ad := ad) (S := (setF S pz 0 ((fF S 57 3)))) h71 (Nat.lt_of_lt_of_le hlt (Nat.add_le_add_left (hF_2).1 71)) (((hF_2).K hlt).trans hk) 1 (by decide) ((fF S 57 4))] at hP hD
  have hX_3 : XI (setF (setF S pz 0 ((fF S 57 3))) pz 1 ((fF S 57 4))) := XI.dF hX_1 _ h71
  have hF_4 : Fr (fun j k => j = pz) S (setF (setF S pz 0 ((fF S 57 3))) pz 1 ((fF S 57 4))) := Fr.sF hF_2 (by omega)
  refine lv_aload_n hx hb (fk_get fk_cX1_init__0 10 rfl) rfl (lv_at hl 0 rfl) ?_
  refine lv_aload_n hx hb (fk_get fk_cX1_init__0 11 rfl) rfl (lv_at hl 1 rfl) ?_
  refine va_get (D := G.1) (ci := 11) (v := .ref (ad 59)) (C := RX9) (T := TX9) (N := 9) hx hb hT inX9 hown hK hP 57 (ix_at (lt71 (by omega)) (cX_text G ad (setF (setF S pz 0 ((fF S 57 3))) pz 1 ((fF S 57 4))))) rfl 5 (by decide) (hT _ m2_12) (fun _ h9 => h9) rfl (fk_get fk_cX1_init__0 12 rfl) ?_
  refine lv_aload_n hx hb (fk_get fk_cX1_init__0 13 rfl) rfl (lv_at hl 1 rfl) ?_
  refine va_get (D := G.1) (ci := 11) (v := .int (fF (setF (setF S pz 0 ((fF S 57 3))) pz 1 ((fF S 57 4))) 57 7)) (C := RX9) (T := TX9) (N := 9) hx hb hT inX9 hown hK hP 57 (ix_at (lt71 (by omega)) (cX_text G ad (setF (setF S pz 0 ((fF S 57 3))) pz 1 ((fF S 57 4))))) rfl 7 (by decide) (hT _ m2_16) (fun _ h9 => h9) rfl (fk_get fk_cX1_init__0 14 rfl) ?_
  rw [show fF (setF (setF S pz 0 ((fF S 57 3))) pz 1 ((fF S 57 4))) 57 7 = (fF S 57 7) from by simp [fF_setF, fF_setR, fF_setA, fF_setL]]
  rw [en1]
  have hFc := va_self hD hS hA
  refine va_callq (va_runS (As := [.ref (ad 59), .int ((nI n1))]) (rest := [.ref (ad pz)]) ⟨hx, hb, hml, hown, hT⟩ (c_jcopyI l G ad (setF (setF S pz 0 ((fF S 57 3))) pz 1 ((fF S 57 4))) H.size (59) (n1) ((show isA 59 0 100 from by decide)) (by first | assumption | omega) (by first | assumption | omega) (hX_3)) (tS 2 hT m3_139 m3_140 m1_16 m3_141 rfl rfl (by decide +kernel) ⟨Nat.le_of_ble_eq_true rfl, Nat.le_of_ble_eq_true rfl⟩) ⟨PcE_blind, PcE_of hP hK hD hE hS (fun q h => hFc q h) _⟩ rfl rfl hl.1 rfl (lv_room (Nat.le_of_ble_eq_true rfl)) (fk_get fk_cX1_init__0 15 rfl) ⟨Nat.le_of_ble_eq_true rfl, Nat.le_of_ble_eq_true rfl⟩) hS (fun q _ h => hFc q h) hFc (fun r_5 u_ t_ H locs ht_ hvm_ hw_6 hB_ hz_ hk_ hS => ?_)
  obtain ⟨S_7, ad_8⟩ := u_
  dsimp only at hB_ hw_6
  obtain ⟨hP, -, hD1_⟩ := hB_
  rw [ht_] at hP
  have hD : va_D A (wX G ad_8 S_7) := hD1_.weaken (fun k q _ h => hFc q.1 h)
  obtain ⟨hX_9, hF_10_, hg_11_, hw_6⟩ := hw_6
  have hg_11 : ∀ j, j < 71 + fC S → ad_8 j = ad j := fun j hj => (hg_11_ j (Nat.lt_of_lt_of_le hj (Nat.add_le_add_left (hF_4).1 71))).trans ((fun _ _ => rfl) j hj)
  have hF_10 : Fr (fun j k => j = pz) S S_7 := Fr.tr hF_4 hF_10_ (fun j k hj h => by have hc_ := (hF_4).1; omega)
  have hl : lv_has ls 2 [(0, .ref (ad_8 pz)), (1, .ref (ad_8 57))] := by rw [hg_11_ pz ((Nat.lt_of_lt_of_le hlt (Nat.add_le_add_left (hF_4).1 71))), hg_11_ 57 ((lt71 (by omega)))]; exact hl
  rw [← hg_11_ pz ((Nat.lt_of_lt_of_le hlt (Nat.add_le_add_left (hF_4).1 71)))]
  have hf1_ := hF_10
  have en2 := ((hF_10).F (j := 57) (k := 7) (lt71 (by omega)) (by omega)).trans en1
  obtain ⟨pd_29, rfl, gd_29, dd_29⟩ := hw_6
  rw [show va_rf (some (ad_8 pd_29)) = .ref (ad_8 pd_29) from rfl]
  refine va_putF (D := G.1) (ci := 3) (v := .ref (ad_8 pd_29)) (ty := (.array .int)) (C := RX1) (T := TX1) (N := 4) hx hb hT inX1 tyX1 tyX1_ok nmX1 hown hK hP hD hS pz (ix_at (Nat.lt_of_lt_of_le hlt (Nat.add_le_add_left (hF_10).1 71)) (cX_ctr h71 (((hF_10).K hlt).trans hk))) rfl 2 (by decide) (hT _ m1_118) (fun _ h9 => h9) rfl hin rfl (by decide +kernel) rfl rfl (Nat.le_of_ble_eq_true rfl) (fk_get fk_cX1_init__0 16 rfl) (fun H locs hP hD hS => ?_)
  rw [pX_ctrR (G := G) (ad := ad_8) (S := S_7) h71 (Nat.lt_of_lt_of_le hlt (Nat.add_le_add_left (hF_10).1 71)) (((hF_10).K hlt).trans hk) 2 (by decide) (pd_29)] at hP hD
  have hX_12 : XI (setR S_7 pz 2 (some (pd_29))) := XI.dR hX_9 _ h71 (((hF_10).K hlt).trans hk) (noSh.fr hns hF_10 (by omega)) dd_29.2.1
  have hF_13 : Fr (fun j k => j = pz) S (setR S_7 pz 2 (some (pd_29))) := Fr.sR hF_10 (by omega)
  refine lv_aload_n hx hb (fk_get fk_cX1_init__0 17 rfl) rfl (lv_at hl 0 rfl) ?_
  refine lv_aload_n hx hb (fk_get fk_cX1_init__0 18 rfl) rfl (lv_at hl 1 rfl) ?_
  refine va_get (D := G.1) (ci := 11) (v := .ref (ad_8 60)) (C := RX9) (T := TX9) (N := 9) hx hb hT inX9 hown hK hP 57 (ix_at (lt71 (by omega)) (cX_text G ad_8 (setR S_7 pz 2 (some (pd_29))))) rfl 6 (by decide) (hT _ m2_14) (fun _ h9 => h9) rfl (fk_get fk_cX1_init__0 19 rfl) ?_
  refine lv_aload_n hx hb (fk_get fk_cX1_init__0 20 rfl) rfl (lv_at hl 1 rfl) ?_
  refine va_get (D := G.1) (ci := 11) (v := .int (fF (setR S_7 pz 2 (some (pd_29))) 57 7)) (C := RX9) (T := TX9) (N := 9) hx hb hT inX9 hown hK hP 57 (ix_at (lt71 (by omega)) (cX_text G ad_8 (setR S_7 pz 2 (some (pd_29))))) rfl 7 (by decide) (hT _ m2_16) (fun _ h9 => h9) rfl (fk_get fk_cX1_init__0 21 rfl) ?_
  rw [show fF (setR S_7 pz 2 (some (pd_29))) 57 7 = (fF S_7 57 7) from by simp [fF_setF, fF_setR, fF_setA, fF_setL]]
  rw [en2]
  have hFc := va_self hD hS hA
  refine va_callq (va_runS (As := [.ref (ad_8 60), .int ((nI n1))]) (rest := [.ref (ad_8 pz)]) ⟨hx, hb, hml, hown, hT⟩ (c_jcopyI l G ad_8 (setR S_7 pz 2 (some (pd_29))) H.size (60) (n1) ((show isA 60 0 100 from by decide)) (by first | assumption | omega) (by first | assumption | omega) (hX_12)) (tS 2 hT m3_139 m3_140 m1_16 m3_141 rfl rfl (by decide +kernel) ⟨Nat.le_of_ble_eq_true rfl, Nat.le_of_ble_eq_true rfl⟩) ⟨PcE_blind, PcE_of hP hK hD hE hS (fun q h => hFc q h) _⟩ rfl rfl hl.1 rfl (lv_room (Nat.le_of_ble_eq_true rfl)) (fk_get fk_cX1_init__0 22 rfl) ⟨(by show (0 + 1) + 1 ≤ 2; omega), (by show (0 + 100) + 100 ≤ 200; omega)⟩) hS (fun q _ h => hFc q h) hFc (fun r_14 u_ t_ H locs ht_ hvm_ hw_15 hB_ hz_ hk_ hS => ?_)
  obtain ⟨S_16, ad_17⟩ := u_
  dsimp only at hB_ hw_15
  obtain ⟨hP, -, hD1_⟩ := hB_
  rw [ht_] at hP
  have hD : va_D A (wX G ad_17 S_16) := hD1_.weaken (fun k q _ h => hFc q.1 h)
  obtain ⟨hX_18, hF_19_, hg_20_, hw_15⟩ := hw_15
  have hg_20 : ∀ j, j < 71 + fC S → ad_17 j = ad j := fun j hj => (hg_20_ j (Nat.lt_of_lt_of_le hj (Nat.add_le_add_left (hF_13).1 71))).trans (hg_11 j hj)
  have hF_19 : Fr (fun j k => j = pz) S S_16 := Fr.tr hF_13 hF_19_ (fun j k hj h => by have hc_ := (hF_13).1; omega)
  have hl : lv_has ls 2 [(0, .ref (ad_17 pz)), (1, .ref (ad_17 57))] := by rw [hg_20_ pz ((Nat.lt_of_lt_of_le hlt (Nat.add_le_add_left (hF_13).1 71))), hg_20_ 57 ((lt71 (by omega)))]; exact hl
  rw [← hg_20_ pz ((Nat.lt_of_lt_of_le hlt (Nat.add_le_add_left (hF_13).1 71)))]
  have hf2_ := hF_19_
  have hf3_ := hF_19
  obtain ⟨pd_44, rfl, gd_44, dd_44⟩ := hw_15
  rw [show va_rf (some (ad_17 pd_44)) = .ref (ad_17 pd_44) from rfl]
  refine va_putF (D := G.1) (ci := 3) (v := .ref (ad_17 pd_44)) (ty := (.array .int)) (C := RX1) (T := TX1) (N := 4) hx hb hT inX1 tyX1 tyX1_ok nmX1 hown hK hP hD hS pz (ix_at (Nat.lt_of_lt_of_le hlt (Nat.add_le_add_left (hF_19).1 71)) (cX_ctr h71 (((hF_19).K hlt).trans hk))) rfl 3 (by decide) (hT _ m1_119) (fun _ h9 => h9) rfl hin rfl (by decide +kernel) rfl rfl (Nat.le_of_ble_eq_true rfl) (fk_get fk_cX1_init__0 23 rfl) (fun H locs hP hD hS => ?_)
  rw [pX_ctrR (G := G) (ad := ad_17) (S := S_16) h71 (Nat.lt_of_lt_of_le hlt (Nat.add_le_add_left (hF_19).1 71)) (((hF_19).K hlt).trans hk) 3 (by decide) (pd_44)] at hP hD
  have hX_21 : XI (setR S_16 pz 3 (some (pd_44))) := XI.dR hX_18 _ h71 (((hF_19).K hlt).trans hk) (noSh.fr hns hF_19 (by omega)) dd_44.2.1
  have hF_22 : Fr (fun j k => j = pz) S (setR S_16 pz 3 (some (pd_44))) := Fr.sR hF_19 (by omega)
  subst hQ
  have hpost : XI (setR S_16 pz 3 (some (pd_44))) ∧ Fr (fun j k => j = pz) S (setR S_16 pz 3 (some (pd_44))) ∧ (∀ j, j < 71 + fC S → ad_17 j = ad j) ∧ COK (setR S_16 pz 3 (some (pd_44))) pz := by
    exact ⟨hX_21, hF_22, hg_20, ⟨h71, Nat.lt_of_lt_of_le hlt (Nat.add_le_add_left hf3_.1 71), (hf3_.K hlt).trans hk, _, _, n1, (by rw [fR_setR, if_neg (by omega)]; exact (hf2_.R (Nat.lt_of_lt_of_le hlt (Nat.add_le_add_left (hf1_).1 71)) (by omega)).trans (by rw [fR_setR, if_pos ⟨rfl, rfl⟩])), (by rw [fR_setR, if_pos ⟨rfl, rfl⟩]), bn1, (by have q_ := DIN.fr (a := pd_29) (L := n1) (by exact dd_29) hf2_; exact q_), dd_44⟩⟩
  refine W.widen (k := 2) (n := 200) (by omega) (by omega) ?_
  exact W.vret hx hb hr (fun t_ ht_ hW_ => ⟨⟨((setR S_16 pz 3 (some (pd_44))), ad_17), rfl, hpost, by rw [ht_]; exact hP, va_K.moved hW_.alike hK, hD⟩, hS.F ht_⟩) hS.2.2 (fk_get fk_cX1_init__0 24 rfl)
